/-! PURE: one token, on both sides -/
def bl (c : Nat) : Prop := c = 32 ∨ c = 10
def upN (f : Nat → Nat) (k x : Nat) : Nat → Nat := fun j => if j = k then x else f j
def top (D : Nat) (f : Nat → Nat) : Nat := if D = 0 then 0 else f (D - 1)
def note (D : Nat) (f : Nat → Nat) : Nat → Nat := if D = 0 then f else upN f (D - 1) (if f (D - 1) = 2 then 3 else 1)
def inc (D : Nat) (f : Nat → Nat) : Nat := if D = 0 then 0 else if f (D - 1) = 2 then 0 else 1
def stp (k D : Nat) (f : Nat → Nat) (D1 : Nat) (f1 : Nat → Nat) (ip : Nat) : Prop :=
  (k = 0 ∧ D < 60 ∧ top D f ≠ 3 ∧ D1 = D + 1 ∧ f1 = upN f D 0 ∧ ip = 0) ∨
  (k = 1 ∧ 0 < D ∧ f (D - 1) ≠ 2 ∧ D1 = D - 1 ∧ f1 = note (D - 1) f ∧ ip = inc (D - 1) f) ∨
  (k = 2 ∧ 0 < D ∧ f (D - 1) = 1 ∧ D1 = D ∧ f1 = upN f (D - 1) 2 ∧ ip = 0) ∨
  (3 ≤ k ∧ top D f ≠ 3 ∧ D1 = D ∧ f1 = note D f ∧ ip = inc D f)
abbrev Tok : Type := Nat × Int64
/-- the token tk stands at q and ends before p -/
def TkQ (tx : Nat → Nat) (L q : Nat) (tk : Tok) (p : Nat) : Prop := q < L ∧ q < p ∧ p ≤ L ∧ ¬ bl (tx q) ∧ ((tk.1 = 0 ∧ tx q = 40 ∧ p = q + 1) ∨ (tk.1 = 1 ∧ tx q = 41 ∧ p = q + 1) ∨ (tk.1 = 2 ∧ tx q = 46 ∧ p = q + 1) ∨ (3 ≤ tk.1 ∧ tx q ≠ 40 ∧ tx q ≠ 41 ∧ tx q ≠ 46 ∧ AtOK tx L q p tk.2))
def TkAt (tx : Nat → Nat) (L p0 : Nat) (tk : Tok) (p : Nat) : Prop := ∃ q, p0 ≤ q ∧ (∀ j, p0 ≤ j → j < q → bl (tx j)) ∧ TkQ tx L q tk p
/-- the class's word for a token -/
def enc (sl : Nat → Int64) (T : Nat) (tk : Tok) (w : Int64) : Prop := (tk.1 = 0 ∧ w = (3298534883328 : Int64)) ∨ (tk.1 = 1 ∧ w = (3298534883329 : Int64)) ∨ (tk.1 = 2 ∧ w = (3298534883330 : Int64)) ∨ (tk.1 = 3 ∧ ∃ n : Int32, w = nC n ∧ tk.2 = nR n) ∨ (tk.1 = 4 ∧ ∃ k sp, k < T ∧ 0 < sp ∧ sp < 37 ^ 12 ∧ w = aC k ∧ tk.2 = -(lN sp) ∧ sl k = lN sp ∧ ∀ j, j < k → sl j ≠ lN sp)
def S1 (tx : Nat → Nat) (L T p D : Nat) (f : Nat → Nat) (cnt pr m : Nat) (cr : Int32) (u v : St) : Prop := TX tx L u ∧ TXR tx L v ∧ (gI u 512 = nI p ∧ p ≤ L) ∧ (gI u 510 = nI D ∧ gI v 29 = nI D ∧ D ≤ 60) ∧ (∀ j, j < D → gA u 505 j = nI (f j) ∧ gA v 26 j = nI (f j) ∧ f j ≤ 3) ∧ (gI u 511 = nI pr ∧ gI v 30 = nI pr ∧ pr ≤ p) ∧ (gI u 509 = nI cnt ∧ cnt ≤ p) ∧ NmP T m cr u v
/-- what scanning may change -/
def f1C (u u1 : St) : Prop := (∀ k, k ≠ 202 → k ≠ 203 → k ≠ 509 → k ≠ 510 → k ≠ 511 → k ≠ 512 → gI u1 k = gI u k) ∧ (∀ k, gJ u1 k = gJ u k) ∧ (∀ k, k ≠ 505 → gA u1 k = gA u k) ∧ (∀ k, k ≠ 504 → k ≠ 200 → gB u1 k = gB u k)
def f1R (v v1 : St) : Prop := (∀ k, k ≠ 23 → k ≠ 24 → k ≠ 25 → k ≠ 29 → k ≠ 30 → gI v1 k = gI v k) ∧ (∀ k, k ≠ 31 → gJ v1 k = gJ v k) ∧ (∀ k, k ≠ 26 → gA v1 k = gA v k) ∧ (∀ k, k ≠ 22 → gB v1 k = gB v k)
theorem f1C_rf (u : St) : f1C u u := ⟨fun _ _ _ _ _ _ _ => rfl, fun _ => rfl, fun _ _ => rfl, fun _ _ _ => rfl⟩
theorem f1R_rf (u : St) : f1R u u := ⟨fun _ _ _ _ _ _ => rfl, fun _ _ => rfl, fun _ _ => rfl, fun _ _ => rfl⟩
theorem f1C_tr {u v w : St} (h1 : f1C u v) (h2 : f1C v w) : f1C u w := ⟨fun k a b c d e f => (h2.1 k a b c d e f).trans (h1.1 k a b c d e f), fun k => (h2.2.1 k).trans (h1.2.1 k), fun k a => (h2.2.2.1 k a).trans (h1.2.2.1 k a), fun k a b => (h2.2.2.2 k a b).trans (h1.2.2.2 k a b)⟩
theorem f1R_tr {u v w : St} (h1 : f1R u v) (h2 : f1R v w) : f1R u w := ⟨fun k a b c d e => (h2.1 k a b c d e).trans (h1.1 k a b c d e), fun k a => (h2.2.1 k a).trans (h1.2.1 k a), fun k a => (h2.2.2.1 k a).trans (h1.2.2.1 k a), fun k a => (h2.2.2.2 k a).trans (h1.2.2.2 k a)⟩
theorem state_ok {N : Nat → Nat} {D : Nat} {f : Nat → Nat} {u : St} {Q : Int32 → St → Prop} (h1 : gI u 510 = nI D) (hD : D ≤ 60) (h2 : ∀ j, j < D → gA u 505 j = nI (f j)) (hQ : Q (nI (top D f)) u) : wp_X5_state N u Q := by
  unfold wp_X5_state
  rw [h1]
  unfold top at hQ
  cases D with
  | zero => exact sq (by decide) hQ
  | succ D =>
    rw [if_neg (by omega), Nat.add_sub_cancel] at hQ
    rw [nI_pred D, nI_clamp (show D < 2 ^ 31 by omega), h2 D (by omega)]
    exact sf (nI_nle (by omega) (by omega)) ⟨vp_in_nI (by omega) (by omega), hQ⟩
theorem note_ok {N : Nat → Nat} {D pr : Nat} {f : Nat → Nat} {u : St} (h1 : gI u 510 = nI D) (hD : D ≤ 60) (h2 : ∀ j, j < D → gA u 505 j = nI (f j) ∧ f j ≤ 3) (h3 : gI u 511 = nI pr) : ∃ u1, gI u1 511 = nI (pr + inc D f) ∧ (∀ j, j < D → gA u1 505 j = nI (note D f j) ∧ note D f j ≤ 3) ∧ (∀ k, k ≠ 511 → gI u1 k = gI u k) ∧ (∀ k, gJ u1 k = gJ u k) ∧ (∀ k, k ≠ 505 → gA u1 k = gA u k) ∧ (∀ k, gB u1 k = gB u k) ∧ ∀ Q : St → Prop, Q u1 → wp_X5_noteExpression N u Q := by
  cases D with
  | zero => exact ⟨u, h3, fun j hj => absurd hj (by omega), fun _ _ => rfl, fun _ => rfl, fun _ _ => rfl, fun _ => rfl, fun Q hQ => sq h1 hQ⟩
  | succ D =>
    have hne : ¬ gI u 510 = 0 := by rw [h1]; exact nI_ne0 (by omega) (by omega)
    have htop : top (D + 1) f = f D := by unfold top; rw [if_neg (by omega), Nat.add_sub_cancel]
    have hf3 := (h2 D (by omega)).2
    by_cases hz : f D = 2
    · have hi : inc (D + 1) f = 0 := by unfold inc; rw [if_neg (by omega), Nat.add_sub_cancel, if_pos hz]
      have hnt : note (D + 1) f = upN f D 3 := by unfold note; rw [if_neg (by omega), Nat.add_sub_cancel, if_pos hz]
      rw [hi, hnt]
      refine ⟨sA u 505 (upd (gA u 505) D 3), h3, fun j hj => ?_, fun _ _ => rfl, fun _ => rfl, fun k hk => by rw [gA_sA, if_neg hk], fun _ => rfl, fun Q hQ => sf hne (state_ok (D := D + 1) (f := f) h1 hD (fun j hj => (h2 j hj).1) ?_)⟩
      · show upd (gA u 505) D 3 j = nI (if j = D then 3 else f j) ∧ (if j = D then 3 else f j) ≤ 3
        by_cases e : j = D
        · subst e; rw [if_pos rfl]; exact ⟨pk_us, Nat.le_refl _⟩
        · rw [if_neg e]; exact ⟨(pk_un e).trans (h2 j hj).1, (h2 j hj).2⟩
      · rw [htop, hz, h1, nI_pred D, nI_clamp (show D < 2 ^ 31 by omega)]
        exact sq rfl ⟨vp_in_nI (by omega) (by omega), hQ⟩
    · have hi : inc (D + 1) f = 1 := by unfold inc; rw [if_neg (by omega), Nat.add_sub_cancel, if_neg hz]
      have hnt : note (D + 1) f = upN f D 1 := by unfold note; rw [if_neg (by omega), Nat.add_sub_cancel, if_neg hz]
      rw [hi, hnt]
      refine ⟨sI (sA u 505 (upd (gA u 505) D 1)) 511 (nI (pr + 1)), rfl, fun j hj => ?_, fun k hk => by rw [gI_sI, if_neg hk]; rfl, fun _ => rfl, fun k hk => by rw [gA_sI, gA_sA, if_neg hk], fun _ => rfl, fun Q hQ => sf hne (state_ok (D := D + 1) (f := f) h1 hD (fun j hj => (h2 j hj).1) ?_)⟩
      · show upd (gA u 505) D 1 j = nI (if j = D then 1 else f j) ∧ (if j = D then 1 else f j) ≤ 3
        by_cases e : j = D
        · subst e; rw [if_pos rfl]; exact ⟨pk_us, by omega⟩
        · rw [if_neg e]; exact ⟨(pk_un e).trans (h2 j hj).1, (h2 j hj).2⟩
      · rw [htop, h1, nI_pred D, nI_clamp (show D < 2 ^ 31 by omega), h3, nI_1]
        exact sf (fun e => hz ((nI_eq (b := 2) (by omega) (by omega)).mp e)) ⟨vp_in_nI (by omega) (by omega), hQ⟩
theorem keep_ok {N : Nat → Nat} {cnt : Nat} {w : Int64} {u : St} {Q : Int32 → St → Prop} (h : gI u 509 = nI cnt) (hc : cnt < 2000) (hQ : Q 1 (sI (sB u 504 (vp_updL (gB u 504) cnt w)) 509 (nI (cnt + 1)))) : wp_X5_keep N w u Q := by
  unfold wp_X5_keep
  rw [h, nI_clamp (show cnt < 2 ^ 31 by omega), nI_1]
  exact sq (nI_lt (b := 2000) hc (by omega)) ⟨vp_in_nI (by omega) (by omega), hQ⟩
/-- an expression is whole: the reference, first pass -/
theorem comes0_ok {D pr : Nat} {f : Nat → Nat} {v : St} {o : Int64} (h1 : gI v 29 = nI D) (hD : D ≤ 60) (h2 : ∀ j, j < D → gA v 26 j = nI (f j) ∧ f j ≤ 3) (h3 : gI v 30 = nI pr) : ∃ v1, gI v1 30 = nI (pr + inc D f) ∧ (∀ j, j < D → gA v1 26 j = nI (note D f j)) ∧ (D = 0 → gI v1 25 = 4) ∧ (0 < D → gI v1 25 = gI v 25) ∧ (∀ k, k ≠ 25 → k ≠ 30 → gI v1 k = gI v k) ∧ (∀ k, k ≠ 31 → gJ v1 k = gJ v k) ∧ (∀ k, k ≠ 26 → gA v1 k = gA v k) ∧ (∀ k, gB v1 k = gB v k) ∧ ∀ Q : St → Prop, Q v1 → wp_X10_comes 0 o v Q := by
  cases D with
  | zero => exact ⟨sJ (sI v 25 4) 31 o, h3, fun j hj => absurd hj (by omega), fun _ => rfl, fun h => by omega, fun k h _ => by rw [gI_sJ, gI_sI, if_neg h], fun k h => by rw [gJ_sJ, if_neg h]; rfl, fun _ _ => rfl, fun _ => rfl, fun Q hQ => sq h1 hQ⟩
  | succ D =>
    have hne : ¬ gI v 29 = 0 := by rw [h1]; exact nI_ne0 (by omega) (by omega)
    have hf3 := (h2 D (by omega)).2
    by_cases hz : f D = 2
    · have hi : inc (D + 1) f = 0 := by unfold inc; rw [if_neg (by omega), Nat.add_sub_cancel, if_pos hz]
      have hnt : note (D + 1) f = upN f D 3 := by unfold note; rw [if_neg (by omega), Nat.add_sub_cancel, if_pos hz]
      rw [hi, hnt]
      refine ⟨sA v 26 (upd (gA v 26) D 3), h3, fun j hj => ?_, fun h => by omega, fun _ => rfl, fun _ _ _ => rfl, fun _ _ => rfl, fun k hk => by rw [gA_sA, if_neg hk], fun _ => rfl, fun Q hQ => sf hne ?_⟩
      · show upd (gA v 26) D 3 j = nI (if j = D then 3 else f j)
        by_cases e : j = D
        · subst e; rw [if_pos rfl]; exact pk_us
        · rw [if_neg e]; exact (pk_un e).trans (h2 j hj).1
      · rw [h1, nI_pred D, nI_clamp (show D < 2 ^ 31 by omega), (h2 D (by omega)).1, hz]
        exact ⟨vp_in_nI (by omega) (by omega), sq rfl (sq rfl ⟨vp_in_nI (by omega) (by omega), hQ⟩)⟩
    · have hi : inc (D + 1) f = 1 := by unfold inc; rw [if_neg (by omega), Nat.add_sub_cancel, if_neg hz]
      have hnt : note (D + 1) f = upN f D 1 := by unfold note; rw [if_neg (by omega), Nat.add_sub_cancel, if_neg hz]
      rw [hi, hnt]
      refine ⟨sA (sI v 30 (nI (pr + 1))) 26 (upd (gA v 26) D 1), rfl, fun j hj => ?_, fun h => by omega, fun _ => rfl, fun k _ h => by rw [gI_sA, gI_sI, if_neg h], fun _ _ => rfl, fun k hk => by rw [gA_sA, if_neg hk]; rfl, fun _ => rfl, fun Q hQ => sf hne ?_⟩
      · show upd (gA v 26) D 1 j = nI (if j = D then 1 else f j)
        by_cases e : j = D
        · subst e; rw [if_pos rfl]; exact pk_us
        · rw [if_neg e]; exact (pk_un e).trans (h2 j hj).1
      · rw [h1, nI_pred D, nI_clamp (show D < 2 ^ 31 by omega), (h2 D (by omega)).1, h3, nI_1]
        exact ⟨vp_in_nI (by omega) (by omega), sf (fun e => hz ((nI_eq (b := 2) (by omega) (by omega)).mp e)) (sq rfl ⟨vp_in_nI (by omega) (by omega), hQ⟩)⟩
/-- what a token leads to -/
def TokR (N : Nat → Nat) (tx : Nat → Nat) (L T q D : Nat) (f : Nat → Nat) (cnt pr m : Nat) (cr : Int32) (u v : St) : Prop :=
  (∃ (u1 : St) (qf : Nat), gI u1 512 = nI qf ∧ qf ≤ L ∧ f1C u u1 ∧ (∀ k, k < T + m → gB u1 200 k = gB u 200 k) ∧ gI u1 202 = gI u 202 ∧ (∀ Q : Int32 → St → Prop, Q 0 u1 → wp_X5_takeToken N (nI (tx q)) u Q) ∧ (∀ Q : Int32 → St → Prop, Q ((-1 : Int32) - nI qf) v → wp_X10_reads 0 (nI q) v Q)) ∨
  (∃ (u1 v1 : St) (tk : Tok) (p D1 : Nat) (f1 : Nat → Nat) (ip m1 : Nat) (cr1 : Int32) (w : Int64), S1 tx L T p D1 f1 (cnt + 1) (pr + ip) m1 cr1 u1 v1 ∧ TkQ tx L q tk p ∧ stp tk.1 D f D1 f1 ip ∧ m ≤ m1 ∧ (cr = 1 → cr1 = 1) ∧ (cr1 = 0 → enc (gB u1 200) (T + m1) tk w) ∧ gB u1 504 cnt = w ∧ (∀ k, k < cnt → gB u1 504 k = gB u 504 k) ∧ (∀ k, k < T + m → gB u1 200 k = gB u 200 k) ∧ f1C u u1 ∧ f1R v v1 ∧ (D1 = 0 → gI v1 25 = 4) ∧ (0 < D1 → gI v1 25 = gI v 25) ∧ (∀ Q : Int32 → St → Prop, Q 1 u1 → wp_X5_takeToken N (nI (tx q)) u Q) ∧ (∀ Q : Int32 → St → Prop, Q (nI p) v1 → wp_X10_reads 0 (nI q) v Q))
