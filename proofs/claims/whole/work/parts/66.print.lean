/-! PURE: printing -/
def OutC (u : St) (B : List Nat) : Prop := gI u 706 = nI B.length ∧ B.length ≤ 400 ∧ ∀ k, k < B.length → gA u 702 k = nI (B.getD k 0)
def OutR (v : St) (B : List Nat) : Prop := gI v 12 = nI B.length ∧ B.length ≤ 400 ∧ ∀ k, k < B.length → gA v 11 k = nI (B.getD k 0)
def frO (u w : St) : Prop := (∀ k, k ≠ 705 → k ≠ 706 → gI w k = gI u k) ∧ (∀ k, gJ w k = gJ u k) ∧ (∀ k, k ≠ 702 → k ≠ 704 → gA w k = gA u k) ∧ (∀ k, k ≠ 703 → gB w k = gB u k)
def frT (u w : St) : Prop := (∀ k, k ≠ 12 → gI w k = gI u k) ∧ (∀ k, gJ w k = gJ u k) ∧ (∀ k, k ≠ 11 → gA w k = gA u k) ∧ (∀ k, k ≠ 17 → gB w k = gB u k)
theorem frO_rf (u : St) : frO u u := ⟨fun _ _ _ => rfl, fun _ => rfl, fun _ _ _ => rfl, fun _ _ => rfl⟩
theorem frT_rf (u : St) : frT u u := ⟨fun _ _ => rfl, fun _ => rfl, fun _ _ => rfl, fun _ _ => rfl⟩
theorem frO_tr {u v w : St} (h1 : frO u v) (h2 : frO v w) : frO u w := ⟨fun k a b => (h2.1 k a b).trans (h1.1 k a b), fun k => (h2.2.1 k).trans (h1.2.1 k), fun k a b => (h2.2.2.1 k a b).trans (h1.2.2.1 k a b), fun k a => (h2.2.2.2 k a).trans (h1.2.2.2 k a)⟩
theorem frT_tr {u v w : St} (h1 : frT u v) (h2 : frT v w) : frT u w := ⟨fun k a => (h2.1 k a).trans (h1.1 k a), fun k => (h2.2.1 k).trans (h1.2.1 k), fun k a => (h2.2.2.1 k a).trans (h1.2.2.1 k a), fun k a => (h2.2.2.2 k a).trans (h1.2.2.2 k a)⟩
/-- .. and the stack and its depth too -/
def frO2 (u w : St) : Prop := frO u w ∧ gI w 705 = gI u 705 ∧ gB w 703 = gB u 703
def frT2 (u w : St) : Prop := frT u w ∧ gB w 17 = gB u 17
theorem frO2_tr {u v w : St} (h1 : frO2 u v) (h2 : frO2 v w) : frO2 u w := ⟨frO_tr h1.1 h2.1, h2.2.1.trans h1.2.1, h2.2.2.trans h1.2.2⟩
theorem frT2_tr {u v w : St} (h1 : frT2 u v) (h2 : frT2 v w) : frT2 u w := ⟨frT_tr h1.1 h2.1, h2.2.trans h1.2⟩
theorem frO2_rf (u : St) : frO2 u u := ⟨frO_rf u, rfl, rfl⟩
theorem frT2_rf (u : St) : frT2 u u := ⟨frT_rf u, rfl⟩
theorem ch_nar : ∀ c, c < 128 → vp_nar .char (nI c) = nI c := by decide +kernel
theorem ch_mod : ∀ c, c < 128 → ((nI c).toUInt32 % 65536).toInt32 = nI c := by decide +kernel
theorem tk {X Y : List Nat} {m : Nat} : ((X.take m) ++ Y).take m = (X ++ Y).take m := by
  by_cases h : X.length ≤ m
  · rw [List.take_of_length_le h]
  · have e1 : (X.take m).length = m := by rw [List.length_take]; omega
    rw [List.take_append_of_le_length (by rw [e1]; exact Nat.le_refl _), List.take_append_of_le_length (by omega), List.take_take, Nat.min_self]
theorem putC {N : Nat → Nat} {u : St} {B : List Nat} {c : Nat} (h : OutC u B) (hc : c < 128) : ∃ u1, OutC u1 ((B ++ [c]).take 400) ∧ frO2 u u1 ∧ gA u1 704 = gA u 704 ∧ ∀ Q : St → Prop, Q u1 → wp_X4_put N (nI c) u Q := by
  obtain ⟨h1, h2, h3⟩ := h
  by_cases hl : B.length = 400
  · refine ⟨u, ?_, frO2_rf u, rfl, fun Q hQ => sq (by rw [h1, hl]; decide) hQ⟩
    rw [List.take_append_of_le_length (by omega), List.take_of_length_le (by omega)]
    exact ⟨h1, h2, h3⟩
  · have ht : (B ++ [c]).take 400 = B ++ [c] := List.take_of_length_le (by simp; omega)
    rw [ht]
    refine ⟨sI (sA u 702 (upd (gA u 702) B.length (nI c))) 706 (nI (B.length + 1)), ⟨by simp [gI_sI], by simp; omega, fun k hk => ?_⟩, ⟨⟨fun k a b => by rw [gI_sI, if_neg b]; rfl, fun _ => rfl, fun k a b => by rw [gA_sI, gA_sA, if_neg a], fun _ _ => rfl⟩, rfl, rfl⟩, rfl, fun Q hQ => ?_⟩
    · show upd (gA u 702) B.length (nI c) k = _
      rw [List.length_append] at hk
      simp only [List.length_cons, List.length_nil] at hk
      simp only [List.getD_eq_getElem?_getD]
      by_cases e : k = B.length
      · subst e
        rw [show upd (gA u 702) B.length (nI c) B.length = nI c from pk_us]
        simp
      · rw [show upd (gA u 702) B.length (nI c) k = gA u 702 k from pk_un e, h3 k (by omega), List.getElem?_append_left (by omega)]
        simp only [List.getD_eq_getElem?_getD]
    · unfold wp_X4_put
      rw [h1, nI_clamp (show B.length < 2 ^ 31 by omega), ch_nar c hc, nI_1]
      exact sf (nI_ge (a := B.length) (b := 400) (by omega) (by omega)) ⟨vp_in_nI (by omega) (by omega), hQ⟩
theorem putR {v : St} {B : List Nat} {c : Nat} (h : OutR v B) : ∃ v1, OutR v1 ((B ++ [c]).take 400) ∧ frT2 v v1 ∧ ∀ Q : St → Prop, Q v1 → wp_X10_put (nI c) v Q := by
  obtain ⟨h1, h2, h3⟩ := h
  by_cases hl : B.length = 400
  · refine ⟨v, ?_, frT2_rf v, fun Q hQ => sq (by rw [h1, hl]; decide) hQ⟩
    rw [List.take_append_of_le_length (by omega), List.take_of_length_le (by omega)]
    exact ⟨h1, h2, h3⟩
  · have ht : (B ++ [c]).take 400 = B ++ [c] := List.take_of_length_le (by simp; omega)
    rw [ht]
    refine ⟨sI (sA v 11 (upd (gA v 11) B.length (nI c))) 12 (nI (B.length + 1)), ⟨by simp [gI_sI], by simp; omega, fun k hk => ?_⟩, ⟨⟨fun k a => by rw [gI_sI, if_neg a]; rfl, fun _ => rfl, fun k a => by rw [gA_sI, gA_sA, if_neg a], fun _ _ => rfl⟩, rfl⟩, fun Q hQ => ?_⟩
    · show upd (gA v 11) B.length (nI c) k = _
      rw [List.length_append] at hk
      simp only [List.length_cons, List.length_nil] at hk
      simp only [List.getD_eq_getElem?_getD]
      by_cases e : k = B.length
      · subst e
        rw [show upd (gA v 11) B.length (nI c) B.length = nI c from pk_us]
        simp
      · rw [show upd (gA v 11) B.length (nI c) k = gA v 11 k from pk_un e, h3 k (by omega), List.getElem?_append_left (by omega)]
        simp only [List.getD_eq_getElem?_getD]
    · unfold wp_X10_put
      rw [h1, nI_clamp (show B.length < 2 ^ 31 by omega), nI_1]
      exact sf (nI_ge (a := B.length) (b := 400) (by omega) (by omega)) ⟨vp_in_nI (by omega) (by omega), hQ⟩
/-! digits, the highest first -/
def dl (b : Nat) (ch : Nat → Nat) (x : Nat) : Nat → List Nat
  | 0 => []
  | j + 1 => ch (x / b ^ j % b) :: dl b ch x j
def NL (b x L : Nat) : Prop := 1 ≤ L ∧ x < b ^ L ∧ (L = 1 ∨ b ^ (L - 1) ≤ x)
theorem NL_ex {b x : Nat} (hb : 2 ≤ b) : ∀ m, 1 ≤ m → x < b ^ m → ∃ L, L ≤ m ∧ NL b x L := by
  intro m
  induction m with
  | zero => intro h; omega
  | succ m ih =>
    intro _ hx
    by_cases hm : m = 0
    · subst hm; exact ⟨1, Nat.le_refl _, Nat.le_refl _, hx, Or.inl rfl⟩
    · by_cases h2 : x < b ^ m
      · obtain ⟨L, h3, h4⟩ := ih (by omega) h2
        exact ⟨L, by omega, h4⟩
      · exact ⟨m + 1, Nat.le_refl _, by omega, hx, Or.inr (by rw [Nat.add_sub_cancel]; omega)⟩
theorem NL_step {b x L i : Nat} (hb : 2 ≤ b) (h : NL b x L) (hi : i + 1 < L) : 0 < x / b ^ (i + 1) := by
  obtain ⟨h1, h2, h3⟩ := h
  have h4 : b ^ (L - 1) ≤ x := h3.resolve_left (by omega)
  have h5 : b ^ (i + 1) ≤ b ^ (L - 1) := Nat.pow_le_pow_right (by omega) (by omega)
  exact Nat.div_pos (by omega) (Nat.pow_pos (by omega))
theorem dl_pos {b ch x L} (h : 1 ≤ L) : 1 ≤ (dl b ch x L).length := by
  cases L with
  | zero => omega
  | succ L => simp [dl]
/-- the class puts what it has written backwards -/
theorem pb_loop {N : Nat → Nat} {b x : Nat} {ch : Nat → Nat} (hch : ∀ d, d < b → ch d < 128) (hb : 0 < b) : ∀ (L : Nat) (u : St) (B : List Nat), L ≤ 12 → OutC u B → (∀ j, j < L → gA u 704 j = nI (ch (x / b ^ j % b))) → ∃ u1, OutC u1 ((B ++ dl b ch x L).take 400) ∧ frO2 u u1 ∧ ∀ K : St → Prop, K u1 → l_X4_putBackwards_4 N K (L + 1) (nI L + (-1 : Int32)) u := by
  intro L
  induction L with
  | zero =>
    intro u B hL hO hd
    refine ⟨u, ?_, frO2_rf u, fun K hK => ?_⟩
    · rw [show dl b ch x 0 = [] from rfl, List.append_nil, List.take_of_length_le hO.2.1]; exact hO
    · unfold l_X4_putBackwards_4
      exact sq (by decide) hK
  | succ L ih =>
    intro u B hL hO hd
    obtain ⟨u1, a1, a2, a3, a4⟩ := putC (N := N) hO (hch _ (Nat.mod_lt (x / b ^ L) hb))
    obtain ⟨u2, b1, b2, b3⟩ := ih u1 _ (by omega) a1 (fun j hj => by rw [a3]; exact hd j (by omega))
    refine ⟨u2, ?_, frO2_tr a2 b2, fun K hK => ?_⟩
    · rw [tk, List.append_assoc] at b1
      exact b1
    · unfold l_X4_putBackwards_4
      rw [show nI (L + 1) + (-1 : Int32) = nI L from pk_m1 L, nI_clamp (show L < 2 ^ 31 by omega), hd L (by omega)]
      exact sf (nI_pos (by omega)) ⟨vp_in_nI (by omega) (by omega), a4 _ (b3 K hK)⟩
theorem putBackwards_ex {N : Nat → Nat} {b x L : Nat} {ch : Nat → Nat} {u : St} {B : List Nat} (hch : ∀ d, d < b → ch d < 128) (hb : 0 < b) (hL : L ≤ 12) (hO : OutC u B) (hd : ∀ j, j < L → gA u 704 j = nI (ch (x / b ^ j % b))) : ∃ u1, OutC u1 ((B ++ dl b ch x L).take 400) ∧ frO2 u u1 ∧ ∀ Q : St → Prop, Q u1 → wp_X4_putBackwards N (nI L) u Q := by
  obtain ⟨u1, h1, h2, h3⟩ := pb_loop (N := N) hch hb L u B hL hO hd
  refine ⟨u1, h1, h2, fun Q hQ => ⟨L + 1, ?_⟩⟩
  rw [Int32.sub_eq_add_neg]
  exact h3 (fun u2 => Q u2) hQ
def chN (d : Nat) : Nat := if d < 27 then 64 + d else 21 + d
def chD (d : Nat) : Nat := 48 + d
theorem chN_lt : ∀ d, d < 37 → chN d < 128 := by decide
theorem chD_lt : ∀ d, d < 10 → chD d < 128 := by decide
theorem sA704 {u : St} {f : Nat → Int32} {B : List Nat} (h : OutC u B) : OutC (sA u 704 f) B := h
theorem frO2_704 (u : St) (f : Nat → Int32) : frO2 u (sA u 704 f) := ⟨⟨fun _ _ _ => rfl, fun _ => rfl, fun k _ b => by rw [gA_sA, if_neg b], fun _ _ => rfl⟩, rfl, rfl⟩
theorem pw10 {x i : Nat} : x / 10 ^ i / 10 = x / 10 ^ (i + 1) := by rw [Nat.div_div_eq_div_mul, Nat.pow_succ]
theorem pw37 {x i : Nat} : x / 37 ^ i / 37 = x / 37 ^ (i + 1) := by rw [Nat.div_div_eq_div_mul, Nat.pow_succ]
theorem num_loop {N : Nat → Nat} {x L : Nat} (hx : x < 2 ^ 40) (hL : NL 10 x L) (hL12 : L ≤ 12) : ∀ (d i : Nat) (u : St) (B : List Nat), i + d + 1 = L → OutC u B → (∀ j, j < i → gA u 704 j = nI (chD (x / 10 ^ j % 10))) → ∃ u1, OutC u1 B ∧ frO2 u u1 ∧ (∀ j, j < L → gA u1 704 j = nI (chD (x / 10 ^ j % 10))) ∧ ∀ K : Int32 → St → Prop, K (nI L) u1 → l_X4_printNumber_20 N K (d + 1) (lN (x / 10 ^ i)) (nI i) u := by
  intro d
  induction d with
  | zero =>
    intro i u B hi hO hd
    have hi2 : i + 1 = L := by omega
    have hle : x / 10 ^ i ≤ x := Nat.div_le_self _ _
    have hz : x / 10 ^ (i + 1) = 0 := Nat.div_eq_of_lt (by rw [hi2]; exact hL.2.1)
    have hm : x / 10 ^ i % 10 < 10 := Nat.mod_lt _ (by omega)
    refine ⟨sA u 704 (upd (gA u 704) i (nI (chD (x / 10 ^ i % 10)))), sA704 hO, frO2_704 u _, fun j hj => ?_, fun K hK => ?_⟩
    · show upd (gA u 704) i (nI (chD (x / 10 ^ i % 10))) j = _
      by_cases e : j = i
      · subst e; exact pk_us
      · rw [show upd (gA u 704) i (nI (chD (x / 10 ^ i % 10))) j = gA u 704 j from pk_un e]; exact hd j (by omega)
    · unfold l_X4_printNumber_20
      have e1 : lN (x / 10 ^ i) / (10 : Int64) = lN (x / 10 ^ (i + 1)) := by
        rw [show (10 : Int64) = lN 10 from rfl, pk_lDiv (by omega) (by omega) (by omega), pw10]
      have e2 : lN (x / 10 ^ i) - lN (x / 10 ^ i) / (10 : Int64) * (10 : Int64) = lN (x / 10 ^ i % 10) := pk_lRem (b := 10) (by omega) (by omega) (by omega)
      have e3 : ((48 : Int64) + lN (x / 10 ^ i % 10)).toInt32 = nI (chD (x / 10 ^ i % 10)) := by
        rw [show (48 : Int64) + lN (x / 10 ^ i % 10) = lN (48 + x / 10 ^ i % 10) from lN_add 48 _, lN_i]; rfl
      rw [e2, e3, e1, hz, ch_mod _ (chD_lt _ hm), ch_nar _ (chD_lt _ hm), nI_clamp (show i < 2 ^ 31 by omega), nI_1, hi2]
      exact ⟨vp_in_nI (by omega) (by omega), sq (by decide) hK⟩
  | succ d ih =>
    intro i u B hi hO hd
    have hle : x / 10 ^ i ≤ x := Nat.div_le_self _ _
    have hle2 : x / 10 ^ (i + 1) ≤ x := Nat.div_le_self _ _
    have hz := NL_step (i := i) (by omega) hL (by omega)
    have hm : x / 10 ^ i % 10 < 10 := Nat.mod_lt _ (by omega)
    obtain ⟨u1, a1, a2, a3, a4⟩ := ih (i + 1) (sA u 704 (upd (gA u 704) i (nI (chD (x / 10 ^ i % 10))))) B (by omega) (sA704 hO) (fun j hj => by
      show upd (gA u 704) i (nI (chD (x / 10 ^ i % 10))) j = _
      by_cases e : j = i
      · subst e; exact pk_us
      · rw [show upd (gA u 704) i (nI (chD (x / 10 ^ i % 10))) j = gA u 704 j from pk_un e]; exact hd j (by omega))
    refine ⟨u1, a1, frO2_tr (frO2_704 u _) a2, a3, fun K hK => ?_⟩
    unfold l_X4_printNumber_20
    have e1 : lN (x / 10 ^ i) / (10 : Int64) = lN (x / 10 ^ (i + 1)) := by
      rw [show (10 : Int64) = lN 10 from rfl, pk_lDiv (by omega) (by omega) (by omega), pw10]
    have e2 : lN (x / 10 ^ i) - lN (x / 10 ^ i) / (10 : Int64) * (10 : Int64) = lN (x / 10 ^ i % 10) := pk_lRem (b := 10) (by omega) (by omega) (by omega)
    have e3 : ((48 : Int64) + lN (x / 10 ^ i % 10)).toInt32 = nI (chD (x / 10 ^ i % 10)) := by
      rw [show (48 : Int64) + lN (x / 10 ^ i % 10) = lN (48 + x / 10 ^ i % 10) from lN_add 48 _, lN_i]; rfl
    rw [e2, e3, e1, ch_mod _ (chD_lt _ hm), ch_nar _ (chD_lt _ hm), nI_clamp (show i < 2 ^ 31 by omega), nI_1]
    refine ⟨vp_in_nI (by omega) (by omega), sf (fun e => ?_) (sq (nI_lt (a := i + 1) (b := 12) (by omega) (by omega)) (a4 K hK))⟩
    have := (pk_lLE (a := x / 10 ^ (i + 1)) (b := 0) (by omega) (by omega)).mp e
    omega
theorem name_loop {N : Nat → Nat} {x L : Nat} (hx : x < 2 ^ 63) (hx0 : 0 < x) (hL : NL 37 x L) (hL12 : L ≤ 12) : ∀ (d i : Nat) (u : St) (B : List Nat), i + d = L → OutC u B → (∀ j, j < i → gA u 704 j = nI (chN (x / 37 ^ j % 37))) → ∃ u1, OutC u1 B ∧ frO2 u u1 ∧ (∀ j, j < L → gA u1 704 j = nI (chN (x / 37 ^ j % 37))) ∧ ∀ K : Int32 → St → Prop, K (nI L) u1 → l_X4_printName_5 N K (d + 1) (lN (x / 37 ^ i)) (nI i) u := by
  intro d
  induction d with
  | zero =>
    intro i u B hi hO hd
    obtain rfl : i = L := by omega
    have hz : x / 37 ^ i = 0 := Nat.div_eq_of_lt hL.2.1
    refine ⟨u, hO, frO2_rf u, hd, fun K hK => ?_⟩
    unfold l_X4_printName_5
    rw [hz]
    exact sq (by decide) hK
  | succ d ih =>
    intro i u B hi hO hd
    have hle : x / 37 ^ i ≤ x := Nat.div_le_self _ _
    have hz : 0 < x / 37 ^ i := by
      by_cases h0 : i = 0
      · subst h0; rw [Nat.pow_zero, Nat.div_one]; exact hx0
      · obtain ⟨j, rfl⟩ : ∃ j, i = j + 1 := ⟨i - 1, by omega⟩
        exact NL_step (by omega) hL (by omega)
    have hm : x / 37 ^ i % 37 < 37 := Nat.mod_lt _ (by omega)
    obtain ⟨u1, a1, a2, a3, a4⟩ := ih (i + 1) (sA u 704 (upd (gA u 704) i (nI (chN (x / 37 ^ i % 37))))) B (by omega) (sA704 hO) (fun j hj => by
      show upd (gA u 704) i (nI (chN (x / 37 ^ i % 37))) j = _
      by_cases e : j = i
      · subst e; exact pk_us
      · rw [show upd (gA u 704) i (nI (chN (x / 37 ^ i % 37))) j = gA u 704 j from pk_un e]; exact hd j (by omega))
    refine ⟨u1, a1, frO2_tr (frO2_704 u _) a2, a3, fun K hK => ?_⟩
    unfold l_X4_printName_5
    have e1 : lN (x / 37 ^ i) / (37 : Int64) = lN (x / 37 ^ (i + 1)) := by
      rw [show (37 : Int64) = lN 37 from rfl, pk_lDiv (by omega) (by omega) (by omega), pw37]
    have e2 : lN (x / 37 ^ i) - lN (x / 37 ^ i) / (37 : Int64) * (37 : Int64) = lN (x / 37 ^ i % 37) := pk_lRem (b := 37) (by omega) (by omega) (by omega)
    have e3 : ∀ dd, dd < 37 → ∀ R : Int32 → Prop, R (nI (chN dd)) → wp_X3_characterOf (nI dd) R := fun dd hdd R hR => by
      by_cases h27 : 27 ≤ dd
      · refine sq (nI_le (a := 27) (b := dd) h27 (by omega)) ?_
        have e : ((48 : Int32) + nI dd) - (27 : Int32) = nI (chN dd) := by
          rw [show (48 : Int32) + nI dd = nI (48 + dd) from nI_add 48 dd, show nI (48 + dd) - (27 : Int32) = nI (48 + dd - 27) from pk_sub (b := 27) (by omega)]
          unfold chN
          rw [if_neg (by omega), show 48 + dd - 27 = 21 + dd from by omega]
        rw [e, ch_mod _ (chN_lt dd hdd)]
        exact hR
      · refine sf (nI_ge (a := dd) (b := 27) (by omega) (by omega)) ?_
        have e : ((65 : Int32) + nI dd) - (1 : Int32) = nI (chN dd) := by
          rw [show (65 : Int32) + nI dd = nI (65 + dd) from nI_add 65 dd, show nI (65 + dd) - (1 : Int32) = nI (65 + dd - 1) from pk_sub (b := 1) (by omega)]
          unfold chN
          rw [if_pos (by omega), show 65 + dd - 1 = 64 + dd from by omega]
        rw [e, ch_mod _ (chN_lt dd hdd)]
        exact hR
    rw [e2, lN_i, e1]
    refine sf (fun e => ?_) (sf (nI_ge (a := i) (b := 12) (by omega) (by omega)) (e3 _ hm _ ⟨vp_in_nI (by omega) (by omega), ?_⟩))
    · have := (pk_lLE (a := x / 37 ^ i) (b := 0) (by omega) (by omega)).mp e
      omega
    · rw [nI_clamp (show i < 2 ^ 31 by omega), ch_nar _ (chN_lt _ hm), nI_1]
      exact a4 K hK
/-! the reference's digits -/
theorem pw_lt {b L x : Nat} (hb : 2 ≤ b) (h : NL b x L) {j : Nat} (hj : j + 1 < L) : b ^ j ≤ x / b := by
  have h4 : b ^ (L - 1) ≤ x := h.2.2.resolve_left (by omega)
  have h5 : b ^ (j + 1) ≤ b ^ (L - 1) := Nat.pow_le_pow_right (by omega) (by omega)
  have e : b ^ (j + 1) = b ^ j * b := Nat.pow_succ _ _
  exact (Nat.le_div_iff_mul_le (by omega)).mpr (by omega)
theorem pw_ge {b L x : Nat} (hb : 2 ≤ b) (h : NL b x L) : x / b < b ^ (L - 1) := by
  refine (Nat.div_lt_iff_lt_mul (by omega)).mpr ?_
  have e : b ^ (L - 1 + 1) = b ^ (L - 1) * b := Nat.pow_succ _ _
  rw [show L - 1 + 1 = L from by have := h.1; omega] at e
  rw [← e]
  exact h.2.1
theorem rw10 {x L : Nat} (hx : x < 2 ^ 40) (h : NL 10 x L) (hL12 : L ≤ 12) (v : St) : ∀ (d j : Nat), j + d + 1 = L → ∀ K : Int64 → St → Prop, K (lN (10 ^ (L - 1))) v → l_X10_putAtom_123 (lN x) K (d + 1) (lN (10 ^ j)) v := by
  have hp : ∀ j, j ≤ 12 → 10 ^ j ≤ 10 ^ 12 := fun j hj => Nat.pow_le_pow_right (by omega) hj
  have e1 : lN x / (10 : Int64) = lN (x / 10) := pk_lDiv (b := 10) (by omega) (by omega) (by omega)
  intro d
  induction d with
  | zero =>
    intro j hj K hK
    have := hp j (by omega)
    unfold l_X10_putAtom_123
    rw [e1, show j = L - 1 from by omega]
    refine sq ((pk_lLT (by omega) (by have := hp (L - 1) (by omega); omega)).mpr (pw_ge (by omega) h)) hK
  | succ d ih =>
    intro j hj K hK
    have := hp j (by omega)
    unfold l_X10_putAtom_123
    rw [e1]
    refine sf (fun e => ?_) ?_
    · have h1 := (pk_lLT (by omega) (by omega)).mp e
      have h2 := pw_lt (by omega) h (j := j) (by omega)
      omega
    · rw [show lN (10 ^ j) * (10 : Int64) = lN (10 ^ j * 10) from lN_mul _ _, ← Nat.pow_succ]
      exact ih (j + 1) (by omega) K hK
theorem rw37 {x L : Nat} (hx : x < 37 ^ 12) (h : NL 37 x L) (hL12 : L ≤ 12) (v : St) : ∀ (d j : Nat), j + d + 1 = L → ∀ K : Int64 → St → Prop, K (lN (37 ^ (L - 1))) v → l_X10_putAtom_22 (lN x) K (d + 1) (lN (37 ^ j)) v := by
  have hp : ∀ j, j ≤ 11 → 37 ^ j ≤ 37 ^ 11 := fun j hj => Nat.pow_le_pow_right (by omega) hj
  have e1 : lN x / (37 : Int64) = lN (x / 37) := pk_lDiv (b := 37) (by omega) (by omega) (by omega)
  intro d
  induction d with
  | zero =>
    intro j hj K hK
    have := hp j (by omega)
    unfold l_X10_putAtom_22
    rw [e1, show j = L - 1 from by omega]
    refine sq ((pk_lLT (by omega) (by have := hp (L - 1) (by omega); omega)).mpr (pw_ge (by omega) h)) hK
  | succ d ih =>
    intro j hj K hK
    have := hp j (by omega)
    unfold l_X10_putAtom_22
    rw [e1]
    refine sf (fun e => ?_) ?_
    · have h1 := (pk_lLT (by omega) (by omega)).mp e
      have h2 := pw_lt (by omega) h (j := j) (by omega)
      omega
    · rw [show lN (37 ^ j) * (37 : Int64) = lN (37 ^ j * 37) from lN_mul _ _, ← Nat.pow_succ]
      exact ih (j + 1) (by omega) K hK
theorem rd10 {x : Nat} (hx : x < 2 ^ 40) : ∀ (L : Nat) (v : St) (B : List Nat), L + 1 ≤ 12 → OutR v B → ∃ v1, OutR v1 ((B ++ dl 10 chD x (L + 1)).take 400) ∧ frT2 v v1 ∧ ∀ K : St → Prop, K v1 → l_X10_putAtom_146 (lN x) K (L + 2) (lN (10 ^ L)) v := by
  have hp : ∀ j, j ≤ 12 → 10 ^ j ≤ 10 ^ 12 := fun j hj => Nat.pow_le_pow_right (by omega) hj
  have hp0 : ∀ j, 0 < 10 ^ j := fun j => Nat.pow_pos (by omega)
  have hgen : ∀ (j : Nat) (v : St) (K : St → Prop) (f : Nat), j ≤ 12 → wp_X10_put (nI (chD (x / 10 ^ j % 10))) v (fun u4 => l_X10_putAtom_146 (lN x) K f (lN (10 ^ j / 10)) u4) → l_X10_putAtom_146 (lN x) K (f + 1) (lN (10 ^ j)) v := fun j v K f hj hq => by
    have h1 := hp j hj
    have h2 := hp0 j
    have h3 : x / 10 ^ j ≤ x := Nat.div_le_self _ _
    unfold l_X10_putAtom_146
    rw [show lN x / lN (10 ^ j) = lN (x / 10 ^ j) from pk_lDiv (by omega) h2 (by omega), show lN (x / 10 ^ j) - lN (x / 10 ^ j) / (10 : Int64) * (10 : Int64) = lN (x / 10 ^ j % 10) from pk_lRem (b := 10) (by omega) (by omega) (by omega), lN_i, show lN (10 ^ j) / (10 : Int64) = lN (10 ^ j / 10) from pk_lDiv (b := 10) (by omega) (by omega) (by omega), show nI (x / 10 ^ j % 10) + (48 : Int32) = nI (chD (x / 10 ^ j % 10)) from by unfold chD; rw [Nat.add_comm]; exact nI_add _ 48]
    refine sf (fun e => ?_) ⟨fun e => ?_, hq⟩
    · have := (pk_lLE (a := 10 ^ j) (b := 0) (by omega) (by omega)).mp e
      omega
    · have := (pk_lEQ (a := 10 ^ j) (b := 0) (by omega) (by omega)).mp e
      omega
  intro L
  induction L with
  | zero =>
    intro v B hL hO
    obtain ⟨v1, a1, a2, a3⟩ := putR (c := chD (x / 10 ^ 0 % 10)) hO
    refine ⟨v1, a1, a2, fun K hK => hgen 0 v K 1 (by omega) (a3 _ ?_)⟩
    unfold l_X10_putAtom_146
    exact sq (by decide) hK
  | succ L ih =>
    intro v B hL hO
    obtain ⟨v1, a1, a2, a3⟩ := putR (c := chD (x / 10 ^ (L + 1) % 10)) hO
    obtain ⟨v2, b1, b2, b3⟩ := ih v1 _ (by omega) a1
    refine ⟨v2, ?_, frT2_tr a2 b2, fun K hK => hgen (L + 1) v K (L + 2) (by omega) (a3 _ ?_)⟩
    · rw [tk, List.append_assoc] at b1
      exact b1
    · rw [Nat.pow_succ, Nat.mul_div_cancel _ (by omega)]
      exact b3 K hK
theorem rd37 {x : Nat} (hx : x < 37 ^ 12) : ∀ (L : Nat) (v : St) (B : List Nat), L + 1 ≤ 12 → OutR v B → ∃ v1, OutR v1 ((B ++ dl 37 chN x (L + 1)).take 400) ∧ frT2 v v1 ∧ ∀ K : St → Prop, K v1 → l_X10_putAtom_44 (lN x) K (L + 2) (lN (37 ^ L)) v := by
  have hp : ∀ j, j ≤ 11 → 37 ^ j ≤ 37 ^ 11 := fun j hj => Nat.pow_le_pow_right (by omega) hj
  have hp0 : ∀ j, 0 < 37 ^ j := fun j => Nat.pow_pos (by omega)
  have hgen : ∀ (j : Nat) (v : St) (K : St → Prop) (f : Nat), j ≤ 11 → wp_X10_put (nI (chN (x / 37 ^ j % 37))) v (fun u4 => l_X10_putAtom_44 (lN x) K f (lN (37 ^ j / 37)) u4) → l_X10_putAtom_44 (lN x) K (f + 1) (lN (37 ^ j)) v := fun j v K f hj hq => by
    have h1 := hp j hj
    have h2 := hp0 j
    have h3 : x / 37 ^ j ≤ x := Nat.div_le_self _ _
    have hm : x / 37 ^ j % 37 < 37 := Nat.mod_lt _ (by omega)
    unfold l_X10_putAtom_44
    rw [show lN x / lN (37 ^ j) = lN (x / 37 ^ j) from pk_lDiv (by omega) h2 (by omega), show lN (x / 37 ^ j) - lN (x / 37 ^ j) / (37 : Int64) * (37 : Int64) = lN (x / 37 ^ j % 37) from pk_lRem (b := 37) (by omega) (by omega) (by omega), lN_i, show lN (37 ^ j) / (37 : Int64) = lN (37 ^ j / 37) from pk_lDiv (b := 37) (by omega) (by omega) (by omega)]
    refine sf (fun e => ?_) ⟨fun e => ?_, ?_⟩
    · have := (pk_lLE (a := 37 ^ j) (b := 0) (by omega) (by omega)).mp e
      omega
    · have := (pk_lEQ (a := 37 ^ j) (b := 0) (by omega) (by omega)).mp e
      omega
    · unfold chN at hq
      by_cases h27 : 27 ≤ x / 37 ^ j % 37
      · rw [if_neg (by omega)] at hq
        refine sq (nI_le (a := 27) h27 (by omega)) ?_
        rw [show nI (x / 37 ^ j % 37) + (21 : Int32) = nI (21 + x / 37 ^ j % 37) from by rw [Nat.add_comm]; exact nI_add _ 21]
        exact hq
      · rw [if_pos (by omega)] at hq
        refine sf (nI_ge (b := 27) (by omega) (by omega)) ?_
        rw [show nI (x / 37 ^ j % 37) + (64 : Int32) = nI (64 + x / 37 ^ j % 37) from by rw [Nat.add_comm]; exact nI_add _ 64]
        exact hq
  intro L
  induction L with
  | zero =>
    intro v B hL hO
    obtain ⟨v1, a1, a2, a3⟩ := putR (c := chN (x / 37 ^ 0 % 37)) hO
    refine ⟨v1, a1, a2, fun K hK => hgen 0 v K 1 (by omega) (a3 _ ?_)⟩
    unfold l_X10_putAtom_44
    exact sq (by decide) hK
  | succ L ih =>
    intro v B hL hO
    obtain ⟨v1, a1, a2, a3⟩ := putR (c := chN (x / 37 ^ (L + 1) % 37)) hO
    obtain ⟨v2, b1, b2, b3⟩ := ih v1 _ (by omega) a1
    refine ⟨v2, ?_, frT2_tr a2 b2, fun K hK => hgen (L + 1) v K (L + 2) (by omega) (a3 _ ?_)⟩
    · rw [tk, List.append_assoc] at b1
      exact b1
    · rw [Nat.pow_succ, Nat.mul_div_cancel _ (by omega)]
      exact b3 K hK
