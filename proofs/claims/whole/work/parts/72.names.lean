/-! PURE: names are met -/
theorem fnd (g : Nat → Int64) (x : Int64) : ∀ M, (∃ k, k < M ∧ g k = x ∧ ∀ j, j < k → g j ≠ x) ∨ (∀ j, j < M → g j ≠ x) := by
  intro M
  induction M with
  | zero => exact Or.inr (fun j hj => absurd hj (by omega))
  | succ M ih =>
    rcases ih with ⟨k, h1, h2, h3⟩ | h
    · exact Or.inl ⟨k, by omega, h2, h3⟩
    · by_cases e : g M = x
      · exact Or.inl ⟨M, by omega, e, h⟩
      · exact Or.inr (fun j hj => by
          by_cases ej : j = M
          · rw [ej]; exact e
          · exact h j (by omega))
def NmP (T m : Nat) (cr : Int32) (u v : St) : Prop := gI u 202 = nI (T + m) ∧ gI v 21 = nI T ∧ gI v 23 = nI m ∧ T + m ≤ 150 ∧ (∀ k, k < T → gB v 19 k = gB u 200 k) ∧ (∀ j, j < m → gB v 22 j = gB u 200 (T + j)) ∧ gI u 203 = cr ∧ gI v 24 = cr ∧ (cr = 0 ∨ (cr = 1 ∧ T + m = 150)) ∧ (∀ k, k < T + m → ∃ sp, 0 < sp ∧ sp < 37 ^ 12 ∧ gB u 200 k = lN sp)
theorem wordOf_f {N : Nat → Nat} {Q : Int64 → St → Prop} {x : Int64} {K : St → Prop} {u : St} {M k : Nat} (hM : gI u 202 = nI M) (hM2 : M ≤ 150) (hk : k < M) (he : gB u 200 k = x) (hn : ∀ j, j < k → gB u 200 j ≠ x) (hQ : Q (aC k) u) : ∀ (d i : Nat), i + d = k → l_X3_wordOf_2 N Q x K (d + 1) (nI i) u := by
  intro d
  induction d with
  | zero =>
    intro i hi
    obtain rfl : i = k := by omega
    unfold l_X3_wordOf_2
    rw [hM, nI_clamp (show i < 2 ^ 31 by omega), nI_l (by omega), show (1099511627776 : Int64) + lN i = aC i from lN_add _ _]
    exact sf (nI_ge hk (by omega)) ⟨vp_in_nI (by omega) (by omega), sq he hQ⟩
  | succ d ih =>
    intro i hi
    unfold l_X3_wordOf_2
    rw [hM, nI_clamp (show i < 2 ^ 31 by omega), nI_1]
    exact sf (nI_ge (by omega) (by omega)) ⟨vp_in_nI (by omega) (by omega), sf (hn i (by omega)) (ih (i + 1) (by omega))⟩
theorem wordOf_n {N : Nat → Nat} {Q : Int64 → St → Prop} {x : Int64} {K : St → Prop} {u : St} {M : Nat} (hM : gI u 202 = nI M) (hM2 : M ≤ 150) (hn : ∀ j, j < M → gB u 200 j ≠ x) (hK : K u) : ∀ (d i : Nat), i + d = M → l_X3_wordOf_2 N Q x K (d + 1) (nI i) u := by
  intro d
  induction d with
  | zero =>
    intro i hi
    obtain rfl : i = M := by omega
    unfold l_X3_wordOf_2
    rw [hM]
    exact sq (nI_le (Nat.le_refl _) (by omega)) hK
  | succ d ih =>
    intro i hi
    unfold l_X3_wordOf_2
    rw [hM, nI_clamp (show i < 2 ^ 31 by omega), nI_1]
    exact sf (nI_ge (by omega) (by omega)) ⟨vp_in_nI (by omega) (by omega), sf (hn i (by omega)) (ih (i + 1) (by omega))⟩
theorem placeOf_f {x : Int64} {v : St} {M k : Nat} (hM : gI v 21 = nI M) (hM2 : M ≤ 150) (hk : k < M) (he : gB v 19 k = x) (hn : ∀ j, j < k → gB v 19 j ≠ x) {Q : Int32 → St → Prop} (hQ : Q (nI k) v) : wp_X10_placeOf x v Q := by
  have key : ∀ (K : St → Prop) (d i : Nat), i + d = k → l_X10_placeOf_2 Q x K (d + 1) (nI i) v := by
    intro K d
    induction d with
    | zero =>
      intro i hi
      obtain rfl : i = k := by omega
      unfold l_X10_placeOf_2
      rw [hM, nI_clamp (show i < 2 ^ 31 by omega)]
      exact sf (nI_ge hk (by omega)) ⟨vp_in_nI (by omega) (by omega), sq he hQ⟩
    | succ d ih =>
      intro i hi
      unfold l_X10_placeOf_2
      rw [hM, nI_clamp (show i < 2 ^ 31 by omega), nI_1]
      exact sf (nI_ge (by omega) (by omega)) ⟨vp_in_nI (by omega) (by omega), sf (hn i (by omega)) (ih (i + 1) (by omega))⟩
  exact ⟨k + 1, key _ k 0 (by omega)⟩
theorem placeOf_n {x : Int64} {v : St} {M : Nat} (hM : gI v 21 = nI M) (hM2 : M ≤ 150) (hn : ∀ j, j < M → gB v 19 j ≠ x) {Q : Int32 → St → Prop} (hQ : Q (-1) v) : wp_X10_placeOf x v Q := by
  have key : ∀ (K : St → Prop), K v → ∀ (d i : Nat), i + d = M → l_X10_placeOf_2 Q x K (d + 1) (nI i) v := by
    intro K hK d
    induction d with
    | zero =>
      intro i hi
      obtain rfl : i = M := by omega
      unfold l_X10_placeOf_2
      rw [hM]
      exact sq (nI_le (Nat.le_refl _) (by omega)) hK
    | succ d ih =>
      intro i hi
      unfold l_X10_placeOf_2
      rw [hM, nI_clamp (show i < 2 ^ 31 by omega), nI_1]
      exact sf (nI_ge (by omega) (by omega)) ⟨vp_in_nI (by omega) (by omega), sf (hn i (by omega)) (ih (i + 1) (by omega))⟩
  exact ⟨M + 1, key _ hQ M 0 (by omega)⟩
theorem meets_f {x : Int64} {v : St} {Q : St → Prop} {K : St → Prop} {M k : Nat} (hM : gI v 23 = nI M) (hM2 : M ≤ 150) (hk : k < M) (he : gB v 22 k = x) (hn : ∀ j, j < k → gB v 22 j ≠ x) (hQ : Q v) : ∀ (d i : Nat), i + d = k → l_X10_meets_11 Q x K (d + 1) (nI i) v := by
  intro d
  induction d with
  | zero =>
    intro i hi
    obtain rfl : i = k := by omega
    unfold l_X10_meets_11
    rw [hM, nI_clamp (show i < 2 ^ 31 by omega)]
    exact sf (nI_ge hk (by omega)) ⟨vp_in_nI (by omega) (by omega), sq he hQ⟩
  | succ d ih =>
    intro i hi
    unfold l_X10_meets_11
    rw [hM, nI_clamp (show i < 2 ^ 31 by omega), nI_1]
    exact sf (nI_ge (by omega) (by omega)) ⟨vp_in_nI (by omega) (by omega), sf (hn i (by omega)) (ih (i + 1) (by omega))⟩
theorem meets_n {x : Int64} {v : St} {Q : St → Prop} {K : St → Prop} {M : Nat} (hM : gI v 23 = nI M) (hM2 : M ≤ 150) (hn : ∀ j, j < M → gB v 22 j ≠ x) (hK : K v) : ∀ (d i : Nat), i + d = M → l_X10_meets_11 Q x K (d + 1) (nI i) v := by
  intro d
  induction d with
  | zero =>
    intro i hi
    obtain rfl : i = M := by omega
    unfold l_X10_meets_11
    rw [hM]
    exact sq (nI_le (Nat.le_refl _) (by omega)) hK
  | succ d ih =>
    intro i hi
    unfold l_X10_meets_11
    rw [hM, nI_clamp (show i < 2 ^ 31 by omega), nI_1]
    exact sf (nI_ge (by omega) (by omega)) ⟨vp_in_nI (by omega) (by omega), sf (hn i (by omega)) (ih (i + 1) (by omega))⟩
theorem word_both {N : Nat → Nat} {T m sp : Nat} {cr : Int32} {u v : St} (h : NmP T m cr u v) (h0 : 0 < sp) (hsp : sp < 37 ^ 12) :
    ∃ (w : Int64) (u1 v1 : St) (m1 : Nat) (cr1 : Int32), NmP T m1 cr1 u1 v1 ∧ m ≤ m1 ∧ (cr = 1 → cr1 = 1) ∧ (cr1 = 0 → ∃ k, k < T + m1 ∧ w = aC k ∧ gB u1 200 k = lN sp ∧ ∀ j, j < k → gB u1 200 j ≠ lN sp) ∧ (∀ k, k < T + m → gB u1 200 k = gB u 200 k) ∧
      ((∀ k, k ≠ 202 → k ≠ 203 → gI u1 k = gI u k) ∧ (∀ k, gJ u1 k = gJ u k) ∧ (∀ k, gA u1 k = gA u k) ∧ (∀ k, k ≠ 200 → gB u1 k = gB u k)) ∧ ((∀ k, k ≠ 23 → k ≠ 24 → gI v1 k = gI v k) ∧ (∀ k, gJ v1 k = gJ v k) ∧ (∀ k, gA v1 k = gA v k) ∧ (∀ k, k ≠ 22 → gB v1 k = gB v k)) ∧
      (∀ Q : Int64 → St → Prop, Q w u1 → wp_X3_wordOf N (lN sp) u Q) ∧ (∀ Q : St → Prop, Q v1 → wp_X10_meets (lN sp) v Q) := by
  obtain ⟨n1, n2, n3, n4, n5, n6, n7, n8, n9, n10⟩ := id h
  rcases fnd (gB u 200) (lN sp) (T + m) with ⟨k, hk, he, hn⟩ | hno
  · refine ⟨aC k, u, v, m, cr, h, Nat.le_refl _, fun e => e, fun _ => ⟨k, hk, rfl, he, hn⟩, fun _ _ => rfl, ⟨fun _ _ _ => rfl, fun _ => rfl, fun _ => rfl, fun _ _ => rfl⟩, ⟨fun _ _ _ => rfl, fun _ => rfl, fun _ => rfl, fun _ _ => rfl⟩, fun Q hQ => ⟨k + 1, wordOf_f n1 n4 hk he hn hQ k 0 (by omega)⟩, fun Q hQ => ?_⟩
    by_cases hkT : k < T
    · exact placeOf_f n2 (by omega) hkT (by rw [n5 k hkT]; exact he) (fun j hj => by rw [n5 j (by omega)]; exact hn j hj) (sf (nI_pos (by omega)) hQ)
    · refine placeOf_n n2 (by omega) (fun j hj => by rw [n5 j hj]; exact hn j (by omega)) (sq (by decide) ⟨k - T + 1, ?_⟩)
      exact meets_f n3 (by omega) (k := k - T) (by omega) (by rw [n6 _ (by omega), show T + (k - T) = k from by omega]; exact he) (fun j hj => by rw [n6 j (by omega)]; exact hn _ (by omega)) hQ (k - T) 0 (by omega)
  · -- a new name
    have hR : ∀ (Q : St → Prop), ((nI (T + m) = (150 : Int32) → Q (sI v 24 (1 : Int32))) ∧ (¬ nI (T + m) = (150 : Int32) → Q (sI (sB v 22 (vp_updL (gB v 22) m (lN sp))) 23 (nI (m + 1))))) → wp_X10_meets (lN sp) v Q := fun Q hq => by
      refine placeOf_n n2 (by omega) (fun j hj => by rw [n5 j hj]; exact hno j (by omega)) (sq (by decide) ⟨m + 1, ?_⟩)
      refine meets_n n3 (by omega) (fun j hj => by rw [n6 j hj]; exact hno _ (by omega)) ?_ m 0 (by omega)
      rw [n2, n3, nI_add, nI_clamp (show m < 2 ^ 31 by omega), nI_1]
      refine ⟨hq.1, fun e => ⟨vp_in_nI ?_ (by omega), hq.2 e⟩⟩
      exact Classical.byContradiction (fun h9 => e (by rw [show T + m = 150 from by omega]; rfl))
    have hC : ∀ (Q : Int64 → St → Prop), ((nI (T + m) < (150 : Int32) → Q (aC (T + m)) (sI (sB u 200 (vp_updL (gB u 200) (T + m) (lN sp))) 202 (nI (T + m + 1)))) ∧ (¬ nI (T + m) < (150 : Int32) → Q (aC 0) (sI u 203 (1 : Int32)))) → wp_X3_wordOf N (lN sp) u Q := fun Q hq => by
      refine ⟨T + m + 1, wordOf_n n1 n4 hno ?_ (T + m) 0 (by omega)⟩
      rw [n1, nI_clamp (show T + m < 2 ^ 31 by omega), nI_1]
      refine ⟨fun e => ⟨vp_in_nI ((nI_ltI (a := T + m) (b := 150) (by omega) (by omega)).mp e) (by omega), ?_⟩, hq.2⟩
      rw [nI_l (by omega), show (1099511627776 : Int64) + lN (T + m + 1) = lN (1099511627776 + (T + m + 1)) from lN_add _ _, show lN (1099511627776 + (T + m + 1)) - (1 : Int64) = lN (1099511627776 + (T + m + 1) - 1) from lN_sub (b := 1) (by omega), show 1099511627776 + (T + m + 1) - 1 = 1099511627776 + (T + m) from by omega]
      exact hq.1 e
    by_cases hfull : T + m = 150
    · refine ⟨aC 0, sI u 203 1, sI v 24 1, m, 1, ⟨n1, n2, n3, n4, n5, n6, rfl, rfl, Or.inr ⟨rfl, hfull⟩, n10⟩, Nat.le_refl _, fun _ => rfl, fun e => absurd e (by decide), fun _ _ => rfl, ⟨fun k _ h => by rw [gI_sI, if_neg h], fun _ => rfl, fun _ => rfl, fun _ _ => rfl⟩, ⟨fun k _ h => by rw [gI_sI, if_neg h], fun _ => rfl, fun _ => rfl, fun _ _ => rfl⟩, fun Q hQ => hC Q (sf ?_ hQ), fun Q hQ => hR Q (sq ?_ hQ)⟩
      · rw [hfull]; decide
      · rw [hfull]; rfl
    · have hcr : cr = 0 := by
        rcases n9 with h9 | ⟨_, h9⟩
        · exact h9
        · exact absurd h9 hfull
      refine ⟨aC (T + m), sI (sB u 200 (vp_updL (gB u 200) (T + m) (lN sp))) 202 (nI (T + m + 1)), sI (sB v 22 (vp_updL (gB v 22) m (lN sp))) 23 (nI (m + 1)), m + 1, cr, ⟨rfl, n2, rfl, by omega, fun k hk => ?_, fun j hj => ?_, n7, n8, Or.inl hcr, fun k hk => ?_⟩, Nat.le_succ _, fun e => e, fun _ => ⟨T + m, by omega, rfl, pk_uLs, fun j hj => ?_⟩, fun k hk => pk_uLn (by omega), ⟨fun k h _ => by rw [gI_sI, if_neg h]; rfl, fun _ => rfl, fun _ => rfl, fun k h => by rw [gB_sI, gB_sB, if_neg h]⟩, ⟨fun k h _ => by rw [gI_sI, if_neg h]; rfl, fun _ => rfl, fun _ => rfl, fun k h => by rw [gB_sI, gB_sB, if_neg h]⟩, fun Q hQ => hC Q (sq (nI_lt (b := 150) (by omega) (by omega)) hQ), fun Q hQ => hR Q (sf ?_ hQ)⟩
      · rw [show gB (sI (sB u 200 (vp_updL (gB u 200) (T + m) (lN sp))) 202 (nI (T + m + 1))) 200 k = gB u 200 k from pk_uLn (by omega)]
        exact n5 k hk
      · show vp_updL (gB v 22) m (lN sp) j = vp_updL (gB u 200) (T + m) (lN sp) (T + j)
        by_cases e : j = m
        · subst e; rw [pk_uLs, pk_uLs]
        · rw [pk_uLn e, pk_uLn (by omega)]; exact n6 j (by omega)
      · show ∃ sp2, 0 < sp2 ∧ sp2 < 37 ^ 12 ∧ vp_updL (gB u 200) (T + m) (lN sp) k = lN sp2
        by_cases e : k = T + m
        · subst e; exact ⟨sp, h0, hsp, pk_uLs⟩
        · rw [pk_uLn e]; exact n10 k (by omega)
      · show vp_updL (gB u 200) (T + m) (lN sp) j ≠ lN sp
        rw [pk_uLn (by omega)]; exact hno j hj
      · exact fun e => absurd ((nI_eq (a := T + m) (b := 150) (by omega) (by omega)).mp e) hfull
