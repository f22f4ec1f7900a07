/-! PURE: a round of marking begins; sweeping -/
/-- R rounds so far: no mark is later -/
def RI (u : St) (n R : Nat) : Prop := gI u 806 = nI R ∧ ∀ c, c < n → ∃ j, j ≤ R ∧ gA u 802 c = nI j
theorem begin_ok {N : Nat → Nat} {n R : Nat} {u : St} {Q : St → Prop} (hR : RI u n R) (hb : R + 1 < 2 ^ 30) (h : ∀ w, (∀ k, k ≠ 806 → k ≠ 807 → gI w k = gI u k) → (∀ k, gJ w k = gJ u k) → (∀ k, gA w k = gA u k) → (∀ k, gB w k = gB u k) → gI w 806 = nI (R + 1) → Mk w n [] → Q w) : wp_X0_beginMarking N u Q := by
  unfold wp_X0_beginMarking
  have e : gI u 806 + (1 : Int32) = nI (R + 1) := by rw [hR.1]; exact nI_1 R
  refine h _ (fun k h1 h2 => ?_) (fun k => rfl) (fun k => rfl) (fun k => rfl) ?_ ⟨List.nodup_nil, fun c hc => absurd hc List.not_mem_nil, fun c hc => ?_, ?_⟩
  · simp only [gI_sI, if_neg h1, if_neg h2]
  · simp only [gI_sI]; exact e
  · simp only [gI_sI, gA_sI]
    refine ⟨fun h3 => ?_, fun h3 => absurd h3 List.not_mem_nil⟩
    obtain ⟨j, hj, ej⟩ := hR.2 c hc
    exfalso
    have h4 : gA u 802 c = nI (R + 1) := h3.trans e
    rw [ej] at h4
    have := (nI_eq (by omega) (by omega)).mp h4
    omega
  · rfl
/-- behind a marking the marks are of this round or older -/
theorem RI_of {u w : St} {n R : Nat} (h0 : ∀ c, c < n → ∃ j, j ≤ R ∧ gA u 802 c = nI j) (hw : gI w 806 = nI (R + 1)) (h : ∀ c, c < n → gA w 802 c = gA u 802 c ∨ gA w 802 c = gI w 806) : RI w n (R + 1) := by
  refine ⟨hw, fun c hc => ?_⟩
  rcases h c hc with h1 | h1
  · obtain ⟨j, hj, e⟩ := h0 c hc
    exact ⟨j, by omega, h1.trans e⟩
  · exact ⟨R + 1, Nat.le_refl _, h1.trans hw⟩
/-- the free row holds FL -/
def FR (u : St) (n : Nat) (FL : List Nat) : Prop := gI u 805 = nI FL.length ∧ FL.Nodup ∧ (∀ c ∈ FL, c < n) ∧ ∀ j, j < FL.length → gA u 804 j = nI (FL.getD j 0)
def frS (u w : St) : Prop := (∀ k, k ≠ 805 → gI w k = gI u k) ∧ (∀ k, gJ w k = gJ u k) ∧ (∀ k, k ≠ 804 → gA w k = gA u k) ∧ (∀ k, gB w k = gB u k)
theorem frS_rf (u : St) : frS u u := ⟨fun _ _ => rfl, fun _ => rfl, fun _ _ => rfl, fun _ => rfl⟩
theorem frS_tr {u v w : St} (h1 : frS u v) (h2 : frS v w) : frS u w := ⟨fun k hk => (h2.1 k hk).trans (h1.1 k hk), fun k => (h2.2.1 k).trans (h1.2.1 k), fun k hk => (h2.2.2.1 k hk).trans (h1.2.2.1 k hk), fun k => (h2.2.2.2 k).trans (h1.2.2.2 k)⟩
theorem sweep_loop {N : Nat → Nat} {n t0 : Nat} {ML : List Nat} (hN : LN N n t0) (u0 : St) (hM : ∀ c, c < n → (gA u0 802 c = gI u0 806 ↔ c ∈ ML)) :
    ∀ (d i : Nat) (u : St) (FL : List Nat), i + d = n → frS u0 u → FR u n FL → (∀ c ∈ FL, c < i) → (∀ c, c < i → (c ∈ FL ↔ c ∉ ML)) → ∃ (w : St) (FN : List Nat), (frS u0 w ∧ FR w n FN ∧ ∀ c, c < n → (c ∈ FN ↔ c ∉ ML)) ∧ ∀ K : St → Prop, K w → l_X0_sweep_7 N K (d + 1) (nI i) u := by
  have hn := hN.2.2.2.2.2.2.2.2.1
  intro d
  induction d with
  | zero =>
    intro i u FL hi hf hF hb hc
    obtain rfl : i = n := by omega
    refine ⟨u, FL, ⟨hf, hF, hc⟩, fun K hK => ?_⟩
    unfold l_X0_sweep_7
    rw [hN.1]
    exact ⟨fun _ => hK, fun h => absurd (nI_le (Nat.le_refl i) (by omega)) h⟩
  | succ d ih =>
    intro i u FL hi hf hF hb hc
    obtain ⟨f1, f2, f3, f4⟩ := id hF
    have hfl := nd_le f2 hb
    by_cases hz : gA u0 802 i = gI u0 806
    · have him := (hM i (by omega)).mp hz
      obtain ⟨w, FN, h1, h2⟩ := ih (i + 1) u FL (by omega) hf hF (fun c hcc => Nat.lt_succ_of_lt (hb c hcc)) (fun c hci => by
        by_cases e : c = i
        · subst e; exact ⟨fun h2 => absurd (hb c h2) (by omega), fun h2 => absurd him h2⟩
        · exact hc c (by omega))
      refine ⟨w, FN, h1, fun K hK => ?_⟩
      unfold l_X0_sweep_7
      rw [hN.1, hN.2.2.1, show nI i + (1 : Int32) = nI (i + 1) from nI_1 i, nI_clamp (show i < 2 ^ 31 by omega), hf.2.2.1 802 (by decide), hf.1 806 (by decide)]
      exact ⟨fun h => absurd h (nI_ge (by omega) (by omega)), fun _ => ⟨vp_in_nI (by omega) (by omega), fun _ => h2 K hK, fun h => absurd hz h⟩⟩
    · have him : i ∉ ML := fun h2 => hz ((hM i (by omega)).mpr h2)
      obtain ⟨w, FN, h1, h2⟩ := ih (i + 1) (sI (sA u 804 (upd (gA u 804) FL.length (nI i))) 805 (nI (FL.length + 1))) (FL ++ [i]) (by omega) (frS_tr hf ⟨fun k hk => by simp only [gI_sI, gI_sA, if_neg hk], fun k => rfl, fun k hk => by simp only [gA_sI, gA_sA, if_neg hk], fun k => rfl⟩) (by
        refine ⟨?_, ?_, fun c hcc => ?_, fun j hj => ?_⟩
        · simp only [gI_sI, if_true, List.length_append, List.length_cons, List.length_nil]
        · refine List.nodup_append.mpr ⟨f2, List.nodup_cons.mpr ⟨List.not_mem_nil, List.nodup_nil⟩, fun a ha b hb2 => ?_⟩
          have e := List.mem_singleton.mp hb2
          have := hb a ha
          omega
        · rcases List.mem_append.mp hcc with h2 | h2
          · exact f3 c h2
          · rw [List.mem_singleton.mp h2]; omega
        · simp only [List.length_append, List.length_cons, List.length_nil] at hj
          simp only [gA_sI, gA_sA, if_true]
          by_cases e : j = FL.length
          · subst e
            rw [show upd (gA u 804) FL.length (nI i) FL.length = nI i from pk_us]
            simp
          · rw [show upd (gA u 804) FL.length (nI i) j = gA u 804 j from pk_un e, f4 j (by omega)]
            congr 1
            simp only [List.getD_eq_getElem?_getD]
            rw [List.getElem?_append_left (by omega)]) (fun c hcc => by
        rcases List.mem_append.mp hcc with h2 | h2
        · exact Nat.lt_succ_of_lt (hb c h2)
        · rw [List.mem_singleton.mp h2]; omega) (fun c hci => by
        by_cases e : c = i
        · subst e; exact ⟨fun _ => him, fun _ => List.mem_append_right _ List.mem_cons_self⟩
        · rw [← hc c (by omega)]
          refine ⟨fun h2 => ?_, fun h2 => List.mem_append_left _ h2⟩
          rcases List.mem_append.mp h2 with h3 | h3
          · exact h3
          · exact absurd (List.mem_singleton.mp h3) e)
      refine ⟨w, FN, h1, fun K hK => ?_⟩
      unfold l_X0_sweep_7
      rw [hN.1, hN.2.2.1, hN.2.2.2.2.1, show nI i + (1 : Int32) = nI (i + 1) from nI_1 i, nI_clamp (show i < 2 ^ 31 by omega), f1, nI_clamp (show FL.length < 2 ^ 31 by omega), show nI FL.length + (1 : Int32) = nI (FL.length + 1) from nI_1 _, hf.2.2.1 802 (by decide), hf.1 806 (by decide)]
      exact ⟨fun h => absurd h (nI_ge (by omega) (by omega)), fun _ => ⟨vp_in_nI (by omega) (by omega), fun h => absurd h hz, fun _ => ⟨vp_in_nI (by omega) (by omega), h2 K hK⟩⟩⟩
theorem sweep_ex {N : Nat → Nat} {n t0 : Nat} {ML : List Nat} {u : St} (hN : LN N n t0) (hM : ∀ c, c < n → (gA u 802 c = gI u 806 ↔ c ∈ ML)) : ∃ (w : St) (FL : List Nat), (frS u w ∧ FR w n FL ∧ ∀ c, c < n → (c ∈ FL ↔ c ∉ ML)) ∧ ∀ Q : St → Prop, Q w → wp_X0_sweep N u Q := by
  have hf : frS u (sI u 805 (0 : Int32)) := ⟨fun k hk => by simp only [gI_sI, if_neg hk], fun _ => rfl, fun _ _ => rfl, fun _ => rfl⟩
  obtain ⟨w, FL, h1, h2⟩ := sweep_loop (ML := ML) hN u hM n 0 (sI u 805 (0 : Int32)) [] (by omega) hf ⟨rfl, List.nodup_nil, fun c hc => absurd hc List.not_mem_nil, fun j hj => absurd hj (by simp)⟩ (fun c hc => absurd hc List.not_mem_nil) (fun c hc => absurd hc (by omega))
  exact ⟨w, FL, h1, fun Q hQ => ⟨n + 1, h2 (fun w => Q w) hQ⟩⟩
