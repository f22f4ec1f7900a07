/-! PURE: the reference's holding of rows of roots -/
def Ho (v : St) (root : Int64 → Prop) (w : St) (HL : List Nat) (k : Nat) : Prop := Hd w HL k ∧ frH v w ∧ half w HL k ∧ (∀ d, d < 1000 → root (pR d) → d ∈ HL) ∧ (∀ S : Nat → Prop, (∀ d, d < 1000 → root (pR d) → S d) → (∀ c, c < 1000 → S c → ∀ b, b < 1000 → rkid v c b → S b) → ∀ x ∈ HL, S x)
theorem Ho_cg {v w : St} {root root2 : Int64 → Prop} {HL : List Nat} {k : Nat} (h : Ho v root w HL k) (e : ∀ d, d < 1000 → (root (pR d) ↔ root2 (pR d))) : Ho v root2 w HL k := ⟨h.1, h.2.1, h.2.2.1, fun d hd hr => h.2.2.2.1 d hd ((e d hd).mpr hr), fun S s1 s2 => h.2.2.2.2 S (fun d hd hr => s1 d hd ((e d hd).mp hr)) s2⟩
theorem Ho_hold {v w : St} {root : Int64 → Prop} {HL : List Nat} {k : Nat} {x : Int64} (h : Ho v root w HL k) (hx : wd x) : ∃ (w1 : St) (HN : List Nat) (kN : Nat), Ho v (fun z => root z ∨ x = z) w1 HN kN ∧ ∀ Q : St → Prop, Q w1 → wp_X10_hold x w Q := by
  obtain ⟨h1, h2, h3, h4, h5⟩ := h
  obtain ⟨w1, HN, kN, a1, a2, a3, a4, a5, a6, a7, a8⟩ := hold_ex h1 hx
  refine ⟨w1, HN, kN, ⟨a1, frH_tr h2 a2, fun c hc => ?_, ?_, ?_⟩, a8⟩
  · by_cases hm : c ∈ HL
    · rcases h3 c hm with ⟨j, hj, e⟩ | h
      · refine Or.inl ⟨j, ?_, (a6 j hj).trans e⟩
        rcases a7 with ⟨e2, _⟩ | ⟨e2, _, _⟩ <;> omega
      · exact Or.inr (fun b hb hk => a3 b (h b hb ((rkid_fr a2 c b).mp hk)))
    · rcases a5 c hc with h | h
      · exact absurd h hm
      · rcases a7 with ⟨_, e2⟩ | ⟨e2, _, e3⟩
        · exact absurd (e2 ▸ hc) hm
        · exact Or.inl ⟨k, by omega, e3.trans h⟩
  · rintro d hd (h | h)
    · exact a3 d (h4 d hd h)
    · exact a4 d hd h
  · intro S s1 s2 x hx
    rcases a5 x hx with h | h
    · exact h5 S (fun d hd hr => s1 d hd (Or.inl hr)) s2 x h
    · exact s1 x (a1.2.1 x hx) (Or.inr h)
theorem Ho_all {v w : St} {root : Int64 → Prop} {HL : List Nat} {k : Nat} (h : Ho v root w HL k) (hw : rwd v) : ∃ (w1 : St) (HN : List Nat), Ho v root w1 HN 0 ∧ ∀ Q : St → Prop, Q w1 → wp_X10_holdAll w Q := by
  obtain ⟨h1, h2, h3, h4, h5⟩ := h
  obtain ⟨w1, HN, ⟨g1, g2, g3, g4, g5⟩, q⟩ := holdAll_ex h1 (rwd_fr h2 hw) h3
  refine ⟨w1, HN, ⟨g1, frH_tr h2 g2, fun c hc => Or.inr (fun b hb hk => g4 c hc b hb ((rkid_fr g2 c b).mp hk)), fun d hd hr => g3 d (h4 d hd hr), fun S s1 s2 => g5 S (h5 S s1 s2) (fun c hc sc b hb hk => s2 c hc sc b hb ((rkid_fr h2 c b).mp hk))⟩, q⟩
theorem wd_nn {x : Int64} (h : wd x) : ¬ x < 0 := by
  have e0 : (0 : Int64) = lN 0 := rfl
  rcases h with ⟨n, rfl⟩ | ⟨k, hk, rfl⟩ | ⟨d, hd, rfl⟩
  · have := nR_lt n
    rw [nR_eq, e0]
    exact fun h => absurd ((pk_lLT (by omega) (by omega)).mp h) (by omega)
  · exact fun h => absurd ((pk_lLT (b := 0) (by omega) (by omega)).mp h) (by omega)
  · exact fun h => absurd ((pk_lLT (b := 0) (by omega) (by omega)).mp h) (by omega)
theorem m1_neg : (-1 : Int64) < 0 := by decide
theorem pR_nm1 {d : Nat} (hd : d < 1000) : (-1 : Int64) ≠ pR d := fun e => wd_nn (Or.inr (Or.inr ⟨d, hd, rfl⟩)) (e ▸ m1_neg)
theorem z0 : vp_nar .boolean (0 : Int32) = 0 := by decide
theorem clr_loop : ∀ (d i : Nat) (v : St), i + d = 1000 → (∀ j, j < i → gA v 15 j = 0) → ∃ w : St, (∀ j, j < 1000 → gA w 15 j = 0) ∧ (∀ k, gI w k = gI v k) ∧ (∀ k, gJ w k = gJ v k) ∧ (∀ k, k ≠ 15 → gA w k = gA v k) ∧ (∀ k, gB w k = gB v k) ∧ ∀ K : St → Prop, K w → l_X10_holdGlobals_2 K (d + 1) (nI i) v := by
  intro d
  induction d with
  | zero =>
    intro i v hi h
    obtain rfl : i = 1000 := by omega
    refine ⟨v, h, fun _ => rfl, fun _ => rfl, fun _ _ => rfl, fun _ => rfl, fun K hK => ?_⟩
    unfold l_X10_holdGlobals_2
    exact ⟨fun _ => hK, fun c => absurd (nI_le (a := 1000) (Nat.le_refl _) (by omega)) c⟩
  | succ d ih =>
    intro i v hi h
    obtain ⟨w, h1, h2, h3, h4, h5, h6⟩ := ih (i + 1) (sA v 15 (upd (gA v 15) i 0)) (by omega) (fun j hj => by
      simp only [gA_sA, if_true]
      by_cases e : j = i
      · subst e; exact pk_us
      · rw [show upd (gA v 15) i 0 j = gA v 15 j from pk_un e]; exact h j (by omega))
    refine ⟨w, h1, h2, h3, fun k hk => (h4 k hk).trans (by simp only [gA_sA, if_neg hk]), h5, fun K hK => ?_⟩
    unfold l_X10_holdGlobals_2
    rw [nI_clamp (show i < 2 ^ 31 by omega), z0, show nI i + (1 : Int32) = nI (i + 1) from nI_1 i]
    exact ⟨fun c => absurd c (nI_ge (a := i) (b := 1000) (by omega) (by omega)), fun _ => ⟨vp_in_nI (by omega) (by omega), h6 K hK⟩⟩
def rtG (v : St) (i : Nat) (z : Int64) : Prop := ∃ j, j < i ∧ gB v 20 j = z
theorem glb_loop {v : St} {T : Nat} (hT : gI v 21 = nI T) (hT2 : T ≤ 150) (hg : ∀ j, j < T → gB v 20 j = -1 ∨ wd (gB v 20 j)) : ∀ (d i : Nat) (w : St) (HL : List Nat) (k : Nat), i + d = T → Ho v (rtG v i) w HL k → ∃ (w1 : St) (HN : List Nat) (kN : Nat), Ho v (rtG v T) w1 HN kN ∧ ∀ K : St → Prop, K w1 → l_X10_holdGlobals_34 K (d + 1) (nI i) w := by
  intro d
  induction d with
  | zero =>
    intro i w HL k hi h
    obtain rfl : i = T := by omega
    refine ⟨w, HL, k, h, fun K hK => ?_⟩
    unfold l_X10_holdGlobals_34
    rw [h.2.1.1 21 (by decide) (by decide), hT]
    exact ⟨fun _ => hK, fun c => absurd (nI_le (Nat.le_refl _) (by omega)) c⟩
  | succ d ih =>
    intro i w HL k hi h
    have e20 : gB w 20 = gB v 20 := h.2.1.2.2.2 20 (by decide)
    have e21 : gI w 21 = nI T := (h.2.1.1 21 (by decide) (by decide)).trans hT
    have hun : ∀ K n, l_X10_holdGlobals_34 K (n + 1) (nI i) w = ((nI T ≤ nI i → K w) ∧ (¬ nI T ≤ nI i → vp_in (nI i) 150 ∧ ((gB v 20 i < (0 : Int64) → l_X10_holdGlobals_34 K n (nI (i + 1)) w) ∧ (¬ gB v 20 i < (0 : Int64) → vp_in (nI i) 150 ∧ wp_X10_hold (gB v 20 i) w (fun u2 => l_X10_holdGlobals_34 K n (nI (i + 1)) u2))))) := by
      intro K n
      rw [l_X10_holdGlobals_34, e20, e21, nI_clamp (show i < 2 ^ 31 by omega), show nI i + (1 : Int32) = nI (i + 1) from nI_1 i]
    rcases hg i (by omega) with hm | hm
    · obtain ⟨w1, HN, kN, a, q⟩ := ih (i + 1) w HL k (by omega) (Ho_cg h (fun d hd => ⟨fun ⟨j, hj, e⟩ => ⟨j, by omega, e⟩, fun ⟨j, hj, e⟩ => by
        by_cases ej : j = i
        · subst ej; exact absurd (hm.symm.trans e) (pR_nm1 hd)
        · exact ⟨j, by omega, e⟩⟩))
      refine ⟨w1, HN, kN, a, fun K hK => ?_⟩
      rw [hun]
      exact ⟨fun c => absurd c (nI_ge (by omega) (by omega)), fun _ => ⟨vp_in_nI (by omega) (by omega), fun _ => q K hK, fun c => absurd (by rw [hm]; exact m1_neg) c⟩⟩
    · obtain ⟨w2, H2, k2, a2, q2⟩ := Ho_hold h hm
      obtain ⟨w1, HN, kN, a, q⟩ := ih (i + 1) w2 H2 k2 (by omega) (Ho_cg a2 (fun d hd => ⟨fun h => by
        rcases h with ⟨j, hj, e⟩ | e
        · exact ⟨j, by omega, e⟩
        · exact ⟨i, by omega, e⟩, fun ⟨j, hj, e⟩ => by
        by_cases ej : j = i
        · subst ej; exact Or.inr e
        · exact Or.inl ⟨j, by omega, e⟩⟩))
      refine ⟨w1, HN, kN, a, fun K hK => ?_⟩
      rw [hun]
      exact ⟨fun c => absurd c (nI_ge (by omega) (by omega)), fun _ => ⟨vp_in_nI (by omega) (by omega), fun c => absurd c (wd_nn hm), fun _ => ⟨vp_in_nI (by omega) (by omega), q2 _ (q K hK)⟩⟩⟩
theorem holdGlobals_ex {v : St} {T : Nat} (hT : gI v 21 = nI T) (hT2 : T ≤ 150) (hg : ∀ j, j < T → gB v 20 j = -1 ∨ wd (gB v 20 j)) (hw : rwd v) : ∃ (w : St) (HL : List Nat), Ho v (rtG v T) w HL 0 ∧ ∀ Q : St → Prop, Q w → wp_X10_holdGlobals v Q := by
  obtain ⟨c, c1, c2, c3, c4, c5, c6⟩ := clr_loop 1000 0 v (by omega) (fun j hj => absurd hj (by omega))
  have hf : frH v (sI (sI c 16 (0 : Int32)) 18 (0 : Int32)) := ⟨fun k a b => by simp only [gI_sI, if_neg a, if_neg b]; exact c2 k, c3, c4, fun k _ => c5 k⟩
  have h0 : Ho v (rtG v 0) (sI (sI c 16 (0 : Int32)) 18 (0 : Int32)) [] 0 := ⟨⟨List.nodup_nil, fun d hd => absurd hd List.not_mem_nil, fun d hd => ⟨fun _ => List.not_mem_nil, fun _ => c1 d hd⟩, rfl, rfl, Nat.le_refl _, fun j hj => absurd hj (by omega)⟩, hf, fun c hc => absurd hc List.not_mem_nil, fun d hd ⟨j, hj, _⟩ => absurd hj (by omega), fun S _ _ x hx => absurd hx List.not_mem_nil⟩
  obtain ⟨w1, H1, k1, a1, q1⟩ := glb_loop hT hT2 hg T 0 _ [] 0 (by omega) h0
  obtain ⟨w2, H2, a2, q2⟩ := Ho_all a1 hw
  exact ⟨w2, H2, a2, fun Q hQ => ⟨1000 + 1, c6 _ ⟨T + 1, q1 _ (q2 _ hQ)⟩⟩⟩
/-! waiting -/
def rtF (v : St) (cnt : Nat → Nat) (j : Nat) (z : Int64) : Prop := gB v 34 j = z ∨ gB v 35 j = z ∨ gB v 36 j = z ∨ ∃ k, k < cnt j ∧ gB v 38 (8 * j + k) = z
def rtW (v : St) (T : Nat) (cnt : Nat → Nat) (i : Nat) (z : Int64) : Prop := rtG v T z ∨ ∃ j, j < i ∧ rtF v cnt j z
/-- the rows of what waits are words -/
def wdW (v : St) (cnt : Nat → Nat) (w : Nat) : Prop := ∀ j, j < w → gA v 37 j = nI (cnt j) ∧ cnt j ≤ 8 ∧ wd (gB v 34 j) ∧ wd (gB v 35 j) ∧ wd (gB v 36 j) ∧ ∀ k, k < cnt j → wd (gB v 38 (8 * j + k))
theorem vals_loop {v : St} {j c : Nat} (hj : j < 200) (hc : gA v 37 j = nI c) (hc2 : c ≤ 8) (hx : ∀ k, k < c → wd (gB v 38 (8 * j + k))) (root : Int64 → Prop) : ∀ (d i : Nat) (w : St) (HL : List Nat) (k : Nat), i + d = c → Ho v (fun z => root z ∨ ∃ k, k < i ∧ gB v 38 (8 * j + k) = z) w HL k → ∃ (w1 : St) (HN : List Nat) (kN : Nat), Ho v (fun z => root z ∨ ∃ k, k < c ∧ gB v 38 (8 * j + k) = z) w1 HN kN ∧ ∀ K : St → Prop, K w1 → l_X10_holdWaiting_46 (nI j) K (d + 1) (nI i) w := by
  intro d
  induction d with
  | zero =>
    intro i w HL k hi h
    obtain rfl : i = c := by omega
    refine ⟨w, HL, k, h, fun K hK => ?_⟩
    unfold l_X10_holdWaiting_46
    rw [h.2.1.2.2.1 37 (by decide), nI_clamp (show j < 2 ^ 31 by omega), hc]
    exact ⟨vp_in_nI (by omega) (by omega), fun _ => hK, fun c => absurd (nI_le (Nat.le_refl _) (by omega)) c⟩
  | succ d ih =>
    intro i w HL k hi h
    obtain ⟨w2, H2, k2, a2, q2⟩ := Ho_hold h (hx i (by omega))
    obtain ⟨w1, HN, kN, a, q⟩ := ih (i + 1) w2 H2 k2 (by omega) (Ho_cg a2 (fun d hd => ⟨fun h => by
        rcases h with (h | ⟨k, hk, e⟩) | e
        · exact Or.inl h
        · exact Or.inr ⟨k, by omega, e⟩
        · exact Or.inr ⟨i, by omega, e⟩, fun h => by
        rcases h with h | ⟨k, hk, e⟩
        · exact Or.inl (Or.inl h)
        · by_cases ek : k = i
          · subst ek; exact Or.inr e
          · exact Or.inl (Or.inr ⟨k, by omega, e⟩)⟩))
    refine ⟨w1, HN, kN, a, fun K hK => ?_⟩
    unfold l_X10_holdWaiting_46
    have e8 : (8 : Int32) * nI j + nI i = nI (8 * j + i) := by rw [show (8 : Int32) * nI j = nI (8 * j) from pk_mul 8 j]; exact nI_add _ _
    rw [h.2.1.2.2.1 37 (by decide), h.2.1.2.2.2 38 (by decide), nI_clamp (show j < 2 ^ 31 by omega), hc, e8, nI_clamp (show 8 * j + i < 2 ^ 31 by omega), show nI i + (1 : Int32) = nI (i + 1) from nI_1 i]
    exact ⟨vp_in_nI (by omega) (by omega), fun c => absurd c (nI_ge (by omega) (by omega)), fun _ => ⟨vp_in_nI (by omega) (by omega), q2 _ (q K hK)⟩⟩
theorem wait_loop {v : St} {T w : Nat} {cnt : Nat → Nat} (hwt : gI v 32 = nI w) (hw2 : w ≤ 200) (hx : wdW v cnt w) (hr : rwd v) : ∀ (d i : Nat) (a : St) (HL : List Nat), i + d = w → Ho v (rtW v T cnt i) a HL 0 → ∃ (b : St) (HN : List Nat), Ho v (rtW v T cnt w) b HN 0 ∧ ∀ K : St → Prop, K b → l_X10_holdWaiting_6 K (d + 1) (nI i) a := by
  intro d
  induction d with
  | zero =>
    intro i a HL hi h
    obtain rfl : i = w := by omega
    refine ⟨a, HL, h, fun K hK => ?_⟩
    unfold l_X10_holdWaiting_6
    rw [h.2.1.1 32 (by decide) (by decide), hwt]
    exact ⟨fun _ => hK, fun c => absurd (nI_le (Nat.le_refl _) (by omega)) c⟩
  | succ d ih =>
    intro i a HL hi h
    obtain ⟨c1, c2, x1, x2, x3, x4⟩ := hx i (by omega)
    obtain ⟨a1, H1, k1, h1, q1⟩ := Ho_hold h x1
    obtain ⟨a2, H2, k2, h2, q2⟩ := Ho_hold h1 x2
    obtain ⟨a3, H3, k3, h3, q3⟩ := Ho_hold h2 x3
    obtain ⟨a4, H4, k4, h4, q4⟩ := vals_loop (v := v) (j := i) (by omega) c1 c2 x4 (fun z => ((rtW v T cnt i z ∨ gB v 34 i = z) ∨ gB v 35 i = z) ∨ gB v 36 i = z) (cnt i) 0 a3 H3 k3 (by omega) (Ho_cg h3 (fun d hd => ⟨fun h => Or.inl h, fun h => by
      rcases h with h | ⟨k, hk, _⟩
      · exact h
      · omega⟩))
    obtain ⟨a5, H5, h5, q5⟩ := Ho_all h4 hr
    obtain ⟨b, HN, h6, q6⟩ := ih (i + 1) a5 H5 (by omega) (Ho_cg h5 (fun d hd => ⟨fun h => by
      rcases h with ((((h | e) | e) | e) | e)
      · rcases h with h | ⟨j, hj, h⟩
        · exact Or.inl h
        · exact Or.inr ⟨j, by omega, h⟩
      · exact Or.inr ⟨i, by omega, Or.inl e⟩
      · exact Or.inr ⟨i, by omega, Or.inr (Or.inl e)⟩
      · exact Or.inr ⟨i, by omega, Or.inr (Or.inr (Or.inl e))⟩
      · exact Or.inr ⟨i, by omega, Or.inr (Or.inr (Or.inr e))⟩, fun hq => by
      rcases hq with hq | ⟨j, hj, hq⟩
      · exact Or.inl (Or.inl (Or.inl (Or.inl (Or.inl hq))))
      · by_cases ej : j = i
        · rw [ej] at hq
          rcases hq with e | e | e | e
          · exact Or.inl (Or.inl (Or.inl (Or.inr e)))
          · exact Or.inl (Or.inl (Or.inr e))
          · exact Or.inl (Or.inr e)
          · exact Or.inr e
        · exact Or.inl (Or.inl (Or.inl (Or.inl (Or.inr ⟨j, by omega, hq⟩))))⟩))
    refine ⟨b, HN, h6, fun K hK => ?_⟩
    unfold l_X10_holdWaiting_6
    rw [h.2.1.1 32 (by decide) (by decide), hwt, nI_clamp (show i < 2 ^ 31 by omega), show nI i + (1 : Int32) = nI (i + 1) from nI_1 i, h.2.1.2.2.2 34 (by decide)]
    refine ⟨fun c => absurd c (nI_ge (by omega) (by omega)), fun _ => ⟨vp_in_nI (by omega) (by omega), q1 _ ⟨vp_in_nI (by omega) (by omega), ?_⟩⟩⟩
    rw [h1.2.1.2.2.2 35 (by decide)]
    refine q2 _ ⟨vp_in_nI (by omega) (by omega), ?_⟩
    rw [h2.2.1.2.2.2 36 (by decide)]
    exact q3 _ ⟨cnt i + 1, q4 _ (q5 _ (q6 K hK))⟩
theorem holdWaiting_ex {v : St} {T w : Nat} {cnt : Nat → Nat} (hT : gI v 21 = nI T) (hT2 : T ≤ 150) (hg : ∀ j, j < T → gB v 20 j = -1 ∨ wd (gB v 20 j)) (hwt : gI v 32 = nI w) (hw2 : w ≤ 200) (hx : wdW v cnt w) (hr : rwd v) : ∃ (b : St) (HL : List Nat), Ho v (rtW v T cnt w) b HL 0 ∧ ∀ Q : St → Prop, Q b → wp_X10_holdWaiting v Q := by
  obtain ⟨w1, H1, a1, q1⟩ := holdGlobals_ex hT hT2 hg hr
  obtain ⟨b, HN, a2, q2⟩ := wait_loop (T := T) hwt hw2 hx hr w 0 w1 H1 (by omega) (Ho_cg a1 (fun d hd => ⟨fun h => Or.inl h, fun h => by
    rcases h with h | ⟨j, hj, _⟩
    · exact h
    · omega⟩))
  exact ⟨b, HN, a2, fun Q hQ => q1 _ ⟨w + 1, q2 (fun w => Q w) hQ⟩⟩
theorem bval_loop {v : St} {m : Nat} (hm : gI v 43 = nI m) (hm2 : m ≤ 8) (hx : ∀ k, k < m → wd (gB v 42 k)) (root : Int64 → Prop) : ∀ (d i : Nat) (w : St) (HL : List Nat) (k : Nat), i + d = m → Ho v (fun z => root z ∨ ∃ k, k < i ∧ gB v 42 k = z) w HL k → ∃ (w1 : St) (HN : List Nat) (kN : Nat), Ho v (fun z => root z ∨ ∃ k, k < m ∧ gB v 42 k = z) w1 HN kN ∧ ∀ K : St → Prop, K w1 → l_X10_holdForBinding_19 K (d + 1) (nI i) w := by
  intro d
  induction d with
  | zero =>
    intro i w HL k hi h
    obtain rfl : i = m := by omega
    refine ⟨w, HL, k, h, fun K hK => ?_⟩
    unfold l_X10_holdForBinding_19
    rw [h.2.1.1 43 (by decide) (by decide), hm]
    exact ⟨fun _ => hK, fun c => absurd (nI_le (Nat.le_refl _) (by omega)) c⟩
  | succ d ih =>
    intro i w HL k hi h
    obtain ⟨w2, H2, k2, a2, q2⟩ := Ho_hold h (hx i (by omega))
    obtain ⟨w1, HN, kN, a, q⟩ := ih (i + 1) w2 H2 k2 (by omega) (Ho_cg a2 (fun d hd => ⟨fun h => by
        rcases h with (h | ⟨k, hk, e⟩) | e
        · exact Or.inl h
        · exact Or.inr ⟨k, by omega, e⟩
        · exact Or.inr ⟨i, by omega, e⟩, fun h => by
        rcases h with h | ⟨k, hk, e⟩
        · exact Or.inl (Or.inl h)
        · by_cases ek : k = i
          · subst ek; exact Or.inr e
          · exact Or.inl (Or.inr ⟨k, by omega, e⟩)⟩))
    refine ⟨w1, HN, kN, a, fun K hK => ?_⟩
    unfold l_X10_holdForBinding_19
    rw [h.2.1.1 43 (by decide) (by decide), h.2.1.2.2.2 42 (by decide), hm, nI_clamp (show i < 2 ^ 31 by omega), show nI i + (1 : Int32) = nI (i + 1) from nI_1 i]
    exact ⟨fun c => absurd c (nI_ge (by omega) (by omega)), fun _ => ⟨vp_in_nI (by omega) (by omega), q2 _ (q K hK)⟩⟩
/-- the roots at a binding: f, the list and the values with all that waits -/
def rtB (v : St) (T : Nat) (cnt : Nat → Nat) (w m : Nat) (x y : Int64) (z : Int64) : Prop := rtW v T cnt w z ∨ x = z ∨ y = z ∨ ∃ k, k < m ∧ gB v 42 k = z
theorem holdForBinding_ex {v : St} {T w m : Nat} {cnt : Nat → Nat} {x : Int64} (hT : gI v 21 = nI T) (hT2 : T ≤ 150) (hg : ∀ j, j < T → gB v 20 j = -1 ∨ wd (gB v 20 j)) (hwt : gI v 32 = nI w) (hw2 : w ≤ 200) (hx : wdW v cnt w) (hr : rwd v) (hf : wd x) (hl : wd (gJ v 41)) (hm : gI v 43 = nI m) (hm2 : m ≤ 8) (hv : ∀ k, k < m → wd (gB v 42 k)) : ∃ (b : St) (HL : List Nat) (k : Nat), Ho v (rtB v T cnt w m x (gJ v 41)) b HL k ∧ ∀ Q : St → Prop, Q b → wp_X10_holdForBinding x v Q := by
  obtain ⟨a1, H1, h1, q1⟩ := holdWaiting_ex hT hT2 hg hwt hw2 hx hr
  obtain ⟨a2, H2, k2, h2, q2⟩ := Ho_hold h1 hf
  obtain ⟨a3, H3, k3, h3, q3⟩ := Ho_hold h2 hl
  obtain ⟨b, HN, kN, h4, q4⟩ := bval_loop hm hm2 hv (fun z => (rtW v T cnt w z ∨ x = z) ∨ gJ v 41 = z) m 0 a3 H3 k3 (by omega) (Ho_cg h3 (fun d hd => ⟨fun h => Or.inl h, fun h => by
    rcases h with h | ⟨k, hk, _⟩
    · exact h
    · omega⟩))
  refine ⟨b, HN, kN, Ho_cg h4 (fun d hd => ⟨fun h => ?_, fun h => ?_⟩), fun Q hQ => q1 _ (q2 _ ?_)⟩
  · rcases h with ((h | h) | h) | h
    · exact Or.inl h
    · exact Or.inr (Or.inl h)
    · exact Or.inr (Or.inr (Or.inl h))
    · exact Or.inr (Or.inr (Or.inr h))
  · rcases h with h | h | h | h
    · exact Or.inl (Or.inl (Or.inl h))
    · exact Or.inl (Or.inl (Or.inr h))
    · exact Or.inl (Or.inr h)
    · exact Or.inr h
  · show wp_X10_hold (gJ a2 41) a2 _
    rw [h2.2.1.2.1 41]
    exact q3 _ ⟨m + 1, q4 (fun w => Q w) hQ⟩
/-- room: all that can be come to is held, and told -/
theorem room_ex {v w : St} {root : Int64 → Prop} {HL : List Nat} {k n p : Nat} (h : Ho v root w HL k) (hw : rwd v) (hn : gI v 1 = nI n) (hn2 : n ≤ 1000) (hp : p < 3000) (hf : gI v 8 = 0) : ∃ (w1 : St) (HN : List Nat), Ho v root w1 HN 0 ∧ ∀ Q : Int32 → St → Prop, (HN.length + p ≤ n → Q 1 w1) → (¬ HN.length + p ≤ n → Q 0 (sI w1 8 6)) → wp_X10_room (nI p) w Q := by
  obtain ⟨w1, HN, h1, q1⟩ := Ho_all h hw
  have hl := nd_le h1.1.1 h1.1.2.1
  refine ⟨w1, HN, h1, fun Q hQ1 hQ0 => q1 _ ?_⟩
  have e : gI w1 16 + nI p = nI (HN.length + p) := by rw [h1.1.2.2.2.1]; exact nI_add _ _
  show ((gI w1 16 + nI p ≤ gI w1 1 → _) ∧ _)
  rw [e, h1.2.1.1 1 (by decide) (by decide), hn, h1.2.1.1 8 (by decide) (by decide), hf]
  refine ⟨fun c => ⟨fun _ => hQ1 ((nI_leI (by omega) (by omega)).mp c), fun d => absurd rfl d⟩, fun c => hQ0 (fun d => c (nI_le d (by omega)))⟩
