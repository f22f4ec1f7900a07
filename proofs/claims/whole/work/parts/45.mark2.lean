/-! PURE: marking ends, and marks just what can be come to -/
/-- the marked cells are those of the list -/
def Mk (u : St) (n : Nat) (ML : List Nat) : Prop := ML.Nodup ∧ (∀ c ∈ ML, c < n) ∧ (∀ c, c < n → (gA u 802 c = gI u 806 ↔ c ∈ ML)) ∧ gI u 807 = nI ML.length
/-- only marks, pending and markedCount differ -/
def frM (u w : St) : Prop := (∀ k, k ≠ 807 → gI w k = gI u k) ∧ ((∀ k, gJ w k = gJ u k) ∧ ∀ c, gA w 802 c = gA u 802 c ∨ gA w 802 c = gI u 806) ∧ (∀ k, k ≠ 802 → gA w k = gA u k) ∧ (∀ k, k ≠ 803 → gB w k = gB u k)
theorem frM_rf (u : St) : frM u u := ⟨fun _ _ => rfl, ⟨fun _ => rfl, fun _ => Or.inl rfl⟩, fun _ _ => rfl, fun _ _ => rfl⟩
theorem frM_tr {u v w : St} (h1 : frM u v) (h2 : frM v w) : frM u w := ⟨fun k hk => (h2.1 k hk).trans (h1.1 k hk), ⟨fun k => (h2.2.1.1 k).trans (h1.2.1.1 k), fun c => by
  rcases h2.2.1.2 c with h | h
  · rw [h]; exact h1.2.1.2 c
  · rw [h, h1.1 806 (by decide)]; exact Or.inr rfl⟩, fun k hk => (h2.2.2.1 k hk).trans (h1.2.2.1 k hk), fun k hk => (h2.2.2.2 k hk).trans (h1.2.2.2 k hk)⟩
theorem mkS_fr (u : St) (k c : Nat) : frM u (mkS u k c) := by
  refine ⟨fun j hj => ?_, ⟨fun j => ?_, fun j => ?_⟩, fun j hj => ?_, fun j hj => ?_⟩
  · simp only [mkS, gI_sB, gI_sI, gI_sA, if_neg hj]
  · simp only [mkS, gJ_sB, gJ_sI, gJ_sA]
  · simp only [mkS, gA_sB, gA_sI, gA_sA, if_true]
    by_cases e : j = c
    · subst e; exact Or.inr pk_us
    · exact Or.inl (pk_un e)
  · simp only [mkS, gA_sB, gA_sI, gA_sA, if_neg hj]
  · simp only [mkS, gB_sB, gB_sI, gB_sA, if_neg hj]
theorem mkS_803 (u : St) (k c j : Nat) : gB (mkS u k c) 803 j = if j = k + 1 then gB u 800 c else if j = k then gB u 801 c else gB u 803 j := by
  simp only [mkS, gB_sB, if_true, vp_updL]
theorem mkS_802 (u : St) (k c j : Nat) : gA (mkS u k c) 802 j = if j = c then gI u 806 else gA u 802 j := by
  simp only [mkS, gA_sB, gA_sI, gA_sA, if_true]
  rfl
theorem mkS_807 (u : St) (k c : Nat) : gI (mkS u k c) 807 = gI u 807 + 1 := by
  simp only [mkS, gI_sB, gI_sI, if_true]
theorem mkS_Mk {u : St} {n k c : Nat} {ML : List Nat} (hM : Mk u n ML) (hc : c < n) (hne : c ∉ ML) : Mk (mkS u k c) n (c :: ML) := by
  obtain ⟨h1, h2, h3, h4⟩ := hM
  refine ⟨List.nodup_cons.mpr ⟨hne, h1⟩, fun x hx => ?_, fun x hx => ?_, ?_⟩
  · rcases List.mem_cons.mp hx with rfl | h
    · exact hc
    · exact h2 x h
  · rw [mkS_802, (mkS_fr u k c).1 806 (by decide)]
    by_cases e : x = c
    · subst e; simp
    · rw [if_neg e, h3 x hx]; simp [e]
  · rw [mkS_807, h4, nI_1]; rfl
def kid (u : St) (c b : Nat) : Prop := gB u 800 c = pC b ∨ gB u 801 c = pC b
/-- what the inner loop has done, from k words pending -/
def MkR (u : St) (n k : Nat) (ML : List Nat) (w : St) (MN : List Nat) : Prop := Mk w n MN ∧ frM u w ∧ (∀ x ∈ ML, x ∈ MN) ∧ (∀ j, j < k → ∀ c, c < n → gB u 803 j = pC c → c ∈ MN) ∧
  ((∀ c ∈ ML, ∀ b, b < n → kid u c b → b ∈ ML ∨ ∃ j, j < k ∧ gB u 803 j = pC b) → ∀ c ∈ MN, ∀ b, b < n → kid u c b → b ∈ MN) ∧
  (∀ S : Nat → Prop, (∀ x ∈ ML, S x) → (∀ j, j < k → ∀ c, c < n → gB u 803 j = pC c → S c) → (∀ c, c < n → S c → ∀ b, b < n → kid u c b → S b) → ∀ x ∈ MN, S x)
theorem MkR_0 {u : St} {n : Nat} {ML : List Nat} (hM : Mk u n ML) : MkR u n 0 ML u ML := ⟨hM, frM_rf u, fun _ h => h, fun j hj => absurd hj (by omega), fun h c hc b hb hk => (h c hc b hb hk).elim id (fun ⟨j, hj, _⟩ => absurd hj (by omega)), fun S h1 _ _ => h1⟩
theorem mk_ex {n : Nat} (hn : n ≤ 1000) (Lp : (St → Prop) → Nat → Int32 → Int32 → St → Prop)
    (hexit : ∀ K m t u, K u → Lp K (m + 1) (nI 0) (nI t) u)
    (hskip : ∀ K m k t u, t ≤ 2 * n → k < n + 1 → (∀ c, c < n → gB u 803 k = pC c → gA u 802 c = gI u 806) → Lp K m (nI k) (nI (t + 1)) u → Lp K (m + 1) (nI (k + 1)) (nI t) u)
    (hpush : ∀ K m k t u c, t ≤ 2 * n → k + 1 ≤ n → c < n → gB u 803 k = pC c → ¬ gA u 802 c = gI u 806 → Lp K m (nI (k + 2)) (nI (t + 1)) (mkS u k c) → Lp K (m + 1) (nI (k + 1)) (nI t) u) (b0 : Nat) :
    ∀ (m : Nat) (u : St) (k t : Nat) (ML : List Nat), 2 * (n - ML.length) + k ≤ m → Mk u n ML → b0 ≤ ML.length → k + b0 ≤ 1 + ML.length → t + k + 2 * b0 = 1 + 2 * ML.length →
      ∃ (w : St) (MN : List Nat) (f : Nat), MkR u n k ML w MN ∧ ∀ K : St → Prop, K w → Lp K f (nI k) (nI t) u := by
  intro m
  induction m with
  | zero =>
    intro u k t ML hm hM hb hkb htk
    obtain rfl : k = 0 := by omega
    exact ⟨u, ML, 1, MkR_0 hM, fun K h => hexit K 0 t u h⟩
  | succ m ih =>
    intro u k t ML hm hM hb hkb htk
    have hlen := nd_le hM.1 hM.2.1
    cases k with
    | zero => exact ⟨u, ML, 1, MkR_0 hM, fun K h => hexit K 0 t u h⟩
    | succ k =>
      by_cases hex : ∃ c, c < n ∧ gB u 803 k = pC c ∧ c ∉ ML
      · obtain ⟨c, hc, e, hne⟩ := hex
        have hM1 := mkS_Mk (k := k) hM hc hne
        have hlen1 := nd_le hM1.1 hM1.2.1
        simp only [List.length_cons] at hlen1
        have hF := mkS_fr u k c
        have hkid : ∀ a b, kid (mkS u k c) a b ↔ kid u a b := fun a b => by unfold kid; rw [hF.2.2.2 800 (by decide), hF.2.2.2 801 (by decide)]
        obtain ⟨w, MN, f, ⟨h1, h2, h3, h4, h5, h6⟩, hf⟩ := ih (mkS u k c) (k + 2) (t + 1) (c :: ML) (by simp only [List.length_cons]; omega) hM1 (by simp only [List.length_cons]; omega) (by simp only [List.length_cons]; omega) (by simp only [List.length_cons]; omega)
        refine ⟨w, MN, f + 1, ⟨h1, frM_tr hF h2, (fun x hx => h3 x (List.mem_cons_of_mem _ hx)), (fun j hj b hb he => ?_), (fun hcl => ?_), (fun S s1 s2 s3 => ?_)⟩, fun K hK => hpush K f k t u c (by omega) (by omega) hc e (fun h => hne ((hM.2.2.1 c hc).mp h)) (hf K hK)⟩
        · by_cases ej : j = k
          · subst ej
            have : b = c := pC_inj (by omega) (by omega) (he.symm.trans e)
            subst this
            exact h3 b List.mem_cons_self
          · exact h4 j (by omega) b hb (by rw [mkS_803, if_neg (by omega), if_neg ej]; exact he)
        · have h7 := h5 (fun a ha b hb hk => ?_)
          · exact fun a ha b hb hk => h7 a ha b hb ((hkid a b).mpr hk)
          · rw [hkid] at hk
            rcases List.mem_cons.mp ha with rfl | ha
            · rcases hk with hk | hk
              · exact Or.inr ⟨k + 1, by omega, by rw [mkS_803, if_pos rfl]; exact hk⟩
              · exact Or.inr ⟨k, by omega, by rw [mkS_803, if_neg (by omega), if_pos rfl]; exact hk⟩
            · rcases hcl a ha b hb hk with h | ⟨j, hj, he⟩
              · exact Or.inl (List.mem_cons_of_mem _ h)
              · by_cases ej : j = k
                · subst ej
                  have : b = c := pC_inj (by omega) (by omega) (he.symm.trans e)
                  exact Or.inl (this ▸ List.mem_cons_self)
                · exact Or.inr ⟨j, by omega, by rw [mkS_803, if_neg (by omega), if_neg ej]; exact he⟩
        · have sc : S c := s2 k (by omega) c hc e
          refine h6 S (fun x hx => ?_) (fun j hj b hb he => ?_) (fun a ha sa b hb hk => s3 a ha sa b hb ((hkid a b).mp hk))
          · rcases List.mem_cons.mp hx with rfl | hx
            · exact sc
            · exact s1 x hx
          · rw [mkS_803] at he
            by_cases e1 : j = k + 1
            · rw [if_pos e1] at he; exact s3 c hc sc b hb (Or.inl he)
            · rw [if_neg e1] at he
              by_cases e2 : j = k
              · rw [if_pos e2] at he; exact s3 c hc sc b hb (Or.inr he)
              · rw [if_neg e2] at he; exact s2 j (by omega) b hb he
      · have hno : ∀ c, c < n → gB u 803 k = pC c → c ∈ ML := fun c hc e => Classical.byContradiction (fun h => hex ⟨c, hc, e, h⟩)
        obtain ⟨w, MN, f, ⟨h1, h2, h3, h4, h5, h6⟩, hf⟩ := ih u k (t + 1) ML (by omega) hM hb (by omega) (by omega)
        refine ⟨w, MN, f + 1, ⟨h1, h2, h3, (fun j hj b hb he => ?_), (fun hcl => h5 (fun a ha b hb hk => ?_)), (fun S s1 s2 s3 => h6 S s1 (fun j hj => s2 j (by omega)) s3)⟩, fun K hK => hskip K f k t u (by omega) (by omega) (fun c hc e => (hM.2.2.1 c hc).mpr (hno c hc e)) (hf K hK)⟩
        · by_cases ej : j = k
          · subst ej; exact h3 b (hno b hb he)
          · exact h4 j (by omega) b hb he
        · rcases hcl a ha b hb hk with h | ⟨j, hj, he⟩
          · exact Or.inl h
          · by_cases ej : j = k
            · subst ej; exact Or.inl (hno b hb he)
            · exact Or.inr ⟨j, by omega, he⟩
