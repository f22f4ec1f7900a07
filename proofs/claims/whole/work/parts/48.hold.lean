/-! PURE: the reference's holding -/
/-- a word of the reference: number, name or pair -/
def wd (x : Int64) : Prop := (∃ n : Int32, x = nR n) ∨ (∃ k, k < 150 ∧ x = aR k) ∨ ∃ d, d < 1000 ∧ x = pR d
/-- the held cells are those of the list; k of them are still to be gone through -/
def Hd (v : St) (HL : List Nat) (k : Nat) : Prop := HL.Nodup ∧ (∀ d ∈ HL, d < 1000) ∧ (∀ d, d < 1000 → (gA v 15 d = 0 ↔ d ∉ HL)) ∧ gI v 16 = nI HL.length ∧ gI v 18 = nI k ∧ k ≤ HL.length ∧ ∀ j, j < k → ∃ d, d ∈ HL ∧ gB v 17 j = pR d
def frH (v w : St) : Prop := (∀ k, k ≠ 16 → k ≠ 18 → gI w k = gI v k) ∧ (∀ k, gJ w k = gJ v k) ∧ (∀ k, k ≠ 15 → gA w k = gA v k) ∧ (∀ k, k ≠ 17 → gB w k = gB v k)
theorem frH_rf (u : St) : frH u u := ⟨fun _ _ _ => rfl, fun _ => rfl, fun _ _ => rfl, fun _ _ => rfl⟩
theorem frH_tr {u v w : St} (h1 : frH u v) (h2 : frH v w) : frH u w := ⟨fun k hk hj => (h2.1 k hk hj).trans (h1.1 k hk hj), fun k => (h2.2.1 k).trans (h1.2.1 k), fun k hk => (h2.2.2.1 k hk).trans (h1.2.2.1 k hk), fun k hk => (h2.2.2.2 k hk).trans (h1.2.2.2 k hk)⟩
theorem z1 : vp_nar .boolean (1 : Int32) = 1 := by decide
theorem hold_ex {v : St} {HL : List Nat} {k : Nat} {x : Int64} (hH : Hd v HL k) (hx : wd x) :
    ∃ (w : St) (HN : List Nat) (kN : Nat), Hd w HN kN ∧ frH v w ∧ (∀ d ∈ HL, d ∈ HN) ∧ (∀ d, d < 1000 → x = pR d → d ∈ HN) ∧ (∀ d ∈ HN, d ∈ HL ∨ x = pR d) ∧ (∀ j, j < k → gB w 17 j = gB v 17 j) ∧ (kN = k ∧ HN = HL ∨ (kN = k + 1 ∧ HN.length = HL.length + 1 ∧ gB w 17 k = x)) ∧ ∀ Q : St → Prop, Q w → wp_X10_hold x v Q := by
  obtain ⟨h1, h2, h3, h4, h5, h6, h7⟩ := id hH
  have hlen := nd_le h1 h2
  rcases hx with ⟨n, rfl⟩ | ⟨j, hj, rfl⟩ | ⟨d, hd, rfl⟩
  · exact ⟨v, HL, k, hH, frH_rf v, fun _ h => h, fun d hd e => absurd e (pR_ne_n hd), fun d h => Or.inl h, fun _ _ => rfl, Or.inl ⟨rfl, rfl⟩, fun Q hQ => rPair_n ⟨fun _ => hQ, fun h => absurd rfl h⟩⟩
  · exact ⟨v, HL, k, hH, frH_rf v, fun _ h => h, fun d hd e => absurd e (pR_ne_a hd hj), fun d h => Or.inl h, fun _ _ => rfl, Or.inl ⟨rfl, rfl⟩, fun Q hQ => rPair_a hj ⟨fun _ => hQ, fun h => absurd rfl h⟩⟩
  · by_cases hz : gA v 15 d = 0
    · have hne := (h3 d hd).mp hz
      have hn1 : (d :: HL).Nodup := List.nodup_cons.mpr ⟨hne, h1⟩
      have hb1 : ∀ y ∈ d :: HL, y < 1000 := fun y hy => by
        rcases List.mem_cons.mp hy with rfl | h
        · exact hd
        · exact h2 y h
      have hl1 := nd_le hn1 hb1
      simp only [List.length_cons] at hl1
      refine ⟨sI (sB (sI (sA v 15 (upd (gA v 15) d 1)) 16 (nI (HL.length + 1))) 17 (vp_updL (gB v 17) k (pR d))) 18 (nI (k + 1)), d :: HL, k + 1, ⟨hn1, hb1, fun y hy => ?_, ?_, ?_, ?_, fun j hj => ?_⟩, ⟨fun j a b => ?_, fun j => rfl, fun j a => ?_, fun j a => ?_⟩, (fun y hy => List.mem_cons_of_mem _ hy), (fun y hy e => ?_), (fun y hy => ?_), (fun j hj => ?_), (Or.inr ⟨rfl, rfl, ?_⟩), fun Q hQ => ?_⟩
      · simp only [gA_sI, gA_sB, gA_sA, if_true]
        by_cases e : y = d
        · subst e
          rw [show upd (gA v 15) y 1 y = 1 from pk_us]
          exact ⟨fun h => absurd h (by decide), fun h => absurd List.mem_cons_self h⟩
        · rw [show upd (gA v 15) d 1 y = gA v 15 y from pk_un e, h3 y hy]
          simp [e]
      · simp [gI_sI, gI_sB, gI_sA]
      · simp [gI_sI]
      · simp only [List.length_cons]; omega
      · simp only [gB_sI, gB_sB, if_true]
        by_cases e : j = k
        · subst e; exact ⟨d, List.mem_cons_self, pk_uLs⟩
        · obtain ⟨y, hy, ey⟩ := h7 j (by omega)
          exact ⟨y, List.mem_cons_of_mem _ hy, (pk_uLn e).trans ey⟩
      · simp [gI_sI, gI_sB, gI_sA, a, b]
      · simp [gA_sI, gA_sB, gA_sA, a]
      · simp [gB_sI, gB_sB, gB_sA, a]
      · rw [pR_inj hd hy e]; exact List.mem_cons_self
      · rcases List.mem_cons.mp hy with rfl | h
        · exact Or.inr rfl
        · exact Or.inl h
      · simp only [gB_sI, gB_sB, if_true]; exact pk_uLn (by omega)
      · simp only [gB_sI, gB_sB, if_true]; exact pk_uLs
      · refine rPair_p hd ⟨fun h => absurd h (by decide), fun _ => ?_⟩
        rw [pR_cell hd, nI_clamp (show d < 2 ^ 31 by omega), h5, h4, nI_clamp (show k < 2 ^ 31 by omega), z1, show nI HL.length + (1 : Int32) = nI (HL.length + 1) from nI_1 _, show nI k + (1 : Int32) = nI (k + 1) from nI_1 _]
        exact ⟨vp_in_nI hd (by omega), fun _ => ⟨vp_in_nI hd (by omega), vp_in_nI (by omega) (by omega), hQ⟩, fun h => absurd hz h⟩
    · have hin : d ∈ HL := Classical.byContradiction (fun h => hz ((h3 d hd).mpr h))
      refine ⟨v, HL, k, hH, frH_rf v, (fun _ h => h), (fun y hy e => by rw [← pR_inj hd hy e]; exact hin), (fun y h => Or.inl h), (fun _ _ => rfl), (Or.inl ⟨rfl, rfl⟩), fun Q hQ => rPair_p hd ⟨fun h => absurd h (by decide), fun _ => ?_⟩⟩
      rw [pR_cell hd, nI_clamp (show d < 2 ^ 31 by omega)]
      exact ⟨vp_in_nI hd (by omega), fun h => absurd h hz, fun _ => hQ⟩
