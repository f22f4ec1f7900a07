/-! PURE: the reference holds all that can be come to -/
def rkid (v : St) (c b : Nat) : Prop := gB v 13 c = pR b ∨ gB v 14 c = pR b
def rwd (v : St) : Prop := ∀ d, d < 1000 → wd (gB v 13 d) ∧ wd (gB v 14 d)
/-- every held cell is still to be gone through, or its parts are held -/
def half (v : St) (HL : List Nat) (k : Nat) : Prop := ∀ c ∈ HL, (∃ j, j < k ∧ gB v 17 j = pR c) ∨ ∀ b, b < 1000 → rkid v c b → b ∈ HL
def rclo (v : St) (HL : List Nat) : Prop := ∀ c ∈ HL, ∀ b, b < 1000 → rkid v c b → b ∈ HL
theorem rkid_fr {u w : St} (h : frH u w) (a b : Nat) : rkid w a b ↔ rkid u a b := by unfold rkid; rw [h.2.2.2 13 (by decide), h.2.2.2 14 (by decide)]
theorem rwd_fr {u w : St} (h : frH u w) (hu : rwd u) : rwd w := fun d hd => by rw [h.2.2.2 13 (by decide), h.2.2.2 14 (by decide)]; exact hu d hd
/-- what holding all has done -/
def HR (v : St) (HL : List Nat) (w : St) (HN : List Nat) : Prop := Hd w HN 0 ∧ frH v w ∧ (∀ d ∈ HL, d ∈ HN) ∧ rclo v HN ∧ (∀ S : Nat → Prop, (∀ x ∈ HL, S x) → (∀ c, c < 1000 → S c → ∀ b, b < 1000 → rkid v c b → S b) → ∀ x ∈ HN, S x)
theorem HR_0 {v : St} {HL : List Nat} (hH : Hd v HL 0) (hc : half v HL 0) : HR v HL v HL := ⟨hH, frH_rf v, fun _ h => h, fun c hcc b hb hk => by
  rcases hc c hcc with ⟨j, hj, _⟩ | h
  · omega
  · exact h b hb hk, fun S s1 _ => s1⟩
theorem holdAll_exit {K : St → Prop} {v : St} {HL : List Nat} (hH : Hd v HL 0) (h : K v) : l_X10_holdAll_0 K 1 v := by
  unfold l_X10_holdAll_0
  rw [hH.2.2.2.2.1]
  exact ⟨fun _ => h, fun h => absurd (by decide) h⟩
theorem holdAll_loop : ∀ (m : Nat) (v : St) (HL : List Nat) (k : Nat), 2 * (1000 - HL.length) + k ≤ m → Hd v HL k → rwd v → half v HL k →
    ∃ (w : St) (HN : List Nat) (f : Nat), HR v HL w HN ∧ ∀ K : St → Prop, K w → l_X10_holdAll_0 K f v := by
  intro m
  induction m with
  | zero =>
    intro v HL k hm hH hw hc
    obtain rfl : k = 0 := by omega
    exact ⟨v, HL, 1, HR_0 hH hc, fun K h => holdAll_exit hH h⟩
  | succ m ih =>
    intro v HL k hm hH hw hc
    cases k with
    | zero => exact ⟨v, HL, 1, HR_0 hH hc, fun K h => holdAll_exit hH h⟩
    | succ k =>
      obtain ⟨h1, h2, h3, h4, h5, h6, h7⟩ := id hH
      have hlen := nd_le h1 h2
      obtain ⟨d, hdm, ed⟩ := h7 k (by omega)
      have hd := h2 d hdm
      have hf1 : frH v (sI v 18 (nI k)) := ⟨fun j a b => by simp only [gI_sI, if_neg b], fun _ => rfl, fun _ _ => rfl, fun _ _ => rfl⟩
      have hH1 : Hd (sI v 18 (nI k)) HL k := ⟨h1, h2, h3, h4, rfl, by omega, fun j hj => h7 j (by omega)⟩
      obtain ⟨w1, H1, k1, a1, a2, a3, a4, a5, a6, a7, a8⟩ := hold_ex hH1 (hw d hd).1
      have e14 : gB w1 14 d = gB v 14 d := by rw [a2.2.2.2 14 (by decide)]; rfl
      obtain ⟨w2, H2, k2, b1, b2, b3, b4, b5, b6, b7, b8⟩ := hold_ex (x := gB w1 14 d) a1 (by rw [e14]; exact (hw d hd).2)
      rw [e14] at b4 b5
      have hfa : frH v w1 := frH_tr hf1 a2
      have hfb : frH v w2 := frH_tr hfa b2
      have hk1 : k ≤ k1 ∧ k1 + HL.length = k + H1.length := by
        rcases a7 with ⟨e, e2⟩ | ⟨e, e2, _⟩
        · subst e; subst e2; omega
        · omega
      have hk2 : k1 ≤ k2 ∧ k2 + H1.length = k1 + H2.length := by
        rcases b7 with ⟨e, e2⟩ | ⟨e, e2, _⟩
        · subst e; subst e2; omega
        · omega
      have hl1 := nd_le a1.1 a1.2.1
      have hl2 := nd_le b1.1 b1.2.1
      have hge1 := nd_inj (f := fun x y => x = y) (fun x z y p q => p.trans q.symm) HL H1 h1 (fun x hx => ⟨x, a3 x hx, rfl⟩)
      have hge2 := nd_inj (f := fun x y => x = y) (fun x z y p q => p.trans q.symm) H1 H2 a1.1 (fun x hx => ⟨x, b3 x hx, rfl⟩)
      have hhalf : half w2 H2 k2 := fun c hcc => by
        by_cases c1 : c ∈ HL
        · rcases hc c c1 with ⟨j, hj, ej⟩ | h
          · by_cases e : j = k
            · subst e
              have hcd : c = d := pR_inj (h2 c c1) hd (ej.symm.trans ed)
              subst hcd
              refine Or.inr (fun b hb hk => ?_)
              rw [rkid_fr hfb] at hk
              rcases hk with hk | hk
              · exact b3 b (a4 b hb hk)
              · exact b4 b hb hk
            · refine Or.inl ⟨j, by omega, ?_⟩
              rw [b6 j (by omega), a6 j (by omega)]
              exact ej
          · exact Or.inr (fun b hb hk => b3 b (a3 b (h b hb ((rkid_fr hfb c b).mp hk))))
        · by_cases c2 : c ∈ H1
          · rcases a5 c c2 with h | h
            · exact absurd h c1
            · rcases a7 with ⟨_, e2⟩ | ⟨e, _, e3⟩
              · exact absurd (e2 ▸ c2) c1
              · refine Or.inl ⟨k, by omega, ?_⟩
                rw [b6 k (by omega), e3]
                exact h
          · rcases b5 c hcc with h | h
            · exact absurd h c2
            · rcases b7 with ⟨_, e2⟩ | ⟨e, _, e3⟩
              · exact absurd (e2 ▸ hcc) c2
              · exact Or.inl ⟨k1, by omega, e3.trans (e14.trans h)⟩
      obtain ⟨w, HN, f, ⟨g1, g2, g3, g4, g5⟩, hf⟩ := ih w2 H2 k2 (by omega) b1 (rwd_fr hfb hw) hhalf
      refine ⟨w, HN, f + 1, ⟨g1, frH_tr hfb g2, (fun x hx => g3 x (b3 x (a3 x hx))), (fun c hcc b hb hk => g4 c hcc b hb ((rkid_fr hfb c b).mpr hk)), (fun S s1 s2 => g5 S (fun x hx => ?_) (fun c hc0 sc b hb hk => s2 c hc0 sc b hb ((rkid_fr hfb c b).mp hk)))⟩, fun K hK => ?_⟩
      · have sd : S d := s1 d hdm
        rcases b5 x hx with h | h
        · rcases a5 x h with h9 | h9
          · exact s1 x h9
          · exact s2 d hd sd x (a1.2.1 x h) (Or.inl h9)
        · exact s2 d hd sd x (b1.2.1 x hx) (Or.inr h)
      · unfold l_X10_holdAll_0
        rw [h5, show nI (k + 1) - (1 : Int32) = nI k from nI_pred k, nI_clamp (show k < 2 ^ 31 by omega), ed]
        exact ⟨fun h => absurd h (nI_nle (by omega) (by omega)), fun _ => ⟨vp_in_nI (by omega) (by omega), first_p hd (a8 _ (behind_p hd (b8 _ (hf K hK))))⟩⟩
theorem holdAll_ex {v : St} {HL : List Nat} {k : Nat} (hH : Hd v HL k) (hw : rwd v) (hc : half v HL k) : ∃ (w : St) (HN : List Nat), HR v HL w HN ∧ ∀ Q : St → Prop, Q w → wp_X10_holdAll v Q := by
  obtain ⟨w, HN, f, h1, h2⟩ := holdAll_loop _ v HL k (Nat.le_refl _) hH hw hc
  exact ⟨w, HN, h1, fun Q hQ => ⟨f, h2 (fun w => Q w) hQ⟩⟩
