/-! PURE: the class's room -/
/-- only what marking and sweeping use differs -/
def frK (u w : St) : Prop := (∀ k, k ≠ 805 → k ≠ 806 → k ≠ 807 → gI w k = gI u k) ∧ (∀ k, gJ w k = gJ u k) ∧ (∀ k, k ≠ 802 → k ≠ 804 → gA w k = gA u k) ∧ (∀ k, k ≠ 803 → k ≠ 403 → gB w k = gB u k)
theorem frK_rf (u : St) : frK u u := ⟨fun _ _ _ _ => rfl, fun _ => rfl, fun _ _ _ => rfl, fun _ _ _ => rfl⟩
theorem frK_tr {u v w : St} (h1 : frK u v) (h2 : frK v w) : frK u w := ⟨fun k a b c => (h2.1 k a b c).trans (h1.1 k a b c), fun k => (h2.2.1 k).trans (h1.2.1 k), fun k a b => (h2.2.2.1 k a b).trans (h1.2.2.1 k a b), fun k a b => (h2.2.2.2 k a b).trans (h1.2.2.2 k a b)⟩
theorem frK_M {u w : St} (h : frM u w) : frK u w := ⟨fun k _ _ c => h.1 k c, h.2.1.1, fun k a _ => h.2.2.1 k a, fun k a _ => h.2.2.2 k a⟩
theorem frK_S {u w : St} (h : frS u w) : frK u w := ⟨fun k a _ _ => h.1 k a, h.2.1, fun k _ b => h.2.2.1 k b, fun k _ _ => h.2.2.2 k⟩
/-- a root of the class's marking -/
def rt (u : St) (T w m : Nat) (x y : Int64) (z : Int64) : Prop := (∃ j, j < T ∧ gB u 201 j = z) ∨ (∃ j, j < w * 11 ∧ gB u 302 j = z) ∨ (∃ j, j < m ∧ gB u 605 j = z) ∨ x = z ∨ y = z
def Swept (u : St) (n T w m : Nat) (x y : Int64) (u1 : St) (ML FL : List Nat) : Prop := FR u1 n FL ∧ (∀ c, c < n → (c ∈ FL ↔ c ∉ ML)) ∧ ML.Nodup ∧ (∀ c ∈ ML, c < n) ∧ clo u n ML ∧ (∀ c, c < n → rt u T w m x y (pC c) → c ∈ ML) ∧ (∀ S : Nat → Prop, (∀ c, c < n → rt u T w m x y (pC c) → S c) → (∀ c, c < n → S c → ∀ b, b < n → kid u c b → S b) → ∀ c ∈ ML, S c)
theorem begin_ex {N : Nat → Nat} {n R : Nat} {u : St} (hR : RI u n R) (hb : R + 1 < 2 ^ 30) : ∃ w, (∀ k, k ≠ 806 → k ≠ 807 → gI w k = gI u k) ∧ (∀ k, gJ w k = gJ u k) ∧ (∀ k, gA w k = gA u k) ∧ (∀ k, gB w k = gB u k) ∧ gI w 806 = nI (R + 1) ∧ Mk w n [] ∧ ∀ Q : St → Prop, Q w → wp_X0_beginMarking N u Q := by
  refine ⟨sI (sI u 806 (gI u 806 + (1 : Int32))) 807 (0 : Int32), ?_⟩
  have h := begin_ok (N := N) (Q := fun w => w = sI (sI u 806 (gI u 806 + (1 : Int32))) 807 (0 : Int32) → (∀ k, k ≠ 806 → k ≠ 807 → gI w k = gI u k) ∧ (∀ k, gJ w k = gJ u k) ∧ (∀ k, gA w k = gA u k) ∧ (∀ k, gB w k = gB u k) ∧ gI w 806 = nI (R + 1) ∧ Mk w n []) hR hb (fun w h1 h2 h3 h4 h5 h6 _ => ⟨h1, h2, h3, h4, h5, h6⟩)
  obtain ⟨h1, h2, h3, h4, h5, h6⟩ := h rfl
  exact ⟨h1, h2, h3, h4, h5, h6, fun Q hQ => hQ⟩
/-! GENERATED -/
theorem hasRoom_21_ex {N : Nat → Nat} {n t R T w m k : Nat} {x y : Int64} {u : St} {FL : List Nat} (hN : LN N n t) (hR : RI u n R) (hb : R + 1 < 2 ^ 30) (hF : FR u n FL) (hT : gI u 202 = nI T) (hT2 : T ≤ 150) (hw : gI u 303 = nI w) (hw2 : w ≤ t) (hm : m ≤ 8) (hk : k < 3000) :
    (k ≤ FL.length ∧ ∀ Q : Int32 → St → Prop, Q 1 u → wp_X1_hasRoom_21 N (nI k) (nI m) x y u Q) ∨
    (∃ (u1 : St) (ML F1 : List Nat), frK u u1 ∧ RI u1 n (R + 1) ∧ Swept u n T w m x y u1 ML F1 ∧ ∀ Q : Int32 → St → Prop, (k ≤ F1.length → Q 1 u1) → (¬ k ≤ F1.length → Q 0 u1) → wp_X1_hasRoom_21 N (nI k) (nI m) x y u Q) := by
  have hn := hN.2.2.2.2.2.2.2.2.1
  have ht := hN.2.2.2.2.2.2.2.2.2.1
  have hFl := nd_le hF.2.1 hF.2.2.1
  by_cases hkf : k ≤ FL.length
  · refine Or.inl ⟨hkf, fun Q hQ => ⟨fun d => absurd d ?_, fun _ => hQ⟩⟩
    rw [hF.1]
    exact nI_nlt hkf (by omega)
  · refine Or.inr ?_
    let u0 : St := sB (sB u 403 (vp_updL (gB u 403) ((0 : Int32)).toNatClampNeg x)) 403 (vp_updL (vp_updL (gB u 403) ((0 : Int32)).toNatClampNeg x) ((1 : Int32)).toNatClampNeg y)
    have hR0 : RI u0 n R := hR
    obtain ⟨b, b1, b2, b3, b4, b5, b6, b7⟩ := begin_ex (N := N) hR0 hb
    have e1 : gI b 202 = nI T := (b1 202 (by decide) (by decide)).trans hT
    obtain ⟨w1, M1, d1, q1⟩ := mark_11 (len := T) hN hT2 b6 (fun c hc => absurd hc List.not_mem_nil)
    have e2 : gI w1 303 = nI w := (d1.2.1.1 303 (by decide)).trans ((b1 303 (by decide) (by decide)).trans hw)
    have e2' : gI w1 303 * (11 : Int32) = nI (w * 11) := by rw [e2]; exact pk_mul w 11
    obtain ⟨w2, M2, d2, q2⟩ := mark_14 (len := w * 11) hN (by have := Nat.mul_le_mul_right 11 hw2; omega) d1.1 (by intro c hc bb hbb hkk; exact d1.2.2.2.2.1 c hc bb hbb ((kid_fr d1.2.1 c bb).mp hkk))
    obtain ⟨w3, M3, d3, q3⟩ := mark_21 (len := m) hN (by omega) d2.1 (by intro c hc bb hbb hkk; exact d2.2.2.2.2.1 c hc bb hbb ((kid_fr d2.2.1 c bb).mp hkk))
    obtain ⟨w4, M4, d4, q4⟩ := mark_15 (len := 2) hN (by omega) d3.1 (by intro c hc bb hbb hkk; exact d3.2.2.2.2.1 c hc bb hbb ((kid_fr d3.2.1 c bb).mp hkk))
    obtain ⟨u1, F1, ⟨s1, s2, s3⟩, q5⟩ := sweep_ex (ML := M4) hN d4.1.2.2.1
    have f12 := frM_tr d1.2.1 d2.2.1
    have f13 := frM_tr f12 d3.2.1
    have f14 := frM_tr f13 d4.2.1
    have kb : ∀ c bb, kid b c bb ↔ kid u c bb := fun c bb => by unfold kid; rw [b4 800, b4 801]; exact Iff.rfl
    have k1 : ∀ c bb, kid w1 c bb ↔ kid u c bb := fun c bb => (kid_fr d1.2.1 c bb).trans (kb c bb)
    have k2 : ∀ c bb, kid w2 c bb ↔ kid u c bb := fun c bb => (kid_fr f12 c bb).trans (kb c bb)
    have k3 : ∀ c bb, kid w3 c bb ↔ kid u c bb := fun c bb => (kid_fr f13 c bb).trans (kb c bb)
    have r1 : gB b 201 = gB u 201 := b4 201
    have r2 : gB w1 302 = gB u 302 := (d1.2.1.2.2.2 302 (by decide)).trans (b4 302)
    have r3 : gB w2 605 = gB u 605 := (f12.2.2.2 605 (by decide)).trans (b4 605)
    have r4 : gB w3 403 = gB u0 403 := (f13.2.2.2 403 (by decide)).trans (b4 403)
    have r40 : gB w3 403 0 = x := by rw [r4]; rfl
    have r41 : gB w3 403 1 = y := by rw [r4]; rfl
    have i2 : ∀ c ∈ M1, c ∈ M4 := fun c h => d4.2.2.1 c (d3.2.2.1 c (d2.2.2.1 c h))
    have i3 : ∀ c ∈ M2, c ∈ M4 := fun c h => d4.2.2.1 c (d3.2.2.1 c h)
    have i4 : ∀ c ∈ M3, c ∈ M4 := fun c h => d4.2.2.1 c h
    refine ⟨u1, M4, F1, ?_, ?_, ⟨s2, s3, d4.1.1, d4.1.2.1, ?_, ?_, ?_⟩, ?_⟩
    · refine frK_tr (frK_tr (v := b) ⟨fun k _ h2 h3 => b1 k h2 h3, b2, fun k _ _ => b3 k, fun k _ h2 => ?_⟩ (frK_M f14)) (frK_S s1)
      rw [b4 k]
      show gB (sB (sB u 403 _) 403 _) k = gB u k
      rw [gB_sB, if_neg h2, gB_sB, if_neg h2]
    · refine RI_of (u := u) hR.2 ?_ (fun c hc => ?_)
      · rw [s1.1 806 (by decide), f14.1 806 (by decide)]; exact b5
      · rw [s1.2.2.1 802 (by decide), s1.1 806 (by decide), f14.1 806 (by decide)]
        rcases f14.2.1.2 c with h | h
        · left; rw [h, b3 802]; rfl
        · right; exact h
    · intro c hc bb hbb hkk
      exact d4.2.2.2.2.1 c hc bb hbb ((k3 c bb).mpr hkk)
    · rintro c hc (⟨j, hj, e⟩ | ⟨j, hj, e⟩ | ⟨j, hj, e⟩ | e | e)
      · exact i2 c (d1.2.2.2.1 j hj c hc (by rw [r1]; exact e))
      · exact i3 c (d2.2.2.2.1 j hj c hc (by rw [r2]; exact e))
      · exact i4 c (d3.2.2.2.1 j hj c hc (by rw [r3]; exact e))
      · exact d4.2.2.2.1 0 (by omega) c hc (r40.trans e)
      · exact d4.2.2.2.1 1 (by omega) c hc (r41.trans e)
    · intro S hs hcl
      refine d4.2.2.2.2.2 S (d3.2.2.2.2.2 S (d2.2.2.2.2.2 S (d1.2.2.2.2.2 S (fun c hc => absurd hc List.not_mem_nil) ?_ ?_) ?_ ?_) ?_ ?_) ?_ ?_
      · intro j hj c hc e
        exact hs c hc (Or.inl ⟨j, hj, by rw [← r1]; exact e⟩)
      · intro c hc sc bb hbb hkk
        exact hcl c hc sc bb hbb ((kb c bb).mp hkk)
      · intro j hj c hc e
        exact hs c hc (Or.inr (Or.inl ⟨j, hj, by rw [← r2]; exact e⟩))
      · intro c hc sc bb hbb hkk
        exact hcl c hc sc bb hbb ((k1 c bb).mp hkk)
      · intro j hj c hc e
        exact hs c hc (Or.inr (Or.inr (Or.inl ⟨j, hj, by rw [← r3]; exact e⟩)))
      · intro c hc sc bb hbb hkk
        exact hcl c hc sc bb hbb ((k2 c bb).mp hkk)
      · intro j hj c hc e
        have hj2 : j = 0 ∨ j = 1 := by omega
        rcases hj2 with rfl | rfl
        · exact hs c hc (Or.inr (Or.inr (Or.inr (Or.inl (r40.symm.trans e)))))
        · exact hs c hc (Or.inr (Or.inr (Or.inr (Or.inr (r41.symm.trans e)))))
      · intro c hc sc bb hbb hkk
        exact hcl c hc sc bb hbb ((k3 c bb).mp hkk)
    · intro Q hQ1 hQ0
      have hF1 := nd_le s2.2.1 s2.2.2.1
      refine ⟨fun _ => b7 _ ?_, fun d => absurd (by rw [hF.1]; exact nI_lt (by omega) (by omega)) d⟩
      show wp_X0_mark_11 N (gI b 202) b _
      rw [e1]
      refine q1 _ ?_
      show wp_X0_mark_14 N (gI w1 303 * (11 : Int32)) w1 _
      rw [e2']
      refine q2 _ (q3 _ (q4 _ (q5 _ ⟨fun d => ?_, fun d => ?_⟩)))
      · rw [s2.1] at d
        exact hQ0 (fun h => nI_nlt h (by omega) d)
      · rw [s2.1] at d
        exact hQ1 (Classical.byContradiction (fun h => d (nI_lt (by omega) (by omega))))
theorem hasRoom_20_ex {N : Nat → Nat} {n t R T w m k : Nat} {x y : Int64} {u : St} {FL : List Nat} (hN : LN N n t) (hR : RI u n R) (hb : R + 1 < 2 ^ 30) (hF : FR u n FL) (hT : gI u 202 = nI T) (hT2 : T ≤ 150) (hw : gI u 303 = nI w) (hw2 : w ≤ t) (hm : m ≤ 0) (hk : k < 3000) :
    (k ≤ FL.length ∧ ∀ Q : Int32 → St → Prop, Q 1 u → wp_X1_hasRoom_20 N (nI k) (nI m) x y u Q) ∨
    (∃ (u1 : St) (ML F1 : List Nat), frK u u1 ∧ RI u1 n (R + 1) ∧ Swept u n T w m x y u1 ML F1 ∧ ∀ Q : Int32 → St → Prop, (k ≤ F1.length → Q 1 u1) → (¬ k ≤ F1.length → Q 0 u1) → wp_X1_hasRoom_20 N (nI k) (nI m) x y u Q) := by
  have hn := hN.2.2.2.2.2.2.2.2.1
  have ht := hN.2.2.2.2.2.2.2.2.2.1
  have hFl := nd_le hF.2.1 hF.2.2.1
  by_cases hkf : k ≤ FL.length
  · refine Or.inl ⟨hkf, fun Q hQ => ⟨fun d => absurd d ?_, fun _ => hQ⟩⟩
    rw [hF.1]
    exact nI_nlt hkf (by omega)
  · refine Or.inr ?_
    let u0 : St := sB (sB u 403 (vp_updL (gB u 403) ((0 : Int32)).toNatClampNeg x)) 403 (vp_updL (vp_updL (gB u 403) ((0 : Int32)).toNatClampNeg x) ((1 : Int32)).toNatClampNeg y)
    have hR0 : RI u0 n R := hR
    obtain ⟨b, b1, b2, b3, b4, b5, b6, b7⟩ := begin_ex (N := N) hR0 hb
    have e1 : gI b 202 = nI T := (b1 202 (by decide) (by decide)).trans hT
    obtain ⟨w1, M1, d1, q1⟩ := mark_11 (len := T) hN hT2 b6 (fun c hc => absurd hc List.not_mem_nil)
    have e2 : gI w1 303 = nI w := (d1.2.1.1 303 (by decide)).trans ((b1 303 (by decide) (by decide)).trans hw)
    have e2' : gI w1 303 * (11 : Int32) = nI (w * 11) := by rw [e2]; exact pk_mul w 11
    obtain ⟨w2, M2, d2, q2⟩ := mark_14 (len := w * 11) hN (by have := Nat.mul_le_mul_right 11 hw2; omega) d1.1 (by intro c hc bb hbb hkk; exact d1.2.2.2.2.1 c hc bb hbb ((kid_fr d1.2.1 c bb).mp hkk))
    obtain ⟨w3, M3, d3, q3⟩ := mark_20 (len := m) hN (by omega) d2.1 (by intro c hc bb hbb hkk; exact d2.2.2.2.2.1 c hc bb hbb ((kid_fr d2.2.1 c bb).mp hkk))
    obtain ⟨w4, M4, d4, q4⟩ := mark_15 (len := 2) hN (by omega) d3.1 (by intro c hc bb hbb hkk; exact d3.2.2.2.2.1 c hc bb hbb ((kid_fr d3.2.1 c bb).mp hkk))
    obtain ⟨u1, F1, ⟨s1, s2, s3⟩, q5⟩ := sweep_ex (ML := M4) hN d4.1.2.2.1
    have f12 := frM_tr d1.2.1 d2.2.1
    have f13 := frM_tr f12 d3.2.1
    have f14 := frM_tr f13 d4.2.1
    have kb : ∀ c bb, kid b c bb ↔ kid u c bb := fun c bb => by unfold kid; rw [b4 800, b4 801]; exact Iff.rfl
    have k1 : ∀ c bb, kid w1 c bb ↔ kid u c bb := fun c bb => (kid_fr d1.2.1 c bb).trans (kb c bb)
    have k2 : ∀ c bb, kid w2 c bb ↔ kid u c bb := fun c bb => (kid_fr f12 c bb).trans (kb c bb)
    have k3 : ∀ c bb, kid w3 c bb ↔ kid u c bb := fun c bb => (kid_fr f13 c bb).trans (kb c bb)
    have r1 : gB b 201 = gB u 201 := b4 201
    have r2 : gB w1 302 = gB u 302 := (d1.2.1.2.2.2 302 (by decide)).trans (b4 302)
    have r3 : gB w2 508 = gB u 508 := (f12.2.2.2 508 (by decide)).trans (b4 508)
    have r4 : gB w3 403 = gB u0 403 := (f13.2.2.2 403 (by decide)).trans (b4 403)
    have r40 : gB w3 403 0 = x := by rw [r4]; rfl
    have r41 : gB w3 403 1 = y := by rw [r4]; rfl
    have i2 : ∀ c ∈ M1, c ∈ M4 := fun c h => d4.2.2.1 c (d3.2.2.1 c (d2.2.2.1 c h))
    have i3 : ∀ c ∈ M2, c ∈ M4 := fun c h => d4.2.2.1 c (d3.2.2.1 c h)
    have i4 : ∀ c ∈ M3, c ∈ M4 := fun c h => d4.2.2.1 c h
    refine ⟨u1, M4, F1, ?_, ?_, ⟨s2, s3, d4.1.1, d4.1.2.1, ?_, ?_, ?_⟩, ?_⟩
    · refine frK_tr (frK_tr (v := b) ⟨fun k _ h2 h3 => b1 k h2 h3, b2, fun k _ _ => b3 k, fun k _ h2 => ?_⟩ (frK_M f14)) (frK_S s1)
      rw [b4 k]
      show gB (sB (sB u 403 _) 403 _) k = gB u k
      rw [gB_sB, if_neg h2, gB_sB, if_neg h2]
    · refine RI_of (u := u) hR.2 ?_ (fun c hc => ?_)
      · rw [s1.1 806 (by decide), f14.1 806 (by decide)]; exact b5
      · rw [s1.2.2.1 802 (by decide), s1.1 806 (by decide), f14.1 806 (by decide)]
        rcases f14.2.1.2 c with h | h
        · left; rw [h, b3 802]; rfl
        · right; exact h
    · intro c hc bb hbb hkk
      exact d4.2.2.2.2.1 c hc bb hbb ((k3 c bb).mpr hkk)
    · rintro c hc (⟨j, hj, e⟩ | ⟨j, hj, e⟩ | ⟨j, hj, e⟩ | e | e)
      · exact i2 c (d1.2.2.2.1 j hj c hc (by rw [r1]; exact e))
      · exact i3 c (d2.2.2.2.1 j hj c hc (by rw [r2]; exact e))
      · omega
      · exact d4.2.2.2.1 0 (by omega) c hc (r40.trans e)
      · exact d4.2.2.2.1 1 (by omega) c hc (r41.trans e)
    · intro S hs hcl
      refine d4.2.2.2.2.2 S (d3.2.2.2.2.2 S (d2.2.2.2.2.2 S (d1.2.2.2.2.2 S (fun c hc => absurd hc List.not_mem_nil) ?_ ?_) ?_ ?_) ?_ ?_) ?_ ?_
      · intro j hj c hc e
        exact hs c hc (Or.inl ⟨j, hj, by rw [← r1]; exact e⟩)
      · intro c hc sc bb hbb hkk
        exact hcl c hc sc bb hbb ((kb c bb).mp hkk)
      · intro j hj c hc e
        exact hs c hc (Or.inr (Or.inl ⟨j, hj, by rw [← r2]; exact e⟩))
      · intro c hc sc bb hbb hkk
        exact hcl c hc sc bb hbb ((k1 c bb).mp hkk)
      · intro j hj c hc e
        omega
      · intro c hc sc bb hbb hkk
        exact hcl c hc sc bb hbb ((k2 c bb).mp hkk)
      · intro j hj c hc e
        have hj2 : j = 0 ∨ j = 1 := by omega
        rcases hj2 with rfl | rfl
        · exact hs c hc (Or.inr (Or.inr (Or.inr (Or.inl (r40.symm.trans e)))))
        · exact hs c hc (Or.inr (Or.inr (Or.inr (Or.inr (r41.symm.trans e)))))
      · intro c hc sc bb hbb hkk
        exact hcl c hc sc bb hbb ((k3 c bb).mp hkk)
    · intro Q hQ1 hQ0
      have hF1 := nd_le s2.2.1 s2.2.2.1
      refine ⟨fun _ => b7 _ ?_, fun d => absurd (by rw [hF.1]; exact nI_lt (by omega) (by omega)) d⟩
      show wp_X0_mark_11 N (gI b 202) b _
      rw [e1]
      refine q1 _ ?_
      show wp_X0_mark_14 N (gI w1 303 * (11 : Int32)) w1 _
      rw [e2']
      refine q2 _ (q3 _ (q4 _ (q5 _ ⟨fun d => ?_, fun d => ?_⟩)))
      · rw [s2.1] at d
        exact hQ0 (fun h => nI_nlt h (by omega) d)
      · rw [s2.1] at d
        exact hQ1 (Classical.byContradiction (fun h => d (nI_lt (by omega) (by omega))))
