/-! PURE: the machine on both sides -/
/-- the names are as many, and those that are still to come have no global -/
def Gz (u0 u : St) : Prop := gI u 202 = gI u0 202 ∧ ∀ T k, T ≤ 150 → gI u0 202 = nI T → T ≤ k → k < 150 → gB u 201 k = gB u0 201 k
def FzC (u0 u : St) : Prop := gI u 7 = gI u0 7 ∧ gI u 101 = gI u0 101 ∧ gI u 102 = gI u0 102 ∧ gI u 103 = gI u0 103 ∧ gI u 706 = gI u0 706 ∧ gA u 100 = gA u0 100 ∧ gA u 702 = gA u0 702 ∧ gB u 200 = gB u0 200 ∧ Gz u0 u
def FzR (v0 v : St) : Prop := gI v 0 = gI v0 0 ∧ gI v 5 = gI v0 5 ∧ gI v 6 = gI v0 6 ∧ gI v 7 = gI v0 7 ∧ gI v 12 = gI v0 12 ∧ gA v 4 = gA v0 4 ∧ gA v 11 = gA v0 11 ∧ gB v 19 = gB v0 19
def Rest (t s st : Nat) (f : Int32) (u0 v0 u v : St) : Prop := (gI u 604 = nI s ∧ gI v 3 = nI s ∧ gI v 2 = nI t ∧ gI u 607 = nI st ∧ gI v 9 = nI st) ∧ (gI u 609 = f ∧ gI v 8 = f) ∧ FzC u0 u ∧ FzR v0 v
def Mh (r : Nat → Nat → Prop) (A : Nat → Prop) (T n t C : Nat) (u v : St) : Prop := Core r A T n u v ∧ (∃ FL, FR u n FL ∧ ∀ c d, r c d → c ∉ FL) ∧ (∃ R, RI u n R ∧ R ≤ C) ∧ Gr t u v
def ME (r : Nat → Nat → Prop) (A : Nat → Prop) (T : Nat) (u v : St) : Prop := gI u 608 = 0 ∧ gI v 39 = 0 ∧ ob r T (gJ u 610) (gJ v 40) ∧ ob r T (gJ u 613) (gJ v 41) ∧ bn A (gJ v 41)
def MP (r : Nat → Nat → Prop) (A : Nat → Prop) (T : Nat) (u v : St) : Prop := gI u 608 = 2 ∧ gI v 39 = 1 ∧ ob r T (gJ u 612) (gJ v 40) ∧ ob r T (gJ u 613) (gJ v 41) ∧ bn A (gJ v 41) ∧ ∃ m, m ≤ 8 ∧ gI u 606 = nI m ∧ gI v 43 = nI m ∧ ∀ k, k < m → ob r T (gB u 605 k) (gB v 42 k)
def MH (r : Nat → Nat → Prop) (T : Nat) (u v : St) : Prop := gI u 608 = 3 ∧ gI v 39 = 2 ∧ ob r T (gJ u 614) (gJ v 40)
def Fld (T n t s C st : Nat) (u0 v0 u v : St) : Prop := ∃ r A f, f ≠ 0 ∧ Mh r A T n t C u v ∧ Rest t s st f u0 v0 u v
def RunE (T n t s C st : Nat) (u0 v0 u v : St) : Prop := ∃ r A w cnt, Mh r A T n t C u v ∧ Wt r A T t w cnt u v ∧ Rest t s st 0 u0 v0 u v ∧ ME r A T u v
def RunP (T n t s C st : Nat) (u0 v0 u v : St) : Prop := ∃ r A w cnt, Mh r A T n t C u v ∧ Wt r A T t w cnt u v ∧ Rest t s st 0 u0 v0 u v ∧ MP r A T u v
def RunH (T n t s C st : Nat) (u0 v0 u v : St) : Prop := ∃ r A w cnt, Mh r A T n t C u v ∧ Wt r A T t w cnt u v ∧ Rest t s st 0 u0 v0 u v ∧ MH r T u v
def Res (T n t s C st : Nat) (u0 v0 u v : St) : Prop := RunE T n t s C st u0 v0 u v ∨ RunP T n t s C st u0 v0 u v ∨ RunH T n t s C st u0 v0 u v ∨ Fld T n t s C st u0 v0 u v
theorem fails_ok {v : St} {f : Int32} {Q : St → Prop} (h8 : gI v 8 = 0) (h : Q (sI v 8 f)) : wp_X10_fails f v Q := ⟨fun _ => h, fun c => absurd h8 c⟩
theorem fld_ok {r A T n t s C st u0 v0} {u v : St} (f : Int32) (hf : f ≠ 0) (h : Mh r A T n t C u v) (hr : Rest t s st 0 u0 v0 u v) : Res T n t s C st u0 v0 (sI u 609 f) (sI v 8 f) := Or.inr (Or.inr (Or.inr ⟨r, A, f, hf, h, hr.1, ⟨rfl, rfl⟩, hr.2.2⟩))
theorem Rest_U {t s st f u0 v0} {u v u1 v1 : St} (h : Rest t s st f u0 v0 u v) (h1 : frU u u1) (h2 : frV v v1) : Rest t s st f u0 v0 u1 v1 := by
  unfold Rest FzC FzR Gz
  rw [h1.1 604 (by decide) (by decide), h1.1 607 (by decide) (by decide), h1.1 609 (by decide) (by decide), h1.1 7 (by decide) (by decide), h1.1 101 (by decide) (by decide), h1.1 102 (by decide) (by decide), h1.1 103 (by decide) (by decide), h1.1 706 (by decide) (by decide), h1.2.2.1 100 (by decide) (by decide), h1.2.2.1 702 (by decide) (by decide), h1.2.2.2 200 (by decide), h1.1 202 (by decide) (by decide), h1.2.2.2 201 (by decide)]
  rw [h2.1 3 (by decide) (by decide), h2.1 2 (by decide) (by decide), h2.1 9 (by decide) (by decide), h2.1 8 (by decide) (by decide), h2.1 0 (by decide) (by decide), h2.1 5 (by decide) (by decide), h2.1 6 (by decide) (by decide), h2.1 7 (by decide) (by decide), h2.1 12 (by decide) (by decide), h2.2.2.1 4 (by decide) (by decide), h2.2.2.1 11 (by decide) (by decide), h2.2.2.2 19 (by decide) (by decide) (by decide) (by decide)]
  exact h
theorem Rest_K {t s st f u0 v0} {u v u1 v1 : St} (h : Rest t s st f u0 v0 u v) (h1 : frK u u1) (h2 : frH v v1) : Rest t s st f u0 v0 u1 v1 := by
  unfold Rest FzC FzR Gz
  rw [h1.1 604 (by decide) (by decide) (by decide), h1.1 607 (by decide) (by decide) (by decide), h1.1 609 (by decide) (by decide) (by decide), h1.1 7 (by decide) (by decide) (by decide), h1.1 101 (by decide) (by decide) (by decide), h1.1 102 (by decide) (by decide) (by decide), h1.1 103 (by decide) (by decide) (by decide), h1.1 706 (by decide) (by decide) (by decide), h1.2.2.1 100 (by decide) (by decide), h1.2.2.1 702 (by decide) (by decide), h1.2.2.2 200 (by decide) (by decide), h1.1 202 (by decide) (by decide) (by decide), h1.2.2.2 201 (by decide) (by decide)]
  rw [h2.1 3 (by decide) (by decide), h2.1 2 (by decide) (by decide), h2.1 9 (by decide) (by decide), h2.1 8 (by decide) (by decide), h2.1 0 (by decide) (by decide), h2.1 5 (by decide) (by decide), h2.1 6 (by decide) (by decide), h2.1 7 (by decide) (by decide), h2.1 12 (by decide) (by decide), h2.2.2.1 4 (by decide), h2.2.2.1 11 (by decide), h2.2.2.2 19 (by decide)]
  exact h
theorem Rest_N {t s st f u0 v0} {u v u1 v1 : St} (h : Rest t s st f u0 v0 u v) (h1 : frN u u1) (h2 : frP v v1) : Rest t s st f u0 v0 u1 v1 := by
  unfold Rest FzC FzR Gz
  rw [h1.1 604 (by decide), h1.1 607 (by decide), h1.1 609 (by decide), h1.1 7 (by decide), h1.1 101 (by decide), h1.1 102 (by decide), h1.1 103 (by decide), h1.1 706 (by decide), h1.2.2.1 100, h1.2.2.1 702, h1.2.2.2 200 (by decide) (by decide), h1.1 202 (by decide), h1.2.2.2 201 (by decide) (by decide)]
  rw [h2.1 3, h2.1 2, h2.1 9, h2.1 8, h2.1 0, h2.1 5, h2.1 6, h2.1 7, h2.1 12, h2.2.2.1 4 (by decide), h2.2.2.1 11 (by decide), h2.2.2.2 19 (by decide) (by decide)]
  exact h
theorem Core_U {r A T n} {u v u1 v1 : St} (h : Core r A T n u v) (h1 : frU u u1) (h2 : frV v v1) : Core r A T n u1 v1 := by
  unfold Core HpR SP AL rwd Glb
  rw [h1.2.2.2 800 (by decide), h1.2.2.2 801 (by decide), h1.2.2.2 201 (by decide), h1.1 202 (by decide) (by decide), h2.2.2.2 13 (by decide) (by decide) (by decide) (by decide), h2.2.2.2 14 (by decide) (by decide) (by decide) (by decide), h2.2.2.2 20 (by decide) (by decide) (by decide) (by decide), h2.1 21 (by decide) (by decide), h2.1 1 (by decide) (by decide)]
  exact h
theorem Mh_U {r A T n t C} {u v u1 v1 : St} (h : Mh r A T n t C u v) (hg : Gr t u1 v1) (h1 : frU u u1) (h2 : frV v v1) : Mh r A T n t C u1 v1 := by
  obtain ⟨a1, a2, a3, a4⟩ := h
  refine ⟨Core_U a1 h1 h2, ?_, ?_, hg⟩
  · unfold FR
    rw [h1.1 805 (by decide) (by decide), h1.2.2.1 804 (by decide) (by decide)]
    exact a2
  · unfold RI
    rw [h1.1 806 (by decide) (by decide), h1.2.2.1 802 (by decide) (by decide)]
    exact a3
theorem car_ob {N : Nat → Nat} {r T n t} {u v : St} {x y : Int64} {Q : Int64 → St → Prop} (hN : LN N n t) (h : HpR r T n u v) (hT : T ≤ 150) (hT0 : 0 < T) (ho : ob r T x y) (hq : ∀ z, (∃ z2, ob r T z z2) → Q z u) : wp_X0_car N x u Q := by
  rcases ho with ⟨m, rfl, _⟩ | ⟨k, hk, rfl, _⟩ | ⟨c, d, hr, rfl, _⟩
  · exact car_n (hq _ ⟨aR 0, ob_a hT0⟩)
  · exact car_a (by omega) (hq _ ⟨aR 0, ob_a hT0⟩)
  · exact car_p hN (h.1 _ _ hr).1 (hq _ ⟨_, (h.2.2.2 _ _ hr).1⟩)
/-- COND looks at its first clause -/
theorem choose_both {N : Nat → Nat} {r A T n t s C st w cnt u0 v0} {u v : St} {y : Int64} (hN : LN N n t) (h : Mh r A T n t C u v) (hW : Wt r A T t w cnt u v) (hR : Rest t s st 0 u0 v0 u v) (hc : ob r T (gJ u 611) y) (hb : ob r T (gJ u 613) (gJ v 41)) (hbn : bn A (gJ v 41)) :
    ∃ u1 v1, (RunE T n t s C st u0 v0 u1 v1 ∨ Fld T n t s C st u0 v0 u1 v1) ∧ (∀ Q : St → Prop, Q u1 → wp_X2_choose N u Q) ∧ (∀ Q : St → Prop, Q v1 → wp_X10_condition y v Q) := by
  have hn := hN.2.2.2.2.2.2.2.2.1
  have hT := h.1.2.2.2.2.1.2.2.2
  have hT0 : 0 < T := by have := h.1.2.2.2.2.1.2.2.1; omega
  have h8 := hR.2.1.2
  have hfl : ∀ f : Int32, f ≠ 0 → Fld T n t s C st u0 v0 (sI u 609 f) (sI v 8 f) := fun f hf => ⟨r, A, f, hf, h, hR.1, ⟨rfl, rfl⟩, hR.2.2⟩
  have hE : gJ u 611 = (1099511627776 : Int64) ↔ y = (4294967296 : Int64) := obE h.1.1 hT hn hc (ob_a (k := 0) hT0)
  by_cases hnil : gJ u 611 = (1099511627776 : Int64)
  · refine ⟨sI u 609 5, sI v 8 5, Or.inr (hfl 5 (by decide)), fun Q hQ => ?_, fun Q hQ => ?_⟩
    · exact car_ob hN h.1.1 hT hT0 hc (fun z _ => ⟨fun _ => hQ, fun h => absurd hnil h⟩)
    · exact ⟨fun _ => fails_ok h8 hQ, fun h => absurd (hE.mp hnil) h⟩
  · have hny : ¬ y = (4294967296 : Int64) := fun e => hnil (hE.mpr e)
    rcases id hc with ⟨m, e1, e2⟩ | ⟨k, hk, e1, e2⟩ | ⟨c, d, hr, e1, e2⟩
    · refine ⟨sI u 609 3, sI v 8 3, Or.inr (hfl 3 (by decide)), fun Q hQ => ?_, fun Q hQ => ?_⟩
      · refine car_ob hN h.1.1 hT hT0 hc (fun z _ => ⟨fun h => absurd h hnil, fun _ => ?_⟩)
        rw [e1]; exact isPair_n ⟨fun _ => hQ, fun h => absurd rfl h⟩
      · refine ⟨fun h => absurd h hny, fun _ => ?_⟩
        rw [e2]; exact rPair_n ⟨fun _ => fails_ok h8 hQ, fun h => absurd rfl h⟩
    · refine ⟨sI u 609 3, sI v 8 3, Or.inr (hfl 3 (by decide)), fun Q hQ => ?_, fun Q hQ => ?_⟩
      · refine car_ob hN h.1.1 hT hT0 hc (fun z _ => ⟨fun h => absurd h hnil, fun _ => ?_⟩)
        rw [e1]; exact isPair_a (by omega) ⟨fun _ => hQ, fun h => absurd rfl h⟩
      · refine ⟨fun h => absurd h hny, fun _ => ?_⟩
        rw [e2]; exact rPair_a (by omega) ⟨fun _ => fails_ok h8 hQ, fun h => absurd rfl h⟩
    · have a1 := h.1.1.1 _ _ hr
      have oc := (h.1.1.2.2.2 _ _ hr).1
      have hC : ∀ Q : St → Prop, wp_X0_isListOf N (gB u 800 c) (2 : Int32) u (fun (r4 : Int32) (u5 : St) => ((r4 = 0 → Q (sI u5 609 (3 : Int32))) ∧ (¬ r4 = 0 → wp_X7_push N (1 : Int32) (1099511627776 : Int64) (gJ u5 611) (gJ u5 613) u5 (fun (r6 : Int32) (u7 : St) => ((r6 = 0 → Q (sI u7 609 (7 : Int32))) ∧ (¬ r6 = 0 → wp_X0_car N (gB u 800 c) u7 (fun (r8 : Int64) (u9 : St) => wp_X2_beginEvaluating N r8 (gJ u9 613) u9 (fun (u10 : St) => Q u10)))))))) → wp_X2_choose N u Q := fun Q hQ => by
        unfold wp_X2_choose
        rw [e1]
        refine car_p hN a1.1 ⟨fun h => absurd h hnil, fun _ => ?_⟩
        rw [e1]
        exact isPair_p (by omega) ⟨fun h => absurd h (by decide), fun _ => hQ⟩
      have hRr : ∀ Q : St → Prop, wp_X10_listOf (gB v 13 d) (2 : Int32) v (fun (r5 : Int32) (u6 : St) => ((r5 = 0 → wp_X10_fails (3 : Int32) u6 (fun (u13 : St) => Q u13)) ∧ (¬ r5 = 0 → wp_X10_waits (1 : Int32) (4294967296 : Int64) y u6 (fun (r7 : Int32) (u8 : St) => ((r7 = 0 → Q u8) ∧ (¬ r7 = 0 → wp_X10_first y (sI u8 39 (0 : Int32)) (fun (r9 : Int64) (u10 : St) => wp_X10_first r9 u10 (fun (r11 : Int64) (u12 : St) => Q (sJ u12 40 r11))))))))) → wp_X10_condition y v Q := fun Q hQ => by
        refine ⟨fun h => absurd h hny, fun _ => ?_⟩
        rw [e2] at hQ ⊢
        exact rPair_p a1.2 ⟨fun h => absurd h (by decide), fun _ => first_p a1.2 hQ⟩
      by_cases hl : Lst r u v 2 (gB u 800 c) (gB v 13 d)
      · obtain ⟨c2, d2, hr2, x2, y2, c3, d3, hr3, x3, y3, _⟩ := id hl
        have a2 := h.1.1.1 _ _ hr2
        have a3 := h.1.1.1 _ _ hr3
        rcases push_both (kd := 1) (x0 := aC 0) (y0 := aR 0) (x1 := gJ u 611) (y1 := y) (xb := gJ u 613) hN hW h.2.2.2 hR.1.2.2.1 h8 (Or.inr (Or.inl rfl)) (ob_a hT0) hc hb hbn (fun _ => ⟨d, d2, d3, a1.2, a2.2, a3.2, e2, y2, y3⟩) with ⟨q1, q2⟩ | ⟨u1, v1, _, q3, q4, q5, q6, q1, q2⟩
        · refine ⟨sI u 609 7, sI v 8 7, Or.inr (hfl 7 (by decide)), fun Q hQ => hC Q (isListOf_1 hN h.1.1 hT hT0 (by omega) oc hl ⟨fun h => absurd h (by decide), fun _ => q1 _ ⟨fun _ => hQ, fun h => absurd rfl h⟩⟩), fun Q hQ => hRr Q (listOf_1 hN h.1.1 hT hT0 (by omega) oc hl ⟨fun h => absurd h (by decide), fun _ => q2 _ ⟨fun _ => hQ, fun h => absurd rfl h⟩⟩)⟩
        · have f800 : gB u1 800 = gB u 800 := q5.2.2.2 800 (by decide)
          have f13 : gB v1 13 = gB v 13 := q6.2.2.2 13 (by decide) (by decide) (by decide) (by decide)
          have hM1 := Mh_U h q4 q5 q6
          have hR1 := Rest_U hR q5 q6
          refine ⟨sI (sJ (sJ u1 610 (gB u 800 c2)) 613 (gJ u 613)) 608 0, sJ (sI v1 39 0) 40 (gB v 13 d2), Or.inl ⟨r, A, w + 1, _, hM1, q3, hR1, rfl, rfl, (h.1.1.2.2.2 _ _ hr2).1, ?_, ?_⟩, fun Q hQ => hC Q (isListOf_1 hN h.1.1 hT hT0 (by omega) oc hl ⟨fun h => absurd h (by decide), fun _ => q1 _ ⟨fun h => absurd h (by decide), fun _ => ?_⟩⟩), fun Q hQ => hRr Q (listOf_1 hN h.1.1 hT hT0 (by omega) oc hl ⟨fun h => absurd h (by decide), fun _ => q2 _ ⟨fun h => absurd h (by decide), fun _ => ?_⟩⟩)⟩
          · show ob r T (gJ u 613) (gJ v1 41)
            rw [q6.2.1 41]; exact hb
          · show bn A (gJ v1 41)
            rw [q6.2.1 41]; exact hbn
          · rw [x2]
            refine car_p hN a2.1 ?_
            rw [f800]
            show Q (sI (sJ (sJ u1 610 (gB u 800 c2)) 613 (gJ u1 613)) 608 0)
            rw [q5.2.1 613]
            exact hQ
          · rw [e2]
            refine first_p a1.2 ?_
            show wp_X10_first (gB v1 13 d) _ _
            rw [f13, y2]
            refine first_p a2.2 ?_
            show Q (sJ (sI v1 39 0) 40 (gB v1 13 d2))
            rw [f13]
            exact hQ
      · refine ⟨sI u 609 3, sI v 8 3, Or.inr (hfl 3 (by decide)), fun Q hQ => hC Q (isListOf_0 hN h.1.1 hT hT0 (by omega) oc hl ⟨fun _ => hQ, fun h => absurd rfl h⟩), fun Q hQ => hRr Q (listOf_0 hN h.1.1 hT hT0 (by omega) oc hl ⟨fun _ => fails_ok h8 hQ, fun h => absurd rfl h⟩)⟩
