/-! PURE: applying -/
theorem Gr_K {t} {u v u1 v1 : St} (h : Gr t u v) (h1 : frK u u1) (h2 : frH v v1) : Gr t u1 v1 := by
  obtain ⟨g, q1, q2, q3⟩ := h
  exact ⟨g, by rw [h1.1 304 (by decide) (by decide) (by decide)]; exact q1, by rw [h2.1 10 (by decide) (by decide)]; exact q2, q3⟩
theorem Gr_N {t} {u v u1 v1 : St} (h : Gr t u v) (h1 : frN u u1) (h2 : frP v v1) : Gr t u1 v1 := by
  obtain ⟨g, q1, q2, q3⟩ := h
  exact ⟨g, by rw [h1.1 304 (by decide)]; exact q1, by rw [h2.1 10]; exact q2, q3⟩
theorem RI_N {n R} {u u1 : St} (h : RI u n R) (h1 : frN u u1) : RI u1 n R := by
  unfold RI
  rw [h1.1 806 (by decide), h1.2.2.1 802]
  exact h
/-- room for k pairs beside function, bindings and values -/
theorem bind_room {N : Nat → Nat} {r A T n t s C st w cnt u0 v0} {u v : St} {m k : Nat} (hN : LN N n t) (h : Mh r A T n t C u v) (hW : Wt r A T t w cnt u v) (hR : Rest t s st 0 u0 v0 u v) (hm : m ≤ 8) (hv43 : gI v 43 = nI m) (hx : ∀ k, k < m → ob r T (gB u 605 k) (gB v 42 k)) (of : ob r T (gJ u 612) (gJ v 40)) (hb : ob r T (gJ u 613) (gJ v 41)) (hk : k < 3000) (hC : C + 1 < 2 ^ 30) :
    ∃ (u1 v1 b : St) (HL : List Nat), frK u u1 ∧ frH v v1 ∧ frH v b ∧ Mh (cut r HL) A T n t (C + 1) u1 v1 ∧ Wt (cut r HL) A T t w cnt u1 v1 ∧ Rest t s st 0 u0 v0 u1 v1 ∧ ob (cut r HL) T (gJ u1 612) (gJ v1 40) ∧ ob (cut r HL) T (gJ u1 613) (gJ v1 41) ∧ (∀ k, k < m → ob (cut r HL) T (gB u1 605 k) (gB v1 42 k)) ∧ (∀ Q : St → Prop, Q b → wp_X10_holdForBinding (gJ v 40) v Q) ∧
      ((Rdy (cut r HL) n u1 v1 k ∧ (∀ Q : Int32 → St → Prop, Q 1 u1 → wp_X1_hasRoom_21 N (nI k) (nI m) (gJ u 612) (gJ u 613) u Q) ∧ (∀ Q : Int32 → St → Prop, Q 1 v1 → wp_X10_room (nI k) b Q)) ∨ ((∀ Q : Int32 → St → Prop, Q 0 u1 → wp_X1_hasRoom_21 N (nI k) (nI m) (gJ u 612) (gJ u 613) u Q) ∧ (∀ Q : Int32 → St → Prop, Q 0 (sI v1 8 6) → wp_X10_room (nI k) b Q))) := by
  have hn := hN.2.2.2.2.2.2.2.2.1
  have ht := hN.2.2.2.2.2.2.2.2.2.1
  have hT := h.1.2.2.2.2.1.2.2.2
  have h1 := h.1.1
  obtain ⟨⟨FL, hF, hdis⟩, ⟨R, hRI, hRc⟩, hG⟩ := h.2
  obtain ⟨t1, t2, _, _⟩ := h.1.2.2.2.2.1
  obtain ⟨w1, w2, w3, w4⟩ := id hW
  obtain ⟨b, HLb, kb, ho, p1⟩ := holdForBinding_ex (T := T) (x := gJ v 40) t2 hT (Core_g h.1) w2 (by omega) (Wt_wd h.1 hW) h.1.2.2.2.1 (ob_wd hT h1.1 of) (ob_wd hT h1.1 hb) hv43 hm (fun k hk => ob_wd hT h1.1 (hx k hk))
  have hd := hasRoom_21_ex (k := k) (m := m) (x := gJ u 612) (y := gJ u 613) hN hRI (by omega) hF t1 hT w1 w3 hm hk
  obtain ⟨u1, v1, HL, R1, g1, g2, g3, g4, g5, g6, g7, g8, g9⟩ := room_gen h.1 hn hW of hb hx hF hdis hRI hk hR.2.1.2 hd ho
  refine ⟨u1, v1, b, HL, g3, g4, ho.2.1, ⟨g6, g5, ⟨R1, g2, by omega⟩, Gr_K hG g3 g4⟩, g7, Rest_K hR g3 g4, ?_, ?_, fun j hj => ?_, p1, g9⟩
  · rw [g3.2.1, g4.2.1]; exact g8 _ _ of (Or.inr (Or.inl rfl))
  · rw [g3.2.1, g4.2.1]; exact g8 _ _ hb (Or.inr (Or.inr (Or.inl rfl)))
  · rw [g3.2.2.2 605 (by decide) (by decide), g4.2.2.2 42 (by decide)]; exact g8 _ _ (hx j hj) (Or.inr (Or.inr (Or.inr ⟨j, hj, rfl⟩)))
theorem sub_r {r T n} {u v : St} (h : HpR r T n u v) (hT : T ≤ 150) (hn : n ≤ 1000) {c d c2 d2 : Nat} (hr : r c d) (hc : c2 < 1000) (hd : d2 < 1000) (e1 : gB u 801 c = pC c2) (e2 : gB v 14 d = pR d2) : r c2 d2 := by
  have o := (h.2.2.2 _ _ hr).2
  rw [e1, e2] at o
  obtain ⟨d, hd2, e⟩ := ob_pC hT hn h.1 o hc
  rw [pR_inj hd (h.1 _ _ hd2).2 e]
  exact hd2
theorem isNameC {r T n} {u v : St} (h : HpR r T n u v) (hT : T ≤ 150) (hn : n ≤ 1000) {x y : Int64} (ho : ob r T x y) : (∃ k, k < T ∧ x = aC k ∧ y = aR k ∧ (∀ Q : Int32 → Prop, Q 1 → wp_X8_isName x Q) ∧ (∀ Q : Int32 → Prop, Q 1 → wp_X10_isName y Q)) ∨ ((∀ Q : Int32 → Prop, Q 0 → wp_X8_isName x Q) ∧ (∀ Q : Int32 → Prop, Q 0 → wp_X10_isName y Q)) := by
  rcases ho with ⟨m, rfl, rfl⟩ | ⟨k, hk, rfl, rfl⟩ | ⟨c, d, hr, rfl, rfl⟩
  · exact Or.inr ⟨fun Q hQ => isName_n hQ, fun Q hQ => rName_n hQ⟩
  · exact Or.inl ⟨k, hk, rfl, rfl, fun Q hQ => isName_a (by omega) hQ, fun Q hQ => rName_a (by omega) hQ⟩
  · have := h.1 _ _ hr
    exact Or.inr ⟨fun Q hQ => isName_p (by omega) hQ, fun Q hQ => rName_p this.2 hQ⟩
/-- LABEL -/
theorem label_step {N : Nat → Nat} {r A T n t s C st w cnt u0 v0} {u v : St} {m c d : Nat} (hN : LN N n t) (h : Mh r A T n t C u v) (hW : Wt r A T t w cnt u v) (hR : Rest t s st 0 u0 v0 u v) (hm : m ≤ 8) (hu : gI u 606 = nI m) (hv : gI v 43 = nI m) (hx : ∀ k, k < m → ob r T (gB u 605 k) (gB v 42 k)) (hr : r c d) (e1 : gJ u 612 = pC c) (e2 : gJ v 40 = pR d) (hb : ob r T (gJ u 613) (gJ v 41)) (hbn : bn A (gJ v 41)) (hm1 : gI u 608 = 2) (hm2 : gI v 39 = 1) (hC : C + 1 < 2 ^ 30) :
    ∃ u1 v1, Res T n t s (C + 1) st u0 v0 u1 v1 ∧ (∀ Q : St → Prop, Q u1 → wp_X2_applyLabel N u Q) ∧ (∀ Q : St → Prop, Q v1 → wp_X10_label (pR d) v Q) := by
  have hn := hN.2.2.2.2.2.2.2.2.1
  have hT := h.1.2.2.2.2.1.2.2.2
  have hT18 := h.1.2.2.2.2.1.2.2.1
  have hT0 : 0 < T := by omega
  have h8 := hR.2.1.2
  have h1 := h.1.1
  have a1 := h1.1 _ _ hr
  obtain ⟨oh, om⟩ := h1.2.2.2 _ _ hr
  have hfl : ∀ f : Int32, f ≠ 0 → Res T n t s (C + 1) st u0 v0 (sI u 609 f) (sI v 8 f) := fun f hf => Res_mono (fld_ok f hf h hR) (Nat.le_succ _)
  have of : ob r T (pC c) (pR d) := Or.inr (Or.inr ⟨c, d, hr, rfl, rfl⟩)
  by_cases hl : Lst r u v 2 (gB u 801 c) (gB v 14 d)
  · obtain ⟨c2, d2, hr2, x2, y2, c3, d3, hr3, x3, y3, _⟩ := id hl
    have a2 := h1.1 _ _ hr2
    have a3 := h1.1 _ _ hr3
    have o2 := (h1.2.2.2 _ _ hr2).1
    have hCl : ∀ {Q : St → Prop}, wp_X8_isName (gB u 800 c2) (fun (r7 : Int32) => ((r7 = 0 → Q (sI u 609 (3 : Int32))) ∧ (¬ r7 = 0 → wp_X1_hasRoom_21 N (2 : Int32) (gI u 606) (gJ u 612) (gJ u 613) u (fun (r8 : Int32) (u9 : St) => ((r8 = 0 → Q (sI u9 609 (6 : Int32))) ∧ (¬ r8 = 0 → wp_X0_cdr N (gJ u9 612) u9 (fun (r10 : Int64) (u11 : St) => wp_X0_cdr N r10 u11 (fun (r12 : Int64) (u13 : St) => wp_X0_car N r12 u13 (fun (r14 : Int64) (u15 : St) => wp_X0_newPair N (gB u 800 c2) r14 u15 (fun (r16 : Int64) (u17 : St) => wp_X0_newPair N r16 (gJ u17 613) u17 (fun (r18 : Int64) (u19 : St) => wp_X2_beginApplying N r14 (sJ u19 613 r18) (fun (u20 : St) => Q u20)))))))))))) → wp_X2_applyLabel N u Q := fun {Q} hq => by
      unfold wp_X2_applyLabel
      rw [e1]
      refine cdr_p hN a1.1 ?_
      rw [x2]
      refine car_p hN a2.1 ?_
      rw [e1]
      refine isListOf_1 (m := 3) hN h1 hT hT0 (by omega) of ((Lst_pair h1 hn hr).mpr hl) (sf (by decide) hq)
    have hRe : ∀ {Q : St → Prop}, wp_X10_isName (gB v 13 d2) (fun (r8 : Int32) => ((r8 = 0 → wp_X10_fails (3 : Int32) v (fun (u26 : St) => Q u26)) ∧ (¬ r8 = 0 → wp_X10_holdForBinding (pR d) v (fun (u9 : St) => wp_X10_room (2 : Int32) u9 (fun (r10 : Int32) (u11 : St) => ((r10 = 0 → Q u11) ∧ (¬ r10 = 0 → wp_X10_first (pR d2) u11 (fun (r12 : Int64) (u13 : St) => wp_X10_behind (pR d2) u13 (fun (r14 : Int64) (u15 : St) => wp_X10_first r14 u15 (fun (r16 : Int64) (u17 : St) => wp_X10_pair r12 r16 u17 (fun (r18 : Int64) (u19 : St) => wp_X10_pair r18 (gJ u19 41) u19 (fun (r20 : Int64) (u21 : St) => wp_X10_behind (pR d2) (sJ u21 41 r20) (fun (r22 : Int64) (u23 : St) => wp_X10_first r22 u23 (fun (r24 : Int64) (u25 : St) => Q (sJ u25 40 r24))))))))))))))) → wp_X10_label (pR d) v Q := fun {Q} hq => by
      refine behind_p a1.2 ?_
      refine listOf_1 (m := 2) hN h1 hT hT0 (by omega) om hl (sf (by decide) ?_)
      rw [y2]
      exact first_p a2.2 hq
    rcases isNameC h1 hT hn o2 with ⟨k, hk, f1, f2, g1, g2⟩ | ⟨g1, g2⟩
    · have of2 : ob r T (gJ u 612) (gJ v 40) := by rw [e1, e2]; exact of
      obtain ⟨u1, v1, b, HL, k1, k2, k3, k4, k5, k6, k7, k8, k9, k10, k11⟩ := bind_room (k := 2) hN h hW hR hm hv hx of2 hb (by omega) hC
      rw [e2] at k10
      have f800 : gB u1 800 = gB u 800 := k1.2.2.2 800 (by decide) (by decide)
      have f801 : gB u1 801 = gB u 801 := k1.2.2.2 801 (by decide) (by decide)
      have f13 : gB v1 13 = gB v 13 := k2.2.2.2 13 (by decide)
      have f14 : gB v1 14 = gB v 14 := k2.2.2.2 14 (by decide)
      have e1' : gJ u1 612 = pC c := by rw [k1.2.1]; exact e1
      rcases k11 with ⟨hrd, q1, q2⟩ | ⟨q1, q2⟩
      · -- room
        have hrc : cut r HL c d := by
          rw [e1', k2.2.1 40, e2] at k7
          obtain ⟨d9, hd9, e9⟩ := ob_pC hT hn k4.1.1.1 k7 (by omega)
          rw [pR_inj a1.2 (k4.1.1.1 _ _ hd9).2 e9]
          exact hd9
        have hrc2 : cut r HL c2 d2 := sub_r k4.1.1 hT hn hrc (by omega) a2.2 (by rw [f801]; exact x2) (by rw [f14]; exact y2)
        have hrc3 : cut r HL c3 d3 := sub_r k4.1.1 hT hn hrc2 (by omega) a3.2 (by rw [f801]; exact x3) (by rw [f14]; exact y3)
        have oo1 : ob (cut r HL) T (gB u 800 c2) (gB v 13 d2) := by rw [f1, f2]; exact ob_a hk
        have oo2 : ob (cut r HL) T (gB u 800 c3) (gB v 13 d3) := by
          have := (k4.1.1.2.2.2 _ _ hrc3).1
          rw [f800, f13] at this
          exact this
        obtain ⟨c0, d0, u2, v2, p1, p2, p3, p4, p5, p6, p7, p8, p9, p10, p11, p12⟩ := alloc1 (k := 1) False hN k4.1 k5 hrd oo1 oo2 (fun hh => hh.elim)
        have hb2 : bn (newA A d0 False) (gJ v1 41) := bn_new hT k4.1.1.1 p4 k8 (by rw [k2.2.1 41]; exact hbn)
        have ob2 : ob (new (cut r HL) c0 d0) T (gJ u1 613) (gJ v1 41) := ob_mono k8 (fun c d hr => Or.inl hr)
        obtain ⟨c4, d4, u3, v3, s1, s2, s3, s4, s5, s6, s7, s8, s9, s10, s11, s12⟩ := alloc1 (k := 0) (x1 := pC c0) (y1 := pR d0) (x2 := gJ u1 613) (y2 := gJ v1 41) True hN p5 p6 p7 (Or.inr (Or.inr ⟨c0, d0, Or.inr ⟨rfl, rfl⟩, rfl, rfl⟩)) ob2 (fun _ => ⟨⟨d0, p2, rfl⟩, hb2⟩)
        have hkp : kp (cut r HL) (new (new (cut r HL) c0 d0) c4 d4) u1 u3 v1 v3 := fun c d hr => by
          obtain ⟨z1, z2, z3, z4⟩ := p10 c d hr
          obtain ⟨z5, z6, z7, z8⟩ := s10 c d (Or.inl hr)
          exact ⟨Or.inl (Or.inl hr), z5.trans z1, z6.trans z2, z7.trans z3, z8.trans z4⟩
        have hmono : ∀ c d, cut r HL c d → new (new (cut r HL) c0 d0) c4 d4 c d := fun c d hr => Or.inl (Or.inl hr)
        have hR3 := Rest_N (Rest_N k6 p8 p9) s8 s9
        have hG3 := Gr_N (Gr_N k4.2.2.2 p8 p9) s8 s9
        obtain ⟨R9, hR9, hR9c⟩ := k4.2.2.1
        have hM3 : Mh (new (new (cut r HL) c0 d0) c4 d4) (newA (newA A d0 False) d4 True) T n t (C + 1) u3 v3 := ⟨s5, s7.1.elim (fun F hF2 => ⟨F, hF2.1, hF2.2.1⟩), ⟨R9, RI_N (RI_N hR9 p8) s8, hR9c⟩, hG3⟩
        have hN2 := frN_tr p8 s8
        have hP2 := frP_tr p9 s9
        have z606 : gI u3 606 = nI m := by rw [hN2.1 606 (by decide), k1.1 606 (by decide) (by decide) (by decide)]; exact hu
        have z43 : gI v3 43 = nI m := by rw [hP2.1 43, k2.1 43 (by decide) (by decide)]; exact hv
        have z39 : gI v3 39 = 1 := by rw [hP2.1 39, k2.1 39 (by decide) (by decide)]; exact hm2
        have zval : ∀ k, k < m → ob (new (new (cut r HL) c0 d0) c4 d4) T (gB u3 605 k) (gB v3 42 k) := fun k hk => by
          rw [hN2.2.2.2 605 (by decide) (by decide), hP2.2.2.2 42 (by decide) (by decide)]
          exact ob_mono (k9 k hk) hmono
        have olab : ob (new (new (cut r HL) c0 d0) c4 d4) T (gB u 800 c3) (gB v 13 d3) := ob_mono oo2 hmono
        refine ⟨sI (sJ (sJ u3 613 (pC c4)) 612 (gB u 800 c3)) 608 2, sJ (sJ v3 41 (pR d4)) 40 (gB v 13 d3), Or.inr (Or.inl ⟨_, _, w, cnt, hM3, s6, hR3, rfl, z39, olab, Or.inr (Or.inr ⟨c4, d4, Or.inr ⟨rfl, rfl⟩, rfl, rfl⟩), Or.inr ⟨d4, s2, rfl, Or.inr ⟨rfl, True.intro⟩⟩, m, hm, z606, z43, zval⟩), fun Q hQ => hCl (g1 _ (sf (by decide) ?_)), fun Q hQ => hRe (g2 _ (sf (by decide) (k10 _ (q2 _ (sf (by decide) ?_)))))⟩
        · rw [hu]
          refine q1 _ (sf (by decide) ?_)
          rw [e1']
          refine cdr_p hN a1.1 ?_
          rw [f801, x2]
          refine cdr_p hN a2.1 ?_
          rw [f801, x3]
          refine car_p hN a3.1 ?_
          rw [f800]
          refine p11 _ ?_
          rw [p8.2.1 613]
          exact s11 _ hQ
        · refine first_p a2.2 (behind_p a2.2 ?_)
          rw [f13, f14, y3]
          refine first_p a3.2 ?_
          rw [f13]
          refine p12 _ ?_
          rw [p9.2.1 41]
          refine s12 _ ?_
          refine behind_p a2.2 ?_
          show wp_X10_first (gB v3 14 d2) _ _
          rw [(hkp c2 d2 hrc2).2.2.2.2, f14, y3]
          refine first_p a3.2 ?_
          show Q (sJ (sJ v3 41 (pR d4)) 40 (gB v3 13 d3))
          rw [(hkp c3 d3 hrc3).2.2.2.1, f13]
          exact hQ
      · refine ⟨sI u1 609 6, sI v1 8 6, Or.inr (Or.inr (Or.inr ⟨cut r HL, A, 6, by decide, k4, k6.1, ⟨rfl, rfl⟩, k6.2.2⟩)), fun Q hQ => hCl (g1 _ (sf (by decide) ?_)), fun Q hQ => hRe (g2 _ (sf (by decide) (k10 _ (q2 _ (sq rfl hQ)))))⟩
        rw [hu]
        exact q1 _ (sq rfl hQ)
    · exact ⟨_, _, hfl 3 (by decide), fun Q hQ => hCl (g1 _ (sq rfl hQ)), fun Q hQ => hRe (g2 _ (sq rfl (fails_ok h8 hQ)))⟩
  · refine ⟨_, _, hfl 3 (by decide), fun Q hQ => ?_, fun Q hQ => ?_⟩
    · unfold wp_X2_applyLabel
      rw [e1]
      refine cdr_p hN a1.1 (car_ob hN h1 hT hT0 om (fun z _ => ?_))
      rw [e1]
      exact isListOf_0 (m := 3) hN h1 hT hT0 (by omega) of (fun h9 => hl ((Lst_pair h1 hn hr).mp h9)) (sq rfl hQ)
    · refine behind_p a1.2 ?_
      exact listOf_0 (m := 2) hN h1 hT hT0 (by omega) om hl (sq rfl (fails_ok h8 hQ))
/-- LAMBDA -/
theorem lambda_step {N : Nat → Nat} {r A T n t s C st w cnt u0 v0} {u v : St} {m c d : Nat} (hN : LN N n t) (h : Mh r A T n t C u v) (hW : Wt r A T t w cnt u v) (hR : Rest t s st 0 u0 v0 u v) (hm : m ≤ 8) (hu : gI u 606 = nI m) (hv : gI v 43 = nI m) (hx : ∀ k, k < m → ob r T (gB u 605 k) (gB v 42 k)) (hr : r c d) (e1 : gJ u 612 = pC c) (e2 : gJ v 40 = pR d) (hb : ob r T (gJ u 613) (gJ v 41)) (hbn : bn A (gJ v 41)) (hC : C + 1 < 2 ^ 30) :
    ∃ u1 v1, Res T n t s (C + 1) st u0 v0 u1 v1 ∧ (∀ Q : St → Prop, Q u1 → wp_X2_applyLambda N u Q) ∧ (∀ Q : St → Prop, Q v1 → wp_X10_lambda (pR d) v Q) := by
  have hn := hN.2.2.2.2.2.2.2.2.1
  have hT := h.1.2.2.2.2.1.2.2.2
  have hT18 := h.1.2.2.2.2.1.2.2.1
  have hT0 : 0 < T := by omega
  have h8 := hR.2.1.2
  have h1 := h.1.1
  have a1 := h1.1 _ _ hr
  obtain ⟨oh, om⟩ := h1.2.2.2 _ _ hr
  have hfl : ∀ f : Int32, f ≠ 0 → Res T n t s (C + 1) st u0 v0 (sI u 609 f) (sI v 8 f) := fun f hf => Res_mono (fld_ok f hf h hR) (Nat.le_succ _)
  have of : ob r T (pC c) (pR d) := Or.inr (Or.inr ⟨c, d, hr, rfl, rfl⟩)
  by_cases hl : Lst r u v 2 (gB u 801 c) (gB v 14 d)
  · obtain ⟨c2, d2, hr2, x2, y2, c3, d3, hr3, x3, y3, _⟩ := id hl
    have a2 := h1.1 _ _ hr2
    have a3 := h1.1 _ _ hr3
    have o2 := (h1.2.2.2 _ _ hr2).1
    have hCl : ∀ {Q : St → Prop}, wp_X0_isListOfNames N (gB u 800 c2) (nI m) u (fun (r7 : Int32) (u8 : St) => ((r7 = 0 → Q (sI u8 609 (3 : Int32))) ∧ (¬ r7 = 0 → wp_X1_hasRoom_21 N ((2 : Int32) * (gI u8 606)) (gI u8 606) (gJ u8 612) (gJ u8 613) u8 (fun (r9 : Int32) (u10 : St) => ((r9 = 0 → Q (sI u10 609 (6 : Int32))) ∧ (¬ r9 = 0 → wp_X0_cdr N (gJ u10 612) u10 (fun (r11 : Int64) (u12 : St) => wp_X0_cdr N r11 u12 (fun (r13 : Int64) (u14 : St) => wp_X0_car N r13 u14 (fun (r15 : Int64) (u16 : St) => wp_X2_bindAll N (gB u 800 c2) u16 (fun (r17 : Int64) (u18 : St) => wp_X2_beginEvaluating N r15 r17 u18 (fun (u19 : St) => Q u19))))))))))) → wp_X2_applyLambda N u Q := fun {Q} hq => by
      unfold wp_X2_applyLambda
      rw [e1]
      refine cdr_p hN a1.1 ?_
      rw [x2]
      refine car_p hN a2.1 ?_
      rw [e1]
      refine isListOf_1 (m := 3) hN h1 hT hT0 (by omega) of ((Lst_pair h1 hn hr).mpr hl) (sf (by decide) ?_)
      rw [hu]
      exact hq
    have hRe : ∀ {Q : St → Prop}, wp_X10_namesIn (gB v 13 d2) v (fun (r8 : Int32) (u9 : St) => ((r8 = (gI u9 43) → wp_X10_holdForBinding (pR d) u9 (fun (u10 : St) => wp_X10_room ((2 : Int32) * (gI u10 43)) u10 (fun (r11 : Int32) (u12 : St) => ((r11 = 0 → Q u12) ∧ (¬ r11 = 0 → (∃ k32 : Nat, l_X10_lambda_70 (pR d2) (fun (y26 : Int64) (u27 : St) => wp_X10_behind (pR d2) (sI (sJ u27 41 y26) 39 (0 : Int32)) (fun (r28 : Int64) (u29 : St) => wp_X10_first r28 u29 (fun (r30 : Int64) (u31 : St) => Q (sJ u31 40 r30)))) k32 (gJ u12 41) ((gI u12 43) - (1 : Int32)) u12)))))) ∧ (¬ r8 = (gI u9 43) → wp_X10_fails (3 : Int32) u9 (fun (u33 : St) => Q u33)))) → wp_X10_lambda (pR d) v Q := fun {Q} hq => by
      refine behind_p a1.2 ?_
      refine listOf_1 (m := 2) hN h1 hT hT0 (by omega) om hl (sf (by decide) ?_)
      rw [y2]
      exact first_p a2.2 hq
    rcases names_both (m := m) hN h1 h.1.2.1 hT hT0 (by omega) o2 with ⟨hLn, g1, g2⟩ | ⟨g1, z, hz, g2⟩
    · have of2 : ob r T (gJ u 612) (gJ v 40) := by rw [e1, e2]; exact of
      obtain ⟨u1, v1, b, HL, k1, k2, k3, k4, k5, k6, k7, k8, k9, k10, k11⟩ := bind_room (k := 2 * m) hN h hW hR hm hv hx of2 hb (by omega) hC
      rw [e2] at k10
      have f800 : gB u1 800 = gB u 800 := k1.2.2.2 800 (by decide) (by decide)
      have f801 : gB u1 801 = gB u 801 := k1.2.2.2 801 (by decide) (by decide)
      have f13 : gB v1 13 = gB v 13 := k2.2.2.2 13 (by decide)
      have f14 : gB v1 14 = gB v 14 := k2.2.2.2 14 (by decide)
      have e1' : gJ u1 612 = pC c := by rw [k1.2.1]; exact e1
      have z606 : gI u1 606 = nI m := by rw [k1.1 606 (by decide) (by decide) (by decide)]; exact hu
      have z43 : gI v1 43 = nI m := by rw [k2.1 43 (by decide) (by decide)]; exact hv
      have b43 : gI b 43 = nI m := by rw [k3.1 43 (by decide) (by decide)]; exact hv
      have e2m : (2 : Int32) * nI m = nI (2 * m) := pk_mul 2 m
      rcases k11 with ⟨hrd, q1, q2⟩ | ⟨q1, q2⟩
      · have hrc : cut r HL c d := by
          rw [e1', k2.2.1 40, e2] at k7
          obtain ⟨d9, hd9, e9⟩ := ob_pC hT hn k4.1.1.1 k7 (by omega)
          rw [pR_inj a1.2 (k4.1.1.1 _ _ hd9).2 e9]
          exact hd9
        have hrc2 : cut r HL c2 d2 := sub_r k4.1.1 hT hn hrc (by omega) a2.2 (by rw [f801]; exact x2) (by rw [f14]; exact y2)
        have hrc3 : cut r HL c3 d3 := sub_r k4.1.1 hT hn hrc2 (by omega) a3.2 (by rw [f801]; exact x3) (by rw [f14]; exact y3)
        obtain ⟨⟨FL, hF, hdis, hfl2⟩, ⟨HL9, i1, i2, i3, i4, i5⟩⟩ := hrd
        -- the names are in what is held
        have hLn1 : Lnm (cut r HL) T u1 v1 m (gB u 800 c2) (gB v 13 d2) := by
          have aux : ∀ (j : Nat) (x y : Int64), Lnm r T u v j x y → ob (cut r HL) T x y → Lnm (cut r HL) T u1 v1 j x y := by
            intro j
            induction j with
            | zero => intro x y h _; exact h
            | succ j ih =>
              intro x y ⟨c9, d9, kk, hr9, ex, ey, hkk, ec, ed, h9⟩ ho
              have a9 := h1.1 _ _ hr9
              rw [ex, ey] at ho
              obtain ⟨d8, hd8, e8⟩ := ob_pC hT hn k4.1.1.1 ho (by omega)
              have e9 : d9 = d8 := pR_inj a9.2 (k4.1.1.1 _ _ hd8).2 e8
              rw [← e9] at hd8
              refine ⟨c9, d9, kk, hd8, ex, ey, hkk, by rw [f800]; exact ec, by rw [f13]; exact ed, ?_⟩
              rw [f801, f14]
              refine ih _ _ h9 ?_
              have := (k4.1.1.2.2.2 _ _ hd8).2
              rw [f801, f14] at this
              exact this
          refine aux m _ _ hLn ?_
          have := (k4.1.1.2.2.2 _ _ hrc2).1
          rw [f800, f13] at this
          exact this
        have hbn1 : bn A (gJ v1 41) := by rw [k2.2.1 41]; exact hbn
        obtain ⟨r2, A2, u2, v2, F2, xx, yy, s1, s2, s3, s4, s5, s6, s7, f9, s8⟩ := bindAll_both (m := m) (x0 := gB u 800 c2) (y0 := gB v 13 d2) (c3 := pR d2) (cm := c2) (dm := d2) hN hm ⟨k4.1, k5, hF, hdis⟩ hfl2 ⟨HL9, i1, i2, i3, i4, by omega⟩ k8 hbn1 z606 hrc2 rfl (by rw [f13]) hLn1 k9
        have hR3 := Rest_N k6 s2 s3
        have hG3 := Gr_N k4.2.2.2 s2 s3
        obtain ⟨R9, hR9, hR9c⟩ := k4.2.2.1
        have hM3 : Mh r2 A2 T n t (C + 1) u2 v2 := ⟨s1.1, ⟨F2, s1.2.2.1, s1.2.2.2⟩, ⟨R9, RI_N hR9 s2, hR9c⟩, hG3⟩
        have obody : ob r2 T (gB u 800 c3) (gB v 13 d3) := by
          have := ob_mono (k4.1.1.2.2.2 _ _ hrc3).1 (fun c d hr => (s4 c d hr).1)
          rw [f800, f13] at this
          exact this
        refine ⟨sI (sJ (sJ u2 610 (gB u 800 c3)) 613 xx) 608 0, sJ (sI (sJ v2 41 yy) 39 0) 40 (gB v 13 d3), Or.inl ⟨r2, A2, w, cnt, hM3, s1.2.1, hR3, rfl, rfl, obody, s5, s6⟩, fun Q hQ => hCl (g1 _ (sf (by decide) ?_)), fun Q hQ => hRe (g2 _ (sq hv.symm (k10 _ ?_)))⟩
        · rw [hu, e2m]
          refine q1 _ (sf (by decide) ?_)
          rw [e1']
          refine cdr_p hN a1.1 ?_
          rw [f801, x2]
          refine cdr_p hN a2.1 ?_
          rw [f801, x3]
          refine car_p hN a3.1 ?_
          rw [f800]
          exact s7 _ hQ
        · rw [b43, e2m]
          refine q2 _ (sf (by decide) ⟨f9, ?_⟩)
          rw [z43]
          refine s8 _ ?_
          refine behind_p a2.2 ?_
          show wp_X10_first (gB v2 14 d2) _ _
          rw [(s4 c2 d2 hrc2).2.2.2.2, f14, y3]
          refine first_p a3.2 ?_
          show Q (sJ (sI (sJ v2 41 yy) 39 0) 40 (gB v2 13 d3))
          rw [(s4 c3 d3 hrc3).2.2.2.1, f13]
          exact hQ
      · refine ⟨sI u1 609 6, sI v1 8 6, Or.inr (Or.inr (Or.inr ⟨cut r HL, A, 6, by decide, k4, k6.1, ⟨rfl, rfl⟩, k6.2.2⟩)), fun Q hQ => hCl (g1 _ (sf (by decide) ?_)), fun Q hQ => hRe (g2 _ (sq hv.symm (k10 _ ?_)))⟩
        · rw [hu, e2m]
          exact q1 _ (sq rfl hQ)
        · rw [b43, e2m]
          exact q2 _ (sq rfl hQ)
    · exact ⟨_, _, hfl 3 (by decide), fun Q hQ => hCl (g1 _ (sq rfl hQ)), fun Q hQ => hRe (g2 _ (sf (fun e => hz (e.trans hv)) (fails_ok h8 hQ)))⟩
  · refine ⟨_, _, hfl 3 (by decide), fun Q hQ => ?_, fun Q hQ => ?_⟩
    · unfold wp_X2_applyLambda
      rw [e1]
      refine cdr_p hN a1.1 (car_ob hN h1 hT hT0 om (fun z _ => ?_))
      rw [e1]
      exact isListOf_0 (m := 3) hN h1 hT hT0 (by omega) of (fun h9 => hl ((Lst_pair h1 hn hr).mp h9)) (sq rfl hQ)
    · refine behind_p a1.2 ?_
      exact listOf_0 (m := 2) hN h1 hT hT0 (by omega) om hl (sq rfl (fails_ok h8 hQ))
