/-! PURE: evaluating, one step -/
theorem begins_ok {v : St} {st s : Nat} {R : Int32 → St → Prop} (h9 : gI v 9 = nI st) (h3 : gI v 3 = nI s) (hlt : st < s) (hs : s ≤ 20000) (h : R 1 (sI v 9 (nI (st + 1)))) : wp_X10_begins v R := by
  refine ⟨fun c => absurd c ?_, fun _ => ?_⟩
  · rw [h9, h3]
    exact fun e => absurd ((nI_eq (by omega) (by omega)).mp e) (by omega)
  · rw [h9, nI_1]
    exact h
theorem isFixed_n {m : Int32} {Q : Int32 → Prop} (h : Q 1) : wp_X8_isFixed (nC m) Q := isNumber_n ⟨fun c => absurd c (by decide), fun _ => h⟩
theorem isFixed_01 {k : Nat} {Q : Int32 → Prop} (hk : k < 2) (h : Q 1) : wp_X8_isFixed (aC k) Q := by
  refine isNumber_a (by omega) ⟨fun _ => ⟨fun _ => h, fun e => ⟨fun _ => h, fun e2 => ?_⟩⟩, fun c => absurd rfl c⟩
  have hk2 : k = 0 ∨ k = 1 := by omega
  rcases hk2 with rfl | rfl
  · exact absurd rfl e
  · exact absurd rfl e2
theorem aC_neq {k j : Nat} (hk : k < 150) (hj : j < 150) (h : k ≠ j) : aC k ≠ aC j := fun e => h (aC_inj hk hj e)
theorem aR_neq {k j : Nat} (hk : k < 150) (hj : j < 150) (h : k ≠ j) : aR k ≠ aR j := fun e => h (aR_inj hk hj e)
theorem isFixed_a {k : Nat} {Q : Int32 → Prop} (hk : k < 150) (hk2 : 2 ≤ k) (h : Q 0) : wp_X8_isFixed (aC k) Q :=
  isNumber_a hk ⟨fun _ => ⟨fun e => absurd e (aC_neq (j := 0) hk (by omega) (by omega)), fun _ => ⟨fun e => absurd e (aC_neq (j := 1) hk (by omega) (by omega)), fun _ => h⟩⟩, fun c => absurd rfl c⟩
theorem aC_lit {k : Nat} (hk : k < 150) : ((aC k = (1099511627776 : Int64)) ↔ k = 0) ∧ ((aC k = (1099511627777 : Int64)) ↔ k = 1) := ⟨⟨fun e => aC_inj (j := 0) hk (by omega) e, fun e => by subst e; rfl⟩, ⟨fun e => aC_inj (j := 1) hk (by omega) e, fun e => by subst e; rfl⟩⟩
theorem aR_lit {k : Nat} (hk : k < 150) : ((aR k = (4294967296 : Int64)) ↔ k = 0) ∧ ((aR k = (4294967297 : Int64)) ↔ k = 1) := ⟨⟨fun e => aR_inj (j := 0) hk (by omega) e, fun e => by subst e; rfl⟩, ⟨fun e => aR_inj (j := 1) hk (by omega) e, fun e => by subst e; rfl⟩⟩
theorem makeGlobal_a {N : Nat → Nat} {T k : Nat} {x : Int64} {u : St} {Q : St → Prop} (hT : gI u 202 = nI T) (hT2 : T ≤ 150) (hk : k < T) (h : Q (sB u 201 (vp_updL (gB u 201) k x))) : wp_X3_makeGlobal N (aC k) x u Q := by
  refine isKnown_a hT hT2 hk ⟨fun c => absurd c (by decide), fun _ => ?_⟩
  rw [aC_place (by omega), nI_clamp (by omega)]
  exact ⟨vp_in_nI (by omega) (by omega), h⟩
theorem evalAtom_step {N : Nat → Nat} {r A T n t s C st w cnt u0 v0} {u v : St} (hN : LN N n t) (hs : s ≤ 20000) (hlt : st < s) (h : Mh r A T n t C u v) (hW : Wt r A T t w cnt u v) (hR : Rest t s st 0 u0 v0 u v) (hE : ME r A T u v) (hnp : ∀ c d, r c d → gJ u 610 ≠ pC c) :
    ∃ u1 v1, Res T n t s C (st + 1) u0 v0 u1 v1 ∧ (∀ Q : St → Prop, Q u1 → wp_X2_evaluateAtom N (sI u 607 (nI (st + 1))) Q) ∧ (∀ Q : St → Prop, Q v1 → wp_X10_evaluate v Q) := by
  have hn := hN.2.2.2.2.2.2.2.2.1
  have hT := h.1.2.2.2.2.1.2.2.2
  have hT18 := h.1.2.2.2.2.1.2.2.1
  obtain ⟨hm1, hm2, ho, hb, hbn⟩ := hE
  have h8 := hR.2.1.2
  have hM1 : Mh r A T n t C (sI u 607 (nI (st + 1))) (sI v 9 (nI (st + 1))) := h
  have hR1 : Rest t s (st + 1) 0 u0 v0 (sI u 607 (nI (st + 1))) (sI v 9 (nI (st + 1))) := ⟨⟨hR.1.1, hR.1.2.1, hR.1.2.2.1, rfl, rfl⟩, hR.2⟩
  rcases id ho with ⟨m, e1, e2⟩ | ⟨k, hk, e1, e2⟩ | ⟨c, d, hr, e1, e2⟩
  · refine ⟨sI (sJ (sI u 607 (nI (st + 1))) 614 (gJ u 610)) 608 3, sJ (sI (sI v 9 (nI (st + 1))) 39 2) 40 (gJ v 40), Or.inr (Or.inr (Or.inl ⟨r, A, w, cnt, hM1, hW, hR1, rfl, rfl, ho⟩)), fun Q hQ => ?_, fun Q hQ => ?_⟩
    · show wp_X8_isFixed (gJ u 610) _
      rw [e1] at hQ ⊢
      refine isFixed_n ⟨fun c => absurd c (by decide), fun _ => ⟨fun c => ?_, fun _ => ?_⟩⟩
      · exact absurd (show gJ u 610 = _ from c) (ob_nABS h.1.1 hT hn ho)
      · show Q (sI (sJ (sI u 607 (nI (st + 1))) 614 (gJ u 610)) 608 3)
        rw [e1]; exact hQ
    · refine begins_ok hR.1.2.2.2.2 hR.1.2.1 hlt hs ⟨fun c => absurd c (by decide), fun _ => ?_⟩
      show wp_X10_isNumber (gJ v 40) _
      rw [e2]
      refine rNumber_n ⟨fun c => absurd c (by decide), fun _ => hQ⟩
  · by_cases hk2 : k < 2
    · refine ⟨sI (sJ (sI u 607 (nI (st + 1))) 614 (gJ u 610)) 608 3, sJ (sI (sI v 9 (nI (st + 1))) 39 2) 40 (gJ v 40), Or.inr (Or.inr (Or.inl ⟨r, A, w, cnt, hM1, hW, hR1, rfl, rfl, ho⟩)), fun Q hQ => ?_, fun Q hQ => ?_⟩
      · show wp_X8_isFixed (gJ u 610) _
        rw [e1]
        refine isFixed_01 hk2 ⟨fun c => absurd c (by decide), fun _ => ⟨fun c => ?_, fun _ => hQ⟩⟩
        exact absurd (show gJ u 610 = _ from c) (ob_nABS h.1.1 hT hn ho)
      · refine begins_ok hR.1.2.2.2.2 hR.1.2.1 hlt hs ⟨fun c => absurd c (by decide), fun _ => ?_⟩
        show wp_X10_isNumber (gJ v 40) _
        rw [e2]
        refine rNumber_a (by omega) ⟨fun _ => ⟨fun _ => hQ, fun c1 => ⟨fun _ => hQ, fun c2 => ?_⟩⟩, fun c => absurd rfl c⟩
        have c1' : ¬ gJ v 40 = (4294967296 : Int64) := c1
        have c2' : ¬ gJ v 40 = (4294967297 : Int64) := c2
        rw [e2] at c1' c2'
        rw [(aR_lit (by omega)).1] at c1'
        rw [(aR_lit (by omega)).2] at c2'
        omega
    · have hRf : ∀ Q : St → Prop, wp_X10_lookUp (aR k) (sI v 9 (nI (st + 1))) (fun (r48 : Int64) (u49 : St) => wp_X10_gives r48 u49 (fun (u50 : St) => Q u50)) → wp_X10_evaluate v Q := fun Q hQ => by
        refine begins_ok hR.1.2.2.2.2 hR.1.2.1 hlt hs ⟨fun c => absurd c (by decide), fun _ => ?_⟩
        show wp_X10_isNumber (gJ v 40) _
        rw [e2]
        refine rNumber_a (by omega) ⟨fun _ => ⟨fun c1 => ?_, fun _ => ⟨fun c2 => ?_, fun _ => ?_⟩⟩, fun c => absurd rfl c⟩
        · have c1' : gJ v 40 = (4294967296 : Int64) := c1
          rw [e2, (aR_lit (by omega)).1] at c1'
          omega
        · have c2' : gJ v 40 = (4294967297 : Int64) := c2
          rw [e2, (aR_lit (by omega)).2] at c2'
          omega
        · show wp_X10_isName (gJ v 40) _
          rw [e2]
          refine rName_a (by omega) ⟨fun c => absurd c (by decide), fun _ => ?_⟩
          show wp_X10_lookUp (gJ v 40) _ _
          rw [e2]
          exact hQ
      have hC : ∀ Q : St → Prop, wp_X2_boundTo N (aC k) (sI u 607 (nI (st + 1))) (fun (r2 : Int64) (u3 : St) => ((r2 = (3298534883331 : Int64) → Q (sI u3 609 (1 : Int32))) ∧ (¬ r2 = (3298534883331 : Int64) → wp_X2_answer N r2 u3 (fun (u4 : St) => Q u4)))) → wp_X2_evaluateAtom N (sI u 607 (nI (st + 1))) Q := fun Q hQ => by
        show wp_X8_isFixed (gJ u 610) _
        rw [e1]
        refine isFixed_a (by omega) (by omega) ⟨fun _ => ?_, fun c => absurd rfl c⟩
        show wp_X2_boundTo N (gJ u 610) _ _
        rw [e1]
        exact hQ
      rcases look_both (u := sI u 607 (nI (st + 1))) (v := sI v 9 (nI (st + 1))) hN h.1 hk hb hbn h8 with ⟨x1, y1, ho1, q1, q2⟩ | ⟨q1, q2⟩
      · exact ⟨sI (sJ (sI u 607 (nI (st + 1))) 614 x1) 608 3, sJ (sI (sI v 9 (nI (st + 1))) 39 2) 40 y1, Or.inr (Or.inr (Or.inl ⟨r, A, w, cnt, hM1, hW, hR1, rfl, rfl, ho1⟩)), fun Q hQ => hC Q (q1 _ ⟨fun c => absurd c (ob_nABS h.1.1 hT hn ho1), fun _ => hQ⟩), fun Q hQ => hRf Q (q2 _ hQ)⟩
      · exact ⟨sI (sI u 607 (nI (st + 1))) 609 1, sJ (sI (sI (sI v 9 (nI (st + 1))) 8 1) 39 2) 40 (-1), Or.inr (Or.inr (Or.inr ⟨r, A, 1, by decide, hM1, hR1.1, ⟨rfl, rfl⟩, hR1.2.2⟩)), fun Q hQ => hC Q (q1 _ ⟨fun _ => hQ, fun c => absurd rfl c⟩), fun Q hQ => hRf Q (q2 _ hQ)⟩
  · exact absurd e1 (hnp c d hr)
theorem evalPair_step {N : Nat → Nat} {r A T n t s C st w cnt u0 v0} {u v : St} {c d : Nat} (hN : LN N n t) (hs : s ≤ 20000) (hlt : st < s) (h : Mh r A T n t C u v) (hW : Wt r A T t w cnt u v) (hR : Rest t s st 0 u0 v0 u v) (hE : ME r A T u v) (hr : r c d) (e1 : gJ u 610 = pC c) (e2 : gJ v 40 = pR d) :
    ∃ u1 v1, Res T n t s C (st + 1) u0 v0 u1 v1 ∧ (∀ Q : St → Prop, Q u1 → wp_X2_evaluatePair N (sI u 607 (nI (st + 1))) Q) ∧ (∀ Q : St → Prop, Q v1 → wp_X10_evaluate v Q) := by
  have hn := hN.2.2.2.2.2.2.2.2.1
  have hT := h.1.2.2.2.2.1.2.2.2
  have hT18 := h.1.2.2.2.2.1.2.2.1
  have hT0 : 0 < T := by omega
  obtain ⟨hm1, hm2, ho, hb, hbn⟩ := hE
  have h8 := hR.2.1.2
  generalize hU : sI u 607 (nI (st + 1)) = U
  generalize hV : sI v 9 (nI (st + 1)) = V
  have hM1 : Mh r A T n t C U V := by rw [← hU, ← hV]; exact h
  have hW1 : Wt r A T t w cnt U V := by rw [← hU, ← hV]; exact hW
  have hR1 : Rest t s (st + 1) 0 u0 v0 U V := by rw [← hU, ← hV]; exact ⟨⟨hR.1.1, hR.1.2.1, hR.1.2.2.1, rfl, rfl⟩, hR.2⟩
  have eU : gJ U 610 = pC c := by rw [← hU]; exact e1
  have eV : gJ V 40 = pR d := by rw [← hV]; exact e2
  have hb1 : ob r T (gJ U 613) (gJ V 41) := by rw [← hU, ← hV]; exact hb
  have hbn1 : bn A (gJ V 41) := by rw [← hV]; exact hbn
  have h81 : gI V 8 = 0 := by rw [← hV]; exact h8
  have h1 := hM1.1.1
  have a1 := h1.1 _ _ hr
  obtain ⟨oh, om⟩ := h1.2.2.2 _ _ hr
  have hfl : ∀ f : Int32, f ≠ 0 → Res T n t s C (st + 1) u0 v0 (sI U 609 f) (sI V 8 f) := fun f hf => fld_ok f hf hM1 hR1
  have q2 : gB U 800 c = (1099511627778 : Int64) ↔ gB V 13 d = (4294967298 : Int64) := obE h1 hT hn oh (ob_a (k := 2) (by omega))
  have q3 : gB U 800 c = (1099511627779 : Int64) ↔ gB V 13 d = (4294967299 : Int64) := obE h1 hT hn oh (ob_a (k := 3) (by omega))
  have q4 : gB U 800 c = (1099511627780 : Int64) ↔ gB V 13 d = (4294967300 : Int64) := obE h1 hT hn oh (ob_a (k := 4) (by omega))
  have qn : gB U 801 c = (1099511627776 : Int64) ↔ gB V 14 d = (4294967296 : Int64) := obE h1 hT hn om (ob_a (k := 0) (by omega))
  have olst : ∀ m, m < 99 → ob r T (pC c) (pR d) := fun _ _ => Or.inr (Or.inr ⟨c, d, hr, rfl, rfl⟩)
  -- the reference comes to its own test of the head
  have hRf : ∀ {Q : St → Prop}, ((gB V 13 d = (4294967298 : Int64) → wp_X10_listOf (gB V 14 d) (1 : Int32) V (fun (r42 : Int32) (u43 : St) => ((r42 = 0 → wp_X10_fails (3 : Int32) u43 (fun (u44 : St) => Q u44)) ∧ (¬ r42 = 0 → wp_X10_first (gB V 14 d) u43 (fun (r45 : Int64) (u46 : St) => wp_X10_gives r45 u46 (fun (u47 : St) => Q u47)))))) ∧ (¬ gB V 13 d = (4294967298 : Int64) → ((gB V 13 d = (4294967299 : Int64) → wp_X10_condition (gB V 14 d) V (fun (u41 : St) => Q u41)) ∧ (¬ gB V 13 d = (4294967299 : Int64) → ((gB V 13 d = (4294967300 : Int64) → wp_X10_listOf (gB V 14 d) (2 : Int32) V (fun (r19 : Int32) (u20 : St) => ((r19 = 0 → wp_X10_fails (3 : Int32) u20 (fun (u21 : St) => Q u21)) ∧ (¬ r19 = 0 → wp_X10_first (gB V 14 d) u20 (fun (r22 : Int64) (u23 : St) => wp_X10_isName r22 (fun (r24 : Int32) => ((r24 = 0 → wp_X10_fails (3 : Int32) u23 (fun (u25 : St) => Q u25)) ∧ (¬ r24 = 0 → wp_X10_first (gB V 14 d) u23 (fun (r26 : Int64) (u27 : St) => ((r26 = (4294967296 : Int64) → wp_X10_fails (3 : Int32) u27 (fun (u28 : St) => Q u28)) ∧ (¬ r26 = (4294967296 : Int64) → wp_X10_first (gB V 14 d) u27 (fun (r29 : Int64) (u30 : St) => ((r29 = (4294967297 : Int64) → wp_X10_fails (3 : Int32) u30 (fun (u31 : St) => Q u31)) ∧ (¬ r29 = (4294967297 : Int64) → wp_X10_first (gB V 14 d) u30 (fun (r32 : Int64) (u33 : St) => wp_X10_behind (gB V 14 d) u33 (fun (r34 : Int64) (u35 : St) => wp_X10_first r34 u35 (fun (r36 : Int64) (u37 : St) => vp_in (((r32 - (4294967296 : Int64))).toInt32) 150 ∧ wp_X10_first (gB V 14 d) (sB u37 20 (vp_updL (gB u37 20) (((r32 - (4294967296 : Int64))).toInt32).toNatClampNeg r36)) (fun (r38 : Int64) (u39 : St) => wp_X10_gives r38 u39 (fun (u40 : St) => Q u40))))))))))))))))))) ∧ (¬ gB V 13 d = (4294967300 : Int64) → ((gB V 14 d = (4294967296 : Int64) → Q (sI (sJ (sI V 39 (1 : Int32)) 40 (gB V 13 d)) 43 (0 : Int32))) ∧ (¬ gB V 14 d = (4294967296 : Int64) → wp_X10_isPair (gB V 14 d) (fun (r11 : Int32) => ((r11 = 0 → wp_X10_fails (3 : Int32) V (fun (u18 : St) => Q u18)) ∧ (¬ r11 = 0 → wp_X10_behind (gB V 14 d) V (fun (r12 : Int64) (u13 : St) => wp_X10_waits (0 : Int32) (gB V 13 d) r12 u13 (fun (r14 : Int32) (u15 : St) => ((r14 = 0 → Q u15) ∧ (¬ r14 = 0 → wp_X10_first (gB V 14 d) (sI u15 39 (0 : Int32)) (fun (r16 : Int64) (u17 : St) => Q (sJ u17 40 r16))))))))))))))))) → wp_X10_evaluate v Q := fun {Q} hq => by
    refine begins_ok hR.1.2.2.2.2 hR.1.2.1 hlt hs ⟨fun c => absurd c (by decide), fun _ => ?_⟩
    rw [hV, eV]
    refine rNumber_p a1.2 ⟨fun _ => ⟨fun e => absurd e.symm (pR_ne_a (k := 0) a1.2 (by omega)), fun _ => ⟨fun e => absurd e.symm (pR_ne_a (k := 1) a1.2 (by omega)), fun _ => rName_p a1.2 ⟨fun _ => first_p a1.2 (behind_p a1.2 hq), fun c => absurd rfl c⟩⟩⟩, fun c => absurd rfl c⟩
  by_cases hq2 : gB U 800 c = (1099511627778 : Int64)
  · -- QUOTE
    by_cases hl : Lst r U V 1 (gB U 801 c) (gB V 14 d)
    · obtain ⟨c2, d2, hr2, x2, y2, _⟩ := id hl
      have a2 := h1.1 _ _ hr2
      refine ⟨sI (sJ U 614 (gB U 800 c2)) 608 3, sJ (sI V 39 2) 40 (gB V 13 d2), Or.inr (Or.inr (Or.inl ⟨r, A, w, cnt, hM1, hW1, hR1, rfl, rfl, (h1.2.2.2 _ _ hr2).1⟩)), fun Q hQ => ?_, fun Q hQ => ?_⟩
      · unfold wp_X2_evaluatePair wp_X2_evaluateQuote
        rw [eU]
        refine car_p hN a1.1 ⟨fun _ => ?_, fun e => absurd hq2 e⟩
        rw [eU]
        refine isListOf_1 (m := 2) hN h1 hT hT0 (by omega) (olst 2 (by omega)) ((Lst_pair h1 hn hr).mpr hl) ⟨fun c => absurd c (by decide), fun _ => ?_⟩
        rw [eU]
        refine cdr_p hN a1.1 ?_
        rw [x2]
        exact car_p hN a2.1 hQ
      · refine hRf ⟨fun _ => listOf_1 (m := 1) hN h1 hT hT0 (by omega) om hl ⟨fun c => absurd c (by decide), fun _ => ?_⟩, fun e => absurd (q2.mp hq2) e⟩
        rw [y2]
        exact first_p a2.2 hQ
    · refine ⟨_, _, hfl 3 (by decide), fun Q hQ => ?_, fun Q hQ => ?_⟩
      · unfold wp_X2_evaluatePair wp_X2_evaluateQuote
        rw [eU]
        refine car_p hN a1.1 ⟨fun _ => ?_, fun e => absurd hq2 e⟩
        rw [eU]
        exact isListOf_0 (m := 2) hN h1 hT hT0 (by omega) (olst 2 (by omega)) (fun h9 => hl ((Lst_pair h1 hn hr).mp h9)) ⟨fun _ => hQ, fun c => absurd rfl c⟩
      · exact hRf ⟨fun _ => listOf_0 (m := 1) hN h1 hT hT0 (by omega) om hl ⟨fun _ => fails_ok h81 hQ, fun c => absurd rfl c⟩, fun e => absurd (q2.mp hq2) e⟩
  · have hq2' : ¬ gB V 13 d = (4294967298 : Int64) := fun e => hq2 (q2.mpr e)
    by_cases hq3 : gB U 800 c = (1099511627779 : Int64)
    · -- COND
      obtain ⟨u1, v1, g1, g2, g3⟩ := choose_both (u := sJ U 611 (gB U 801 c)) (v := V) (y := gB V 14 d) hN hM1 hW1 hR1 om hb1 hbn1
      refine ⟨u1, v1, ?_, fun Q hQ => ?_, fun Q hQ => ?_⟩
      · rcases g1 with g1 | g1
        · exact Or.inl g1
        · exact Or.inr (Or.inr (Or.inr g1))
      · unfold wp_X2_evaluatePair
        rw [eU]
        refine car_p hN a1.1 ⟨fun e => absurd e hq2, fun _ => ⟨fun _ => ?_, fun e => absurd hq3 e⟩⟩
        rw [eU]
        exact cdr_p hN a1.1 (g2 Q hQ)
      · exact hRf ⟨fun e => absurd e hq2', fun _ => ⟨fun _ => g3 Q hQ, fun e => absurd (q3.mp hq3) e⟩⟩
    · have hq3' : ¬ gB V 13 d = (4294967299 : Int64) := fun e => hq3 (q3.mpr e)
      by_cases hq4 : gB U 800 c = (1099511627780 : Int64)
      · -- DEFINE
        have hC : ∀ {Q : St → Prop}, wp_X2_evaluateDefine N U (fun (u6 : St) => Q u6) → wp_X2_evaluatePair N U Q := fun {Q} hq => by
          unfold wp_X2_evaluatePair
          rw [eU]
          exact car_p hN a1.1 ⟨fun e => absurd e hq2, fun _ => ⟨fun e => absurd e hq3, fun _ => ⟨fun _ => hq, fun e => absurd hq4 e⟩⟩⟩
        by_cases hl : Lst r U V 2 (gB U 801 c) (gB V 14 d)
        · obtain ⟨c2, d2, hr2, x2, y2, c3, d3, hr3, x3, y3, _⟩ := id hl
          have a2 := h1.1 _ _ hr2
          have a3 := h1.1 _ _ hr3
          obtain ⟨o2, _⟩ := h1.2.2.2 _ _ hr2
          obtain ⟨o3, _⟩ := h1.2.2.2 _ _ hr3
          have hC2 : ∀ {Q : St → Prop}, wp_X8_isName (gB U 800 c2) (fun (r7 : Int32) => ((r7 = 0 → Q (sI U 609 (3 : Int32))) ∧ (¬ r7 = 0 → wp_X8_isFixed (gB U 800 c2) (fun (r8 : Int32) => ((r8 = 0 → wp_X0_cdr N (gJ U 610) U (fun (r9 : Int64) (u10 : St) => wp_X0_cdr N r9 u10 (fun (r11 : Int64) (u12 : St) => wp_X0_car N r11 u12 (fun (r13 : Int64) (u14 : St) => wp_X3_makeGlobal N (gB U 800 c2) r13 u14 (fun (u15 : St) => wp_X2_answer N (gB U 800 c2) u15 (fun (u16 : St) => Q u16)))))) ∧ (¬ r8 = 0 → Q (sI U 609 (3 : Int32)))))))) → wp_X2_evaluatePair N U Q := fun {Q} hq => hC (by
            unfold wp_X2_evaluateDefine
            rw [eU]
            refine cdr_p hN a1.1 ?_
            rw [x2]
            refine car_p hN a2.1 ?_
            rw [eU]
            exact isListOf_1 (m := 3) hN h1 hT hT0 (by omega) (olst 3 (by omega)) ((Lst_pair h1 hn hr).mpr hl) ⟨fun c => absurd c (by decide), fun _ => hq⟩)
          have hR2 : ∀ {Q : St → Prop}, wp_X10_isName (gB V 13 d2) (fun (r24 : Int32) => ((r24 = 0 → wp_X10_fails (3 : Int32) V (fun (u25 : St) => Q u25)) ∧ (¬ r24 = 0 → ((gB V 13 d2 = (4294967296 : Int64) → wp_X10_fails (3 : Int32) V (fun (u28 : St) => Q u28)) ∧ (¬ gB V 13 d2 = (4294967296 : Int64) → ((gB V 13 d2 = (4294967297 : Int64) → wp_X10_fails (3 : Int32) V (fun (u31 : St) => Q u31)) ∧ (¬ gB V 13 d2 = (4294967297 : Int64) → vp_in (((gB V 13 d2 - (4294967296 : Int64))).toInt32) 150 ∧ wp_X10_first (pR d2) (sB V 20 (vp_updL (gB V 20) (((gB V 13 d2 - (4294967296 : Int64))).toInt32).toNatClampNeg (gB V 13 d3))) (fun (r38 : Int64) (u39 : St) => wp_X10_gives r38 u39 (fun (u40 : St) => Q u40))))))))) → wp_X10_evaluate v Q := fun {Q} hq => hRf ⟨fun e => absurd e hq2', fun _ => ⟨fun e => absurd e hq3', fun _ => ⟨fun _ => listOf_1 (m := 2) hN h1 hT hT0 (by omega) om hl ⟨fun c => absurd c (by decide), fun _ => by
            rw [y2]
            refine first_p a2.2 ?_
            have hk : ∀ (R1 R2 : Int32 → Prop), (∀ x, R1 x → R2 x) → wp_X10_isName (gB V 13 d2) R1 → wp_X10_isName (gB V 13 d2) R2 := fun R1 R2 hi h9 => ⟨fun c => hi _ (h9.1 c), fun c => ⟨fun d => hi _ ((h9.2 c).1 d), fun d => hi _ ((h9.2 c).2 d)⟩⟩
            refine hk _ _ ?_ hq
            intro x ⟨g1, g2⟩
            refine ⟨g1, fun c => first_p a2.2 ⟨fun e => (g2 c).1 e, fun e => first_p a2.2 ⟨fun e5 => ((g2 c).2 e).1 e5, fun e5 => first_p a2.2 (behind_p a2.2 ?_)⟩⟩⟩
            rw [y3]
            exact first_p a3.2 (((g2 c).2 e).2 e5)⟩, fun e => absurd (q4.mp hq4) e⟩⟩⟩
          rcases id o2 with ⟨m, e3, e4⟩ | ⟨k, hk, e3, e4⟩ | ⟨c4, d4, hr4, e3, e4⟩
          · refine ⟨_, _, hfl 3 (by decide), fun Q hQ => hC2 ?_, fun Q hQ => hR2 ?_⟩
            · rw [e3]; exact isName_n ⟨fun _ => hQ, fun c => absurd rfl c⟩
            · rw [e4]; exact rName_n ⟨fun _ => fails_ok h81 hQ, fun c => absurd rfl c⟩
          · by_cases hk2 : k < 2
            · refine ⟨_, _, hfl 3 (by decide), fun Q hQ => hC2 ?_, fun Q hQ => hR2 ?_⟩
              · rw [e3]; exact isName_a (by omega) ⟨fun c => absurd c (by decide), fun _ => isFixed_01 hk2 ⟨fun c => absurd c (by decide), fun _ => hQ⟩⟩
              · rw [e4]
                refine rName_a (by omega) ⟨fun c => absurd c (by decide), fun _ => ⟨fun _ => fails_ok h81 hQ, fun f1 => ⟨fun _ => fails_ok h81 hQ, fun f2 => ?_⟩⟩⟩
                rw [(aR_lit (by omega)).1] at f1
                rw [(aR_lit (by omega)).2] at f2
                omega
            · have hGz : Gz u0 (sI (sJ (sB U 201 (vp_updL (gB U 201) k (gB U 800 c3))) 614 (aC k)) 608 3) := by
                obtain ⟨z1, z2⟩ := hR1.2.2.1.2.2.2.2.2.2.2.2
                refine ⟨z1, fun T9 k9 h9 e9 hk9 h150 => ?_⟩
                have e8 : nI T = nI T9 := (hM1.1.2.2.2.2.1.1.symm.trans z1).trans e9
                have e7 := (nI_eq (a := T) (b := T9) (by omega) (by omega)).mp e8
                show vp_updL (gB U 201) k (gB U 800 c3) k9 = _
                rw [pk_uLn (by omega)]
                exact z2 T9 k9 h9 e9 hk9 h150
              refine ⟨sI (sJ (sB U 201 (vp_updL (gB U 201) k (gB U 800 c3))) 614 (aC k)) 608 3, sJ (sI (sB V 20 (vp_updL (gB V 20) k (gB V 13 d3))) 39 2) 40 (aR k), Or.inr (Or.inr (Or.inl ⟨r, A, w, cnt, ⟨⟨hM1.1.1, hM1.1.2.1, hM1.1.2.2.1, hM1.1.2.2.2.1, hM1.1.2.2.2.2.1, fun j hj => ?_, hM1.1.2.2.2.2.2.2⟩, hM1.2⟩, hW1, ⟨hR1.1, hR1.2.1, ⟨hR1.2.2.1.1, hR1.2.2.1.2.1, hR1.2.2.1.2.2.1, hR1.2.2.1.2.2.2.1, hR1.2.2.1.2.2.2.2.1, hR1.2.2.1.2.2.2.2.2.1, hR1.2.2.1.2.2.2.2.2.2.1, hR1.2.2.1.2.2.2.2.2.2.2.1, hGz⟩, hR1.2.2.2⟩, rfl, rfl, ob_a hk⟩)), fun Q hQ => hC2 ?_, fun Q hQ => hR2 ?_⟩
              · show (vp_updL (gB U 201) k (gB U 800 c3) j = _ ∧ vp_updL (gB V 20) k (gB V 13 d3) j = _) ∨ ob r T (vp_updL (gB U 201) k (gB U 800 c3) j) (vp_updL (gB V 20) k (gB V 13 d3) j)
                by_cases ej : j = k
                · subst ej
                  rw [pk_uLs, pk_uLs]
                  exact Or.inr o3
                · rw [pk_uLn ej, pk_uLn ej]
                  exact hM1.1.2.2.2.2.2.1 j hj
              · rw [e3]
                refine isName_a (by omega) ⟨fun c => absurd c (by decide), fun _ => isFixed_a (by omega) (by omega) ⟨fun _ => ?_, fun c => absurd rfl c⟩⟩
                rw [eU]
                refine cdr_p hN a1.1 ?_
                rw [x2]
                refine cdr_p hN a2.1 ?_
                rw [x3]
                exact car_p hN a3.1 (makeGlobal_a hM1.1.2.2.2.2.1.1 hT hk hQ)
              · rw [e4]
                refine rName_a (by omega) ⟨fun c => absurd c (by decide), fun _ => ⟨fun f1 => ?_, fun _ => ⟨fun f2 => ?_, fun _ => ?_⟩⟩⟩
                · rw [(aR_lit (by omega)).1] at f1; omega
                · rw [(aR_lit (by omega)).2] at f2; omega
                · rw [aR_place (by omega), nI_clamp (by omega)]
                  refine ⟨vp_in_nI (by omega) (by omega), first_p a2.2 ?_⟩
                  show wp_X10_gives (gB V 13 d2) _ _
                  rw [e4]
                  exact hQ
          · have a4 := h1.1 _ _ hr4
            refine ⟨_, _, hfl 3 (by decide), fun Q hQ => hC2 ?_, fun Q hQ => hR2 ?_⟩
            · rw [e3]; exact isName_p (by omega) ⟨fun _ => hQ, fun c => absurd rfl c⟩
            · rw [e4]; exact rName_p a4.2 ⟨fun _ => fails_ok h81 hQ, fun c => absurd rfl c⟩
        · refine ⟨_, _, hfl 3 (by decide), fun Q hQ => hC ?_, fun Q hQ => ?_⟩
          · unfold wp_X2_evaluateDefine
            rw [eU]
            refine cdr_p hN a1.1 (car_ob hN h1 hT hT0 om (fun z _ => ?_))
            rw [eU]
            exact isListOf_0 (m := 3) hN h1 hT hT0 (by omega) (olst 3 (by omega)) (fun h9 => hl ((Lst_pair h1 hn hr).mp h9)) ⟨fun _ => hQ, fun c => absurd rfl c⟩
          · exact hRf ⟨fun e => absurd e hq2', fun _ => ⟨fun e => absurd e hq3', fun _ => ⟨fun _ => listOf_0 (m := 2) hN h1 hT hT0 (by omega) om hl ⟨fun _ => fails_ok h81 hQ, fun c => absurd rfl c⟩, fun e => absurd (q4.mp hq4) e⟩⟩⟩
      · -- a call
        have hq4' : ¬ gB V 13 d = (4294967300 : Int64) := fun e => hq4 (q4.mpr e)
        have hC : ∀ {Q : St → Prop}, wp_X2_evaluateCall N (gB U 800 c) (gB U 801 c) U (fun (u5 : St) => Q u5) → wp_X2_evaluatePair N U Q := fun {Q} hq => by
          unfold wp_X2_evaluatePair
          rw [eU]
          refine car_p hN a1.1 ⟨fun e => absurd e hq2, fun _ => ⟨fun e => absurd e hq3, fun _ => ⟨fun e => absurd e hq4, fun _ => ?_⟩⟩⟩
          rw [eU]
          exact cdr_p hN a1.1 hq
        by_cases hnil : gB U 801 c = (1099511627776 : Int64)
        · refine ⟨sI (sJ (sI U 606 0) 612 (gB U 800 c)) 608 2, sI (sJ (sI V 39 1) 40 (gB V 13 d)) 43 0, Or.inr (Or.inl ⟨r, A, w, cnt, hM1, hW1, hR1, rfl, rfl, oh, hb1, hbn1, 0, by omega, rfl, rfl, fun k hk => absurd hk (by omega)⟩), fun Q hQ => hC ⟨fun _ => hQ, fun e => absurd hnil e⟩, fun Q hQ => hRf ⟨fun e => absurd e hq2', fun _ => ⟨fun e => absurd e hq3', fun _ => ⟨fun e => absurd e hq4', fun _ => ⟨fun _ => hQ, fun e => absurd (qn.mp hnil) e⟩⟩⟩⟩⟩
        · have hnil' : ¬ gB V 14 d = (4294967296 : Int64) := fun e => hnil (qn.mpr e)
          have hRf2 : ∀ {Q : St → Prop}, wp_X10_isPair (gB V 14 d) (fun (r11 : Int32) => ((r11 = 0 → wp_X10_fails (3 : Int32) V (fun (u18 : St) => Q u18)) ∧ (¬ r11 = 0 → wp_X10_behind (gB V 14 d) V (fun (r12 : Int64) (u13 : St) => wp_X10_waits (0 : Int32) (gB V 13 d) r12 u13 (fun (r14 : Int32) (u15 : St) => ((r14 = 0 → Q u15) ∧ (¬ r14 = 0 → wp_X10_first (gB V 14 d) (sI u15 39 (0 : Int32)) (fun (r16 : Int64) (u17 : St) => Q (sJ u17 40 r16))))))))) → wp_X10_evaluate v Q := fun {Q} hq => hRf ⟨fun e => absurd e hq2', fun _ => ⟨fun e => absurd e hq3', fun _ => ⟨fun e => absurd e hq4', fun _ => ⟨fun e => absurd e hnil', fun _ => hq⟩⟩⟩⟩
          rcases id om with ⟨m, e3, e4⟩ | ⟨k, hk, e3, e4⟩ | ⟨c2, d2, hr2, e3, e4⟩
          · refine ⟨_, _, hfl 3 (by decide), fun Q hQ => hC ⟨fun e => absurd e hnil, fun _ => ?_⟩, fun Q hQ => hRf2 ?_⟩
            · rw [e3]; exact isPair_n ⟨fun _ => hQ, fun c => absurd rfl c⟩
            · rw [e4]; exact rPair_n ⟨fun _ => fails_ok h81 hQ, fun c => absurd rfl c⟩
          · refine ⟨_, _, hfl 3 (by decide), fun Q hQ => hC ⟨fun e => absurd e hnil, fun _ => ?_⟩, fun Q hQ => hRf2 ?_⟩
            · rw [e3]; exact isPair_a (by omega) ⟨fun _ => hQ, fun c => absurd rfl c⟩
            · rw [e4]; exact rPair_a (by omega) ⟨fun _ => fails_ok h81 hQ, fun c => absurd rfl c⟩
          · have a2 := h1.1 _ _ hr2
            obtain ⟨o2, o3⟩ := h1.2.2.2 _ _ hr2
            have hC2 : ∀ {Q : St → Prop}, wp_X7_push N (0 : Int32) (gB U 800 c) (gB U 801 c2) (gJ U 613) U (fun (r4 : Int32) (u5 : St) => ((r4 = 0 → Q (sI u5 609 (7 : Int32))) ∧ (¬ r4 = 0 → wp_X0_car N (gB U 801 c) u5 (fun (r6 : Int64) (u7 : St) => wp_X2_beginEvaluating N r6 (gJ u7 613) u7 (fun (u8 : St) => Q u8))))) → wp_X2_evaluatePair N U Q := fun {Q} hq => hC ⟨fun e => absurd e hnil, fun _ => by
              rw [e3] at hq ⊢
              exact isPair_p (by omega) ⟨fun c => absurd c (by decide), fun _ => cdr_p hN a2.1 hq⟩⟩
            have hR3 : ∀ {Q : St → Prop}, wp_X10_waits (0 : Int32) (gB V 13 d) (gB V 14 d2) V (fun (r14 : Int32) (u15 : St) => ((r14 = 0 → Q u15) ∧ (¬ r14 = 0 → wp_X10_first (gB V 14 d) (sI u15 39 (0 : Int32)) (fun (r16 : Int64) (u17 : St) => Q (sJ u17 40 r16))))) → wp_X10_evaluate v Q := fun {Q} hq => hRf2 (by
              rw [e4] at hq ⊢
              exact rPair_p a2.2 ⟨fun c => absurd c (by decide), fun _ => behind_p a2.2 hq⟩)
            rcases push_both (kd := 0) (x0 := gB U 800 c) (y0 := gB V 13 d) (x1 := gB U 801 c2) (y1 := gB V 14 d2) (xb := gJ U 613) hN hW1 hM1.2.2.2 hR1.1.2.2.1 h81 (Or.inl rfl) oh o3 hb1 hbn1 (fun e => absurd e (by decide)) with ⟨p1, p2⟩ | ⟨u1, v1, _, p3, p4, p5, p6, p1, p2⟩
            · exact ⟨_, _, hfl 7 (by decide), fun Q hQ => hC2 (p1 _ ⟨fun _ => hQ, fun c => absurd rfl c⟩), fun Q hQ => hR3 (p2 _ ⟨fun _ => hQ, fun c => absurd rfl c⟩)⟩
            · have hM2 := Mh_U hM1 p4 p5 p6
              have hR4 := Rest_U hR1 p5 p6
              have f1 : gB u1 800 = gB U 800 := p5.2.2.2 800 (by decide)
              have f2 : gB v1 13 = gB V 13 := p6.2.2.2 13 (by decide) (by decide) (by decide) (by decide)
              have hb2 : ob r T (gJ u1 613) (gJ v1 41) := by rw [p5.2.1 613, p6.2.1 41]; exact hb1
              have hbn2 : bn A (gJ v1 41) := by rw [p6.2.1 41]; exact hbn1
              refine ⟨sI (sJ (sJ u1 610 (gB U 800 c2)) 613 (gJ u1 613)) 608 0, sJ (sI v1 39 0) 40 (gB V 13 d2), Or.inl ⟨r, A, w + 1, _, hM2, p3, hR4, rfl, rfl, o2, hb2, hbn2⟩, fun Q hQ => hC2 (p1 _ ⟨fun c => absurd c (by decide), fun _ => ?_⟩), fun Q hQ => hR3 (p2 _ ⟨fun c => absurd c (by decide), fun _ => ?_⟩)⟩
              · rw [e3]
                refine car_p hN a2.1 ?_
                rw [f1]
                exact hQ
              · rw [e4]
                refine first_p a2.2 ?_
                show Q (sJ (sI v1 39 0) 40 (gB v1 13 d2))
                rw [f2]
                exact hQ
