/-! PURE: applying, the rest -/
theorem putV_loop {N : Nat → Nat} {n t w m : Nat} (hN : LN N n t) (hwt : w < t) (hm : m ≤ 8) : ∀ (d i : Nat) (u : St), i + d = m → gI u 303 = nI (w + 1) → gA u 301 w = nI i → ∃ u1 : St, (∀ k, gI u1 k = gI u k) ∧ (∀ k, gJ u1 k = gJ u k) ∧ (∀ k, k ≠ 301 → gA u1 k = gA u k) ∧ (∀ k, k ≠ 302 → gB u1 k = gB u k) ∧ gA u1 301 w = nI m ∧ (∀ j, j ≠ w → gA u1 301 j = gA u 301 j) ∧ (∀ k, i ≤ k → k < m → gB u1 302 (w * 11 + 3 + k) = gB u 605 k) ∧ (∀ j, ¬ (w * 11 + 3 + i ≤ j ∧ j < w * 11 + 3 + m) → gB u1 302 j = gB u 302 j) ∧ ∀ K : St → Prop, K u1 → l_X7_putValues_21_2 N (nI m) K (d + 1) (nI i) u := by
  intro d
  induction d with
  | zero =>
    intro i u hi h303 hc
    obtain rfl : i = m := by omega
    refine ⟨u, fun _ => rfl, fun _ => rfl, fun _ _ => rfl, fun _ _ => rfl, hc, fun _ _ => rfl, fun k h1 h2 => by omega, fun _ _ => rfl, fun K hK => ?_⟩
    unfold l_X7_putValues_21_2
    exact sq (nI_le (Nat.le_refl _) (by omega)) hK
  | succ d ih =>
    intro i u hi h303 hc
    obtain ⟨u1, a1, a2, a3, a4, a5, a6, a7, a8, a9⟩ := ih (i + 1) (adS u w i (gB u 605 i)) (by omega) h303 pk_us
    refine ⟨u1, a1, a2, fun k hk => (a3 k hk).trans (by unfold adS; rw [gA_sA, if_neg hk]; rfl), fun k hk => (a4 k hk).trans (by unfold adS; rw [gB_sA, gB_sB, if_neg hk]), a5, fun j hj => (a6 j hj).trans (pk_un hj), fun k h1 h2 => ?_, fun j hj => ?_, fun K hK => ?_⟩
    · by_cases e : k = i
      · subst e
        rw [a8 _ (by omega)]
        exact pk_uLs
      · exact a7 k (by omega) h2
    · rw [a8 j (by omega)]
      exact pk_uLn (by omega)
    · unfold l_X7_putValues_21_2
      refine sf (nI_ge (by omega) (by omega)) (sf (nI_ge (a := i) (b := 8) (by omega) (by omega)) ⟨vp_in_nI (by omega) (by omega), ?_⟩)
      rw [nI_clamp (show i < 2 ^ 31 by omega), nI_1]
      exact addValue_ok hN h303 hwt hc (by omega) (a9 K hK)
theorem apV_loop {w m : Nat} (hw : w < 200) (hm : m ≤ 8) : ∀ (d i : Nat) (v : St), i + d = m → gI v 43 = nI m → gI v 32 = nI (w + 1) → (∀ k, k < i → gB v 38 (8 * w + k) = gB v 42 k) → ∃ f : Nat → Int64, (∀ k, k < m → f (8 * w + k) = gB v 42 k) ∧ (∀ j, j < 8 * w → f j = gB v 38 j) ∧ ∀ K : St → Prop, K (sB v 38 f) → l_X10_apply_161 K (d + 1) (nI i) v := by
  intro d
  induction d with
  | zero =>
    intro i v hi h43 h32 hk
    obtain rfl : i = m := by omega
    refine ⟨gB v 38, hk, fun _ _ => rfl, fun K hK => ?_⟩
    unfold l_X10_apply_161
    rw [h43]
    rw [sB_self] at hK
    exact sq (nI_le (Nat.le_refl _) (by omega)) hK
  | succ d ih =>
    intro i v hi h43 h32 hk
    obtain ⟨f, hf, hf2, q⟩ := ih (i + 1) (sB v 38 (vp_updL (gB v 38) (8 * w + i) (gB v 42 i))) (by omega) h43 h32 (fun k hki => by
      show vp_updL (gB v 38) (8 * w + i) (gB v 42 i) (8 * w + k) = gB v 42 k
      by_cases e : k = i
      · subst e; exact pk_uLs
      · rw [pk_uLn (by omega)]; exact hk k (by omega))
    refine ⟨f, hf, fun j hj => (hf2 j hj).trans (pk_uLn (by omega)), fun K hK => ?_⟩
    unfold l_X10_apply_161
    have e8 : ((8 : Int32) * nI (w + 1) - (8 : Int32)) + nI i = nI (8 * w + i) := by
      rw [show (8 : Int32) * nI (w + 1) = nI (8 * (w + 1)) from pk_mul 8 (w + 1), show nI (8 * (w + 1)) - (8 : Int32) = nI (8 * (w + 1) - 8) from pk_sub (b := 8) (by omega), nI_add]
      rw [show 8 * (w + 1) - 8 + i = 8 * w + i from by omega]
    rw [h43, h32, e8, nI_clamp (show 8 * w + i < 2 ^ 31 by omega), nI_clamp (show i < 2 ^ 31 by omega), nI_1]
    refine sf (nI_ge (by omega) (by omega)) ⟨vp_in_nI (by omega) (by omega), vp_in_nI (by omega) (by omega), q K ?_⟩
    rw [sB_sB]
    exact hK
theorem aC_sub {k : Nat} (hk : k < 150) : aC k - (1099511627776 : Int64) = lN k := by
  unfold aC
  rw [show (1099511627776 : Int64) = lN 1099511627776 from rfl, lN_sub (by omega), Nat.add_sub_cancel_left]
/-- a function that is a name or a number -/
theorem applyAtom_step {N : Nat → Nat} {r A T n t s C st w cnt u0 v0} {u v : St} (hN : LN N n t) (hs : s ≤ 20000) (hlt : st < s) (h : Mh r A T n t C u v) (hW : Wt r A T t w cnt u v) (hR : Rest t s st 0 u0 v0 u v) (hP : MP r A T u v) (hnp : ∀ c d, r c d → gJ u 612 ≠ pC c) (hC : C + 1 < 2 ^ 30) :
    ∃ u1 v1, Res T n t s (C + 1) (st + 1) u0 v0 u1 v1 ∧ (∀ Q : St → Prop, Q u1 → wp_X2_applyAtom N (sI u 607 (nI (st + 1))) Q) ∧ (∀ Q : St → Prop, Q v1 → wp_X10_apply v Q) := by
  have hn := hN.2.2.2.2.2.2.2.2.1
  have hT := h.1.2.2.2.2.1.2.2.2
  obtain ⟨hm1, hm2, ho, hb, hbn, m, hm, hu6, hv43, hx⟩ := hP
  have h8 := hR.2.1.2
  have hM1 : Mh r A T n t C (sI u 607 (nI (st + 1))) (sI v 9 (nI (st + 1))) := h
  have hR1 : Rest t s (st + 1) 0 u0 v0 (sI u 607 (nI (st + 1))) (sI v 9 (nI (st + 1))) := ⟨⟨hR.1.1, hR.1.2.1, hR.1.2.2.1, rfl, rfl⟩, hR.2⟩
  have hfl : ∀ f : Int32, f ≠ 0 → Res T n t s (C + 1) (st + 1) u0 v0 (sI (sI u 607 (nI (st + 1))) 609 f) (sI (sI v 9 (nI (st + 1))) 8 f) := fun f hf => Res_mono (fld_ok f hf hM1 hR1) (Nat.le_succ _)
  rcases id ho with ⟨z, e1, e2⟩ | ⟨k, hk, e1, e2⟩ | ⟨c, d, hr, e1, e2⟩
  · refine ⟨_, _, hfl 4 (by decide), fun Q hQ => ?_, fun Q hQ => ?_⟩
    · show wp_X8_isFixed (gJ u 612) _
      rw [e1]
      exact isFixed_n (sf (by decide) hQ)
    · refine begins_ok hR.1.2.2.2.2 hR.1.2.1 hlt hs (sf (by decide) ?_)
      show wp_X10_isNumber (gJ v 40) _
      rw [e2]
      exact rNumber_n (sf (by decide) (fails_ok h8 hQ))
  · by_cases hk2 : k < 2
    · refine ⟨_, _, hfl 4 (by decide), fun Q hQ => ?_, fun Q hQ => ?_⟩
      · show wp_X8_isFixed (gJ u 612) _
        rw [e1]
        exact isFixed_01 hk2 (sf (by decide) hQ)
      · refine begins_ok hR.1.2.2.2.2 hR.1.2.1 hlt hs (sf (by decide) ?_)
        show wp_X10_isNumber (gJ v 40) _
        rw [e2]
        refine rNumber_a (by omega) (sq rfl ⟨fun _ => fails_ok h8 hQ, fun c1 => ⟨fun _ => fails_ok h8 hQ, fun c2 => ?_⟩⟩)
        have c1' : ¬ gJ v 40 = (4294967296 : Int64) := c1
        have c2' : ¬ gJ v 40 = (4294967297 : Int64) := c2
        rw [e2] at c1' c2'
        rw [(aR_lit (by omega)).1] at c1'
        rw [(aR_lit (by omega)).2] at c2'
        omega
    · -- a name that isn't fixed
      have hRe : ∀ {Q : St → Prop}, ((nI k ≤ (6 : Int32) → wp_X10_lookUp (aR k) (sI v 9 (nI (st + 1))) (fun (r17 : Int64) (u18 : St) => Q (sJ u18 40 r17))) ∧ (¬ nI k ≤ (6 : Int32) → (((18 : Int32) ≤ nI k → wp_X10_lookUp (aR k) (sI v 9 (nI (st + 1))) (fun (r19 : Int64) (u20 : St) => Q (sJ u20 40 r19))) ∧ (¬ (18 : Int32) ≤ nI k → wp_X10_primitive (nI k) (sI v 9 (nI (st + 1))) (fun (u21 : St) => Q u21))))) → wp_X10_apply v Q := fun {Q} hq => by
        refine begins_ok hR.1.2.2.2.2 hR.1.2.1 hlt hs (sf (by decide) ?_)
        have e40 : gJ (sI v 9 (nI (st + 1))) 40 = aR k := e2
        rw [e40]
        refine rNumber_a (by omega) (sq rfl (sf (fun e => ?_) (sf (fun e => ?_) (rName_a (by omega) (sf (by decide) ?_)))))
        · rw [(aR_lit (by omega)).1] at e; omega
        · rw [(aR_lit (by omega)).2] at e; omega
        · rw [aR_place (by omega)]
          exact hq
      have hCl : ∀ {Q : St → Prop}, (((lN k) < (7 : Int64) → wp_X2_boundTo N (aC k) (sI u 607 (nI (st + 1))) (fun (r2 : Int64) (u3 : St) => ((r2 = (3298534883331 : Int64) → Q (sI u3 609 (1 : Int32))) ∧ (¬ r2 = (3298534883331 : Int64) → wp_X2_beginApplying N r2 u3 (fun (u4 : St) => Q u4))))) ∧ (¬ (lN k) < (7 : Int64) → (((17 : Int64) < (lN k) → wp_X2_boundTo N (aC k) (sI u 607 (nI (st + 1))) (fun (r5 : Int64) (u6 : St) => ((r5 = (3298534883331 : Int64) → Q (sI u6 609 (1 : Int32))) ∧ (¬ r5 = (3298534883331 : Int64) → wp_X2_beginApplying N r5 u6 (fun (u7 : St) => Q u7))))) ∧ (¬ (17 : Int64) < (lN k) → wp_X2_applyBuiltIn N (nI k) (sI u 607 (nI (st + 1))) (fun (u8 : St) => Q u8))))) → wp_X2_applyAtom N (sI u 607 (nI (st + 1))) Q := fun {Q} hq => by
        unfold wp_X2_applyAtom
        have e40 : gJ (sI u 607 (nI (st + 1))) 612 = aC k := e1
        rw [e40]
        refine isFixed_a (by omega) (by omega) (sq rfl ?_)
        rw [aC_sub (by omega), lN_i]
        exact hq
      by_cases hbi : 7 ≤ k ∧ k ≤ 17
      · obtain ⟨u1, v1, g1, g2, g3⟩ := prim_step (k := k) hN hM1 hW hR1 hm hu6 hv43 hx hC hbi.1 hbi.2
        refine ⟨u1, v1, g1, fun Q hQ => hCl (sf ?_ (sf ?_ (g2 Q hQ))), fun Q hQ => hRe (sf ?_ (sf ?_ (g3 Q hQ)))⟩
        · exact fun e => absurd ((lN_lt (a := k) (b := 7) (by omega) (by omega)).mp e) (by omega)
        · exact fun e => absurd ((lN_lt (a := 17) (b := k) (by omega) (by omega)).mp e) (by omega)
        · exact nI_ge (a := 6) (b := k) (by omega) (by omega)
        · exact nI_ge (a := k) (b := 18) (by omega) (by omega)
      · -- bound to something
        have hRe2 : ∀ {Q : St → Prop}, wp_X10_lookUp (aR k) (sI v 9 (nI (st + 1))) (fun (r17 : Int64) (u18 : St) => Q (sJ u18 40 r17)) → wp_X10_apply v Q := fun {Q} hq => hRe ⟨fun _ => hq, fun c1 => ⟨fun _ => hq, fun c2 => by
          exfalso
          apply hbi
          refine ⟨?_, ?_⟩
          · exact Classical.byContradiction (fun h9 => c1 (nI_le (a := k) (b := 6) (by omega) (by omega)))
          · exact Classical.byContradiction (fun h9 => c2 (nI_le (a := 18) (b := k) (by omega) (by omega)))⟩⟩
        have hCl2 : ∀ {Q : St → Prop}, wp_X2_boundTo N (aC k) (sI u 607 (nI (st + 1))) (fun (r2 : Int64) (u3 : St) => ((r2 = (3298534883331 : Int64) → Q (sI u3 609 (1 : Int32))) ∧ (¬ r2 = (3298534883331 : Int64) → wp_X2_beginApplying N r2 u3 (fun (u4 : St) => Q u4)))) → wp_X2_applyAtom N (sI u 607 (nI (st + 1))) Q := fun {Q} hq => hCl ⟨fun _ => hq, fun c1 => ⟨fun _ => hq, fun c2 => by
          exfalso
          apply hbi
          refine ⟨?_, ?_⟩
          · exact Classical.byContradiction (fun h9 => c1 ((lN_lt (a := k) (b := 7) (by omega) (by omega)).mpr (by omega)))
          · exact Classical.byContradiction (fun h9 => c2 ((lN_lt (a := 17) (b := k) (by omega) (by omega)).mpr (by omega)))⟩⟩
        rcases look_both (u := sI u 607 (nI (st + 1))) (v := sI v 9 (nI (st + 1))) hN h.1 hk hb hbn h8 with ⟨x1, y1, ho1, q1, q2⟩ | ⟨q1, q2⟩
        · exact ⟨sI (sJ (sI u 607 (nI (st + 1))) 612 x1) 608 2, sJ (sI v 9 (nI (st + 1))) 40 y1, Or.inr (Or.inl ⟨r, A, w, cnt, Mh_mono hM1 (Nat.le_succ _), hW, hR1, rfl, hm2, ho1, hb, hbn, m, hm, hu6, hv43, hx⟩), fun Q hQ => hCl2 (q1 _ (sf (ob_nABS h.1.1 hT hn ho1) hQ)), fun Q hQ => hRe2 (q2 _ hQ)⟩
        · exact ⟨sI (sI u 607 (nI (st + 1))) 609 1, sJ (sI (sI v 9 (nI (st + 1))) 8 1) 40 (-1), Or.inr (Or.inr (Or.inr ⟨r, A, 1, by decide, Mh_mono hM1 (Nat.le_succ _), hR1.1, ⟨rfl, rfl⟩, hR1.2.2⟩)), fun Q hQ => hCl2 (q1 _ (sq rfl hQ)), fun Q hQ => hRe2 (q2 _ hQ)⟩
  · exact absurd e1 (hnp c d hr)
/-- a function that is a pair -/
theorem applyPair_step {N : Nat → Nat} {r A T n t s C st w cnt u0 v0} {u v : St} {c d : Nat} (hN : LN N n t) (hs : s ≤ 20000) (hlt : st < s) (h : Mh r A T n t C u v) (hW : Wt r A T t w cnt u v) (hR : Rest t s st 0 u0 v0 u v) (hP : MP r A T u v) (hr : r c d) (e1 : gJ u 612 = pC c) (e2 : gJ v 40 = pR d) (hC : C + 1 < 2 ^ 30) :
    ∃ u1 v1, Res T n t s (C + 1) (st + 1) u0 v0 u1 v1 ∧ (∀ Q : St → Prop, Q u1 → wp_X2_applyPair N (sI u 607 (nI (st + 1))) Q) ∧ (∀ Q : St → Prop, Q v1 → wp_X10_apply v Q) := by
  have hn := hN.2.2.2.2.2.2.2.2.1
  have ht := hN.2.2.2.2.2.2.2.2.2.1
  have hT := h.1.2.2.2.2.1.2.2.2
  have hT18 := h.1.2.2.2.2.1.2.2.1
  have hT0 : 0 < T := by omega
  obtain ⟨hm1, hm2, ho, hb, hbn, m, hm, hu6, hv43, hx⟩ := hP
  have h8 := hR.2.1.2
  generalize hU : sI u 607 (nI (st + 1)) = U
  generalize hV : sI v 9 (nI (st + 1)) = V
  have hM1 : Mh r A T n t C U V := by rw [← hU, ← hV]; exact h
  have hW1 : Wt r A T t w cnt U V := by rw [← hU, ← hV]; exact hW
  have hR1 : Rest t s (st + 1) 0 u0 v0 U V := by rw [← hU, ← hV]; exact ⟨⟨hR.1.1, hR.1.2.1, hR.1.2.2.1, rfl, rfl⟩, hR.2⟩
  have eU : gJ U 612 = pC c := by rw [← hU]; exact e1
  have eV : gJ V 40 = pR d := by rw [← hV]; exact e2
  have hb1 : ob r T (gJ U 613) (gJ V 41) := by rw [← hU, ← hV]; exact hb
  have hbn1 : bn A (gJ V 41) := by rw [← hV]; exact hbn
  have h81 : gI V 8 = 0 := by rw [← hV]; exact h8
  have hu61 : gI U 606 = nI m := by rw [← hU]; exact hu6
  have hv431 : gI V 43 = nI m := by rw [← hV]; exact hv43
  have hm11 : gI U 608 = 2 := by rw [← hU]; exact hm1
  have hm21 : gI V 39 = 1 := by rw [← hV]; exact hm2
  have hx1 : ∀ k, k < m → ob r T (gB U 605 k) (gB V 42 k) := by rw [← hU, ← hV]; exact hx
  have h1 := hM1.1.1
  have a1 := h1.1 _ _ hr
  obtain ⟨oh, om⟩ := h1.2.2.2 _ _ hr
  have hfl : ∀ f : Int32, f ≠ 0 → Res T n t s (C + 1) (st + 1) u0 v0 (sI U 609 f) (sI V 8 f) := fun f hf => Res_mono (fld_ok f hf hM1 hR1) (Nat.le_succ _)
  have q5 : gB U 800 c = (1099511627781 : Int64) ↔ gB V 13 d = (4294967301 : Int64) := obE h1 hT hn oh (ob_a (k := 5) (by omega))
  have q6 : gB U 800 c = (1099511627782 : Int64) ↔ gB V 13 d = (4294967302 : Int64) := obE h1 hT hn oh (ob_a (k := 6) (by omega))
  have hRe : ∀ {Q : St → Prop}, ((gB V 13 d = (4294967301 : Int64) → wp_X10_lambda (pR d) V (fun (u16 : St) => Q u16)) ∧ (¬ gB V 13 d = (4294967301 : Int64) → ((gB V 13 d = (4294967302 : Int64) → wp_X10_label (pR d) V (fun (u15 : St) => Q u15)) ∧ (¬ gB V 13 d = (4294967302 : Int64) → wp_X10_waits (2 : Int32) (4294967296 : Int64) (4294967296 : Int64) V (fun (r11 : Int32) (u12 : St) => ((r11 = 0 → Q u12) ∧ (¬ r11 = 0 → vp_in ((gI u12 32) - (1 : Int32)) 200 ∧ (∃ k14 : Nat, l_X10_apply_161 (fun (u13 : St) => Q (sI u13 39 (0 : Int32))) k14 (0 : Int32) (sA u12 37 (upd (gA u12 37) (((gI u12 32) - (1 : Int32))).toNatClampNeg (gI u12 43))))))))))) → wp_X10_apply v Q := fun {Q} hq => by
    refine begins_ok hR.1.2.2.2.2 hR.1.2.1 hlt hs (sf (by decide) ?_)
    rw [hV, eV]
    exact rNumber_p a1.2 (sq rfl (sf (fun e => pR_ne_a (k := 0) a1.2 (by omega) e.symm) (sf (fun e => pR_ne_a (k := 1) a1.2 (by omega) e.symm) (rName_p a1.2 (sq rfl (first_p a1.2 ⟨hq.1, fun e => first_p a1.2 (hq.2 e)⟩))))))
  have hCl : ∀ {Q : St → Prop}, ((gB U 800 c = (1099511627781 : Int64) → wp_X2_applyLambda N U (fun (u8 : St) => Q u8)) ∧ (¬ gB U 800 c = (1099511627781 : Int64) → ((gB U 800 c = (1099511627782 : Int64) → wp_X2_applyLabel N U (fun (u7 : St) => Q u7)) ∧ (¬ gB U 800 c = (1099511627782 : Int64) → wp_X7_push N (2 : Int32) (1099511627776 : Int64) (1099511627776 : Int64) (gJ U 613) U (fun (r3 : Int32) (u4 : St) => ((r3 = 0 → Q (sI u4 609 (7 : Int32))) ∧ (¬ r3 = 0 → wp_X7_putValues_21 N (gI u4 606) u4 (fun (u5 : St) => wp_X2_beginEvaluating N (gJ u5 612) (gJ u5 613) u5 (fun (u6 : St) => Q u6))))))))) → wp_X2_applyPair N U Q := fun {Q} hq => by
    unfold wp_X2_applyPair
    rw [eU]
    exact car_p hN a1.1 hq
  by_cases hq5 : gB U 800 c = (1099511627781 : Int64)
  · obtain ⟨u1, v1, g1, g2, g3⟩ := lambda_step hN hM1 hW1 hR1 hm hu61 hv431 hx1 hr eU eV hb1 hbn1 hC
    exact ⟨u1, v1, g1, fun Q hQ => hCl (sq hq5 (g2 Q hQ)), fun Q hQ => hRe (sq (q5.mp hq5) (g3 Q hQ))⟩
  · have hq5' : ¬ gB V 13 d = (4294967301 : Int64) := fun e => hq5 (q5.mpr e)
    by_cases hq6 : gB U 800 c = (1099511627782 : Int64)
    · obtain ⟨u1, v1, g1, g2, g3⟩ := label_step hN hM1 hW1 hR1 hm hu61 hv431 hx1 hr eU eV hb1 hbn1 hm11 hm21 hC
      exact ⟨u1, v1, g1, fun Q hQ => hCl (sf hq5 (sq hq6 (g2 Q hQ))), fun Q hQ => hRe (sf hq5' (sq (q6.mp hq6) (g3 Q hQ)))⟩
    · have hq6' : ¬ gB V 13 d = (4294967302 : Int64) := fun e => hq6 (q6.mpr e)
      rcases push_both (kd := 2) (x0 := aC 0) (y0 := aR 0) (x1 := aC 0) (y1 := aR 0) (xb := gJ U 613) hN hW1 hM1.2.2.2 hR1.1.2.2.1 h81 (Or.inr (Or.inr rfl)) (ob_a hT0) (ob_a hT0) hb1 hbn1 (fun e => absurd e (by decide)) with ⟨p1, p2⟩ | ⟨u1, v1, ⟨hwt, hkd⟩, p3, p4, p5, p6, p1, p2⟩
      · exact ⟨_, _, hfl 7 (by decide), fun Q hQ => hCl (sf hq5 (sf hq6 (p1 _ (sq rfl hQ)))), fun Q hQ => hRe (sf hq5' (sf hq6' (p2 _ (sq rfl hQ))))⟩
      · have hM2 := Mh_U hM1 p4 p5 p6
        have hR2 := Rest_U hR1 p5 p6
        obtain ⟨w1, w2, w3, w4⟩ := p3
        obtain ⟨c1, c2, c3, c4, c5, c6, c7, c8, c9, c10, c11, c12, c13⟩ := w4 w (by omega)
        have e301 : gA u1 301 w = nI 0 := by rw [c3]; simp
        have z606 : gI u1 606 = nI m := by rw [p5.1 606 (by decide) (by decide)]; exact hu61
        have z43 : gI v1 43 = nI m := by rw [p6.1 43 (by decide) (by decide)]; exact hv431
        have z605 : gB u1 605 = gB U 605 := p5.2.2.2 605 (by decide)
        have z42 : gB v1 42 = gB V 42 := p6.2.2.2 42 (by decide) (by decide) (by decide) (by decide)
        obtain ⟨u2, s1, s2, s3, s4, s5, s6, s7, s8, s9⟩ := putV_loop hN hwt hm m 0 u1 (by omega) w1 e301
        obtain ⟨f, f1, f2, f3⟩ := apV_loop (w := w) (m := m) (by omega) hm m 0 (sA v1 37 (upd (gA v1 37) w (nI m))) (by omega) z43 w2 (fun k hk => absurd hk (by omega))
        have hM3 : Mh r A T n t (C + 1) (sI (sJ (sJ u2 610 (pC c)) 613 (gJ U 613)) 608 0) (sI (sB (sA v1 37 (upd (gA v1 37) w (nI m))) 38 f) 39 0) := by
          obtain ⟨b1, b2, b3, b4⟩ := Mh_mono hM2 (Nat.le_succ C)
          refine ⟨?_, ?_, ?_, ?_⟩
          · unfold Core HpR SP AL rwd Glb
            show hp r T n (gB u2 800) (gB u2 801) (gB v1 13) (gB v1 14) ∧ (∃ rk : Nat → Nat, ∀ c d, r c d → ∀ b, b < 1000 → gB u2 801 c = pC b → rk b < rk c) ∧ _ ∧ _ ∧ (gI u2 202 = nI T ∧ _) ∧ (∀ k, k < T → (gB u2 201 k = (3298534883331 : Int64) ∧ gB v1 20 k = (-1 : Int64)) ∨ ob r T (gB u2 201 k) (gB v1 20 k)) ∧ _
            rw [s4 800 (by decide), s4 801 (by decide), s4 201 (by decide), s1 202]
            exact b1
          · unfold FR
            show ∃ FL : List Nat, (gI u2 805 = nI FL.length ∧ FL.Nodup ∧ (∀ c ∈ FL, c < n) ∧ ∀ j, j < FL.length → gA u2 804 j = nI (FL.getD j 0)) ∧ ∀ c d, r c d → c ∉ FL
            rw [s1 805, s3 804 (by decide)]
            exact b2
          · unfold RI
            show ∃ R, (gI u2 806 = nI R ∧ ∀ c, c < n → ∃ j, j ≤ R ∧ gA u2 802 c = nI j) ∧ R ≤ C + 1
            rw [s1 806, s3 802 (by decide)]
            exact b3
          · unfold Gr
            show ∃ g, gI u2 304 = nI g ∧ gI v1 10 = nI g ∧ g ≤ t
            rw [s1 304]
            exact b4
        have hR3 : Rest t s (st + 1) 0 u0 v0 (sI (sJ (sJ u2 610 (pC c)) 613 (gJ U 613)) 608 0) (sI (sB (sA v1 37 (upd (gA v1 37) w (nI m))) 38 f) 39 0) := by
          unfold Rest FzC Gz
          show (gI u2 604 = nI s ∧ gI v1 3 = nI s ∧ gI v1 2 = nI t ∧ gI u2 607 = nI (st + 1) ∧ gI v1 9 = nI (st + 1)) ∧ (gI u2 609 = 0 ∧ gI v1 8 = 0) ∧ (gI u2 7 = gI u0 7 ∧ gI u2 101 = gI u0 101 ∧ gI u2 102 = gI u0 102 ∧ gI u2 103 = gI u0 103 ∧ gI u2 706 = gI u0 706 ∧ gA u2 100 = gA u0 100 ∧ gA u2 702 = gA u0 702 ∧ gB u2 200 = gB u0 200 ∧ (gI u2 202 = gI u0 202 ∧ ∀ T k, T ≤ 150 → gI u0 202 = nI T → T ≤ k → k < 150 → gB u2 201 k = gB u0 201 k)) ∧ FzR v0 v1
          rw [s1 604, s1 607, s1 609, s1 7, s1 101, s1 102, s1 103, s1 706, s3 100 (by decide), s3 702 (by decide), s4 200 (by decide), s1 202, s4 201 (by decide)]
          exact hR2
        have hb3 : gJ v1 41 = gJ V 41 := p6.2.1 41
        have hb4 : gJ v1 40 = pR d := (p6.2.1 40).trans eV
        refine ⟨sI (sJ (sJ u2 610 (pC c)) 613 (gJ U 613)) 608 0, sI (sB (sA v1 37 (upd (gA v1 37) w (nI m))) 38 f) 39 0, Or.inl ⟨r, A, w + 1, fun j => if j = w then m else cnt j, hM3, ⟨(s1 303).trans w1, w2, w3, fun j hj => ?_⟩, hR3, rfl, rfl, ?_, ?_, ?_⟩, fun Q hQ => hCl (sf hq5 (sf hq6 (p1 _ (sf (by decide) ?_)))), fun Q hQ => hRe (sf hq5' (sf hq6' (p2 _ (sf (by decide) ?_))))⟩
        · by_cases ej : j = w
          · have ec : (fun j => if j = w then m else cnt j) j = m := if_pos ej
            rw [ej] at ec ⊢
            unfold Frm
            rw [ec]
            have ecw : (fun j => if j = w then 0 else cnt j) w = 0 := if_pos rfl
            rw [ecw] at c12
            show gA u2 300 w = gA v1 33 w ∧ (gA v1 33 w = 0 ∨ gA v1 33 w = 1 ∨ gA v1 33 w = 2) ∧ gA u2 301 w = nI m ∧ upd (gA v1 37) w (nI m) w = nI m ∧ m ≤ 8 ∧ (gA v1 33 w = 0 → m ≤ 7) ∧ ob r T (gB u2 302 (w * 11)) (gB v1 34 w) ∧ ob r T (gB u2 302 (w * 11 + 1)) (gB v1 35 w) ∧ ob r T (gB u2 302 (w * 11 + 2)) (gB v1 36 w) ∧ bn A (gB v1 36 w) ∧ (∀ k, k < m → ob r T (gB u2 302 (w * 11 + 3 + k)) (f (8 * w + k))) ∧ (∀ k, m ≤ k → k < 8 → gB u2 302 (w * 11 + 3 + k) = aC 0) ∧ (gA v1 33 w = 1 → _)
            rw [s3 300 (by decide), s8 _ (by omega), s8 _ (by omega), s8 _ (by omega)]
            refine ⟨c1, c2, s5, pk_us, hm, fun e => absurd (hkd.symm.trans e) (by decide), c7, c8, c9, c10, fun k hk => ?_, fun k hk hk8 => ?_, fun e => absurd (hkd.symm.trans e) (by decide)⟩
            · rw [s7 k (by omega) hk, f1 k hk]
              show ob r T (gB u1 605 k) (gB v1 42 k)
              rw [z605, z42]
              exact hx1 k hk
            · rw [s8 _ (by omega)]
              exact c12 k (by omega) hk8
          · have hj2 : j < w := by omega
            have ec : (fun j => if j = w then m else cnt j) j = (fun j => if j = w then 0 else cnt j) j := by
              show (if j = w then m else cnt j) = (if j = w then 0 else cnt j)
              rw [if_neg ej, if_neg ej]
            refine Frm_ag hj2 (w4 j hj) ⟨fun i hi => ⟨?_, ?_, rfl, pk_un (by omega), rfl, rfl, rfl⟩, fun i hi => ?_, fun i hi => ?_, rfl, rfl⟩ ec
            · show gA u2 300 i = gA u1 300 i
              rw [s3 300 (by decide)]
            · exact s6 i (by omega)
            · exact s8 i (by omega)
            · exact f2 i hi
        · show ob r T (pC c) (gJ v1 40)
          rw [hb4]
          exact Or.inr (Or.inr ⟨c, d, hr, rfl, rfl⟩)
        · show ob r T (gJ U 613) (gJ v1 41)
          rw [hb3]
          exact hb1
        · show bn A (gJ v1 41)
          rw [hb3]
          exact hbn1
        · rw [z606]
          refine ⟨m + 1, s9 _ ?_⟩
          show Q (sI (sJ (sJ u2 610 (gJ u2 612)) 613 (gJ u2 613)) 608 0)
          rw [s2 612, s2 613, p5.2.1 612, p5.2.1 613, eU]
          exact hQ
        · rw [w2, show nI (w + 1) - (1 : Int32) = nI w from nI_pred w, nI_clamp (show w < 2 ^ 31 by omega), z43]
          exact ⟨vp_in_nI (by omega) (by omega), m + 1, f3 _ hQ⟩
