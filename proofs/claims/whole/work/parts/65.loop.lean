/-! PURE: the machine's loop on both sides -/
theorem cl_out {N : Nat → Nat} {c3 x4 : Int32} {K : St → Prop} {u : St} {f : Nat} (h : ¬ gI u 609 = 0) (hK : K u) : l_X2_evaluate_25 N c3 K (f + 1) x4 u := by
  unfold l_X2_evaluate_25
  exact ⟨fun _ => hK, fun _ => ⟨fun _ => hK, fun _ => sf h hK⟩⟩
theorem cl_done {N : Nat → Nat} {c3 x4 : Int32} {K : St → Prop} {u : St} {f : Nat} (h : gI u 608 = 4) (hK : K u) : l_X2_evaluate_25 N c3 K (f + 1) x4 u := by
  unfold l_X2_evaluate_25
  exact ⟨fun _ => hK, fun _ => sq h hK⟩
theorem cl_back {N : Nat → Nat} {K : St → Prop} {u : St} {f s i : Nat} (hs : s ≤ 20000) (hi : i < 2 * s + 4) (h8 : gI u 608 = 3) (h9 : gI u 609 = 0) (h : wp_X2_handBack N u (fun u13 => l_X2_evaluate_25 N (nI (2 * s + 4)) K f (nI (i + 1)) u13)) : l_X2_evaluate_25 N (nI (2 * s + 4)) K (f + 1) (nI i) u := by
  unfold l_X2_evaluate_25
  rw [h8, h9, nI_1]
  exact sf (nI_ge (by omega) (by omega)) (sf (by decide) (sq rfl (sq rfl h)))
theorem cl_nostep {N : Nat → Nat} {K : St → Prop} {u : St} {f s i : Nat} (hs : s ≤ 20000) (hi : i < 2 * s + 4) (h8 : gI u 608 = 0 ∨ gI u 608 = 1 ∨ gI u 608 = 2) (h9 : gI u 609 = 0) (h7 : gI u 607 = nI s) (h4 : gI u 604 = nI s) (h : l_X2_evaluate_25 N (nI (2 * s + 4)) K f (nI (i + 1)) (sI u 609 (8 : Int32))) : l_X2_evaluate_25 N (nI (2 * s + 4)) K (f + 1) (nI i) u := by
  unfold l_X2_evaluate_25
  rw [h9, nI_1, h7, h4]
  have a1 : ¬ gI u 608 = 4 := by rcases h8 with e | e | e <;> rw [e] <;> decide
  have a2 : ¬ gI u 608 = 3 := by rcases h8 with e | e | e <;> rw [e] <;> decide
  exact sf (nI_ge (by omega) (by omega)) (sf a1 (sq rfl (sf a2 (sf (nI_nlt (Nat.le_refl _) (by omega)) h))))
theorem cl_choose {N : Nat → Nat} {K : St → Prop} {u : St} {f s i st : Nat} (hs : s ≤ 20000) (hi : i < 2 * s + 4) (hlt : st < s) (h8 : gI u 608 = 1) (h9 : gI u 609 = 0) (h7 : gI u 607 = nI st) (h4 : gI u 604 = nI s) (h : wp_X2_choose N (sI u 607 (nI (st + 1))) (fun u12 => l_X2_evaluate_25 N (nI (2 * s + 4)) K f (nI (i + 1)) u12)) : l_X2_evaluate_25 N (nI (2 * s + 4)) K (f + 1) (nI i) u := by
  unfold l_X2_evaluate_25
  rw [h8, h9, nI_1, h7, h4, nI_1]
  exact sf (nI_ge (by omega) (by omega)) (sf (by decide) (sq rfl (sf (by decide) (sq (nI_lt hlt (by omega)) (sq rfl h)))))
theorem cl_eval {N : Nat → Nat} {K : St → Prop} {u : St} {f s i st : Nat} (hs : s ≤ 20000) (hi : i < 2 * s + 4) (hlt : st < s) (h8 : gI u 608 = 0) (h9 : gI u 609 = 0) (h7 : gI u 607 = nI st) (h4 : gI u 604 = nI s) (h : wp_X8_isPair (gJ u 610) (fun r6 => ((r6 = 0 → wp_X2_evaluateAtom N (sI u 607 (nI (st + 1))) (fun u10 => l_X2_evaluate_25 N (nI (2 * s + 4)) K f (nI (i + 1)) u10)) ∧ (¬ r6 = 0 → wp_X2_evaluatePair N (sI u 607 (nI (st + 1))) (fun u11 => l_X2_evaluate_25 N (nI (2 * s + 4)) K f (nI (i + 1)) u11))))) : l_X2_evaluate_25 N (nI (2 * s + 4)) K (f + 1) (nI i) u := by
  unfold l_X2_evaluate_25
  rw [h8, h9, nI_1, h7, h4, nI_1]
  refine sf (nI_ge (by omega) (by omega)) (sf (by decide) (sq rfl (sf (by decide) (sq (nI_lt hlt (by omega)) (sf (by decide) (sq rfl ?_))))))
  have hk : ∀ (R1 R2 : Int32 → Prop), (∀ x, R1 x → R2 x) → wp_X8_isPair (gJ u 610) R1 → wp_X8_isPair (gJ u 610) R2 := fun R1 R2 hi h9 => ⟨fun c => hi _ (h9.1 c), fun c => ⟨fun d => hi _ ((h9.2 c).1 d), fun d => hi _ ((h9.2 c).2 d)⟩⟩
  exact hk _ _ (fun x ⟨g1, g2⟩ => ⟨fun e => sq rfl (g1 e), g2⟩) h
theorem cl_apply {N : Nat → Nat} {K : St → Prop} {u : St} {f s i st : Nat} (hs : s ≤ 20000) (hi : i < 2 * s + 4) (hlt : st < s) (h8 : gI u 608 = 2) (h9 : gI u 609 = 0) (h7 : gI u 607 = nI st) (h4 : gI u 604 = nI s) (h : wp_X8_isPair (gJ u 612) (fun r2 => ((r2 = 0 → wp_X2_applyAtom N (sI u 607 (nI (st + 1))) (fun u3 => l_X2_evaluate_25 N (nI (2 * s + 4)) K f (nI (i + 1)) u3)) ∧ (¬ r2 = 0 → wp_X2_applyPair N (sI u 607 (nI (st + 1))) (fun u4 => l_X2_evaluate_25 N (nI (2 * s + 4)) K f (nI (i + 1)) u4))))) : l_X2_evaluate_25 N (nI (2 * s + 4)) K (f + 1) (nI i) u := by
  unfold l_X2_evaluate_25
  rw [h8, h9, nI_1, h7, h4, nI_1]
  exact sf (nI_ge (by omega) (by omega)) (sf (by decide) (sq rfl (sf (by decide) (sq (nI_lt hlt (by omega)) (sf (by decide) (sf (by decide) (sf (by decide) h)))))))
theorem rl_out {K : St → Prop} {v : St} {f : Nat} (h : ¬ gI v 8 = 0) (hK : K v) : l_X10_evaluateAll_22 K (f + 1) v := by
  unfold l_X10_evaluateAll_22
  exact sf h hK
theorem rl_done {K : St → Prop} {v : St} {f : Nat} (h8 : gI v 8 = 0) (h : gI v 39 = 2) (h32 : gI v 32 = 0) (hK : K v) : l_X10_evaluateAll_22 K (f + 1) v := by
  unfold l_X10_evaluateAll_22
  exact sq h8 (sq h (sq (by rw [h32]; decide) hK))
theorem rl_eval {K : St → Prop} {v : St} {f : Nat} (h8 : gI v 8 = 0) (h : gI v 39 = 0) (hK : wp_X10_evaluate v (fun u => l_X10_evaluateAll_22 K f u)) : l_X10_evaluateAll_22 K (f + 1) v := by
  unfold l_X10_evaluateAll_22
  exact sq h8 (sf (by rw [h]; decide) (sq h hK))
theorem rl_apply {K : St → Prop} {v : St} {f : Nat} (h8 : gI v 8 = 0) (h : gI v 39 = 1) (hK : wp_X10_apply v (fun u => l_X10_evaluateAll_22 K f u)) : l_X10_evaluateAll_22 K (f + 1) v := by
  unfold l_X10_evaluateAll_22
  exact sq h8 (sf (by rw [h]; decide) (sf (by rw [h]; decide) (sq h hK)))
theorem rl_back {K : St → Prop} {v : St} {f w : Nat} (h8 : gI v 8 = 0) (h : gI v 39 = 2) (h32 : gI v 32 = nI (w + 1)) (hw : w < 200) (hK : wp_X10_back v (fun u => l_X10_evaluateAll_22 K f u)) : l_X10_evaluateAll_22 K (f + 1) v := by
  unfold l_X10_evaluateAll_22
  exact sq h8 (sq h (sf (by rw [h32]; exact nI_nle (by omega) (by omega)) (sf (by rw [h]; decide) (sf (by rw [h]; decide) hK))))
def Dn (T n t s C st : Nat) (u0 v0 u v : St) : Prop := ∃ r A, Mh r A T n t C u v ∧ Rest t s st 0 u0 v0 u v ∧ ob r T (gJ u 614) (gJ v 40)
def LoopR (N : Nat → Nat) (T n t s B : Nat) (u0 v0 u v : St) (i : Nat) : Prop := ∃ (u1 v1 : St) (st1 fC fR : Nat), st1 ≤ s ∧ (Dn T n t s (B + st1) st1 u0 v0 u1 v1 ∨ Fld T n t s (B + st1) st1 u0 v0 u1 v1) ∧ (∀ K : St → Prop, K u1 → l_X2_evaluate_25 N (nI (2 * s + 4)) K fC (nI i) u) ∧ (∀ K : St → Prop, K v1 → l_X10_evaluateAll_22 K fR v)
theorem loop_fld {N : Nat → Nat} {T n t s B st i} {u0 v0 u v : St} (h : Fld T n t s (B + st) st u0 v0 u v) (hst : st ≤ s) : LoopR N T n t s B u0 v0 u v i := by
  refine ⟨u, v, st, 1, 1, hst, Or.inr h, fun K hK => ?_, fun K hK => ?_⟩
  · obtain ⟨r, A, f, hf, _, hR⟩ := h
    exact cl_out (by rw [hR.2.1.1]; exact hf) hK
  · obtain ⟨r, A, f, hf, _, hR⟩ := h
    exact rl_out (by rw [hR.2.1.2]; exact hf) hK
theorem RunE_mono {T n t s C C2 st u0 v0} {u v : St} (h : RunE T n t s C st u0 v0 u v) (hc : C ≤ C2) : RunE T n t s C2 st u0 v0 u v := by
  obtain ⟨r, A, w, cnt, h1, h2⟩ := h
  exact ⟨r, A, w, cnt, Mh_mono h1 hc, h2⟩
theorem Fld_mono {T n t s C C2 st u0 v0} {u v : St} (h : Fld T n t s C st u0 v0 u v) (hc : C ≤ C2) : Fld T n t s C2 st u0 v0 u v := by
  obtain ⟨r, A, f, h0, h1, h2⟩ := h
  exact ⟨r, A, f, h0, Mh_mono h1 hc, h2⟩
theorem eval_loop {N : Nat → Nat} {T n t s B : Nat} {u0 v0 : St} (hN : LN N n t) (hs : s ≤ 20000) (hB : B + s + 1 < 2 ^ 30) : ∀ (μ st i : Nat) (u v : St), st ≤ s →
    (((RunE T n t s (B + st) st u0 v0 u v ∨ RunP T n t s (B + st) st u0 v0 u v) ∧ i ≤ 2 * st ∧ 3 * (s - st) ≤ μ) ∨ (RunH T n t s (B + st) st u0 v0 u v ∧ i + 1 ≤ 2 * st ∧ 3 * (s - st) + 1 ≤ μ)) → LoopR N T n t s B u0 v0 u v i := by
  have ht := hN.2.2.2.2.2.2.2.2.2.1
  have hn := hN.2.2.2.2.2.2.2.2.1
  intro μ
  induction μ using Nat.strongRecOn with
  | ind μ ih =>
    intro st i u v hst hmode
    -- what follows a step
    have after : ∀ (u1 v1 : St), st < s → i ≤ 2 * st → 3 * (s - st) ≤ μ → Res T n t s (B + (st + 1)) (st + 1) u0 v0 u1 v1 → LoopR N T n t s B u0 v0 u1 v1 (i + 1) := fun u1 v1 hlt hi hμ hres => by
      rcases hres with h | h | h | h
      · exact ih (3 * (s - (st + 1))) (by omega) (st + 1) (i + 1) u1 v1 (by omega) (Or.inl ⟨Or.inl h, by omega, Nat.le_refl _⟩)
      · exact ih (3 * (s - (st + 1))) (by omega) (st + 1) (i + 1) u1 v1 (by omega) (Or.inl ⟨Or.inr h, by omega, Nat.le_refl _⟩)
      · exact ih (3 * (s - (st + 1)) + 1) (by omega) (st + 1) (i + 1) u1 v1 (by omega) (Or.inr ⟨h, by omega, Nat.le_refl _⟩)
      · exact loop_fld h (by omega)
    rcases hmode with ⟨hE | hP, hi, hμ⟩ | ⟨hH, hi, hμ⟩
    · obtain ⟨r, A, w, cnt, hM, hW, hR, hME⟩ := hE
      have h8 := hR.2.1.2
      have h9 := hR.2.1.1
      by_cases hlt : st < s
      · by_cases hp : ∃ c d, r c d ∧ gJ u 610 = pC c
        · obtain ⟨c, d, hr, e1⟩ := hp
          have e2 : gJ v 40 = pR d := by
            have o := hME.2.2.1
            rw [e1] at o
            have a1 := hM.1.1.1 _ _ hr
            obtain ⟨d2, hd2, e⟩ := ob_pC hM.1.2.2.2.2.1.2.2.2 hn hM.1.1.1 o (by omega)
            rw [hM.1.1.2.1 _ _ _ hr hd2]
            exact e
          have a1 := hM.1.1.1 _ _ hr
          obtain ⟨u1, v1, g1, g2, g3⟩ := evalPair_step hN hs hlt hM hW hR hME hr e1 e2
          obtain ⟨u2, v2, st2, fC, fR, k1, k2, k3, k4⟩ := after u1 v1 hlt hi hμ (Res_mono g1 (by omega))
          refine ⟨u2, v2, st2, fC + 1, fR + 1, k1, k2, fun K hK => cl_eval hs (by omega) hlt hME.1 h9 hR.1.2.2.2.1 hR.1.1 ?_, fun K hK => rl_eval h8 hME.2.1 (g3 _ (k4 K hK))⟩
          rw [e1]
          exact isPair_p (by omega) (sf (by decide) (g2 _ (k3 K hK)))
        · obtain ⟨u1, v1, g1, g2, g3⟩ := evalAtom_step hN hs hlt hM hW hR hME (fun c d hr e => hp ⟨c, d, hr, e⟩)
          obtain ⟨u2, v2, st2, fC, fR, k1, k2, k3, k4⟩ := after u1 v1 hlt hi hμ (Res_mono g1 (by omega))
          refine ⟨u2, v2, st2, fC + 1, fR + 1, k1, k2, fun K hK => cl_eval hs (by omega) hlt hME.1 h9 hR.1.2.2.2.1 hR.1.1 ?_, fun K hK => rl_eval h8 hME.2.1 (g3 _ (k4 K hK))⟩
          rcases id hME.2.2.1 with ⟨z, e, _⟩ | ⟨k, hk, e, _⟩ | ⟨c, d, hr, e, _⟩
          · rw [e]; exact isPair_n (sq rfl (g2 _ (k3 K hK)))
          · rw [e]; exact isPair_a (by have := hM.1.2.2.2.2.1.2.2.2; omega) (sq rfl (g2 _ (k3 K hK)))
          · exact absurd ⟨c, d, hr, e⟩ hp
      · have hss : st = s := by omega
        subst hss
        have hf : Fld T n t st (B + st) st u0 v0 (sI u 609 8) (sI v 8 8) := ⟨r, A, 8, by decide, hM, hR.1, ⟨rfl, rfl⟩, hR.2.2⟩
        obtain ⟨u2, v2, st2, fC, fR, k1, k2, k3, k4⟩ := loop_fld (N := N) (i := i + 1) hf (Nat.le_refl _)
        refine ⟨u2, v2, st2, fC + 1, fR + 1, k1, k2, fun K hK => cl_nostep hs (by omega) (Or.inl hME.1) h9 hR.1.2.2.2.1 hR.1.1 (k3 K hK), fun K hK => rl_eval h8 hME.2.1 ⟨fun _ => fails_ok h8 (sq rfl (k4 K hK)), fun e => absurd ?_ e⟩⟩
        rw [hR.1.2.2.2.2, hR.1.2.1]
    · obtain ⟨r, A, w, cnt, hM, hW, hR, hMP⟩ := hP
      have h8 := hR.2.1.2
      have h9 := hR.2.1.1
      by_cases hlt : st < s
      · by_cases hp : ∃ c d, r c d ∧ gJ u 612 = pC c
        · obtain ⟨c, d, hr, e1⟩ := hp
          have e2 : gJ v 40 = pR d := by
            have o := hMP.2.2.1
            rw [e1] at o
            have a1 := hM.1.1.1 _ _ hr
            obtain ⟨d2, hd2, e⟩ := ob_pC hM.1.2.2.2.2.1.2.2.2 hn hM.1.1.1 o (by omega)
            rw [hM.1.1.2.1 _ _ _ hr hd2]
            exact e
          have a1 := hM.1.1.1 _ _ hr
          obtain ⟨u1, v1, g1, g2, g3⟩ := applyPair_step hN hs hlt hM hW hR hMP hr e1 e2 (by omega)
          obtain ⟨u2, v2, st2, fC, fR, k1, k2, k3, k4⟩ := after u1 v1 hlt hi hμ (Res_mono g1 (by omega))
          refine ⟨u2, v2, st2, fC + 1, fR + 1, k1, k2, fun K hK => cl_apply hs (by omega) hlt hMP.1 h9 hR.1.2.2.2.1 hR.1.1 ?_, fun K hK => rl_apply h8 hMP.2.1 (g3 _ (k4 K hK))⟩
          rw [e1]
          exact isPair_p (by omega) (sf (by decide) (g2 _ (k3 K hK)))
        · obtain ⟨u1, v1, g1, g2, g3⟩ := applyAtom_step hN hs hlt hM hW hR hMP (fun c d hr e => hp ⟨c, d, hr, e⟩) (by omega)
          obtain ⟨u2, v2, st2, fC, fR, k1, k2, k3, k4⟩ := after u1 v1 hlt hi hμ (Res_mono g1 (by omega))
          refine ⟨u2, v2, st2, fC + 1, fR + 1, k1, k2, fun K hK => cl_apply hs (by omega) hlt hMP.1 h9 hR.1.2.2.2.1 hR.1.1 ?_, fun K hK => rl_apply h8 hMP.2.1 (g3 _ (k4 K hK))⟩
          rcases id hMP.2.2.1 with ⟨z, e, _⟩ | ⟨k, hk, e, _⟩ | ⟨c, d, hr, e, _⟩
          · rw [e]; exact isPair_n (sq rfl (g2 _ (k3 K hK)))
          · rw [e]; exact isPair_a (by have := hM.1.2.2.2.2.1.2.2.2; omega) (sq rfl (g2 _ (k3 K hK)))
          · exact absurd ⟨c, d, hr, e⟩ hp
      · have hss : st = s := by omega
        subst hss
        have hf : Fld T n t st (B + st) st u0 v0 (sI u 609 8) (sI v 8 8) := ⟨r, A, 8, by decide, hM, hR.1, ⟨rfl, rfl⟩, hR.2.2⟩
        obtain ⟨u2, v2, st2, fC, fR, k1, k2, k3, k4⟩ := loop_fld (N := N) (i := i + 1) hf (Nat.le_refl _)
        refine ⟨u2, v2, st2, fC + 1, fR + 1, k1, k2, fun K hK => cl_nostep hs (by omega) (Or.inr (Or.inr hMP.1)) h9 hR.1.2.2.2.1 hR.1.1 (k3 K hK), fun K hK => rl_apply h8 hMP.2.1 ⟨fun _ => fails_ok h8 (sq rfl (k4 K hK)), fun e => absurd ?_ e⟩⟩
        rw [hR.1.2.2.2.2, hR.1.2.1]
    · obtain ⟨r, A, w, cnt, hM, hW, hR, hMH⟩ := hH
      have h8 := hR.2.1.2
      have h9 := hR.2.1.1
      cases w with
      | zero =>
        refine ⟨sI u 608 4, v, st, 2, 1, hst, Or.inl ⟨r, A, hM, hR, hMH.2.2⟩, fun K hK => cl_back hs (by omega) hMH.1 h9 ⟨fun _ => cl_done rfl hK, fun e => absurd hW.1 e⟩, fun K hK => rl_done h8 hMH.2.1 hW.2.1 hK⟩
      | succ w =>
        have hwt : w < 200 := by have := hW.2.2.1; omega
        rcases back_step hN hs hst hM hW hR hMH with ⟨u1, v1, g1, g2, g3⟩ | ⟨u1, m1, m2, m3, m4, g2, g4⟩
        · have hnext : LoopR N T n t s B u0 v0 u1 v1 (i + 1) := by
            rcases g1 with h | h | h
            · exact ih (3 * (s - st)) (by omega) st (i + 1) u1 v1 hst (Or.inl ⟨Or.inl h, by omega, Nat.le_refl _⟩)
            · exact ih (3 * (s - st)) (by omega) st (i + 1) u1 v1 hst (Or.inl ⟨Or.inr h, by omega, Nat.le_refl _⟩)
            · exact loop_fld h hst
          obtain ⟨u2, v2, st2, fC, fR, k1, k2, k3, k4⟩ := hnext
          exact ⟨u2, v2, st2, fC + 1, fR + 1, k1, k2, fun K hK => cl_back hs (by omega) hMH.1 h9 (g2 _ (k3 K hK)), fun K hK => rl_back h8 hMH.2.1 hW.2.1 hwt (g3 _ (k4 K hK))⟩
        · rcases g4 with ⟨hlt, u2, v1, g5, g6, g7⟩ | ⟨hss, v1, g5, g6⟩
          · have hnext : LoopR N T n t s B u0 v0 u2 v1 (i + 1 + 1) := by
              rcases g5 with h | h
              · exact ih (3 * (s - (st + 1))) (by omega) (st + 1) (i + 1 + 1) u2 v1 (by omega) (Or.inl ⟨Or.inl (RunE_mono h (by omega)), by omega, Nat.le_refl _⟩)
              · exact loop_fld (Fld_mono h (by omega)) (by omega)
            obtain ⟨u3, v3, st2, fC, fR, k1, k2, k3, k4⟩ := hnext
            exact ⟨u3, v3, st2, fC + 1 + 1, fR + 1, k1, k2, fun K hK => cl_back hs (by omega) hMH.1 h9 (g2 _ (cl_choose hs (by omega) hlt m1 m2 m3 m4 (g6 _ (k3 K hK)))), fun K hK => rl_back h8 hMH.2.1 hW.2.1 hwt (g7 _ (k4 K hK))⟩
          · subst hss
            obtain ⟨u3, v3, st2, fC, fR, k1, k2, k3, k4⟩ := loop_fld (N := N) (i := i + 1 + 1) g5 hst
            exact ⟨u3, v3, st2, fC + 1 + 1, fR + 1, k1, k2, fun K hK => cl_back hs (by omega) hMH.1 h9 (g2 _ (cl_nostep hs (by omega) (Or.inr (Or.inl m1)) m2 m3 m4 (k3 K hK))), fun K hK => rl_back h8 hMH.2.1 hW.2.1 hwt (g6 _ (k4 K hK))⟩
/-- evaluating an expression -/
theorem evaluate_both {N : Nat → Nat} {r A T n t s B} {u v : St} {x y : Int64} (hN : LN N n t) (hs : s ≤ 20000) (hB : B + s + 1 < 2 ^ 30) (hM : Mh r A T n t B u v) (h4 : gI u 604 = nI s) (h3 : gI v 3 = nI s) (h2 : gI v 2 = nI t) (h7 : gI u 607 = 0) (h9 : gI v 9 = 0) (h8 : gI v 8 = 0) (hw : gI u 303 = 0) (ho : ob r T x y) :
    ∃ (u1 v1 : St) (st1 : Nat), st1 ≤ s ∧ (Dn T n t s (B + st1) st1 u v u1 v1 ∨ Fld T n t s (B + st1) st1 u v u1 v1) ∧ (∀ Q : Int32 → St → Prop, Q (gI u1 609) u1 → wp_X2_evaluate N x u Q) ∧ (∀ Q : St → Prop, Q v1 → wp_X10_evaluateAll y v Q) := by
  have hT18 := hM.1.2.2.2.2.1.2.2.1
  obtain ⟨u1, v1, st1, fC, fR, k1, k2, k3, k4⟩ := eval_loop (B := B) (u0 := u) (v0 := v) hN hs hB (3 * s) 0 0 (sI (sJ (sJ (sI u 609 0) 610 x) 613 (aC 0)) 608 0) (sJ (sJ (sI (sI v 32 0) 39 0) 40 y) 41 (aR 0)) (Nat.zero_le _) (Or.inl ⟨Or.inl ⟨r, A, 0, fun _ => 0, hM, ⟨hw, rfl, Nat.zero_le _, fun j hj => absurd hj (by omega)⟩, ⟨⟨h4, h3, h2, h7, h9⟩, ⟨rfl, h8⟩, ⟨rfl, rfl, rfl, rfl, rfl, rfl, rfl, rfl, rfl, fun _ _ _ _ _ _ => rfl⟩, ⟨rfl, rfl, rfl, rfl, rfl, rfl, rfl, rfl⟩⟩, rfl, rfl, ho, ob_a (by omega), Or.inl rfl⟩, by omega, Nat.le_refl _⟩)
  refine ⟨u1, v1, st1, k1, k2, fun Q hQ => ⟨fC, ?_⟩, fun Q hQ => ⟨fR, k4 _ hQ⟩⟩
  have e : ((2 : Int32) * gI (sI (sJ (sJ (sI u 609 (0 : Int32)) 610 x) 613 (1099511627776 : Int64)) 608 (0 : Int32)) 604) + (4 : Int32) = nI (2 * s + 4) := by
    show (2 : Int32) * gI u 604 + (4 : Int32) = _
    rw [h4, show (2 : Int32) * nI s = nI (2 * s) from pk_mul 2 s]
    exact nI_add _ 4
  rw [e]
  exact k3 _ hQ
