/-! PURE: one token, on both sides: all of them -/
theorem tok_both {N : Nat → Nat} {tx : Nat → Nat} {L T q D cnt pr m} {f : Nat → Nat} {cr : Int32} {u v : St} (h : S1 tx L T q D f cnt pr m cr u v) (hq : q < L) (hb : ¬ bl (tx q)) : TokR N tx L T q D f cnt pr m cr u v := by
  obtain ⟨hX, hXR, ⟨h512, hpL⟩, ⟨h510, h29, hD⟩, hst, ⟨h511, h30, hpr⟩, ⟨h509, hcnt⟩, hNm⟩ := id h
  have hL := hX.2.1
  have hc := (hX.2.2 q hq).2
  have hstC : ∀ j, j < D → gA u 505 j = nI (f j) := fun j hj => (hst j hj).1
  have hstR : ∀ j, j < D → gA v 26 j = nI (f j) := fun j hj => (hst j hj).2.1
  have hi : ∀ c, c < 128 → (nI (tx q) = nI c ↔ tx q = c) := fun c hc2 => nI_eq (by omega) (by omega)
  have htop3 : top D f ≤ 3 := by
    unfold top
    split
    · omega
    · exact (hst (D - 1) (by omega)).2.2
  have ht : ∀ c, c < 4 → (nI (top D f) = nI c ↔ top D f = c) := fun c hc2 => nI_eq (by omega) (by omega)
  have q1 : nI q + (1 : Int32) = nI (q + 1) := nI_1 q
  -- failing where the token stands
  have hfail : (∀ Q : Int32 → St → Prop, Q 0 u → wp_X5_takeToken N (nI (tx q)) u Q) → (∀ Q : Int32 → St → Prop, Q ((-1 : Int32) - nI q) v → j_X10_reads_39 Q 0 (nI q) (nI (tx q)) (nI (top D f)) v) → TokR N tx L T q D f cnt pr m cr u v := fun h1 h2 => Or.inl ⟨u, q, h512, hpL, f1C_rf u, fun _ _ => rfl, rfl, h1, fun Q hQ => reads_j hXR hq hb h29 hD hstR (h2 Q hQ)⟩
  -- the reference's atom fails
  have hbadR : ∀ (qf : Nat), qf ≤ 3000 → AtBad tx L q qf → tx q ≠ 46 → tx q ≠ 40 → top D f ≠ 3 → ∀ Q : Int32 → St → Prop, Q ((-1 : Int32) - nI qf) v → j_X10_reads_99 Q 0 (nI q) (nI (tx q)) (nI (top D f)) v := fun qf hqf hA h46 h40 h3 Q hQ => sf (fun e => h46 ((hi 46 (by omega)).mp e)) (sf (fun e => h3 ((ht 3 (by omega)).mp e)) (sf (fun e => h40 ((hi 40 (by omega)).mp e)) (hA v hXR _ (sf (m1q hqf) hQ))))
  by_cases h41 : tx q = 41
  · -- a closing parenthesis
    have hCl : ∀ {Q : Int32 → St → Prop}, wp_X5_takeClose N u (fun r19 u20 => vz r19 ∧ Q r19 u20) → wp_X5_takeToken N (nI (tx q)) u Q := fun {Q} hq9 => sq ((hi 41 (by omega)).mpr h41) hq9
    have hnone : AtBad tx L q q := atom_none hq hL (by omega) (by unfold dgc; omega) (by omega)
    by_cases hD0 : D = 0
    · subst hD0
      refine hfail (fun Q hQ => hCl (sq h510 ⟨vz_0, hQ⟩)) (fun Q hQ => sq ((hi 41 (by omega)).mpr h41) (sq (by rw [h29]; decide) (hbadR q (by omega) hnone (by omega) (by omega) (by unfold top; simp) Q hQ)))
    · have hD1 : ¬ gI u 510 = 0 := by rw [h510]; exact nI_ne0 (by omega) (by omega)
      have htp : top D f = f (D - 1) := by unfold top; rw [if_neg hD0]
      by_cases h2 : f (D - 1) = 2
      · refine hfail (fun Q hQ => hCl (sf hD1 (state_ok h510 hD hstC (sq (by rw [htp, h2]; rfl) ⟨vz_0, hQ⟩)))) (fun Q hQ => sq ((hi 41 (by omega)).mpr h41) (sf (by rw [h29]; exact nI_nle (by omega) (by omega)) (sq (by rw [htp, h2]; rfl) (hbadR q (by omega) hnone (by omega) (by omega) (by rw [htp]; omega) Q hQ))))
      · obtain ⟨E, rfl⟩ : ∃ E, D = E + 1 := ⟨D - 1, by omega⟩
        rw [Nat.add_sub_cancel] at h2 htp
        have hf3 := (hst E (by omega)).2.2
        let ua := sI (sI u 510 (nI E)) 512 (nI (q + 1))
        let va := sI v 29 (nI E)
        obtain ⟨u12, a1, a2, a3, a4, a5, a6, a7⟩ := note_ok (N := N) (D := E) (pr := pr) (f := f) (u := ua) rfl (by omega) (fun j hj => ⟨hstC j (by omega), (hst j (by omega)).2.2⟩) h511
        have hNm1 : NmP T m cr u12 va := NmP_cg hNm (a3 202 (by decide)) (a3 203 (by decide)) (a6 200) rfl rfl rfl rfl rfl
        have both : ∀ o : Int64, ∃ v12 : St, S1 tx L T (q + 1) E (note E f) (cnt + 1) (pr + inc E f) m cr (sI (sB u12 504 (vp_updL (gB u12 504) cnt (3298534883329 : Int64))) 509 (nI (cnt + 1))) v12 ∧ f1C ua (sI (sB u12 504 (vp_updL (gB u12 504) cnt (3298534883329 : Int64))) 509 (nI (cnt + 1))) ∧ f1R va v12 ∧ (E = 0 → gI v12 25 = 4) ∧ (0 < E → gI v12 25 = gI va 25) ∧ (∀ Q : St → Prop, Q v12 → wp_X10_comes 0 o va Q) := fun o => fin_expr (N := N) (ua := ua) (va := va) (u12 := u12) hX hXR rfl (by omega) rfl rfl (by omega) (fun j hj => ⟨hstR j (by omega), (hst j (by omega)).2.2⟩) h30 (by omega) h509 (by omega) a1 a2 a3 a4 a5 a6 hNm1 (triv4C _) (triv4R _)
        obtain ⟨v12, s1, s2, s3, s4, s5, s6⟩ := both (if nI (top (E + 1) f) = 0 then (4294967296 : Int64) else gB v 27 E)
        have fa : f1C u ua := ⟨fun k _ _ _ c4 _ c6 => by show gI (sI (sI u 510 (nI E)) 512 (nI (q + 1))) k = _; rw [gI_sI, if_neg c6, gI_sI, if_neg c4], fun _ => rfl, fun _ _ => rfl, fun _ _ _ => rfl⟩
        have fv : f1R v va := ⟨fun k _ _ _ c4 _ => by show gI (sI v 29 (nI E)) k = _; rw [gI_sI, if_neg c4], fun _ _ => rfl, fun _ _ => rfl, fun _ _ => rfl⟩
        refine Or.inr ⟨_, v12, (1, 0), q + 1, E, note E f, inc E f, m, cr, (3298534883329 : Int64), s1, ⟨hq, by omega, by omega, hb, Or.inr (Or.inl ⟨rfl, h41, rfl⟩)⟩, Or.inr (Or.inl ⟨rfl, by omega, by rw [Nat.add_sub_cancel]; exact h2, by omega, by rw [Nat.add_sub_cancel], by rw [Nat.add_sub_cancel]⟩), Nat.le_refl _, fun e => e, fun _ => Or.inr (Or.inl ⟨rfl, rfl⟩), pk_uLs, fun k hk => (pk_uLn (by omega)).trans (congrFun (a6 504) k), fun k _ => congrFun (a6 200) k, f1C_tr fa s2, f1R_tr fv s3, s4, s5, fun Q hQ => hCl (sf hD1 (state_ok h510 hD hstC (sf ?_ ?_))), fun Q hQ => reads_j hXR hq hb h29 hD hstR (sq ((hi 41 (by omega)).mpr h41) (sf (by rw [h29]; exact nI_nle (by omega) (by omega)) (sf ?_ ⟨fun e => ?_, fun e => ⟨?_, ?_⟩⟩)))⟩
        · rw [htp]; exact fun e => h2 ((nI_eq (b := 2) (by omega) (by omega)).mp e)
        · rw [h510, nI_pred E, h512, nI_1]
          exact a7 _ (keep_ok (by rw [a3 509 (by decide)]; exact h509) (by omega) ⟨vz_1, vz_1, hQ⟩)
        · rw [htp]; exact fun e => h2 ((nI_eq (b := 2) (by omega) (by omega)).mp e)
        · rw [h29, nI_pred E, nI_1]
          rw [if_pos e] at s6
          exact s6 _ hQ
        · rw [h29, nI_pred E]; exact vp_in_nI (by omega) (by omega)
        · rw [h29, nI_pred E, nI_1, nI_clamp (show E < 2 ^ 31 by omega)]
          rw [if_neg e] at s6
          exact s6 _ hQ
  · have n41 : ¬ nI (tx q) = (41 : Int32) := fun e => h41 ((hi 41 (by omega)).mp e)
    by_cases h46 : tx q = 46
    · -- a dot
      have hCl : ∀ {Q : Int32 → St → Prop}, wp_X5_takeDot N u (fun r17 u18 => vz r17 ∧ Q r17 u18) → wp_X5_takeToken N (nI (tx q)) u Q := fun {Q} hq9 => sf n41 (sq ((hi 46 (by omega)).mpr h46) hq9)
      have hRe : ∀ {Q : Int32 → St → Prop}, ((nI (top D f) = (1 : Int32) → vp_in ((gI v 29) - (1 : Int32)) 61 ∧ Q (nI q + (1 : Int32)) (sA v 26 (upd (gA v 26) (((gI v 29) - (1 : Int32))).toNatClampNeg (2 : Int32)))) ∧ (¬ nI (top D f) = (1 : Int32) → Q ((-1 : Int32) - nI q) v)) → j_X10_reads_39 Q 0 (nI q) (nI (tx q)) (nI (top D f)) v := fun {Q} hq9 => sf n41 (sq ((hi 46 (by omega)).mpr h46) hq9)
      by_cases hD0 : D = 0
      · subst hD0
        exact hfail (fun Q hQ => hCl (sq h510 ⟨vz_0, hQ⟩)) (fun Q hQ => hRe (sf (by unfold top; rw [if_pos rfl]; decide) hQ))
      · have hD1 : ¬ gI u 510 = 0 := by rw [h510]; exact nI_ne0 (by omega) (by omega)
        have htp : top D f = f (D - 1) := by unfold top; rw [if_neg hD0]
        by_cases h1 : f (D - 1) = 1
        · obtain ⟨E, rfl⟩ : ∃ E, D = E + 1 := ⟨D - 1, by omega⟩
          rw [Nat.add_sub_cancel] at h1 htp
          refine Or.inr ⟨sI (sB (sI (sA u 505 (upd (gA u 505) E 2)) 512 (nI (q + 1))) 504 (vp_updL (gB u 504) cnt (3298534883330 : Int64))) 509 (nI (cnt + 1)), sA v 26 (upd (gA v 26) E 2), (2, 0), q + 1, E + 1, upN f E 2, 0, m, cr, (3298534883330 : Int64), ⟨hX, hXR, ⟨rfl, by omega⟩, ⟨h510, h29, hD⟩, fun j hj => ?_, ⟨h511, h30, by omega⟩, ⟨rfl, by omega⟩, hNm⟩, ⟨hq, by omega, by omega, hb, Or.inr (Or.inr (Or.inl ⟨rfl, h46, rfl⟩))⟩, Or.inr (Or.inr (Or.inl ⟨rfl, by omega, by rw [Nat.add_sub_cancel]; exact h1, rfl, by rw [Nat.add_sub_cancel], rfl⟩)), Nat.le_refl _, fun e => e, fun _ => Or.inr (Or.inr (Or.inl ⟨rfl, rfl⟩)), pk_uLs, fun k hk => pk_uLn (by omega), fun _ _ => rfl, ⟨fun k _ _ c3 _ _ c6 => by rw [gI_sI, if_neg c3, gI_sB, gI_sI, if_neg c6]; rfl, fun _ => rfl, fun k c1 => by rw [gA_sI, gA_sB, gA_sI, gA_sA, if_neg c1], fun k c1 _ => by rw [gB_sI, gB_sB, if_neg c1]; rfl⟩, ⟨fun _ _ _ _ _ _ => rfl, fun _ _ => rfl, fun k c1 => by rw [gA_sA, if_neg c1], fun _ _ => rfl⟩, fun e => absurd e (by omega), fun _ => rfl, fun Q hQ => hCl (sf hD1 (state_ok h510 hD hstC (sq (by rw [htp, h1]; rfl) ?_))), fun Q hQ => reads_j hXR hq hb h29 hD hstR (hRe (sq (by rw [htp, h1]; rfl) ?_))⟩
          · show upd (gA u 505) E 2 j = nI (if j = E then 2 else f j) ∧ upd (gA v 26) E 2 j = nI (if j = E then 2 else f j) ∧ (if j = E then 2 else f j) ≤ 3
            by_cases e : j = E
            · subst e; rw [if_pos rfl]; exact ⟨pk_us, pk_us, by omega⟩
            · rw [if_neg e]; exact ⟨(pk_un e).trans (hstC j hj), (pk_un e).trans (hstR j hj), (hst j hj).2.2⟩
          · rw [h510, nI_pred E, nI_clamp (show E < 2 ^ 31 by omega), h512, nI_1]
            exact ⟨vp_in_nI (by omega) (by omega), keep_ok (by exact h509) (by omega) ⟨vz_1, vz_1, hQ⟩⟩
          · rw [h29, nI_pred E, nI_clamp (show E < 2 ^ 31 by omega), nI_1]
            exact ⟨vp_in_nI (by omega) (by omega), hQ⟩
        · exact hfail (fun Q hQ => hCl (sf hD1 (state_ok h510 hD hstC (sf (by rw [htp]; exact fun e => h1 ((nI_eq (b := 1) (by have := (hst (D - 1) (by omega)).2.2; omega) (by omega)).mp e)) ⟨vz_0, hQ⟩)))) (fun Q hQ => hRe (sf (by rw [htp]; exact fun e => h1 ((nI_eq (b := 1) (by have := (hst (D - 1) (by omega)).2.2; omega) (by omega)).mp e)) hQ))
    · have n46 : ¬ nI (tx q) = (46 : Int32) := fun e => h46 ((hi 46 (by omega)).mp e)
      by_cases h3 : top D f = 3
      · exact hfail (fun Q hQ => sf n41 (sf n46 (state_ok h510 hD hstC (sq (by rw [h3]; rfl) hQ)))) (fun Q hQ => sf n41 (sf n46 (sq (by rw [h3]; rfl) hQ)))
      · have n3 : ¬ nI (top D f) = (3 : Int32) := fun e => h3 ((ht 3 (by omega)).mp e)
        have hCl : ∀ {Q : Int32 → St → Prop}, ((nI (tx q) = (40 : Int32) → wp_X5_takeOpen N u (fun (r15 : Int32) (u16 : St) => vz r15 ∧ Q r15 u16)) ∧ (¬ nI (tx q) = (40 : Int32) → ((nI (tx q) = (45 : Int32) → ((nI (tx q) = (45 : Int32) → wp_X5_takeNumber N (1 : Int32) u (fun (r5 : Int32) (u6 : St) => vz r5 ∧ Q r5 u6)) ∧ (¬ nI (tx q) = (45 : Int32) → wp_X5_takeNumber N (0 : Int32) u (fun (r3 : Int32) (u4 : St) => vz r3 ∧ Q r3 u4)))) ∧ (¬ nI (tx q) = (45 : Int32) → wp_X5_isDigit (nI (tx q)) (fun (r7 : Int32) => ((r7 = 0 → wp_X3_digitOf (nI (tx q)) (fun (r8 : Int32) => ((r8 ≤ 0 → Q (0 : Int32) u) ∧ (¬ r8 ≤ 0 → wp_X5_takeName N u (fun (r9 : Int32) (u10 : St) => ((r9 = 0 → Q (0 : Int32) u10) ∧ (¬ r9 = 0 → Q (1 : Int32) u10))))))) ∧ (¬ r7 = 0 → ((nI (tx q) = (45 : Int32) → wp_X5_takeNumber N (1 : Int32) u (fun (r13 : Int32) (u14 : St) => vz r13 ∧ Q r13 u14)) ∧ (¬ nI (tx q) = (45 : Int32) → wp_X5_takeNumber N (0 : Int32) u (fun (r11 : Int32) (u12 : St) => vz r11 ∧ Q r11 u12)))))))))) → wp_X5_takeToken N (nI (tx q)) u Q := fun {Q} hq9 => sf n41 (sf n46 (state_ok h510 hD hstC (sf n3 hq9)))
        by_cases h40 : tx q = 40
        · -- an opening parenthesis
          have hRe : ∀ {Q : Int32 → St → Prop}, (((gI v 29) = (60 : Int32) → Q ((-1 : Int32) - nI q) v) ∧ (¬ (gI v 29) = (60 : Int32) → vp_in (gI v 29) 61 ∧ Q (nI q + (1 : Int32)) (sI (sA v 26 (upd (gA v 26) ((gI v 29)).toNatClampNeg (0 : Int32))) 29 ((gI v 29) + (1 : Int32))))) → j_X10_reads_39 Q 0 (nI q) (nI (tx q)) (nI (top D f)) v := fun {Q} hq9 => sf n41 (sf n46 (sf n3 (sq ((hi 40 (by omega)).mpr h40) hq9)))
          by_cases h60 : D = 60
          · refine hfail (fun Q hQ => hCl (sq ((hi 40 (by omega)).mpr h40) (sf ?_ ⟨vz_0, hQ⟩))) (fun Q hQ => hRe (sq ?_ hQ))
            · rw [h510, h60]; decide
            · rw [h29, h60]; rfl
          · refine Or.inr ⟨sI (sB (sI (sI (sA u 505 (upd (gA u 505) D 0)) 510 (nI (D + 1))) 512 (nI (q + 1))) 504 (vp_updL (gB u 504) cnt (3298534883328 : Int64))) 509 (nI (cnt + 1)), sI (sA v 26 (upd (gA v 26) D 0)) 29 (nI (D + 1)), (0, 0), q + 1, D + 1, upN f D 0, 0, m, cr, (3298534883328 : Int64), ⟨hX, hXR, ⟨rfl, by omega⟩, ⟨rfl, rfl, by omega⟩, fun j hj => ?_, ⟨h511, h30, by omega⟩, ⟨rfl, by omega⟩, hNm⟩, ⟨hq, by omega, by omega, hb, Or.inl ⟨rfl, h40, rfl⟩⟩, Or.inl ⟨rfl, by omega, h3, rfl, rfl, rfl⟩, Nat.le_refl _, fun e => e, fun _ => Or.inl ⟨rfl, rfl⟩, pk_uLs, fun k hk => pk_uLn (by omega), fun _ _ => rfl, ⟨fun k _ _ c3 c4 _ c6 => by rw [gI_sI, if_neg c3, gI_sB, gI_sI, if_neg c6, gI_sI, if_neg c4]; rfl, fun _ => rfl, fun k c1 => by rw [gA_sI, gA_sB, gA_sI, gA_sI, gA_sA, if_neg c1], fun k c1 _ => by rw [gB_sI, gB_sB, if_neg c1]; rfl⟩, ⟨fun k _ _ _ c4 _ => by rw [gI_sI, if_neg c4]; rfl, fun _ _ => rfl, fun k c1 => by rw [gA_sI, gA_sA, if_neg c1], fun _ _ => rfl⟩, fun e => absurd e (by omega), fun _ => rfl, fun Q hQ => hCl (sq ((hi 40 (by omega)).mpr h40) (sq ?_ ?_)), fun Q hQ => reads_j hXR hq hb h29 hD hstR (hRe (sf ?_ ?_))⟩
            · show upd (gA u 505) D 0 j = nI (if j = D then 0 else f j) ∧ upd (gA v 26) D 0 j = nI (if j = D then 0 else f j) ∧ (if j = D then 0 else f j) ≤ 3
              by_cases e : j = D
              · subst e; rw [if_pos rfl]; exact ⟨pk_us, pk_us, by omega⟩
              · rw [if_neg e]; exact ⟨(pk_un e).trans (hstC j (by omega)), (pk_un e).trans (hstR j (by omega)), (hst j (by omega)).2.2⟩
            · rw [h510]; exact nI_lt (b := 60) (by omega) (by omega)
            · rw [h510, nI_clamp (show D < 2 ^ 31 by omega), nI_1, h512, nI_1]
              exact ⟨vp_in_nI (by omega) (by omega), keep_ok (by exact h509) (by omega) ⟨vz_1, vz_1, hQ⟩⟩
            · rw [h29]; exact fun e => h60 ((nI_eq (b := 60) (by omega) (by omega)).mp e)
            · rw [h29, nI_clamp (show D < 2 ^ 31 by omega), nI_1, nI_1]
              exact ⟨vp_in_nI (by omega) (by omega), hQ⟩
        · have n40 : ¬ nI (tx q) = (40 : Int32) := fun e => h40 ((hi 40 (by omega)).mp e)
          -- an atom of the reference that is good
          have hokR : ∀ (p : Nat) (tv : Int64), p ≤ 3000 → AtOK tx L q p tv → ∀ Q : Int32 → St → Prop, (((0 : Int64) ≤ tv → wp_X10_comes 0 tv (sJ v 31 tv) (fun (u6 : St) => Q (nI p) u6)) ∧ (¬ (0 : Int64) ≤ tv → wp_X10_meets (-tv) (sJ v 31 tv) (fun (u11 : St) => wp_X10_comes 0 (4294967296 : Int64) u11 (fun (u12 : St) => Q (nI p) u12)))) → wp_X10_reads 0 (nI q) v Q := fun p tv hp hA Q hq9 => by
            refine reads_j hXR hq hb h29 hD hstR (sf n41 (sf n46 (sf n3 (sf n40 (hA v hXR _ (sq (nI_pos' (by omega)) ⟨hq9.1, fun e => sq rfl ?_⟩))))))
            have h9 := hq9.2 e
            have hmono : ∀ (R1 R2 : St → Prop), (∀ s, R1 s → R2 s) → ∀ (x : Int64) (z : St), wp_X10_meets x z R1 → wp_X10_meets x z R2 := by
              intro R1 R2 hi9 x z hz
              -- placeOf and the loop of meets, both monotone
              have lp : ∀ (K1 K2 : St → Prop), (∀ s, K1 s → K2 s) → ∀ (n : Nat) (x3 : Int32) (s : St), l_X10_meets_11 R1 x K1 n x3 s → l_X10_meets_11 R2 x K2 n x3 s := by
                intro K1 K2 hK n
                induction n with
                | zero => intro x3 s h9; exact h9
                | succ n ih =>
                  intro x3 s h9
                  unfold l_X10_meets_11 at h9 ⊢
                  exact ⟨fun e => hK _ (h9.1 e), fun e => ⟨(h9.2 e).1, fun e2 => hi9 _ ((h9.2 e).2.1 e2), fun e2 => ih _ _ ((h9.2 e).2.2 e2)⟩⟩
              have lq : ∀ (Q1 Q2 : Int32 → St → Prop) (K1 K2 : St → Prop), (∀ r s, Q1 r s → Q2 r s) → (∀ s, K1 s → K2 s) → ∀ (n : Nat) (x3 : Int32) (s : St), l_X10_placeOf_2 Q1 x K1 n x3 s → l_X10_placeOf_2 Q2 x K2 n x3 s := by
                intro Q1 Q2 K1 K2 hQ9 hK n
                induction n with
                | zero => intro x3 s h9; exact h9
                | succ n ih =>
                  intro x3 s h9
                  unfold l_X10_placeOf_2 at h9 ⊢
                  exact ⟨fun e => hK _ (h9.1 e), fun e => ⟨(h9.2 e).1, fun e2 => hQ9 _ _ ((h9.2 e).2.1 e2), fun e2 => ih _ _ ((h9.2 e).2.2 e2)⟩⟩
              have stp9 : ∀ (r1 : Int32) (u2 : St), ((r1 < 0 → (∃ k4 : Nat, l_X10_meets_11 R1 x (fun (u3 : St) => ((((gI u3 21) + (gI u3 23)) = (150 : Int32) → R1 (sI u3 24 (1 : Int32))) ∧ (¬ ((gI u3 21) + (gI u3 23)) = (150 : Int32) → vp_in (gI u3 23) 150 ∧ R1 (sI (sB u3 22 (vp_updL (gB u3 22) ((gI u3 23)).toNatClampNeg x)) 23 ((gI u3 23) + (1 : Int32)))))) k4 (0 : Int32) u2)) ∧ (¬ r1 < 0 → R1 u2)) → ((r1 < 0 → (∃ k4 : Nat, l_X10_meets_11 R2 x (fun (u3 : St) => ((((gI u3 21) + (gI u3 23)) = (150 : Int32) → R2 (sI u3 24 (1 : Int32))) ∧ (¬ ((gI u3 21) + (gI u3 23)) = (150 : Int32) → vp_in (gI u3 23) 150 ∧ R2 (sI (sB u3 22 (vp_updL (gB u3 22) ((gI u3 23)).toNatClampNeg x)) 23 ((gI u3 23) + (1 : Int32)))))) k4 (0 : Int32) u2)) ∧ (¬ r1 < 0 → R2 u2)) := fun r1 u2 h9 => ⟨fun e => by
                obtain ⟨k4, hk4⟩ := h9.1 e
                exact ⟨k4, lp _ _ (fun s hs => ⟨fun e => hi9 _ (hs.1 e), fun e => ⟨(hs.2 e).1, hi9 _ (hs.2 e).2⟩⟩) _ _ _ hk4⟩, fun e => hi9 _ (h9.2 e)⟩
              obtain ⟨k2, hk2⟩ := hz
              exact ⟨k2, lq _ _ _ _ stp9 (fun s hs => stp9 _ _ hs) _ _ _ hk2⟩
            exact hmono _ _ (fun s hs => sq rfl hs) _ _ h9
          -- a number on both sides
          have hnum : ∀ (p0 fr : Nat), ((p0 = 0 ∧ fr = q) ∨ (p0 = 1 ∧ fr = q + 1)) → ((tx q = 45 ∧ fr = q + 1) ∨ (tx q ≠ 45 ∧ fr = q)) → ¬ (65 ≤ tx q ∧ tx q ≤ 90) → (p0 = 0 ↔ tx q ≠ 45) → (∀ Q : Int32 → St → Prop, wp_X5_takeNumber N (nI p0) u (fun (r5 : Int32) (u6 : St) => vz r5 ∧ Q r5 u6) → wp_X5_takeToken N (nI (tx q)) u Q) → TokR N tx L T q D f cnt pr m cr u v := fun p0 fr hp0 hfr hnl hiff hrun => by
            obtain ⟨k, hk, hnk⟩ := run_ex (dg tx L) L (fun p hp => hp.1) L fr (by omega)
            obtain ⟨B0, B9, BO⟩ := atom_num (k := k) hq hL hnl hfr hk hnk
            have hfrL : fr ≤ L := by omega
            have hkL : fr + k ≤ L := by
              by_cases h0 : k = 0
              · omega
              · have := (hk (k - 1) (by omega)).1
                omega
            by_cases hbad : k = 0 ∨ 9 < k
            · refine Or.inl ⟨sI u 512 (nI (fr + min k 9)), fr + min k 9, rfl, by omega, ⟨fun k _ _ _ _ _ c6 => by rw [gI_sI, if_neg c6], fun _ => rfl, fun _ _ => rfl, fun _ _ _ => rfl⟩, fun _ _ => rfl, rfl, fun Q hQ => hrun Q (takeNumber_ok hX h512 hp0 hq hk hnk _ (fun _ => ⟨vz_0, hQ⟩) (fun h1 h2 => by omega)), fun Q hQ => reads_j hXR hq hb h29 hD hstR (sf n41 (hbadR (fr + min k 9) (by omega) ?_ h46 h40 h3 Q hQ))⟩
              rcases hbad with h0 | h9
              · subst h0; exact B0 rfl
              · rw [show min k 9 = 9 from by omega]; exact B9 h9
            · let nn : Int32 := if tx q = 45 then -(nI (nv tx fr k)) else nI (nv tx fr k)
              have hnn : (if p0 = 0 then nI (nv tx fr k) else -(nI (nv tx fr k))) = nn := by
                show _ = if tx q = 45 then -(nI (nv tx fr k)) else nI (nv tx fr k)
                by_cases h45 : tx q = 45
                · rw [if_pos h45, if_neg (fun e => hiff.mp e h45)]
                · rw [if_neg h45, if_pos (hiff.mpr h45)]
              have hA : AtOK tx L q (fr + k) (nR nn) := BO (by omega) (by omega)
              let ua := sI u 512 (nI (fr + k))
              let va := sJ v 31 (nR nn)
              obtain ⟨u12, a1, a2, a3, a4, a5, a6, a7⟩ := note_ok (N := N) (D := D) (pr := pr) (f := f) (u := ua) h510 hD (fun j hj => ⟨hstC j hj, (hst j hj).2.2⟩) h511
              have hNm1 : NmP T m cr u12 va := NmP_cg hNm (a3 202 (by decide)) (a3 203 (by decide)) (a6 200) rfl rfl rfl rfl rfl
              obtain ⟨v12, s1, s2, s3, s4, s5, s6⟩ := fin_expr (N := N) (ua := ua) (va := va) (u12 := u12) (w := nC nn) (o := nR nn) hX hXR rfl (by omega) h510 h29 hD (fun j hj => ⟨hstR j hj, (hst j hj).2.2⟩) h30 (by omega) h509 (by omega) a1 a2 a3 a4 a5 a6 hNm1 (triv4C _) (triv4R _)
              have fa : f1C u ua := ⟨fun k _ _ _ _ _ c6 => by show gI (sI u 512 (nI (fr + _))) k = _; rw [gI_sI, if_neg c6], fun _ => rfl, fun _ _ => rfl, fun _ _ _ => rfl⟩
              have fv : f1R v va := ⟨fun _ _ _ _ _ _ => rfl, fun k c1 => by show gJ (sJ v 31 _) k = _; rw [gJ_sJ, if_neg c1], fun _ _ => rfl, fun _ _ => rfl⟩
              refine Or.inr ⟨_, v12, (3, nR nn), fr + k, D, note D f, inc D f, m, cr, nC nn, s1, ⟨hq, by omega, by omega, hb, Or.inr (Or.inr (Or.inr ⟨by show 3 ≤ 3; omega, h40, h41, h46, hA⟩))⟩, Or.inr (Or.inr (Or.inr ⟨by show 3 ≤ 3; omega, h3, rfl, rfl, rfl⟩)), Nat.le_refl _, fun e => e, fun _ => Or.inr (Or.inr (Or.inr (Or.inl ⟨rfl, nn, rfl, rfl⟩))), pk_uLs, fun k hk => (pk_uLn (by omega)).trans (congrFun (a6 504) k), fun k _ => congrFun (a6 200) k, f1C_tr fa s2, f1R_tr fv s3, s4, s5, fun Q hQ => hrun Q (takeNumber_ok hX h512 hp0 hq hk hnk _ (fun h => absurd h hbad) (fun _ _ => ?_)), fun Q hQ => hokR (fr + k) (nR nn) (by omega) hA Q (sq (nR_nn nn) (s6 _ hQ))⟩
              rw [hnn]
              exact a7 _ (keep_ok (by rw [a3 509 (by decide)]; exact h509) (by omega) ⟨vz_1, vz_1, hQ⟩)
          by_cases h45 : tx q = 45
          · have e45 : nI (tx q) = (45 : Int32) := (hi 45 (by omega)).mpr h45
            exact hnum 1 (q + 1) (Or.inr ⟨rfl, rfl⟩) (Or.inl ⟨h45, rfl⟩) (by omega) ⟨fun e => by omega, fun e => absurd h45 e⟩ (fun Q hQ => hCl (sf n40 (sq e45 (sq e45 hQ))))
          · have n45 : ¬ nI (tx q) = (45 : Int32) := fun e => h45 ((hi 45 (by omega)).mp e)
            by_cases hdg : dgc (tx q)
            · exact hnum 0 q (Or.inl ⟨rfl, rfl⟩) (Or.inr ⟨h45, rfl⟩) (by unfold dgc at hdg; omega) ⟨fun _ => h45, fun _ => rfl⟩ (fun Q hQ => hCl (sf n40 (sf n45 (isDigit_1 hdg (sf (by decide) (sf n45 hQ))))))
            · by_cases hlt : 65 ≤ tx q ∧ tx q ≤ 90
              · -- a name
                have hdv : dv (tx q) = tx q - 64 := by unfold dv; rw [if_pos hlt]
                have hlv0 : 0 < lv tx L q := by unfold lv; rw [if_pos hq, hdv]; omega
                obtain ⟨k, hk, hnk⟩ := run_ex (fun p => 0 < lv tx L p) L (fun p hp => by
                  refine Classical.byContradiction (fun h9 => ?_)
                  unfold lv at hp
                  rw [if_neg h9] at hp
                  omega) L q (by omega)
                have hk0 : 0 < k := by
                  refine Classical.byContradiction (fun h9 => hnk ?_)
                  rw [show k = 0 from by omega, Nat.add_zero]; exact hlv0
                have hin : ∀ p, 0 < lv tx L p → p < L := fun p hp => by
                  refine Classical.byContradiction (fun h9 => ?_)
                  unfold lv at hp
                  rw [if_neg h9] at hp
                  omega
                have hkL : q + k ≤ L := by
                  have := hin _ (hk (k - 1) (by omega))
                  omega
                obtain ⟨BB, BO⟩ := atom_name (k := k) hq hL hlt hk hnk
                have hrun : ∀ {Q : Int32 → St → Prop}, wp_X5_takeName N u (fun (r9 : Int32) (u10 : St) => ((r9 = 0 → Q (0 : Int32) u10) ∧ (¬ r9 = 0 → Q (1 : Int32) u10))) → wp_X5_takeToken N (nI (tx q)) u Q := fun {Q} hQ => hCl (sf n40 (sf n45 (isDigit_0 hc hdg (sq rfl (digitOf_C hc (sf (by rw [hdv]; exact nI_nle (by omega) (by omega)) hQ))))))
                have hX2 : ∀ z, TX tx L (sI u 512 z) := fun _ => hX
                have hlt12 := lvt_lt tx L (q + min k 12)
                by_cases h12 : 12 < k
                · refine Or.inl ⟨sI u 512 (nI (q + 12)), q + 12, rfl, by omega, ⟨fun k _ _ _ _ _ c6 => by rw [gI_sI, if_neg c6], fun _ => rfl, fun _ _ => rfl, fun _ _ _ => rfl⟩, fun _ _ => rfl, rfl, fun Q hQ => hrun ⟨min k 12 + 1, nameC (by omega) hk hnk rfl (min k 12) 0 u (by omega) hX h512 _ ?_⟩, fun Q hQ => reads_j hXR hq hb h29 hD hstR (sf n41 (hbadR (q + 12) (by omega) (BB h12) h46 h40 h3 Q hQ))⟩
                  have hm : min k 12 = 12 := by omega
                  rw [hm]
                  show wp_X6_at N (nI (q + 12)) _ _
                  exact cL (hX2 _) (by omega) (fun c hc9 => hc9 _ (sf (nI_nle (hk 12 (by omega)) (by have := lvt_lt tx L (q + 12); omega)) (sq rfl hQ)))
                · have hA : AtOK tx L q (q + k) (-(lN (sv tx L q k))) := BO (by omega)
                  have hm : min k 12 = k := by omega
                  have hsp0 := sv_pos hlv0 k hk0
                  have hsp : sv tx L q k < 37 ^ 12 := Nat.lt_of_lt_of_le (sv_lt k) (Nat.pow_le_pow_right (by omega) (by omega))
                  let tv : Int64 := -(lN (sv tx L q k))
                  let ua := sI u 512 (nI (q + k))
                  let va := sJ v 31 tv
                  obtain ⟨u12, a1, a2, a3, a4, a5, a6, a7⟩ := note_ok (N := N) (D := D) (pr := pr) (f := f) (u := ua) h510 hD (fun j hj => ⟨hstC j hj, (hst j hj).2.2⟩) h511
                  have hNm1 : NmP T m cr u12 va := NmP_cg hNm (a3 202 (by decide)) (a3 203 (by decide)) (a6 200) rfl rfl rfl rfl rfl
                  obtain ⟨w, u14, v11, m1, cr1, w1, w2, w3, w4, w5, w6, w7, w8, w9⟩ := word_both (N := N) hNm1 hsp0 hsp
                  obtain ⟨v12, s1, s2, s3, s4, s5, s6⟩ := fin_expr (N := N) (ua := ua) (va := va) (u12 := u12) (w := w) (o := (4294967296 : Int64)) hX hXR rfl (by omega) h510 h29 hD (fun j hj => ⟨hstR j hj, (hst j hj).2.2⟩) h30 (by omega) h509 (by omega) a1 a2 a3 a4 a5 a6 w1 w6 w7
                  have fa : f1C u ua := ⟨fun k _ _ _ _ _ c6 => by show gI (sI u 512 (nI (q + _))) k = _; rw [gI_sI, if_neg c6], fun _ => rfl, fun _ _ => rfl, fun _ _ _ => rfl⟩
                  have fv : f1R v va := ⟨fun _ _ _ _ _ _ => rfl, fun k c1 => by show gJ (sJ v 31 _) k = _; rw [gJ_sJ, if_neg c1], fun _ _ => rfl, fun _ _ => rfl⟩
                  refine Or.inr ⟨_, v12, (4, tv), q + k, D, note D f, inc D f, m1, cr1, w, s1, ⟨hq, by omega, by omega, hb, Or.inr (Or.inr (Or.inr ⟨by show 3 ≤ 4; omega, h40, h41, h46, hA⟩))⟩, Or.inr (Or.inr (Or.inr ⟨by show 3 ≤ 4; omega, h3, rfl, rfl, rfl⟩)), w2, w3, fun e => ?_, pk_uLs, fun k hk => (pk_uLn (by omega)).trans ((congrFun (w6.2.2.2 504 (by decide)) k).trans (congrFun (a6 504) k)), fun k hk => (w5 k hk).trans (congrFun (a6 200) k), f1C_tr fa s2, f1R_tr fv s3, s4, s5, fun Q hQ => hrun ⟨min k 12 + 1, nameC (by omega) hk hnk rfl (min k 12) 0 u (by omega) hX h512 _ ?_⟩, fun Q hQ => hokR (q + k) tv (by omega) hA Q (sf (neg_sp hsp0 hsp) ?_)⟩
                  · obtain ⟨kk, h1, h2, h4, h5⟩ := w4 e
                    exact Or.inr (Or.inr (Or.inr (Or.inr ⟨rfl, kk, sv tx L q k, h1, hsp0, hsp, h2, rfl, h4, h5⟩)))
                  · rw [hm]
                    show wp_X6_at N (nI (q + k)) _ _
                    refine cL (hX2 _) (by omega) (fun c hc9 => hc9 _ (sq ?_ (a7 _ (w8 _ (keep_ok (by rw [w6.1 509 (by decide) (by decide), a3 509 (by decide)]; exact h509) (by omega) ⟨vz_1, sf (by decide) hQ⟩)))))
                    rw [show lv tx L (q + k) = 0 from by omega]; decide
                  · rw [show -tv = lN (sv tx L q k) from Int64.neg_neg]
                    exact w9 _ (s6 _ hQ)
              · -- nothing
                have hdv : dv (tx q) = 0 := by unfold dv; unfold dgc at hdg; rw [if_neg hlt, if_neg hdg]
                have hnone : AtBad tx L q q := atom_none hq hL hlt hdg h45
                exact hfail (fun Q hQ => hCl (sf n40 (sf n45 (isDigit_0 hc hdg (sq rfl (digitOf_C hc (sq (by rw [hdv]; decide) hQ))))))) (fun Q hQ => sf n41 (hbadR q (by omega) hnone h46 h40 h3 Q hQ))
