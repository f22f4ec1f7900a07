/-! PURE: the other calls, on both sides -/
theorem inv_up {n t s i u v} (h : Inv0 n t s i u v) : Inv0 n t s (i + 1) u v := by
  obtain ⟨r, A, T, tx, L, p, B, hC, hFd, ⟨R, hR, hRi⟩, h9⟩ := h
  exact ⟨r, A, T, tx, L, p, B, hC, hFd, ⟨R, hR, RB0 hRi⟩, h9⟩
theorem inv_v0 {n t s i u v} (h : Inv0 n t s i u v) : Inv0 n t s (i + 1) u (sI v 0 0) := by
  obtain ⟨r, A, T, tx, L, p, B, hC, hFd, ⟨R, hR, hRi⟩, h9⟩ := h
  exact ⟨r, A, T, tx, L, p, B, hC, hFd, ⟨R, hR, RB0 hRi⟩, h9⟩
theorem clear_inv {n t s i u v} (h : Inv0 n t s i u v) : Inv0 n t s (i + 1) (sI (sI (sI u 101 (0 : Int32)) 102 (0 : Int32)) 103 (-1 : Int32)) (sI (sI (sI (sI v 0 (0 : Int32)) 5 (0 : Int32)) 6 (0 : Int32)) 7 (0 : Int32)) := by
  obtain ⟨r, A, T, tx, L, p, B, hC, hFd, ⟨R, hR, hRi⟩, h4, hNm, hAbs, hX, hXR, _, _, h8, hO, hOR⟩ := h
  exact ⟨r, A, T, tx, 0, 0, B, hC, hFd, ⟨R, hR, RB0 hRi⟩, h4, hNm, hAbs, ⟨rfl, Nat.zero_le _, fun k hk => absurd hk (by omega)⟩, ⟨rfl, Nat.zero_le _, fun k hk => absurd hk (by omega)⟩, ⟨rfl, rfl, Nat.le_refl _⟩, Or.inl ⟨rfl, rfl⟩, h8, hO, hOR⟩
theorem place_both {N : Nat → Nat} {n t s i u v} (h : Inv0 n t s i u v) : ∀ Q : Int32 → St → Prop, Q (gI v 7) u → wp_X9_place N u Q := fun Q hQ => by
  obtain ⟨r, A, T, tx, L, p, B, hC, hFd, hR, h4, hNm, hAbs, hX, hXR, ⟨p1, p2, p3⟩, hpl, h8, hO, hOR⟩ := h
  rcases hpl with ⟨e1, e2⟩ | ⟨q, hq, e1, e2⟩
  · refine sq e1 ?_
    rw [p1, ← e2]; exact hQ
  · refine sf ?_ ?_
    · rw [e1]
      intro e
      have : nI q < 0 := by rw [e]; decide
      exact nI_pos (by omega) this
    · rw [e1, ← e2]; exact hQ
theorem out_both {N : Nat → Nat} {n t s i u v} {k : Int32} (h : Inv0 n t s i u v) : ∃ b : Int32, (∀ Q : Int32 → St → Prop, Q b u → wp_X9_out N k u Q) ∧ (∀ Q : Int32 → St → Prop, Q b (sI v 0 0) → wp_X10_out k v Q) := by
  obtain ⟨r, A, T, tx, L, p, B, hC, hFd, hR, h4, hNm, hAbs, hX, hXR, hp, hpl, h8, hO, hOR⟩ := h
  by_cases h0 : k < 0
  · exact ⟨-1, fun Q hQ => sq h0 hQ, fun Q hQ => sq h0 hQ⟩
  · obtain ⟨j, hj, rfl⟩ := nI_of h0
    have hB := hO.2.1
    by_cases hlt : j < B.length
    · refine ⟨nI (B.getD j 0), fun Q hQ => sf h0 (sq ?_ ⟨vp_in_nI (by omega) (by omega), ?_⟩), fun Q hQ => sf h0 (sq ?_ ⟨vp_in_nI (by omega) (by omega), ?_⟩)⟩
      · rw [hO.1]; exact nI_lt hlt (by omega)
      · rw [nI_clamp hj, hO.2.2 j hlt]; exact hQ
      · rw [hOR.1]; exact nI_lt hlt (by omega)
      · rw [nI_clamp hj, hOR.2.2 j hlt]; exact hQ
    · refine ⟨-1, fun Q hQ => sf h0 (sf ?_ hQ), fun Q hQ => sf h0 (sf ?_ hQ)⟩
      · rw [hO.1]; exact nI_nlt (by omega) hj
      · rw [hOR.1]; exact nI_nlt (by omega) hj
/-- how many pairs the globals hold -/
theorem pairs_both {N : Nat → Nat} {n t s i u v} (hN : LN N n t) (hi : i < 512) (h : Inv0 n t s i u v) : ∃ (b : Int32) (u1 v1 : St), Inv0 n t s (i + 1) u1 v1 ∧ (∀ Q : Int32 → St → Prop, Q b u1 → wp_X1_pairsOfGlobals N u Q) ∧ (∀ Q : Int32 → St → Prop, Q b v1 → wp_X10_holdGlobals (sI v 0 (0 : Int32)) (fun (u1 : St) => Q (gI u1 16) u1)) := by
  have hn := hN.2.2.2.2.2.2.2.2.1
  obtain ⟨r, A, T, tx, L, p, B, hC, ⟨FL, hF, hdis⟩, ⟨R, hR, hRi⟩, ⟨k1, k2, k3⟩, hNm, hAbs, hX, hXR, ⟨p1, p2, p3⟩, hpl, ⟨f1, f2, f3⟩, hO, hOR⟩ := h
  obtain ⟨t1, t2, t3, t4⟩ := hC.2.2.2.2.1
  have hRs := RB30 hRi hi
  obtain ⟨b0, b1, b2, b3, b4, b5, b6, b7⟩ := begin_ex (N := N) hR (by omega)
  have e1 : gI b0 202 = nI T := (b1 202 (by decide) (by decide)).trans t1
  obtain ⟨w1, M1, d1, q1⟩ := mark_11 (len := T) hN t4 b6 (fun c hc => absurd hc List.not_mem_nil)
  have hC0 : Core r A T n u (sI v 0 0) := hC
  obtain ⟨v1, HL, ho, p9⟩ := holdGlobals_ex (v := sI v 0 0) t2 t4 (Core_g hC0) hC0.2.2.2.1
  have hfK : frK u w1 := frK_tr (v := b0) ⟨fun k _ h2 h3 => b1 k h2 h3, b2, fun k _ _ => b3 k, fun k _ _ => b4 k⟩ (frK_M d1.2.1)
  have kb : ∀ c bb, kid b0 c bb ↔ kid u c bb := fun c bb => by unfold kid; rw [b4 800, b4 801]
  obtain ⟨i1, i2⟩ := rootsG hC0 hn
  have hm : ∀ c ∈ M1, ∃ d ∈ HL, r c d := d1.2.2.2.2.2 (fun c => ∃ d ∈ HL, r c d) (fun c hc => absurd hc List.not_mem_nil) (fun j hj c hc e => by
    rw [b4 201] at e
    obtain ⟨d, hr, hrt⟩ := i1 c hc (Or.inl ⟨j, hj, e⟩)
    exact ⟨d, ho.2.2.2.1 d (hC.1.1 _ _ hr).2 hrt, hr⟩) (fun c hc ⟨d, hd, hr⟩ bb hbb hk => by
    obtain ⟨e, he, hke⟩ := kid_r t4 hn hC0.1 hr hbb ((kb c bb).mp hk)
    exact ⟨e, Ho_clo ho hd (hC.1.1 _ _ he).2 hke, he⟩)
  have hm2 : ∀ d ∈ HL, ∃ c ∈ M1, r c d := ho.2.2.2.2 (fun d => ∃ c ∈ M1, r c d) (fun d hd hr => by
    obtain ⟨j, hj, e⟩ := hr
    rcases hC0.2.2.2.2.2.1 j hj with h9 | h9
    · exact absurd (h9.2.symm.trans e) (pR_nm1 hd)
    · rw [e] at h9
      obtain ⟨c, hrc, ec⟩ := ob_pR t4 hC.1.1 h9 hd
      exact ⟨c, d1.2.2.2.1 j hj c (hC.1.1 _ _ hrc).1 (by rw [b4 201]; exact ec), hrc⟩) (fun d hd ⟨c, hc, hr⟩ e he hk => by
    obtain ⟨bb, hb, hkb⟩ := rkid_r t4 hC0.1 hr he hk
    exact ⟨bb, d1.2.2.2.2.1 c hc bb (hC.1.1 _ _ hb).1 ((kb c bb).mpr hkb), hb⟩)
  have hlen : M1.length = HL.length := nd_eq (f := r) (fun x z y a b => hC.1.2.2.1 x z y a b) (fun x y w a b => hC.1.2.1 x y w a b) d1.1.1 ho.1.1 hm hm2
  have e807 : gI w1 807 = nI HL.length := by rw [d1.1.2.2.2, hlen]
  have e16 : gI v1 16 = nI HL.length := ho.1.2.2.2.1
  have hRI1 : RI w1 n (R + 1) := by
    refine RI_of (u := u) hR.2 ?_ (fun c hc => ?_)
    · rw [d1.2.1.1 806 (by decide)]; exact b5
    · rcases d1.2.1.2.1.2 c with h9 | h9
      · left; rw [h9, b3 802]
      · right; rw [d1.2.1.1 806 (by decide)]; exact h9
  refine ⟨nI HL.length, w1, v1, ⟨r, A, T, tx, L, p, B, Core_grow hC (Nat.le_refl _) t4 (hfK.2.2.2 800 (by decide) (by decide)) (hfK.2.2.2 801 (by decide) (by decide)) (hfK.2.2.2 201 (by decide) (by decide)) ((hfK.1 202 (by decide) (by decide) (by decide)).trans t1) hAbs (ho.2.1.2.2.2 13 (by decide)) (ho.2.1.2.2.2 14 (by decide)) (fun k _ => congrFun (ho.2.1.2.2.2 20 (by decide)) k) (fun k h1 h2 => by omega) ((ho.2.1.1 21 (by decide) (by decide)).trans t2) (ho.2.1.1 1 (by decide) (by decide)), ⟨FL, FR_cg hF ((d1.2.1.1 805 (by decide)).trans (b1 805 (by decide) (by decide))) ((d1.2.1.2.2.1 804 (by decide)).trans (b3 804)), hdis⟩, ⟨R + 1, hRI1, RB (a := 1) (by omega) (by omega)⟩, ⟨(hfK.1 604 (by decide) (by decide) (by decide)).trans k1, (ho.2.1.1 3 (by decide) (by decide)).trans k2, (ho.2.1.1 2 (by decide) (by decide)).trans k3⟩, ?_, fun k h1 h2 => (congrFun (hfK.2.2.2 201 (by decide) (by decide)) k).trans (hAbs k h1 h2), TX_cg hX (hfK.1 101 (by decide) (by decide) (by decide)) (hfK.2.2.1 100 (by decide) (by decide)), TXR_cg hXR (ho.2.1.1 5 (by decide) (by decide)) (ho.2.1.2.2.1 4 (by decide)), ⟨(hfK.1 102 (by decide) (by decide) (by decide)).trans p1, (ho.2.1.1 6 (by decide) (by decide)).trans p2, p3⟩, ?_, ⟨(hfK.1 7 (by decide) (by decide) (by decide)).trans (f1.trans (ho.2.1.1 8 (by decide) (by decide)).symm), (hfK.1 607 (by decide) (by decide) (by decide)).trans (f2.trans (ho.2.1.1 9 (by decide) (by decide)).symm), (hfK.1 304 (by decide) (by decide) (by decide)).trans (f3.trans (ho.2.1.1 10 (by decide) (by decide)).symm)⟩, ?_, ?_⟩, fun Q hQ => b7 _ ?_, fun Q hQ => p9 _ (by rw [e16]; exact hQ)⟩
  · unfold NmR; rw [hfK.2.2.2 200 (by decide) (by decide), ho.2.1.2.2.2 19 (by decide)]; exact hNm
  · rw [hfK.1 103 (by decide) (by decide) (by decide), ho.2.1.1 7 (by decide) (by decide)]; exact hpl
  · unfold OutC; rw [hfK.1 706 (by decide) (by decide) (by decide), hfK.2.2.1 702 (by decide) (by decide)]; exact hO
  · unfold OutR; rw [ho.2.1.1 12 (by decide) (by decide), ho.2.1.2.2.1 11 (by decide)]; exact hOR
  · show wp_X0_mark_11 N (gI b0 202) b0 _
    rw [e1]
    refine q1 _ ?_
    rw [e807]
    exact hQ
theorem obl_ok {N : Nat → Nat} {n t s : Nat} (hN : LN N n t) (hs : s ≤ 20000) : Obl N (Inv0 n t s) := by
  refine ⟨fun i u v _ h => inv_up h, fun i u v x _ h => ?_, fun i u v _ h => clear_inv h, fun i u v g0 hi h => ?_, fun i u v _ h => ?_, fun i u v _ h => ?_, fun i u v _ h => ?_, fun i u v k _ h => ?_, fun i u v k hi h => ?_⟩
  · obtain ⟨b, u1, v1, h1, h2, h3⟩ := write_both (N := N) (x := x) h
    exact h2 _ (h3 _ ⟨rfl, h1⟩)
  · obtain ⟨kk, b, u1, v1, h1, h2, h3, h4, h5⟩ := next_both hN hs hi h
    refine h4 _ _ (fun e => h5 _ ?_) (fun e => ?_)
    · refine ⟨by rw [h2, e]; rfl, fun _ => rfl, h1⟩
    · have hk : kk = 1 ∨ kk = 2 := by omega
      rcases hk with rfl | rfl
      · exact sq rfl (h5 _ ⟨h2, fun e9 => absurd e9 (by decide), h1⟩)
      · exact sf (by decide) (h5 _ ⟨h2, fun e9 => absurd e9 (by decide), h1⟩)
  · have h9 := inv_v0 h
    obtain ⟨r, A, T, tx, L, p, B, hC, hFd, hR, h4, hNm, hAbs, hX, hXR, hp, hpl, ⟨f1, f2, f3⟩, hO, hOR⟩ := h
    exact ⟨f1, h9⟩
  · exact place_both h _ ⟨rfl, inv_v0 h⟩
  · have h9 := inv_v0 h
    obtain ⟨r, A, T, tx, L, p, B, hC, hFd, hR, h4, hNm, hAbs, hX, hXR, hp, hpl, h8, hO, hOR⟩ := h
    exact ⟨hO.1.trans hOR.1.symm, h9⟩
  · obtain ⟨b, h1, h2⟩ := out_both (N := N) (k := k) h
    exact h1 _ (h2 _ ⟨rfl, inv_v0 h⟩)
  · have h9 := inv_v0 h
    obtain ⟨b, u1, v1, g1, g2, g3⟩ := pairs_both hN hi h
    obtain ⟨r, A, T, tx, L, p, B, hC, hFd, hR, h4, hNm, hAbs, hX, hXR, hp, hpl, ⟨f1, f2, f3⟩, hO, hOR⟩ := h
    by_cases k0 : k = 0
    · exact sq k0 (sq k0 ⟨f2, h9⟩)
    · by_cases k1 : k = 1
      · have n2 : ¬ k = 2 := by rw [k1]; decide
        have n3 : ¬ k = 3 := by rw [k1]; decide
        refine sf k0 (sq k1 (g2 (fun r u1 => wp_X10_count k v (fun r2 v1 => r = r2 ∧ Inv0 n t s (i + 1) u1 v1)) (sf k0 (sf n2 (sf n3 (sq k1 (g3 (fun r2 v1 => b = r2 ∧ Inv0 n t s (i + 1) u1 v1) ⟨rfl, g1⟩)))))))
      · by_cases k2 : k = 2
        · exact sf k0 (sf k1 (sq k2 (sf k0 (sq k2 ⟨hC.2.2.2.2.1.1.trans hC.2.2.2.2.1.2.1.symm, h9⟩))))
        · by_cases k3 : k = 3
          · exact sf k0 (sf k1 (sf k2 (sq k3 (sf k0 (sf k2 (sq k3 ⟨f3, h9⟩))))))
          · exact sf k0 (sf k1 (sf k2 (sf k3 (sf k0 (sf k2 (sf k3 (sf k1 ⟨rfl, h9⟩)))))))
