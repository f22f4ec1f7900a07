/-! PURE: next, on both sides -/
theorem m1m1 {q : Nat} : (-1 : Int32) - ((-1 : Int32) - nI q) = nI q := by
  rw [Int32.sub_eq_add_neg, Int32.neg_sub, Int32.sub_eq_add_neg, ← Int32.add_assoc, Int32.add_comm, ← Int32.add_assoc]
  have : -(-1 : Int32) + (-1 : Int32) = 0 := by decide
  rw [this, Int32.zero_add]
theorem out0C {u : St} (h : gI u 706 = 0) : OutC u [] := ⟨h, by simp, fun k hk => absurd hk (by simp)⟩
theorem out0R {v : St} (h : gI v 12 = 0) : OutR v [] := ⟨h, by simp, fun k hk => absurd hk (by simp)⟩
theorem RB {R i a : Nat} (h : R ≤ i * 20002 + a) (ha : a ≤ 20002) : R ≤ (i + 1) * 20002 := by
  rw [Nat.add_mul, Nat.one_mul]
  exact Nat.le_trans h (Nat.add_le_add_left ha _)
theorem RB0 {R i : Nat} (h : R ≤ i * 20002) : R ≤ (i + 1) * 20002 := by
  rw [Nat.add_mul, Nat.one_mul]
  exact Nat.le_trans h (Nat.le_add_right _ _)
theorem RB30 {R i : Nat} (h : R ≤ i * 20002) (hi : i < 512) : R < 11000000 := by
  have h1 : i * 20002 ≤ 511 * 20002 := Nat.mul_le_mul_right _ (by omega)
  have h2 : 511 * 20002 < 11000000 := by decide
  exact Nat.lt_of_le_of_lt (Nat.le_trans h h1) h2
def NextR (N : Nat → Nat) (n t s i : Nat) (u v : St) : Prop := ∃ (kk : Nat) (b : Int32) (u1 v1 : St), Inv0 n t s (i + 1) u1 v1 ∧ gI v1 0 = nI kk ∧ kk ≤ 2 ∧ (∀ (Q : Int32 → St → Prop) (W : Nat → St → Prop), (kk = 0 → Q b u1) → (kk ≠ 0 → W kk u1) → wp_X9_next N u Q W) ∧ (∀ Q : Int32 → St → Prop, Q b v1 → wp_X10_next v Q)
theorem RI_cg {n R u u1} (h : RI u n R) (h1 : gI u1 806 = gI u 806) (h2 : gA u1 802 = gA u 802) : RI u1 n R := by
  unfold RI; rw [h1, h2]; exact h
theorem FR_cg {n FL u u1} (h : FR u n FL) (h1 : gI u1 805 = gI u 805) (h2 : gA u1 804 = gA u 804) : FR u1 n FL := by
  unfold FR; rw [h1, h2]; exact h
theorem NmR_of {T m u v} (h1 : ∀ k, k < T + m → gB v 19 k = gB u 200 k) (h2 : ∀ k, k < T + m → ∃ sp, 0 < sp ∧ sp < 37 ^ 12 ∧ gB u 200 k = lN sp) : NmR (T + m) u v := fun k hk => by
  obtain ⟨sp, a, b, c⟩ := h2 k hk
  exact ⟨sp, a, b, c, (h1 k hk).trans c⟩
theorem next_both {N : Nat → Nat} {n t s i u v} (hN : LN N n t) (hs : s ≤ 20000) (hi : i < 512) (h : Inv0 n t s i u v) : NextR N n t s i u v := by
  have hn := hN.2.2.2.2.2.2.2.2.1
  obtain ⟨r, A, T, tx, L, p, B, hC, ⟨FL, hF, hdis⟩, ⟨R, hR, hRi⟩, ⟨k1, k2, k3⟩, hNm, hAbs, hX, hXR, ⟨p1, p2, p3⟩, hpl, ⟨f1, f2, f3⟩, hO, hOR⟩ := h
  have hL := hX.2.1
  have hT := hC.2.2.2.2.1.2.2.2
  have hT18 := hC.2.2.2.2.1.2.2.1
  have h202 := hC.2.2.2.2.1.1
  have h21 := hC.2.2.2.2.1.2.1
  obtain ⟨q, q1, q2, q3, q4⟩ := skip_ex tx L p p3
  let ua := sI (sI (sI (sI (sI (sI u 706 (0 : Int32)) 607 (0 : Int32)) 303 (0 : Int32)) 304 (0 : Int32)) 7 (0 : Int32)) 103 (-1 : Int32)
  let ub := sI ua 102 (nI q)
  let va := sI (sI (sI (sI (sI v 0 (0 : Int32)) 12 (0 : Int32)) 8 (0 : Int32)) 9 (0 : Int32)) 10 (0 : Int32)
  let vb := sI (sI va 6 (nI q)) 7 (nI q)
  have hXa : TX tx L ua := hX
  have hXRa : TXR tx L va := hXR
  have p1a : gI ua 102 = nI p := p1
  have p2a : gI va 6 = nI p := p2
  have e101 : gI ua 101 = nI L := hX.1
  have e5 : gI va 5 = nI L := hXR.1
  by_cases hqL : q = L
  · -- nothing more in the text
    refine ⟨0, 0, ub, vb, ⟨r, A, T, tx, L, q, [], hC, ⟨FL, hF, hdis⟩, ⟨R, hR, RB0 hRi⟩, ⟨k1, k2, k3⟩, hNm, hAbs, hX, hXR, ⟨rfl, rfl, q2⟩, Or.inl ⟨rfl, rfl⟩, ⟨rfl, rfl, rfl⟩, out0C rfl, out0R rfl⟩, rfl, by omega, fun Q W hQ _ => ?_, fun Q hQ => ⟨q - p + 1, nx_skip q2 q4 (q - p) p va (by omega) hXRa p2a q3 (sq ?_ hQ)⟩⟩
    · unfold wp_X9_next
      rw [p1]
      refine skip_C hXa q2 q4 (sf ?_ (hQ rfl)) q1 q3
      rw [e101]; exact nI_nlt (by omega) (by omega)
    · show nI q = gI va 5
      rw [e5, hqL]
  · have hqlt : q < L := by omega
    let us := sI (sI (sI (sI (sI ub 203 (0 : Int32)) 509 (0 : Int32)) 510 (0 : Int32)) 511 (0 : Int32)) 512 (nI q)
    let vs := sI (sI (sI (sI (sI vb 23 (0 : Int32)) 24 (0 : Int32)) 29 (0 : Int32)) 30 (0 : Int32)) 25 (0 : Int32)
    have hS1 : S1 tx L T q 0 (fun _ => 0) 0 0 0 0 us vs := by
      refine ⟨hX, hXR, ⟨rfl, q2⟩, ⟨rfl, rfl, Nat.zero_le _⟩, fun j hj => absurd hj (by omega), ⟨rfl, rfl, Nat.zero_le _⟩, ⟨rfl, Nat.zero_le _⟩, ⟨h202, h21, rfl, hT, fun k hk => ?_, fun j hj => absurd hj (by omega), rfl, rfl, Or.inl rfl, fun k hk => ?_⟩⟩
      · obtain ⟨sp, _, _, z1, z2⟩ := hNm k hk
        exact z2.trans z1.symm
      · obtain ⟨sp, z0, z1, z2, _⟩ := hNm k hk
        exact ⟨sp, z0, z1, z2⟩
    -- both come to the reading
    have hrunC : ∀ (Q : Int32 → St → Prop) (W : Nat → St → Prop), wp_X5_read N ub (fun (r3 : Int32) (u4 : St) => ((r3 = (10 : Int32) → W 1 (sI u4 7 r3)) ∧ (¬ r3 = (10 : Int32) → ((r3 = 0 → wp_X2_evaluate N (gJ u4 513) (sI u4 7 r3) (fun (r6 : Int32) (u7 : St) => ((r6 = 0 → wp_X4_print N (gJ u7 614) (sI u7 7 r6) (fun (u8 : St) => Q (1 : Int32) u8)) ∧ (¬ r6 = 0 → W 2 (sI u7 7 r6))))) ∧ (¬ r3 = 0 → ((r3 = 0 → wp_X4_print N (gJ u4 614) (sI u4 7 r3) (fun (u5 : St) => Q (1 : Int32) u5)) ∧ (¬ r3 = 0 → W 2 (sI u4 7 r3)))))))) → wp_X9_next N u Q W := fun Q W hq9 => by
      unfold wp_X9_next
      rw [p1]
      refine skip_C hXa q2 q4 (sq ?_ hq9) q1 q3
      rw [e101]; exact nI_lt hqlt (by omega)
    have hneR : ¬ gI (sI va 6 (nI q)) 6 = gI (sI va 6 (nI q)) 5 := by
      show ¬ nI q = gI va 5
      rw [e5]
      exact fun e => absurd ((nI_eq (by omega) (by omega)).mp e) hqL
    rcases scan_both (N := N) (tx := tx) (L := L) (T := T) (L - q) q 0 0 0 0 (fun _ => 0) 0 us vs rfl hS1 rfl with ⟨u1, v1, qf, fC, fR, c1, c2, c3, c4, c5, c6, c7⟩ | ⟨u1, v1, e, toks, np, m1, cr1, f9, fC, fR, c1, c2, c3, c4, c5, c6, c7, c8, c9, c10, c11⟩
    · -- unreadable
      have g101 : gI u1 101 = nI L := (c3.1 101 (by decide) (by decide) (by decide) (by decide) (by decide) (by decide)).trans e101
      have g5 : gI v1 5 = nI L := (c4.1 5 (by decide) (by decide) (by decide) (by decide) (by decide)).trans e5
      have hCF : Core r A T n (sI (sI (sI (sI u1 202 (nI T)) 103 (nI qf)) 102 (nI L)) 7 10) (sI (sI (sI (sI v1 8 10) 0 1) 7 (nI qf)) 6 (nI L)) := Core_grow hC (Nat.le_refl _) hT (c3.2.2.2 800 (by decide) (by decide)) (c3.2.2.2 801 (by decide) (by decide)) (c3.2.2.2 201 (by decide) (by decide)) rfl hAbs (c4.2.2.2 13 (by decide)) (c4.2.2.2 14 (by decide)) (fun k _ => congrFun (c4.2.2.2 20 (by decide)) k) (fun k h1 h2 => by omega) ((c4.1 21 (by decide) (by decide) (by decide) (by decide) (by decide)).trans h21) (c4.1 1 (by decide) (by decide) (by decide) (by decide) (by decide))
      refine ⟨1, 0, sI (sI (sI (sI u1 202 (nI T)) 103 (nI qf)) 102 (nI L)) 7 10, sI (sI (sI (sI v1 8 10) 0 1) 7 (nI qf)) 6 (nI L), ⟨r, A, T, tx, L, L, [], hCF, ⟨FL, FR_cg hF (c3.1 805 (by decide) (by decide) (by decide) (by decide) (by decide) (by decide)) (c3.2.2.1 804 (by decide)), hdis⟩, ⟨R, RI_cg hR (c3.1 806 (by decide) (by decide) (by decide) (by decide) (by decide) (by decide)) (c3.2.2.1 802 (by decide)), RB0 hRi⟩, ⟨(c3.1 604 (by decide) (by decide) (by decide) (by decide) (by decide) (by decide)).trans k1, (c4.1 3 (by decide) (by decide) (by decide) (by decide) (by decide)).trans k2, (c4.1 2 (by decide) (by decide) (by decide) (by decide) (by decide)).trans k3⟩, fun k hk => ?_, fun k h1 h2 => (congrFun (c3.2.2.2 201 (by decide) (by decide)) k).trans (hAbs k h1 h2), TX_cg hX (c3.1 101 (by decide) (by decide) (by decide) (by decide) (by decide) (by decide)) (c3.2.2.1 100 (by decide)), TXR_cg hXR (c4.1 5 (by decide) (by decide) (by decide) (by decide) (by decide)) (c4.2.2.1 4 (by decide)), ⟨rfl, rfl, Nat.le_refl _⟩, Or.inr ⟨qf, by omega, rfl, rfl⟩, ⟨rfl, (c3.1 607 (by decide) (by decide) (by decide) (by decide) (by decide) (by decide)).trans (c4.1 9 (by decide) (by decide) (by decide) (by decide) (by decide)).symm, (c3.1 304 (by decide) (by decide) (by decide) (by decide) (by decide) (by decide)).trans (c4.1 10 (by decide) (by decide) (by decide) (by decide) (by decide)).symm⟩, out0C (c3.1 706 (by decide) (by decide) (by decide) (by decide) (by decide) (by decide)), out0R (c4.1 12 (by decide) (by decide) (by decide) (by decide) (by decide))⟩, rfl, by omega, fun Q W _ hW => hrunC Q W ⟨fC, c6 _ (sq rfl ?_)⟩, fun Q hQ => ⟨q - p + 1, nx_skip q2 q4 (q - p) p va (by omega) hXRa p2a q3 (sf hneR ⟨fR, c7 _ (sf (m1q (by omega)) ?_)⟩)⟩⟩
      · obtain ⟨sp, z0, z1, z2, z3⟩ := hNm k hk
        exact ⟨sp, z0, z1, (c5 k (by omega)).trans z2, (congrFun (c4.2.2.2 19 (by decide)) k).trans z3⟩
      · have e9 : gI ub 202 = nI T := h202
        rw [e9, c1, g101]
        exact sq rfl (hW (by decide))
      · rw [m1m1, g5]
        exact hQ
    · -- readable
      obtain ⟨s1, s2, ⟨s3, s4⟩, _, _, ⟨s5, s6, s7⟩, ⟨s8, s9⟩, sN⟩ := id c1
      obtain ⟨n1, n2, n3, n4, n5, n6, n7, n8, n9, n10⟩ := id sN
      rw [Nat.zero_add] at s5 s6 s7 s8 s9
      have cf : ∀ k, k ≠ 202 → k ≠ 203 → k ≠ 509 → k ≠ 510 → k ≠ 511 → k ≠ 512 → gI u1 k = gI us k := c8.1
      have eub : gI ub 202 = nI T := h202
      have e0 : ∀ k, k ≠ 202 → k ≠ 203 → k ≠ 509 → k ≠ 510 → k ≠ 511 → k ≠ 512 → gI u1 k = gI ub k := fun k a1 a2 a3 a4 a5 a6 => (cf k a1 a2 a3 a4 a5 a6).trans (by
        show gI (sI (sI (sI (sI (sI ub 203 (0 : Int32)) 509 (0 : Int32)) 510 (0 : Int32)) 511 (0 : Int32)) 512 (nI q)) k = gI ub k
        rw [gI_sI, if_neg a6, gI_sI, if_neg a5, gI_sI, if_neg a4, gI_sI, if_neg a3, gI_sI, if_neg a2])
      have dv0 : ∀ k, k ≠ 23 → k ≠ 24 → k ≠ 25 → k ≠ 29 → k ≠ 30 → gI v1 k = gI vb k := fun k a1 a2 a3 a4 a5 => (c9.1 k a1 a2 a3 a4 a5).trans (by
        show gI (sI (sI (sI (sI (sI vb 23 (0 : Int32)) 24 (0 : Int32)) 29 (0 : Int32)) 30 (0 : Int32)) 25 (0 : Int32)) k = gI vb k
        rw [gI_sI, if_neg a3, gI_sI, if_neg a5, gI_sI, if_neg a4, gI_sI, if_neg a2, gI_sI, if_neg a1])
      have hFR1 : FR u1 n FL := FR_cg hF (e0 805 (by decide) (by decide) (by decide) (by decide) (by decide) (by decide)) (c8.2.2.1 804 (by decide))
      have hRI1 : RI u1 n R := RI_cg hR (e0 806 (by decide) (by decide) (by decide) (by decide) (by decide) (by decide)) (c8.2.2.1 802 (by decide))
      have i604 : gI u1 604 = nI s := (e0 604 (by decide) (by decide) (by decide) (by decide) (by decide) (by decide)).trans k1
      have i607 : gI u1 607 = 0 := e0 607 (by decide) (by decide) (by decide) (by decide) (by decide) (by decide)
      have i303 : gI u1 303 = 0 := e0 303 (by decide) (by decide) (by decide) (by decide) (by decide) (by decide)
      have i304 : gI u1 304 = 0 := e0 304 (by decide) (by decide) (by decide) (by decide) (by decide) (by decide)
      have i103 : gI u1 103 = -1 := e0 103 (by decide) (by decide) (by decide) (by decide) (by decide) (by decide)
      have i706 : gI u1 706 = 0 := e0 706 (by decide) (by decide) (by decide) (by decide) (by decide) (by decide)
      have j3 : gI v1 3 = nI s := (dv0 3 (by decide) (by decide) (by decide) (by decide) (by decide)).trans k2
      have j2 : gI v1 2 = nI t := (dv0 2 (by decide) (by decide) (by decide) (by decide) (by decide)).trans k3
      have j8 : gI v1 8 = 0 := dv0 8 (by decide) (by decide) (by decide) (by decide) (by decide)
      have j9 : gI v1 9 = 0 := dv0 9 (by decide) (by decide) (by decide) (by decide) (by decide)
      have j10 : gI v1 10 = 0 := dv0 10 (by decide) (by decide) (by decide) (by decide) (by decide)
      have j12 : gI v1 12 = 0 := dv0 12 (by decide) (by decide) (by decide) (by decide) (by decide)
      have j6 : gI v1 6 = nI q := dv0 6 (by decide) (by decide) (by decide) (by decide) (by decide)
      have j1 : gI v1 1 = gI v 1 := dv0 1 (by decide) (by decide) (by decide) (by decide) (by decide)
      have a201 : gB u1 201 = gB u 201 := c8.2.2.2 201 (by decide) (by decide)
      have a800 : gB u1 800 = gB u 800 := c8.2.2.2 800 (by decide) (by decide)
      have a801 : gB u1 801 = gB u 801 := c8.2.2.2 801 (by decide) (by decide)
      have b13 : gB v1 13 = gB v 13 := c9.2.2.2 13 (by decide)
      have b14 : gB v1 14 = gB v 14 := c9.2.2.2 14 (by decide)
      have b20 : gB v1 20 = gB v 20 := c9.2.2.2 20 (by decide)
      have hpe : 0 ≤ nI e := nI_pos' (by omega)
      have hRsmall := RB30 hRi hi
      have hrunR : ∀ (Q : Int32 → St → Prop), (((gI v1 24) = 0 → (∃ k16 : Nat, l_X10_next_170 (gI v1 6) (fun (u5 : St) => wp_X10_holdGlobals u5 (fun (u6 : St) => wp_X10_room (gI u6 30) u6 (fun (r7 : Int32) (u8 : St) => ((r7 = 0 → (((gI u8 8) = 0 → (((gI u8 8) = 0 → wp_X10_printAll (gJ u8 40) (sI u8 0 (0 : Int32)) (fun (u10 : St) => Q (1 : Int32) u10)) ∧ (¬ (gI u8 8) = 0 → Q (0 : Int32) (sI u8 0 (0 : Int32))))) ∧ (¬ (gI u8 8) = 0 → (((gI u8 8) = 0 → wp_X10_printAll (gJ u8 40) (sI u8 0 (2 : Int32)) (fun (u9 : St) => Q (1 : Int32) u9)) ∧ (¬ (gI u8 8) = 0 → Q (0 : Int32) (sI u8 0 (2 : Int32))))))) ∧ (¬ r7 = 0 → wp_X10_readAll (1 : Int32) (gI v1 6) u8 (fun (r11 : Int32) (u12 : St) => wp_X10_evaluateAll (gJ u12 31) u12 (fun (u13 : St) => (((gI u13 8) = 0 → (((gI u13 8) = 0 → wp_X10_printAll (gJ u13 40) (sI u13 0 (0 : Int32)) (fun (u15 : St) => Q (1 : Int32) u15)) ∧ (¬ (gI u13 8) = 0 → Q (0 : Int32) (sI u13 0 (0 : Int32))))) ∧ (¬ (gI u13 8) = 0 → (((gI u13 8) = 0 → wp_X10_printAll (gJ u13 40) (sI u13 0 (2 : Int32)) (fun (u14 : St) => Q (1 : Int32) u14)) ∧ (¬ (gI u13 8) = 0 → Q (0 : Int32) (sI u13 0 (2 : Int32))))))))))))) k16 (0 : Int32) (sI (sI v1 6 (nI e)) 7 (nI e)))) ∧ (¬ (gI v1 24) = 0 → wp_X10_fails (9 : Int32) (sI (sI v1 6 (nI e)) 7 (nI e)) (fun (u17 : St) => (((gI u17 8) = 0 → (((gI u17 8) = 0 → wp_X10_printAll (gJ u17 40) (sI u17 0 (0 : Int32)) (fun (u19 : St) => Q (1 : Int32) u19)) ∧ (¬ (gI u17 8) = 0 → Q (0 : Int32) (sI u17 0 (0 : Int32))))) ∧ (¬ (gI u17 8) = 0 → (((gI u17 8) = 0 → wp_X10_printAll (gJ u17 40) (sI u17 0 (2 : Int32)) (fun (u18 : St) => Q (1 : Int32) u18)) ∧ (¬ (gI u17 8) = 0 → Q (0 : Int32) (sI u17 0 (2 : Int32))))))))) → wp_X10_next v Q := fun Q hq9 => ⟨q - p + 1, nx_skip q2 q4 (q - p) p va (by omega) hXRa p2a q3 (sf hneR ⟨fR, c11 _ (sq hpe hq9)⟩)⟩
      by_cases hcr : cr1 = 0
      · -- all names found room
        let u2 := sI u1 102 (nI e)
        let v2 := sI (sI v1 6 (nI e)) 7 (nI e)
        obtain ⟨v3, w1, w2, w3, w4, w5, w6, w7, w8⟩ := app_loop (c2 := gI v1 6) n4 m1 0 v2 (by omega) n2 n3
        have hC3 : Core r A (T + m1) n u2 v3 := Core_grow hC (by omega) n4 a800 a801 a201 n1 hAbs ((w7 13 (by decide) (by decide)).trans b13) ((w7 14 (by decide) (by decide)).trans b14) (fun k hk => ((w2 k (by omega)).2).trans (congrFun b20 k)) (fun k h1 h2 => by
          have := (w3 (k - T) (by omega) (by omega)).2
          rwa [show T + (k - T) = k from by omega] at this) w1 ((w4 1 (by decide)).trans j1)
        have hnm3 : ∀ k, k < T + m1 → gB v3 19 k = gB u1 200 k := fun k hk => by
          by_cases hkT : k < T
          · exact ((w2 k (by omega)).1).trans (n5 k hkT)
          · have h9 := (w3 (k - T) (by omega) (by omega)).1
            rw [show T + (k - T) = k from by omega] at h9
            have h8 := n6 (k - T) (by omega)
            rw [show T + (k - T) = k from by omega] at h8
            exact h9.trans h8
        obtain ⟨uc, vc, b, HL, R1, x1, x2, x3, x4, x5, x6, x7, x8, x9⟩ := roomG (k := np) (u := u2) (v := v3) hN hC3 hFR1 hdis hRI1 (by omega) i303 (by omega) ((w4 8 (by decide)).trans j8)
        have b30 : gI b 30 = nI np := ((x5.1 30 (by decide) (by decide)).trans (w4 30 (by decide))).trans s6
        -- the class comes to the room, the reference too
        have y604 : gI uc 604 = nI s := (x3.1 604 (by decide) (by decide) (by decide)).trans i604
        have y607 : gI uc 607 = 0 := (x3.1 607 (by decide) (by decide) (by decide)).trans i607
        have y303 : gI uc 303 = 0 := (x3.1 303 (by decide) (by decide) (by decide)).trans i303
        have y304 : gI uc 304 = 0 := (x3.1 304 (by decide) (by decide) (by decide)).trans i304
        have y103 : gI uc 103 = -1 := (x3.1 103 (by decide) (by decide) (by decide)).trans i103
        have y706 : gI uc 706 = 0 := (x3.1 706 (by decide) (by decide) (by decide)).trans i706
        have y102 : gI uc 102 = nI e := x3.1 102 (by decide) (by decide) (by decide)
        have z3 : gI vc 3 = nI s := ((x4.1 3 (by decide) (by decide)).trans (w4 3 (by decide))).trans j3
        have z2 : gI vc 2 = nI t := ((x4.1 2 (by decide) (by decide)).trans (w4 2 (by decide))).trans j2
        have z8 : gI vc 8 = 0 := ((x4.1 8 (by decide) (by decide)).trans (w4 8 (by decide))).trans j8
        have z9 : gI vc 9 = 0 := ((x4.1 9 (by decide) (by decide)).trans (w4 9 (by decide))).trans j9
        have z10 : gI vc 10 = 0 := ((x4.1 10 (by decide) (by decide)).trans (w4 10 (by decide))).trans j10
        have z12 : gI vc 12 = 0 := ((x4.1 12 (by decide) (by decide)).trans (w4 12 (by decide))).trans j12
        have z6 : gI vc 6 = nI e := (x4.1 6 (by decide) (by decide)).trans (w4 6 (by decide))
        have z7 : gI vc 7 = nI e := (x4.1 7 (by decide) (by decide)).trans (w4 7 (by decide))
        have hXc : TX tx L uc := TX_cg s1 (x3.1 101 (by decide) (by decide) (by decide)) (x3.2.2.1 100 (by decide) (by decide))
        have hXRc : TXR tx L vc := TXR_cg s2 ((x4.1 5 (by decide) (by decide)).trans (w4 5 (by decide))) ((x4.2.2.1 4 (by decide)).trans (w6 4))
        have c200 : gB uc 200 = gB u1 200 := x3.2.2.2 200 (by decide) (by decide)
        have d19 : gB vc 19 = gB v3 19 := x4.2.2.2 19 (by decide)
        have hNmc : NmR (T + m1) uc vc := NmR_of (fun k hk => by rw [c200, d19]; exact hnm3 k hk) (fun k hk => by rw [c200]; exact n10 k hk)
        have hAbsc : ∀ k, T + m1 ≤ k → k < 150 → gB uc 201 k = (3298534883331 : Int64) := fun k h1 h2 => by
          rw [x3.2.2.2 201 (by decide) (by decide)]
          show gB u1 201 k = _
          rw [a201]; exact hAbs k (by omega) h2
        rcases x9 with ⟨rc, rh, g1, g2⟩ | ⟨g1, g2⟩
        · -- room
          obtain ⟨rk, hrk⟩ := x6.2.1
          have hHB : HBc (cut r HL) A rk (T + m1) n uc vc := ⟨x6.1, hrk, x6.2.2⟩
          let ud := sI uc 510 (0 : Int32)
          let vd := sI (sI (sI vc 29 (0 : Int32)) 30 (0 : Int32)) 25 (0 : Int32)
          have hS2 : S2 (cut r HL) A rk (T + m1) n 0 (fun _ => 0) 0 np ud vd := ⟨hHB, ⟨rfl, rfl, Nat.zero_le _⟩, fun j hj => absurd hj (by omega), fun j hj => absurd hj (by omega), rc, rh, by omega⟩
          have c504 : gB uc 504 = gB u1 504 := x3.2.2.2 504 (by decide) (by decide)
          have c509 : gI uc 509 = nI (0 + toks.length) := by rw [Nat.zero_add]; exact (x3.1 509 (by decide) (by decide) (by decide)).trans s8
          obtain ⟨r1, A1, rk1, u5, v5, fC2, fR2, m1', m2', m3', m4', m5', m6', m7'⟩ := build_both (N := N) (tx := tx) (L := L) (T := T + m1) hN toks 0 q 0 (fun _ => 0) e np 0 (cut r HL) A rk ud vd c2 hS2 hXRc rfl c509 (by omega) (fun k hk => by
            show gB vc 19 k = gB uc 200 k
            rw [c200, d19]; exact hnm3 k hk) (fun j hj => by
            show enc (gB uc 200) (T + m1) (toks.getD j (0, 0)) (gB uc 504 (0 + j))
            rw [c200, c504]
            exact c3 hcr j hj)
          have hRI5 : RI u5 n R1 := RI_cg x2 (m4'.1 806 (by decide) (by decide)) (m4'.2.2.1 802 (by decide))
          have hM5 : Mh r1 A1 (T + m1) n t R1 (sI u5 7 0) v5 := ⟨HBc_core m1', m2'.elim (fun F hF9 => ⟨F, hF9.1, hF9.2.1⟩), ⟨R1, hRI5, Nat.le_refl _⟩, ⟨0, (m4'.1 304 (by decide) (by decide)).trans y304, (m5'.1 10 (by decide) (by decide) (by decide)).trans z10, Nat.zero_le _⟩⟩
          obtain ⟨u7, v7, st1, o1, o2, o3, o4⟩ := evaluate_both (B := R1) (x := gJ u5 513) (y := gJ v5 31) hN hs (by omega) hM5 ((m4'.1 604 (by decide) (by decide)).trans y604) ((m5'.1 3 (by decide) (by decide) (by decide)).trans z3) ((m5'.1 2 (by decide) (by decide) (by decide)).trans z2) ((m4'.1 607 (by decide) (by decide)).trans y607) ((m5'.1 9 (by decide) (by decide) (by decide)).trans z9) ((m5'.1 8 (by decide) (by decide) (by decide)).trans z8) ((m4'.1 303 (by decide) (by decide)).trans y303) m3'
          have hrC : ∀ (Q : Int32 → St → Prop) (W : Nat → St → Prop), ((gI u7 609 = 0 → wp_X4_print N (gJ u7 614) (sI u7 7 (gI u7 609)) (fun (u8 : St) => Q (1 : Int32) u8)) ∧ (¬ gI u7 609 = 0 → W 2 (sI u7 7 (gI u7 609)))) → wp_X9_next N u Q W := fun Q W hq9 => hrunC Q W ⟨fC, c10 _ (sf (by decide) (sq (n7.trans hcr) (by
            rw [s5, s3]
            exact g1 _ (sf (by decide) ⟨fC2, m6' _ (sf (by decide) (sq rfl (o3 _ hq9)))⟩))))⟩
          have hrR : ∀ (Q : Int32 → St → Prop), (((gI v7 8) = 0 → (((gI v7 8) = 0 → wp_X10_printAll (gJ v7 40) (sI v7 0 (0 : Int32)) (fun (u15 : St) => Q (1 : Int32) u15)) ∧ (¬ (gI v7 8) = 0 → Q (0 : Int32) (sI v7 0 (0 : Int32))))) ∧ (¬ (gI v7 8) = 0 → (((gI v7 8) = 0 → wp_X10_printAll (gJ v7 40) (sI v7 0 (2 : Int32)) (fun (u14 : St) => Q (1 : Int32) u14)) ∧ (¬ (gI v7 8) = 0 → Q (0 : Int32) (sI v7 0 (2 : Int32)))))) → wp_X10_next v Q := fun Q hq9 => hrunR Q (sq (n8.trans hcr) ⟨m1 + 1, w8 _ (x8 _ (by
            rw [b30]
            refine g2 _ (sf (by decide) ?_)
            rw [j6]
            exact ⟨fR2, m7' _ (o4 _ hq9)⟩))⟩)
          -- what evaluating has left alone
          have hend : ∀ (r9 : Nat → Nat → Prop) (A9 : Nat → Prop) (f : Int32) (u8 v8 : St) (B9 : List Nat), Mh r9 A9 (T + m1) n t (R1 + st1) u7 v7 → Rest t s st1 f (sI u5 7 0) v5 u7 v7 → frO u7 u8 → frT v7 v8 → OutC u8 B9 → OutR v8 B9 → ∀ c9 : Int32, Inv0 n t s (i + 1) (sI u8 7 f) (sI v8 0 c9) := fun r9 A9 f u8 v8 B9 hM9 hR9 go gt hoc hor c9 => by
            obtain ⟨⟨t1, t2, t3, t4, t5⟩, ⟨t6, t7⟩, ⟨y1, y2, y3, y4, y5, y6, y7, y8, y9, y10⟩, ⟨x1', x2', x3', x4', x5', x6', x7', x8'⟩⟩ := hR9
            obtain ⟨hC9, ⟨F9, hF9, hd9⟩, ⟨R9, hR99, hR9c⟩, ⟨g9, gr1, gr2, gr3⟩⟩ := hM9
            have h8 := m5'.1
            have gI8 : ∀ k, k ≠ 705 → k ≠ 706 → gI u8 k = gI u7 k := go.1
            have gv8 : ∀ k, k ≠ 12 → gI v8 k = gI v7 k := gt.1
            have e200 : gB u8 200 = gB u1 200 := (go.2.2.2 200 (by decide)).trans (y8.trans ((m4'.2.2.2 200 (by decide) (by decide) (by decide) (by decide)).trans c200))
            have e19 : gB v8 19 = gB v3 19 := (gt.2.2.2 19 (by decide)).trans (x8'.trans ((m5'.2.2.2 19 (by decide) (by decide) (by decide)).trans d19))
            refine ⟨r9, A9, T + m1, tx, L, e, B9, Core_grow hC9 (Nat.le_refl _) n4 (go.2.2.2 800 (by decide)) (go.2.2.2 801 (by decide)) (go.2.2.2 201 (by decide)) ((gI8 202 (by decide) (by decide)).trans hC9.2.2.2.2.1.1) ?_ (gt.2.2.2 13 (by decide)) (gt.2.2.2 14 (by decide)) (fun k _ => congrFun (gt.2.2.2 20 (by decide)) k) (fun k h1 h2 => by omega) ((gv8 21 (by decide)).trans hC9.2.2.2.2.1.2.1) (gv8 1 (by decide)), ⟨F9, FR_cg hF9 (gI8 805 (by decide) (by decide)) (go.2.2.1 804 (by decide) (by decide)), hd9⟩, ⟨R9, RI_cg hR99 (gI8 806 (by decide) (by decide)) (go.2.2.1 802 (by decide) (by decide)), RB (a := 1 + st1) (by omega) (by omega)⟩, ⟨(gI8 604 (by decide) (by decide)).trans t1, (gv8 3 (by decide)).trans t2, (gv8 2 (by decide)).trans t3⟩, NmR_of (fun k hk => by
              show gB v8 19 k = gB u8 200 k
              rw [e200, e19]; exact hnm3 k hk) (fun k hk => by
              show ∃ sp, 0 < sp ∧ sp < 37 ^ 12 ∧ gB u8 200 k = lN sp
              rw [e200]; exact n10 k hk), fun k h1 h2 => ?_, TX_cg hXc ((gI8 101 (by decide) (by decide)).trans (y2.trans (m4'.1 101 (by decide) (by decide)))) ((go.2.2.1 100 (by decide) (by decide)).trans (y6.trans (m4'.2.2.1 100 (by decide)))), TXR_cg hXRc ((gv8 5 (by decide)).trans (x2'.trans (m5'.1 5 (by decide) (by decide) (by decide)))) ((gt.2.2.1 4 (by decide)).trans (x6'.trans (m5'.2.2.1 4 (by decide) (by decide) (by decide)))), ⟨(gI8 102 (by decide) (by decide)).trans (y3.trans ((m4'.1 102 (by decide) (by decide)).trans y102)), (gv8 6 (by decide)).trans (x3'.trans ((m5'.1 6 (by decide) (by decide) (by decide)).trans z6)), s4⟩, Or.inl ⟨(gI8 103 (by decide) (by decide)).trans (y4.trans ((m4'.1 103 (by decide) (by decide)).trans y103)), (gv8 7 (by decide)).trans (x4'.trans ((m5'.1 7 (by decide) (by decide) (by decide)).trans z7))⟩, ⟨((gv8 8 (by decide)).trans t7).symm, (gI8 607 (by decide) (by decide)).trans (t4.trans (t5.symm.trans (gv8 9 (by decide)).symm)), (gI8 304 (by decide) (by decide)).trans (gr1.trans (gr2.symm.trans (gv8 10 (by decide)).symm))⟩, hoc, hor⟩
            · intro k h1 h2
              rw [y10 (T + m1) k n4 ((m4'.1 202 (by decide) (by decide)).trans x6.2.2.2.2.1.1) h1 h2]
              show gB u5 201 k = _
              rw [m4'.2.2.2 201 (by decide) (by decide) (by decide) (by decide)]
              exact hAbsc k h1 h2
            · show gB u8 201 k = _
              rw [go.2.2.2 201 (by decide), y10 (T + m1) k n4 ((m4'.1 202 (by decide) (by decide)).trans x6.2.2.2.2.1.1) h1 h2]
              show gB u5 201 k = _
              rw [m4'.2.2.2 201 (by decide) (by decide) (by decide) (by decide)]
              exact hAbsc k h1 h2
          have o706 : ∀ f, Rest t s st1 f (sI u5 7 0) v5 u7 v7 → gI u7 706 = 0 ∧ gI v7 12 = 0 := fun f hR9 => ⟨hR9.2.2.1.2.2.2.2.1.trans ((m4'.1 706 (by decide) (by decide)).trans y706), hR9.2.2.2.2.2.2.2.1.trans ((m5'.1 12 (by decide) (by decide) (by decide)).trans z12)⟩
          rcases o2 with ⟨r9, A9, hM9, hR9, ho9⟩ | ⟨r9, A9, f, hf, hM9, hR9⟩
          · -- a value
            have hPE : PE r9 (T + m1) n (sI u7 7 0) (sI v7 0 0) := by
              refine ⟨hM9.1.1, hM9.1.2.2.2.2.1.1, n4, by omega, NmR_of (fun k hk => ?_) (fun k hk => ?_)⟩
              · show gB v7 19 k = gB u7 200 k
                rw [hR9.2.2.2.2.2.2.2.2.2.2, hR9.2.2.1.2.2.2.2.2.2.2.1, m5'.2.2.2 19 (by decide) (by decide) (by decide)]
                show gB vc 19 k = gB u5 200 k
                rw [m4'.2.2.2 200 (by decide) (by decide) (by decide) (by decide)]
                show gB vc 19 k = gB uc 200 k
                rw [c200, d19]; exact hnm3 k hk
              · show ∃ sp, 0 < sp ∧ sp < 37 ^ 12 ∧ gB u7 200 k = lN sp
                rw [hR9.2.2.1.2.2.2.2.2.2.2.1]
                show ∃ sp, 0 < sp ∧ sp < 37 ^ 12 ∧ gB u5 200 k = lN sp
                rw [m4'.2.2.2 200 (by decide) (by decide) (by decide) (by decide)]
                show ∃ sp, 0 < sp ∧ sp < 37 ^ 12 ∧ gB uc 200 k = lN sp
                rw [c200]; exact n10 k hk
            obtain ⟨u8, v8, ⟨go, gt, B9, hoc, hor⟩, pc, pr⟩ := print_both (x := gJ u7 614) (y := gJ v7 40) hN hPE ho9
            have e609 : gI u7 609 = 0 := hR9.2.1.1
            have e8 : gI v7 8 = 0 := hR9.2.1.2
            have go2 : frO u7 (sI u8 7 0) ∨ True := Or.inr trivial
            refine ⟨0, 1, u8, v8, ?_, (gt.1 0 (by decide)), by omega, fun Q W hQ _ => hrC Q W (sq e609 (by rw [e609]; exact pc _ (hQ rfl))), fun Q hQ => hrR Q (sq e8 (sq e8 (pr _ hQ)))⟩
            -- the state behind printing, with fault and code as they are
            have e7 : gI u8 7 = 0 := go.1 7 (by decide) (by decide)
            have e70 : gI v8 0 = 0 := gt.1 0 (by decide)
            have hgo : frO (sI u7 7 0) u8 := go
            have hfin := hend r9 A9 0 (sI u8 7 (gI u7 7)) (sI v8 0 (gI v7 0)) B9 hM9 hR9 ⟨fun k a b => by
              by_cases e9 : k = 7
              · subst e9; rfl
              · rw [gI_sI, if_neg e9]; exact (go.1 k a b).trans (by rw [gI_sI, if_neg e9]), go.2.1, go.2.2.1, go.2.2.2⟩ ⟨fun k a => by
              by_cases e9 : k = 0
              · subst e9; rfl
              · rw [gI_sI, if_neg e9]; exact (gt.1 k a).trans (by rw [gI_sI, if_neg e9]), gt.2.1, gt.2.2.1, gt.2.2.2⟩ hoc hor 0
            rw [sI_sI, sI_sI, sI_self u8 7 0 e7, sI_self v8 0 0 e70] at hfin
            exact hfin
          · -- a fault of evaluating
            obtain ⟨p706, p12⟩ := o706 f hR9
            have e609 : gI u7 609 = f := hR9.2.1.1
            have e8 : ¬ gI v7 8 = 0 := by rw [hR9.2.1.2]; exact hf
            refine ⟨2, 0, sI u7 7 f, sI v7 0 2, hend r9 A9 f u7 v7 [] hM9 hR9 (frO_rf u7) (frT_rf v7) (out0C p706) (out0R p12) 2, rfl, by omega, fun Q W _ hW => hrC Q W (sf (by rw [e609]; exact hf) (by rw [e609]; exact hW (by decide))), fun Q hQ => hrR Q (sf e8 (sf e8 hQ))⟩
        · -- no room for what was read
          refine ⟨2, 0, sI uc 7 6, sI (sI vc 8 6) 0 2, ⟨cut r HL, A, T + m1, tx, L, e, [], x6, x7, ⟨R1, x2, RB (a := 1) (by omega) (by omega)⟩, ⟨y604, z3, z2⟩, hNmc, hAbsc, hXc, hXRc, ⟨y102, z6, s4⟩, Or.inl ⟨y103, z7⟩, ⟨rfl, y607.trans z9.symm, y304.trans z10.symm⟩, out0C y706, out0R z12⟩, rfl, by omega, fun Q W _ hW => hrunC Q W ⟨fC, c10 _ (sf (by decide) (sq (n7.trans hcr) (by
            rw [s5, s3]
            exact g1 _ (sq rfl (sf (by decide) (sf (by decide) (sf (by decide) (hW (by decide)))))))))⟩, fun Q hQ => hrunR Q (sq (n8.trans hcr) ⟨m1 + 1, w8 _ (x8 _ (by
            rw [b30]
            exact g2 _ (sq rfl (sf (show ¬ (6 : Int32) = 0 by decide) (sf (show ¬ (6 : Int32) = 0 by decide) hQ)))))⟩)⟩
      · -- too many names
        have hcr1 : cr1 = 1 := (n9.resolve_left hcr).1
        have hC9 : Core r A T n (sI (sI (sI u1 102 (nI e)) 202 (nI T)) 7 9) (sI (sI (sI (sI v1 6 (nI e)) 7 (nI e)) 8 9) 0 2) := Core_grow hC (Nat.le_refl _) hT a800 a801 a201 rfl hAbs b13 b14 (fun k _ => congrFun b20 k) (fun k h1 h2 => by omega) n2 j1
        refine ⟨2, 0, sI (sI (sI u1 102 (nI e)) 202 (nI T)) 7 9, sI (sI (sI (sI v1 6 (nI e)) 7 (nI e)) 8 9) 0 2, ⟨r, A, T, tx, L, e, [], hC9, ⟨FL, hFR1, hdis⟩, ⟨R, hRI1, RB0 hRi⟩, ⟨i604, j3, j2⟩, fun k hk => ?_, fun k h1 h2 => (congrFun a201 k).trans (hAbs k h1 h2), s1, s2, ⟨rfl, rfl, s4⟩, Or.inl ⟨i103, rfl⟩, ⟨rfl, i607.trans j9.symm, i304.trans j10.symm⟩, out0C i706, out0R j12⟩, rfl, by omega, fun Q W _ hW => hrunC Q W ⟨fC, c10 _ (sf (by decide) (sf (by rw [n7]; exact hcr) ?_))⟩, fun Q hQ => hrunR Q (sf (by rw [n8]; exact hcr) (fails_ok j8 (sf (show ¬ (9 : Int32) = 0 by decide) (sf (show ¬ (9 : Int32) = 0 by decide) hQ))))⟩
        · obtain ⟨sp, z0, z1, z2, z3⟩ := hNm k hk
          exact ⟨sp, z0, z1, (c7 k (by omega)).trans z2, (congrFun (c9.2.2.2 19 (by decide)) k).trans z3⟩
        · rw [s3, eub]
          exact sf (by decide) (sf (by decide) (sf (by decide) (hW (by decide))))
