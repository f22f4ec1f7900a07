set_option maxHeartbeats 4000000 in
set_option maxRecDepth 100000 in
/-- THE LAW, from its entry -/
theorem whole_open (hPure : Pure) {p : Program} {e : Env} {s : State} {m : MethodId} {below : List Frame} {meth : Method} {c : Code} (l : Launch) (hst : l.stackTraces = false) {b L : Nat} {xs : Nat → Int32} (hL : L ≤ 1539) (C0 : lw_At p s m meth c b L xs) : W p l e room_1 s m #[Value.ref b] below meth c s.heap [] 0 0 (lw_Z below #[Value.ref b] s) (entryFrame m ([Value.ref b] : List Value).toArray 7) := by
  obtain ⟨hx, hb, hr, hml, hown, hts, hX, hbl, hlocks, hgv⟩ := id C0
  obtain ⟨QN, hN, hPu⟩ := hPure
  have hW : ∀ w ∈ WS, w.before #[Value.ref b] s = true := fun w h => hts w (WS_in w h)
  have hs := flat_of_before _ hgv
  have hA : ∀ q : Nat, s.heap.size ≤ q → (fun q : Nat => s.heap.size ≤ q) q := fun _ h => h
  have hA2 : ∀ a : Nat, a < s.heap.size → ¬ (fun q : Nat => s.heap.size ≤ q) a := fun _ h => Nat.not_le.mpr h
  have hbA : ¬ (fun q : Nat => s.heap.size ≤ q) b := Nat.not_le.mpr hbl
  obtain ⟨sa, sv, hStr, f1, f2, f3, f4⟩ := so_n hs hts hA2
  obtain ⟨a1, av1, hR1, -⟩ := so_r hs hts hA2
  obtain ⟨a2, av2, hR2, -⟩ := so_e hs hts hA2
  have hSF : SF sa sv 99 fnB (fun q : Nat => s.heap.size ≤ q) s s.heap := ⟨f1, f2, f3, f4, va_Zof (hts _ (by decide +kernel)) (hts _ (by decide +kernel)) (va_eqi (hs _ (by decide +kernel))) hA2, (vx_Zqof (args := #[Value.ref b]) (hts _ (by decide +kernel)) (hts _ (by decide +kernel)) (hs _ (by decide +kernel)) hA2).1⟩
  have hTF : TF a1 a2 (fun q : Nat => s.heap.size ≤ q) s s.heap := ⟨hR1, hR2, va_Nw.of rfl (hts _ (by decide +kernel)), va_Nw.of rfl (hts _ (by decide +kernel)), vx_Zqof (args := #[Value.ref b]) (hts _ (by decide +kernel)) (hts _ (by decide +kernel)) (hs _ (by decide +kernel)) hA2, vx_Zqof (args := #[Value.ref b]) (hts _ (by decide +kernel)) (hts _ (by decide +kernel)) (hs _ (by decide +kernel)) hA2, va_Nw.of rfl (hts _ (by decide +kernel)), va_Nw.of rfl (hts _ (by decide +kernel)), va_Nw.of rfl (hts _ (by decide +kernel))⟩
  have hNc : va_Nc xIS xIA s := va_Nc.of (hs _ (by decide +kernel))
  have hNest : va_Nw (.methodLinkNest RX9 20 yX6_init "ConsHouse") s := va_Nw.of rfl (hts _ (by decide +kernel))
  obtain ⟨cc0, iS0, hKn0⟩ := u_known (C := RX0) (T := TX0) (N := 8) (n := 8) hts (fun w h => WS_in w (kl_X0 w h)) (hW _ kt_X0)
  obtain ⟨cc1, iS1, hKn1⟩ := u_known (C := RX1) (T := TX1) (N := 4) (n := 4) hts (fun w h => WS_in w (kl_X1 w h)) (hW _ kt_X1)
  obtain ⟨cc2, iS2, hKn2⟩ := u_known (C := RX2) (T := TX2) (N := 15) (n := 15) hts (fun w h => WS_in w (kl_X2 w h)) (hW _ kt_X2)
  obtain ⟨cc3, iS3, hKn3⟩ := u_known (C := RX3) (T := TX3) (N := 4) (n := 4) hts (fun w h => WS_in w (kl_X3 w h)) (hW _ kt_X3)
  obtain ⟨cc4, iS4, hKn4⟩ := u_known (C := RX4) (T := TX4) (N := 7) (n := 7) hts (fun w h => WS_in w (kl_X4 w h)) (hW _ kt_X4)
  obtain ⟨cc5, iS5, hKn5⟩ := u_known (C := RX5) (T := TX5) (N := 14) (n := 14) hts (fun w h => WS_in w (kl_X5 w h)) (hW _ kt_X5)
  obtain ⟨cc6, iS6, hKn6⟩ := u_known (C := RX6) (T := TX6) (N := 4) (n := 4) hts (fun w h => WS_in w (kl_X6 w h)) (hW _ kt_X6)
  obtain ⟨cc7, iS7, hKn7⟩ := u_known (C := RX7) (T := TX7) (N := 5) (n := 5) hts (fun w h => WS_in w (kl_X7 w h)) (hW _ kt_X7)
  obtain ⟨cc8, iS8, hKn8⟩ := u_known (C := RX9) (T := TX9) (N := 8) (n := 8) hts (fun w h => WS_in w (kl_X9 w h)) (hW _ kt_X9)
  obtain ⟨cc9, iS9, hKn9⟩ := u_known (C := RX10) (T := TX10) (N := 44) (n := 44) hts (fun w h => WS_in w (kl_X10 w h)) (hW _ kt_X10)
  obtain ⟨D, hKc⟩ : ∃ D : va_G, ∀ (k : Nat) (q : vw_C), vwCl[k]? = some q → u_Kn s q.1 q.2.1 q.2.2 (D.1 k) (D.2 k) := by
    refine ⟨(fun k => if k = 0 then cc0 else if k = 1 then cc1 else if k = 2 then cc2 else if k = 3 then cc3 else if k = 4 then cc4 else if k = 5 then cc5 else if k = 6 then cc6 else if k = 7 then cc7 else if k = 8 then cc8 else cc9, fun k => if k = 0 then iS0 else if k = 1 then iS1 else if k = 2 then iS2 else if k = 3 then iS3 else if k = 4 then iS4 else if k = 5 then iS5 else if k = 6 then iS6 else if k = 7 then iS7 else if k = 8 then iS8 else iS9), ?_⟩
    intro k q hq
    match k, hq with
    | 0, hq => cases hq; exact hKn0
    | 1, hq => cases hq; exact hKn1
    | 2, hq => cases hq; exact hKn2
    | 3, hq => cases hq; exact hKn3
    | 4, hq => cases hq; exact hKn4
    | 5, hq => cases hq; exact hKn5
    | 6, hq => cases hq; exact hKn6
    | 7, hq => cases hq; exact hKn7
    | 8, hq => cases hq; exact hKn8
    | 9, hq => cases hq; exact hKn9
    | k + 10, hq => simp [vwCl] at hq
  have hS : va_S (fun q : Nat => s.heap.size ≤ q) s.heap s.heap [] := va_S.rf
  have hK : va_K D vwCl [] s := ⟨hKc, fun k q h => by simp at h⟩
  have hP : va_P D vwCl [] s.heap := fun k q h => by simp at h
  have hD : va_D (fun q : Nat => s.heap.size ≤ q) [] := ⟨fun i j p q h => by simp at h, fun k q h => by simp at h⟩
  generalize hAe : (fun q : Nat => s.heap.size ≤ q) = A at hSF hTF hA hbA hS hD
  have hl := lv_entry ([.ref b]) (n := 7) (Nat.le_of_ble_eq_true rfl)
  rw [lg_entry_eq]
  generalize (lg_sl ([.ref b]) ++ List.replicate (7 - (lg_sl ([.ref b])).length) Slot.unset).toArray = ls at hl ⊢
  have hl : lv_has ls 7 [(0, .ref b)] := hl
  refine va_new (ci := 8) (fs := [.null, .null, .null, .null, .null, .null, .null, .int 0]) (C := RX9) (T := TX9) (N := 8) hx hb hW kl_X9 tyX9 tyX9_ok hown (hW _ knL_8) (hW _ kt_X9) (hW _ kz_X9) hK hP hD hS hA rfl (fun j hj => by rcases (show j = 0 ∨ j = 1 ∨ j = 2 ∨ j = 3 ∨ j = 4 ∨ j = 5 ∨ j = 6 ∨ j = 7 by omega) with rfl | rfl | rfl | rfl | rfl | rfl | rfl | rfl <;> rfl) (Nat.le_of_ble_eq_true rfl) (Nat.le_of_ble_eq_true rfl) dL_law_0 (fun q1 H hP hD hS => ?_)
  have hP : va_P D vwCl [(q1, .inr (8, [.null, .null, .null, .null, .null, .null, .null, .int 0]))] H := hP
  have hD : va_D A [(q1, .inr (8, [.null, .null, .null, .null, .null, .null, .null, .int 0]))] := hD
  refine W.widen (k := 1) (n := 8) (by omega) (by omega) ?_
  refine lv_dup hx hb dL_law_3 rfl ?_
  refine lv_aload_n hx hb dL_law_4 rfl (lv_at hl 0 rfl) ?_
  refine lv_iconst (v := nI 0) hx hb dL_law_5 (by decide) ?_
  refine lCell 0 (by omega) (by omega) (rest := [.ref q1, .ref q1]) hx hb hml hown hW hP hS hA hX hbl hbA kmL_17 ⟨Nat.le_of_ble_eq_true rfl, Nat.le_of_ble_eq_true rfl⟩ hl.1 (Nat.le_of_ble_eq_true rfl) dL_law_6 ⟨Nat.le_of_ble_eq_true rfl, Nat.le_of_ble_eq_true rfl⟩ (fun H locs hP hS => ?_)
  refine lv_aload_n hx hb dL_law_9 rfl (lv_at hl 0 rfl) ?_
  refine lv_iconst (v := nI 1) hx hb dL_law_10 (by decide) ?_
  refine lCell 1 (by omega) (by omega) (rest := [.int (if 0 < L then xs 0 else 0), .ref q1, .ref q1]) hx hb hml hown hW hP hS hA hX hbl hbA kmL_17 ⟨Nat.le_of_ble_eq_true rfl, Nat.le_of_ble_eq_true rfl⟩ hl.1 (Nat.le_of_ble_eq_true rfl) dL_law_11 ⟨Nat.le_of_ble_eq_true rfl, Nat.le_of_ble_eq_true rfl⟩ (fun H locs hP hS => ?_)
  refine lv_aload_n hx hb dL_law_14 rfl (lv_at hl 0 rfl) ?_
  refine lv_iconst (v := nI 2) hx hb dL_law_15 (by decide) ?_
  refine lCell 2 (by omega) (by omega) (rest := [.int (if 1 < L then xs 1 else 0), .int (if 0 < L then xs 0 else 0), .ref q1, .ref q1]) hx hb hml hown hW hP hS hA hX hbl hbA kmL_17 ⟨Nat.le_of_ble_eq_true rfl, Nat.le_of_ble_eq_true rfl⟩ hl.1 (Nat.le_of_ble_eq_true rfl) dL_law_16 ⟨Nat.le_of_ble_eq_true rfl, Nat.le_of_ble_eq_true rfl⟩ (fun H locs hP hS => ?_)
  have hKc := hK.sub (tys' := []) [] rfl
  have hFc := va_free (wc := [(q1, .inr (8, [.null, .null, .null, .null, .null, .null, .null, .int 0]))]) hD hS hA [0] rfl
  have hSF1 := (hSF.kept hS.2.1).narrow hFc
  refine va_callv (va_runI (Ts := WS) (As := [.int (if 0 < L then xs 0 else 0), .int (if 1 < L then xs 1 else 0), .int (if 2 < L then xs 2 else 0)]) (rest := [.ref q1]) ⟨hx, hb, hml, hown, hW⟩ (ti_X9 l D q1 sa sv (if 0 < L then xs 0 else 0) (if 1 < L then xs 1 else 0) (if 2 < L then xs 2 else 0) QN hN H.size) (cwI 3 hW (gd_I kk_yX9_init) rfl rfl rfl (hW _ kz_X9) (hW _ kmL_23) (hW _ ki_yX9_init) rfl (by decide +kernel) ⟨Nat.le_of_ble_eq_true rfl, Nat.le_of_ble_eq_true rfl⟩) ⟨fun a U g mk q => by obtain ⟨q0, q1, qP, qK, qD, qF, qR, qN⟩ := q; exact ⟨q0, q1, qP, va_K.moved (u := U) (U := U.calling g mk a) (Vm.Alike.refl U.vm) qK, qD, SF.moved (u := U) (U := U.calling g mk a) (Vm.Alike.refl U.vm) qF, vk_R.same rfl qR, va_Nw.same rfl rfl qN⟩, fun U hU hW => ⟨rfl, by rw [hU], by rw [hU]; exact hP, va_K.moved hW.alike hKc, hD.weaken (fun _ _ _ _ => trivial), by rw [hU]; exact SF.moved hW.alike hSF1, vk_R.warm hW hStr, va_Nw.warmM hW hNest⟩⟩ rfl rfl hl.1 rfl (lv_room (Nat.le_of_ble_eq_true rfl)) dL_law_19 ⟨Nat.le_of_ble_eq_true rfl, Nat.le_of_ble_eq_true rfl⟩) hS (fun q _ h => hFc q h) hFc (fun z1 t H1 locs ht hvm hw1 hB hz1 hk1 hS => ?_)
  obtain ⟨hP1, hK1, hD1⟩ := hB
  rw [ht] at hP1
  have hK1 := va_K.moved hvm.symm hK1
  obtain ⟨e1, n8, n3, n6, ff, uN, hw8, hw3, hw6, hff, hQN, eG, eu⟩ := hw1
  have hP : va_P D vwCl (wC z1.1 z1.2) H1 := hP1
  have hD : va_D A (wC z1.1 z1.2) := hD1.weaken (fun _ q _ h => hFc q.1 h)
  have hK : va_K D vwCl (tyC z1.1) s := hK1
  generalize H1 = H at hP hS ⊢
  obtain ⟨G, u⟩ := z1
  dsimp only at e1 eG eu hP hD hK
  have hPn := hP
  have hDn := hD
  have hKn := hK
  have hSn := hS
  have hln := hl
  subst e1
  have hP := hPn
  have hD := hDn
  have hK := hKn
  have hS := hSn
  have hl := hln
  refine W.widen (k := 30) (n := 23372) (by omega) (by omega) ?_
  refine lv_astore_n (lv' := [(1, .ref (G.1 0)), (0, .ref b)]) hx hb dL_law_22 rfl hl (by decide) rfl (fun ls hl => ?_)
  refine va_new (ci := 9) (fs := [.int 0, .int 0, .int 0, .int 0, .null, .int 0, .int 0, .int 0, .int 0, .int 0, .int 0, .null, .int 0, .null, .null, .null, .int 0, .null, .int 0, .null, .null, .int 0, .null, .int 0, .int 0, .int 0, .null, .null, .null, .int 0, .int 0, .long 0, .int 0, .null, .null, .null, .null, .null, .null, .int 0, .long 0, .long 0, .null, .int 0]) (C := RX10) (T := TX10) (N := 44) hx hb hW kl_X10 tyX10 tyX10_ok hown (hW _ knL_26) (hW _ kt_X10) (hW _ kz_X10) hK hP hD hS hA rfl (fun j hj => by rcases (show j = 0 ∨ j = 1 ∨ j = 2 ∨ j = 3 ∨ j = 4 ∨ j = 5 ∨ j = 6 ∨ j = 7 ∨ j = 8 ∨ j = 9 ∨ j = 10 ∨ j = 11 ∨ j = 12 ∨ j = 13 ∨ j = 14 ∨ j = 15 ∨ j = 16 ∨ j = 17 ∨ j = 18 ∨ j = 19 ∨ j = 20 ∨ j = 21 ∨ j = 22 ∨ j = 23 ∨ j = 24 ∨ j = 25 ∨ j = 26 ∨ j = 27 ∨ j = 28 ∨ j = 29 ∨ j = 30 ∨ j = 31 ∨ j = 32 ∨ j = 33 ∨ j = 34 ∨ j = 35 ∨ j = 36 ∨ j = 37 ∨ j = 38 ∨ j = 39 ∨ j = 40 ∨ j = 41 ∨ j = 42 ∨ j = 43 by omega) with rfl | rfl | rfl | rfl | rfl | rfl | rfl | rfl | rfl | rfl | rfl | rfl | rfl | rfl | rfl | rfl | rfl | rfl | rfl | rfl | rfl | rfl | rfl | rfl | rfl | rfl | rfl | rfl | rfl | rfl | rfl | rfl | rfl | rfl | rfl | rfl | rfl | rfl | rfl | rfl | rfl | rfl | rfl | rfl <;> rfl) (Nat.le_of_ble_eq_true rfl) (Nat.le_of_ble_eq_true rfl) dL_law_23 (fun q2 H hP hD hS => ?_)
  refine W.widen (k := 31) (n := 23416) (by omega) (by omega) ?_
  refine lv_dup hx hb dL_law_26 rfl ?_
  refine lv_aload_n hx hb dL_law_27 rfl (lv_at hl 1 rfl) ?_
  refine lv_iconst (v := nI 0) hx hb dL_law_28 (by decide) ?_
  refine lCell 0 (by omega) (by omega) (rest := [.ref q2, .ref q2]) hx hb hml hown hW hP hS hA hX hbl hbA kmL_17 ⟨Nat.le_of_ble_eq_true rfl, Nat.le_of_ble_eq_true rfl⟩ hl.1 (Nat.le_of_ble_eq_true rfl) dL_law_29 ⟨Nat.le_of_ble_eq_true rfl, Nat.le_of_ble_eq_true rfl⟩ (fun H locs hP hS => ?_)
  refine lv_aload_n hx hb dL_law_32 rfl (lv_at hl 1 rfl) ?_
  refine lv_iconst (v := nI 1) hx hb dL_law_33 (by decide) ?_
  refine lCell 1 (by omega) (by omega) (rest := [.int (if 0 < L then xs 0 else 0), .ref q2, .ref q2]) hx hb hml hown hW hP hS hA hX hbl hbA kmL_17 ⟨Nat.le_of_ble_eq_true rfl, Nat.le_of_ble_eq_true rfl⟩ hl.1 (Nat.le_of_ble_eq_true rfl) dL_law_34 ⟨Nat.le_of_ble_eq_true rfl, Nat.le_of_ble_eq_true rfl⟩ (fun H locs hP hS => ?_)
  refine lv_aload_n hx hb dL_law_37 rfl (lv_at hl 1 rfl) ?_
  refine lv_iconst (v := nI 2) hx hb dL_law_38 (by decide) ?_
  refine lCell 2 (by omega) (by omega) (rest := [.int (if 1 < L then xs 1 else 0), .int (if 0 < L then xs 0 else 0), .ref q2, .ref q2]) hx hb hml hown hW hP hS hA hX hbl hbA kmL_17 ⟨Nat.le_of_ble_eq_true rfl, Nat.le_of_ble_eq_true rfl⟩ hl.1 (Nat.le_of_ble_eq_true rfl) dL_law_39 ⟨Nat.le_of_ble_eq_true rfl, Nat.le_of_ble_eq_true rfl⟩ (fun H locs hP hS => ?_)
  have hPc := hP.sub (ws' := [(q2, .inr (9, [.int 0, .int 0, .int 0, .int 0, .null, .int 0, .int 0, .int 0, .int 0, .int 0, .int 0, .null, .int 0, .null, .null, .null, .int 0, .null, .int 0, .null, .null, .int 0, .null, .int 0, .int 0, .int 0, .null, .null, .null, .int 0, .int 0, .long 0, .int 0, .null, .null, .null, .null, .null, .null, .int 0, .long 0, .long 0, .null, .int 0]))]) [30] rfl
  have hDc := hD.sub (ws' := [(q2, .inr (9, [.int 0, .int 0, .int 0, .int 0, .null, .int 0, .int 0, .int 0, .int 0, .int 0, .int 0, .null, .int 0, .null, .null, .null, .int 0, .null, .int 0, .null, .null, .int 0, .null, .int 0, .int 0, .int 0, .null, .null, .null, .int 0, .int 0, .long 0, .int 0, .null, .null, .null, .null, .null, .null, .int 0, .long 0, .long 0, .null, .int 0]))]) [30] (by decide) rfl
  have hKc := hK.sub (tys' := []) [] rfl
  have hFc := va_free (wc := [(q2, .inr (9, [.int 0, .int 0, .int 0, .int 0, .null, .int 0, .int 0, .int 0, .int 0, .int 0, .int 0, .null, .int 0, .null, .null, .null, .int 0, .null, .int 0, .null, .null, .int 0, .null, .int 0, .int 0, .int 0, .null, .null, .null, .int 0, .int 0, .long 0, .int 0, .null, .null, .null, .null, .null, .null, .int 0, .long 0, .long 0, .null, .int 0]))]) hD hS hA [30] rfl
  refine va_callv (va_runI (Ts := WS) (As := [.int (if 0 < L then xs 0 else 0), .int (if 1 < L then xs 1 else 0), .int (if 2 < L then xs 2 else 0)]) (rest := [.ref q2]) ⟨hx, hb, hml, hown, hW⟩ (ti_X10 l D q2 (if 0 < L then xs 0 else 0) (if 1 < L then xs 1 else 0) (if 2 < L then xs 2 else 0) _ (hPu _ _ _) H.size) (cwI 3 hW (gd_I kk_yX10_init) rfl rfl rfl (hW _ kz_X10) (hW _ kmL_28) (hW _ ki_yX10_init) rfl (by decide +kernel) ⟨Nat.le_of_ble_eq_true rfl, Nat.le_of_ble_eq_true rfl⟩) ⟨fun a U g mk q => by obtain ⟨q0, q1, qP, qK, qD⟩ := q; exact ⟨q0, q1, qP, va_K.moved (u := U) (U := U.calling g mk a) (Vm.Alike.refl U.vm) qK, qD⟩, fun U hU hW => ⟨rfl, by rw [hU], by rw [hU]; exact hPc, va_K.moved hW.alike hKc, hDc.weaken (fun _ _ _ _ => trivial)⟩⟩ rfl rfl hl.1 rfl (lv_room (Nat.le_of_ble_eq_true rfl)) dL_law_42 ⟨Nat.le_of_ble_eq_true rfl, Nat.le_of_ble_eq_true rfl⟩) hS (fun q _ h => hFc q h) hFc (fun z2 t H1 locs ht hvm hw2 hB hz1 hk1 hS => ?_)
  obtain ⟨hP1, hK1, hD1⟩ := hB
  rw [ht] at hP1
  have hK1 := va_K.moved hvm.symm hK1
  obtain ⟨e2, hPi⟩ := hw2
  obtain ⟨hP, hD⟩ := va_join (wr := wC G u) (w1 := wR z2.1 z2.2) hP hD [30] [0, 1, 2, 3, 4, 5, 6, 7, 8, 9, 10, 11, 12, 13, 14, 15, 16, 17, 18, 19, 20, 21, 22, 23, 24, 25, 26, 27, 28, 29] rfl rfl (by decide) (by decide) hk1 hFc hP1 hD1
  have hK := (hK.sub (tys' := tyC G) [0, 1, 2, 3, 4, 5, 6, 7, 8, 9, 10, 11, 12, 13, 14, 15, 16, 17, 18, 19, 20] rfl).app hK1
  generalize H1 = H at hP hS ⊢
  obtain ⟨K, v⟩ := z2
  dsimp only at e2 hPi hP hD hK
  have hPn := hP
  have hDn := hD
  have hKn := hK
  have hSn := hS
  have hln := hl
  subst e2
  have hP := hPn
  have hD := hDn
  have hK := hKn
  have hS := hSn
  have hl := hln
  refine W.widen (k := 50) (n := 33057) (by omega) (by omega) ?_
  refine lv_astore_n (lv' := [(2, .ref (K.1 0)), (1, .ref (G.1 0)), (0, .ref b)]) hx hb dL_law_45 rfl hl (by decide) rfl (fun ls hl => ?_)
  refine lv_iconst (v := 1) hx hb dL_law_46 (by decide) ?_
  refine va_newa (N' := 1) (a0 := (1, .inr (.inl (fun _ => 0)))) (atype := .long) hx hb (hW _ ka_long) rfl hK hP hD hS hA (nw_long _) (by decide +kernel) (by decide +kernel) (by show 1 * 8 ≤ 536870912; omega) (Nat.le_of_ble_eq_true rfl) (Nat.le_of_ble_eq_true rfl) dL_law_47 (fun o cy H hK hP hD hS => ?_)
  rw [List.append_assoc] at hP hD hK
  have hP : va_P D vwCl (wL G K u v o cy (fun _ => 0)) H := hP
  have hD : va_D A (wL G K u v o cy (fun _ => 0)) := hD
  have hK : va_K D vwCl (tyL G K cy) s := hK
  refine W.widen (k := 51) (n := 33058) (by omega) (by omega) ?_
  refine lv_astore_n (lv' := [(3, .ref o), (2, .ref (K.1 0)), (1, .ref (G.1 0)), (0, .ref b)]) hx hb dL_law_49 rfl hl (by decide) rfl (fun ls hl => ?_)
  refine lv_iconst (v := 3) hx hb dL_law_50 (by decide) ?_
  refine lv_istore (lv' := [(4, .int 3), (3, .ref o), (2, .ref (K.1 0)), (1, .ref (G.1 0)), (0, .ref b)]) hx hb dL_law_51 hl (by decide) rfl (fun ls hl => ?_)
  obtain ⟨Inv, hO, hI⟩ := hPi n8 n3 n6 ff uN hw8 hw3 hw6 hff hQN
  rw [← eG] at hO
  rw [← eu] at hI
  have hTFx : TF a1 a2 (fun q : Nat => s.heap.size ≤ q) s s.heap := by rw [hAe]; exact hTF
  have hDx : va_D (fun q : Nat => s.heap.size ≤ q) (wL G K u v o cy (fun _ => 0)) := by rw [hAe]; exact hD
  have hSx : va_S (fun q : Nat => s.heap.size ≤ q) s.heap H locs := by rw [hAe]; exact hS
  exact law_loop hst hL C0 hK hTFx hNc Inv hO 51 33058 (by omega) (by omega) 513 0 u v (fun _ => 0) H locs ls 3 (by omega) (by omega) rfl hI hP hDx hSx (lv_sub hl [4, 3, 2, 1, 0] rfl)
