abbrev rmi_X0 : Room := { frames := 1, cells := 5, slots := 5001, locals := 20 }
set_option maxHeartbeats 4000000 in
set_option maxRecDepth 100000 in
theorem ti_X0 (l : Launch) (D : va_G) (h0 : Nat) (n : Nat) (hn : n ≤ 1000) (sz : Nat) : Met l yX0_init (Cond.code yX0_init cX0_init 3 none :: WS) rmi_X0 (va_Pc [.ref h0, .int (nI n)] (fun U => U.heap.size = sz ∧ va_P D vwCl [(h0, .inr (0, [.null, .null, .null, .null, .null, .int 0, .int 0, .int 0]))] U.heap ∧ va_K D vwCl [] U ∧ va_D (fun _ => True) [(h0, .inr (0, [.null, .null, .null, .null, .null, .int 0, .int 0, .int 0]))])) (va_Qv (fun z : (Nat → Nat) × (Nat → ClassId) × (Nat → Int32) => ∀ j, j < n → z.2.2 j = nI j) (fun z t => va_P D vwCl [(h0, .inr (0, [.ref (z.1 0), .ref (z.1 1), .ref (z.1 2), .ref (z.1 3), .ref (z.1 4), .int (nI n), .int (0 : Int32), .int (0 : Int32)])), ((z.1 0), .inl ((z.2.1 0), n, .inr (.inl (fun _ => 0)))), ((z.1 1), .inl ((z.2.1 1), n, .inr (.inl (fun _ => 0)))), ((z.1 2), .inl ((z.2.1 2), n, .inl (fun _ => 0))), ((z.1 3), .inl ((z.2.1 3), (n + 1), .inr (.inl (fun _ => 0)))), ((z.1 4), .inl ((z.2.1 4), n, .inl z.2.2))] t.heap ∧ va_K D vwCl [((z.2.1 0), .long), ((z.2.1 1), .long), ((z.2.1 2), .int), ((z.2.1 3), .long), ((z.2.1 4), .int)] t ∧ va_D (va_A [(h0, .inr (0, [.null, .null, .null, .null, .null, .int 0, .int 0, .int 0]))] sz) [(h0, .inr (0, [.ref (z.1 0), .ref (z.1 1), .ref (z.1 2), .ref (z.1 3), .ref (z.1 4), .int (nI n), .int (0 : Int32), .int (0 : Int32)])), ((z.1 0), .inl ((z.2.1 0), n, .inr (.inl (fun _ => 0)))), ((z.1 1), .inl ((z.2.1 1), n, .inr (.inl (fun _ => 0)))), ((z.1 2), .inl ((z.2.1 2), n, .inl (fun _ => 0))), ((z.1 3), .inl ((z.2.1 3), (n + 1), .inr (.inl (fun _ => 0)))), ((z.1 4), .inl ((z.2.1 4), n, .inl z.2.2))]) (va_A [(h0, .inr (0, [.null, .null, .null, .null, .null, .int 0, .int 0, .int 0]))] sz)) 5 5001 (va_A [(h0, .inr (0, [.null, .null, .null, .null, .null, .int 0, .int 0, .int 0]))] sz) := by
  refine Met.ofW (cc := cX0_init) (maxL := 3) (ret := none) (by decide) rfl ?_
  intro p e s m args below meth c s₁ B hml hv
  obtain ⟨rfl, hsz, hP, hK, hD0⟩ := hv
  have hx := B.exec
  have hb := B.bytes
  have hr := B.returns
  have hW : ∀ w ∈ WS, w.before _ s = true := fun w h => atoms_spec (ws := Cond.code yX0_init cX0_init 3 none :: WS) B.pre w (List.mem_cons_of_mem _ h)
  have hown : s.vm.findClass RX0 = some m.cls := findClass_of_methodNamed B.named
  have hlocks := B.notSynchronized
  have hin : meth.name = "<init>" := (name_of_methodNamed B.named B.method).1
  subst hsz
  have hD := hD0.self (sz := s.heap.size)
  generalize hAe : va_A [(h0, .inr (0, [.null, .null, .null, .null, .null, .int 0, .int 0, .int 0]))] s.heap.size = A at hD ⊢
  have hA : ∀ q : Nat, s.heap.size ≤ q → A q := fun q h => by rw [← hAe]; exact Or.inr h
  have hS : va_S A s.heap s.heap [] := va_S.rf
  have hl := lv_entry ([.ref h0, .int (nI n)]) (n := 3) (Nat.le_of_ble_eq_true rfl)
  rw [lg_entry_eq]
  generalize (lg_sl ([.ref h0, .int (nI n)]) ++ List.replicate (3 - (lg_sl ([.ref h0, .int (nI n)])).length) Slot.unset).toArray = ls at hl ⊢
  have hl : lv_has ls 3 [(0, .ref h0), (1, .int (nI n))] := hl
  refine lv_aload_n hx hb dX0_init_0 rfl (lv_at hl 0 rfl) ?_
  refine W.objInit hx hb hown (hW _ kmX0_3) (hW _ ki_obj) (hW _ kk_obj) rfl (by rw [hml]; exact hl.1) rfl dX0_init_1 (Nat.le_of_ble_eq_true rfl) (Nat.le_of_ble_eq_true rfl) ?_
  refine W.eq (g2 := F0 m 4 ls []) rfl ?_
  refine lv_aload_n hx hb dX0_init_4 rfl (lv_at hl 0 rfl) ?_
  refine lv_iconst (v := (0 : Int32)) hx hb dX0_init_5 (by decide) ?_
  refine va_put (D := D) (ci := 0) (v := .int (0 : Int32)) (ty := .int) (C := RX0) (T := TX0) (N := 8) hx hb hW kl_X0 tyX0 tyX0_ok nmX0 hown hK hP hD hS 0 rfl rfl 6 (by decide) (hW _ kfX0_9) (fun _ h9 => h9) rfl (by decide +kernel) rfl rfl (Nat.le_of_ble_eq_true rfl) dX0_init_6 (fun H locs hP hD hS => ?_)
  have hP : va_P D vwCl [(h0, .inr (0, [.null, .null, .null, .null, .null, .int 0, .int (0 : Int32), .int 0]))] H := hP
  have hD : va_D A [(h0, .inr (0, [.null, .null, .null, .null, .null, .int 0, .int (0 : Int32), .int 0]))] := hD
  refine lv_aload_n hx hb dX0_init_9 rfl (lv_at hl 0 rfl) ?_
  refine lv_iconst (v := (0 : Int32)) hx hb dX0_init_10 (by decide) ?_
  refine va_put (D := D) (ci := 0) (v := .int (0 : Int32)) (ty := .int) (C := RX0) (T := TX0) (N := 8) hx hb hW kl_X0 tyX0 tyX0_ok nmX0 hown hK hP hD hS 0 rfl rfl 7 (by decide) (hW _ kfX0_15) (fun _ h9 => h9) rfl (by decide +kernel) rfl rfl (Nat.le_of_ble_eq_true rfl) dX0_init_11 (fun H locs hP hD hS => ?_)
  have hP : va_P D vwCl [(h0, .inr (0, [.null, .null, .null, .null, .null, .int 0, .int (0 : Int32), .int (0 : Int32)]))] H := hP
  have hD : va_D A [(h0, .inr (0, [.null, .null, .null, .null, .null, .int 0, .int (0 : Int32), .int (0 : Int32)]))] := hD
  refine lv_aload_n hx hb dX0_init_14 rfl (lv_at hl 0 rfl) ?_
  refine lv_iload_n hx hb dX0_init_15 rfl (lv_at hl 1 rfl) ?_
  refine va_newa (N' := n) (a0 := (n, .inr (.inl (fun _ => 0)))) (atype := .long) hx hb (hW _ ka_long) rfl hK hP hD hS hA (nw_long _) ((⟨nI_pos (by omega), nI_clamp (by omega)⟩ : ¬ (nI n) < 0 ∧ (nI n).toNatClampNeg = n)).1 ((⟨nI_pos (by omega), nI_clamp (by omega)⟩ : ¬ (nI n) < 0 ∧ (nI n).toNatClampNeg = n)).2 (by show n * 8 ≤ 536870912; omega) (Nat.le_of_ble_eq_true rfl) (by show 0 + n ≤ 5001; omega) dX0_init_16 (fun q1 cy1 H hK hP hD hS => ?_)
  have hP : va_P D vwCl [(h0, .inr (0, [.null, .null, .null, .null, .null, .int 0, .int (0 : Int32), .int (0 : Int32)])), (q1, .inl (cy1, n, .inr (.inl (fun _ => 0))))] H := hP
  have hD : va_D A [(h0, .inr (0, [.null, .null, .null, .null, .null, .int 0, .int (0 : Int32), .int (0 : Int32)])), (q1, .inl (cy1, n, .inr (.inl (fun _ => 0))))] := hD
  have hK : va_K D vwCl [(cy1, .long)] s := hK
  refine W.widen (k := 1) (n := 1000) (by omega) (by omega) ?_
  refine va_putF (D := D) (ci := 0) (v := .ref q1) (ty := .array .long) (C := RX0) (T := TX0) (N := 8) hx hb hW kl_X0 tyX0 tyX0_ok nmX0 hown hK hP hD hS 0 rfl rfl 0 (by decide) (hW _ kfX0_18) (fun _ h9 => h9) rfl hin rfl (by decide +kernel) rfl rfl (Nat.le_of_ble_eq_true rfl) dX0_init_18 (fun H locs hP hD hS => ?_)
  have hP : va_P D vwCl [(h0, .inr (0, [.ref q1, .null, .null, .null, .null, .int 0, .int (0 : Int32), .int (0 : Int32)])), (q1, .inl (cy1, n, .inr (.inl (fun _ => 0))))] H := hP
  have hD : va_D A [(h0, .inr (0, [.ref q1, .null, .null, .null, .null, .int 0, .int (0 : Int32), .int (0 : Int32)])), (q1, .inl (cy1, n, .inr (.inl (fun _ => 0))))] := hD
  refine lv_aload_n hx hb dX0_init_21 rfl (lv_at hl 0 rfl) ?_
  refine lv_iload_n hx hb dX0_init_22 rfl (lv_at hl 1 rfl) ?_
  refine va_newa (N' := n) (a0 := (n, .inr (.inl (fun _ => 0)))) (atype := .long) hx hb (hW _ ka_long) rfl hK hP hD hS hA (nw_long _) ((⟨nI_pos (by omega), nI_clamp (by omega)⟩ : ¬ (nI n) < 0 ∧ (nI n).toNatClampNeg = n)).1 ((⟨nI_pos (by omega), nI_clamp (by omega)⟩ : ¬ (nI n) < 0 ∧ (nI n).toNatClampNeg = n)).2 (by show n * 8 ≤ 536870912; omega) (Nat.le_of_ble_eq_true rfl) (by show 1000 + n ≤ 5001; omega) dX0_init_23 (fun q2 cy2 H hK hP hD hS => ?_)
  have hP : va_P D vwCl [(h0, .inr (0, [.ref q1, .null, .null, .null, .null, .int 0, .int (0 : Int32), .int (0 : Int32)])), (q1, .inl (cy1, n, .inr (.inl (fun _ => 0)))), (q2, .inl (cy2, n, .inr (.inl (fun _ => 0))))] H := hP
  have hD : va_D A [(h0, .inr (0, [.ref q1, .null, .null, .null, .null, .int 0, .int (0 : Int32), .int (0 : Int32)])), (q1, .inl (cy1, n, .inr (.inl (fun _ => 0)))), (q2, .inl (cy2, n, .inr (.inl (fun _ => 0))))] := hD
  have hK : va_K D vwCl [(cy1, .long), (cy2, .long)] s := hK
  refine W.widen (k := 2) (n := 2000) (by omega) (by omega) ?_
  refine va_putF (D := D) (ci := 0) (v := .ref q2) (ty := .array .long) (C := RX0) (T := TX0) (N := 8) hx hb hW kl_X0 tyX0 tyX0_ok nmX0 hown hK hP hD hS 0 rfl rfl 1 (by decide) (hW _ kfX0_22) (fun _ h9 => h9) rfl hin rfl (by decide +kernel) rfl rfl (Nat.le_of_ble_eq_true rfl) dX0_init_25 (fun H locs hP hD hS => ?_)
  have hP : va_P D vwCl [(h0, .inr (0, [.ref q1, .ref q2, .null, .null, .null, .int 0, .int (0 : Int32), .int (0 : Int32)])), (q1, .inl (cy1, n, .inr (.inl (fun _ => 0)))), (q2, .inl (cy2, n, .inr (.inl (fun _ => 0))))] H := hP
  have hD : va_D A [(h0, .inr (0, [.ref q1, .ref q2, .null, .null, .null, .int 0, .int (0 : Int32), .int (0 : Int32)])), (q1, .inl (cy1, n, .inr (.inl (fun _ => 0)))), (q2, .inl (cy2, n, .inr (.inl (fun _ => 0))))] := hD
  refine lv_aload_n hx hb dX0_init_28 rfl (lv_at hl 0 rfl) ?_
  refine lv_iload_n hx hb dX0_init_29 rfl (lv_at hl 1 rfl) ?_
  refine va_newa (N' := n) (a0 := (n, .inl (fun _ => 0))) (atype := .int) hx hb (hW _ ka_int) rfl hK hP hD hS hA (nw_int _) ((⟨nI_pos (by omega), nI_clamp (by omega)⟩ : ¬ (nI n) < 0 ∧ (nI n).toNatClampNeg = n)).1 ((⟨nI_pos (by omega), nI_clamp (by omega)⟩ : ¬ (nI n) < 0 ∧ (nI n).toNatClampNeg = n)).2 (by show n * 4 ≤ 536870912; omega) (Nat.le_of_ble_eq_true rfl) (by show 2000 + n ≤ 5001; omega) dX0_init_30 (fun q3 cy3 H hK hP hD hS => ?_)
  have hP : va_P D vwCl [(h0, .inr (0, [.ref q1, .ref q2, .null, .null, .null, .int 0, .int (0 : Int32), .int (0 : Int32)])), (q1, .inl (cy1, n, .inr (.inl (fun _ => 0)))), (q2, .inl (cy2, n, .inr (.inl (fun _ => 0)))), (q3, .inl (cy3, n, .inl (fun _ => 0)))] H := hP
  have hD : va_D A [(h0, .inr (0, [.ref q1, .ref q2, .null, .null, .null, .int 0, .int (0 : Int32), .int (0 : Int32)])), (q1, .inl (cy1, n, .inr (.inl (fun _ => 0)))), (q2, .inl (cy2, n, .inr (.inl (fun _ => 0)))), (q3, .inl (cy3, n, .inl (fun _ => 0)))] := hD
  have hK : va_K D vwCl [(cy1, .long), (cy2, .long), (cy3, .int)] s := hK
  refine W.widen (k := 3) (n := 3000) (by omega) (by omega) ?_
  refine va_putF (D := D) (ci := 0) (v := .ref q3) (ty := .array .int) (C := RX0) (T := TX0) (N := 8) hx hb hW kl_X0 tyX0 tyX0_ok nmX0 hown hK hP hD hS 0 rfl rfl 2 (by decide) (hW _ kfX0_25) (fun _ h9 => h9) rfl hin rfl (by decide +kernel) rfl rfl (Nat.le_of_ble_eq_true rfl) dX0_init_32 (fun H locs hP hD hS => ?_)
  have hP : va_P D vwCl [(h0, .inr (0, [.ref q1, .ref q2, .ref q3, .null, .null, .int 0, .int (0 : Int32), .int (0 : Int32)])), (q1, .inl (cy1, n, .inr (.inl (fun _ => 0)))), (q2, .inl (cy2, n, .inr (.inl (fun _ => 0)))), (q3, .inl (cy3, n, .inl (fun _ => 0)))] H := hP
  have hD : va_D A [(h0, .inr (0, [.ref q1, .ref q2, .ref q3, .null, .null, .int 0, .int (0 : Int32), .int (0 : Int32)])), (q1, .inl (cy1, n, .inr (.inl (fun _ => 0)))), (q2, .inl (cy2, n, .inr (.inl (fun _ => 0)))), (q3, .inl (cy3, n, .inl (fun _ => 0)))] := hD
  refine lv_aload_n hx hb dX0_init_35 rfl (lv_at hl 0 rfl) ?_
  refine lv_iload_n hx hb dX0_init_36 rfl (lv_at hl 1 rfl) ?_
  refine lv_iconst (v := (1 : Int32)) hx hb dX0_init_37 (by decide) ?_
  refine lv_iadd hx hb dX0_init_38 ?_
  refine va_newa (N' := (n + 1)) (a0 := ((n + 1), .inr (.inl (fun _ => 0)))) (atype := .long) hx hb (hW _ ka_long) rfl hK hP hD hS hA (nw_long _) ((by rw [nI_1]; exact ⟨nI_pos (by omega), nI_clamp (by omega)⟩ : ¬ ((nI n) + (1 : Int32)) < 0 ∧ ((nI n) + (1 : Int32)).toNatClampNeg = n + 1)).1 ((by rw [nI_1]; exact ⟨nI_pos (by omega), nI_clamp (by omega)⟩ : ¬ ((nI n) + (1 : Int32)) < 0 ∧ ((nI n) + (1 : Int32)).toNatClampNeg = n + 1)).2 (by show (n + 1) * 8 ≤ 536870912; omega) (Nat.le_of_ble_eq_true rfl) (by show 3000 + (n + 1) ≤ 5001; omega) dX0_init_39 (fun q4 cy4 H hK hP hD hS => ?_)
  have hP : va_P D vwCl [(h0, .inr (0, [.ref q1, .ref q2, .ref q3, .null, .null, .int 0, .int (0 : Int32), .int (0 : Int32)])), (q1, .inl (cy1, n, .inr (.inl (fun _ => 0)))), (q2, .inl (cy2, n, .inr (.inl (fun _ => 0)))), (q3, .inl (cy3, n, .inl (fun _ => 0))), (q4, .inl (cy4, (n + 1), .inr (.inl (fun _ => 0))))] H := hP
  have hD : va_D A [(h0, .inr (0, [.ref q1, .ref q2, .ref q3, .null, .null, .int 0, .int (0 : Int32), .int (0 : Int32)])), (q1, .inl (cy1, n, .inr (.inl (fun _ => 0)))), (q2, .inl (cy2, n, .inr (.inl (fun _ => 0)))), (q3, .inl (cy3, n, .inl (fun _ => 0))), (q4, .inl (cy4, (n + 1), .inr (.inl (fun _ => 0))))] := hD
  have hK : va_K D vwCl [(cy1, .long), (cy2, .long), (cy3, .int), (cy4, .long)] s := hK
  refine W.widen (k := 4) (n := 4001) (by omega) (by omega) ?_
  refine va_putF (D := D) (ci := 0) (v := .ref q4) (ty := .array .long) (C := RX0) (T := TX0) (N := 8) hx hb hW kl_X0 tyX0 tyX0_ok nmX0 hown hK hP hD hS 0 rfl rfl 3 (by decide) (hW _ kfX0_29) (fun _ h9 => h9) rfl hin rfl (by decide +kernel) rfl rfl (Nat.le_of_ble_eq_true rfl) dX0_init_41 (fun H locs hP hD hS => ?_)
  have hP : va_P D vwCl [(h0, .inr (0, [.ref q1, .ref q2, .ref q3, .ref q4, .null, .int 0, .int (0 : Int32), .int (0 : Int32)])), (q1, .inl (cy1, n, .inr (.inl (fun _ => 0)))), (q2, .inl (cy2, n, .inr (.inl (fun _ => 0)))), (q3, .inl (cy3, n, .inl (fun _ => 0))), (q4, .inl (cy4, (n + 1), .inr (.inl (fun _ => 0))))] H := hP
  have hD : va_D A [(h0, .inr (0, [.ref q1, .ref q2, .ref q3, .ref q4, .null, .int 0, .int (0 : Int32), .int (0 : Int32)])), (q1, .inl (cy1, n, .inr (.inl (fun _ => 0)))), (q2, .inl (cy2, n, .inr (.inl (fun _ => 0)))), (q3, .inl (cy3, n, .inl (fun _ => 0))), (q4, .inl (cy4, (n + 1), .inr (.inl (fun _ => 0))))] := hD
  refine lv_aload_n hx hb dX0_init_44 rfl (lv_at hl 0 rfl) ?_
  refine lv_iload_n hx hb dX0_init_45 rfl (lv_at hl 1 rfl) ?_
  refine va_newa (N' := n) (a0 := (n, .inl (fun _ => 0))) (atype := .int) hx hb (hW _ ka_int) rfl hK hP hD hS hA (nw_int _) ((⟨nI_pos (by omega), nI_clamp (by omega)⟩ : ¬ (nI n) < 0 ∧ (nI n).toNatClampNeg = n)).1 ((⟨nI_pos (by omega), nI_clamp (by omega)⟩ : ¬ (nI n) < 0 ∧ (nI n).toNatClampNeg = n)).2 (by show n * 4 ≤ 536870912; omega) (Nat.le_of_ble_eq_true rfl) (by show 4001 + n ≤ 5001; omega) dX0_init_46 (fun q5 cy5 H hK hP hD hS => ?_)
  have hP : va_P D vwCl [(h0, .inr (0, [.ref q1, .ref q2, .ref q3, .ref q4, .null, .int 0, .int (0 : Int32), .int (0 : Int32)])), (q1, .inl (cy1, n, .inr (.inl (fun _ => 0)))), (q2, .inl (cy2, n, .inr (.inl (fun _ => 0)))), (q3, .inl (cy3, n, .inl (fun _ => 0))), (q4, .inl (cy4, (n + 1), .inr (.inl (fun _ => 0)))), (q5, .inl (cy5, n, .inl (fun _ => 0)))] H := hP
  have hD : va_D A [(h0, .inr (0, [.ref q1, .ref q2, .ref q3, .ref q4, .null, .int 0, .int (0 : Int32), .int (0 : Int32)])), (q1, .inl (cy1, n, .inr (.inl (fun _ => 0)))), (q2, .inl (cy2, n, .inr (.inl (fun _ => 0)))), (q3, .inl (cy3, n, .inl (fun _ => 0))), (q4, .inl (cy4, (n + 1), .inr (.inl (fun _ => 0)))), (q5, .inl (cy5, n, .inl (fun _ => 0)))] := hD
  have hK : va_K D vwCl [(cy1, .long), (cy2, .long), (cy3, .int), (cy4, .long), (cy5, .int)] s := hK
  refine W.widen (k := 5) (n := 5001) (by omega) (by omega) ?_
  refine va_putF (D := D) (ci := 0) (v := .ref q5) (ty := .array .int) (C := RX0) (T := TX0) (N := 8) hx hb hW kl_X0 tyX0 tyX0_ok nmX0 hown hK hP hD hS 0 rfl rfl 4 (by decide) (hW _ kfX0_32) (fun _ h9 => h9) rfl hin rfl (by decide +kernel) rfl rfl (Nat.le_of_ble_eq_true rfl) dX0_init_48 (fun H locs hP hD hS => ?_)
  have hP : va_P D vwCl [(h0, .inr (0, [.ref q1, .ref q2, .ref q3, .ref q4, .ref q5, .int 0, .int (0 : Int32), .int (0 : Int32)])), (q1, .inl (cy1, n, .inr (.inl (fun _ => 0)))), (q2, .inl (cy2, n, .inr (.inl (fun _ => 0)))), (q3, .inl (cy3, n, .inl (fun _ => 0))), (q4, .inl (cy4, (n + 1), .inr (.inl (fun _ => 0)))), (q5, .inl (cy5, n, .inl (fun _ => 0)))] H := hP
  have hD : va_D A [(h0, .inr (0, [.ref q1, .ref q2, .ref q3, .ref q4, .ref q5, .int 0, .int (0 : Int32), .int (0 : Int32)])), (q1, .inl (cy1, n, .inr (.inl (fun _ => 0)))), (q2, .inl (cy2, n, .inr (.inl (fun _ => 0)))), (q3, .inl (cy3, n, .inl (fun _ => 0))), (q4, .inl (cy4, (n + 1), .inr (.inl (fun _ => 0)))), (q5, .inl (cy5, n, .inl (fun _ => 0)))] := hD
  refine lv_aload_n hx hb dX0_init_51 rfl (lv_at hl 0 rfl) ?_
  refine lv_iload_n hx hb dX0_init_52 rfl (lv_at hl 1 rfl) ?_
  refine va_put (D := D) (ci := 0) (v := .int (nI n)) (ty := .int) (C := RX0) (T := TX0) (N := 8) hx hb hW kl_X0 tyX0 tyX0_ok nmX0 hown hK hP hD hS 0 rfl rfl 5 (by decide) (hW _ kfX0_35) (fun _ h9 => h9) rfl (by decide +kernel) rfl rfl (Nat.le_of_ble_eq_true rfl) dX0_init_53 (fun H locs hP hD hS => ?_)
  have hP : va_P D vwCl [(h0, .inr (0, [.ref q1, .ref q2, .ref q3, .ref q4, .ref q5, .int (nI n), .int (0 : Int32), .int (0 : Int32)])), (q1, .inl (cy1, n, .inr (.inl (fun _ => 0)))), (q2, .inl (cy2, n, .inr (.inl (fun _ => 0)))), (q3, .inl (cy3, n, .inl (fun _ => 0))), (q4, .inl (cy4, (n + 1), .inr (.inl (fun _ => 0)))), (q5, .inl (cy5, n, .inl (fun _ => 0)))] H := hP
  have hD : va_D A [(h0, .inr (0, [.ref q1, .ref q2, .ref q3, .ref q4, .ref q5, .int (nI n), .int (0 : Int32), .int (0 : Int32)])), (q1, .inl (cy1, n, .inr (.inl (fun _ => 0)))), (q2, .inl (cy2, n, .inr (.inl (fun _ => 0)))), (q3, .inl (cy3, n, .inl (fun _ => 0))), (q4, .inl (cy4, (n + 1), .inr (.inl (fun _ => 0)))), (q5, .inl (cy5, n, .inl (fun _ => 0)))] := hD
  refine lv_iconst (v := (0 : Int32)) hx hb dX0_init_56 (by decide) ?_
  refine lv_istore_n (lv' := [(2, .int (0 : Int32)), (0, .ref h0), (1, .int (nI n))]) hx hb dX0_init_57 rfl hl (by decide) rfl (fun ls hl => ?_)
  generalize hQ : MQ below _ _ s _ _ _ = Z
  have L : ∀ (k i : Nat) (f : Nat → Int32) (H : Heap) (locs : List Loc) (ls : Array Slot), i + k = n → (∀ j, j < i → f j = nI j) → va_P D vwCl [(h0, .inr (0, [.ref q1, .ref q2, .ref q3, .ref q4, .ref q5, .int (nI n), .int (0 : Int32), .int (0 : Int32)])), (q1, .inl (cy1, n, .inr (.inl (fun _ => 0)))), (q2, .inl (cy2, n, .inr (.inl (fun _ => 0)))), (q3, .inl (cy3, n, .inl (fun _ => 0))), (q4, .inl (cy4, (n + 1), .inr (.inl (fun _ => 0)))), (q5, .inl (cy5, n, .inl f))] H → va_D A [(h0, .inr (0, [.ref q1, .ref q2, .ref q3, .ref q4, .ref q5, .int (nI n), .int (0 : Int32), .int (0 : Int32)])), (q1, .inl (cy1, n, .inr (.inl (fun _ => 0)))), (q2, .inl (cy2, n, .inr (.inl (fun _ => 0)))), (q3, .inl (cy3, n, .inl (fun _ => 0))), (q4, .inl (cy4, (n + 1), .inr (.inl (fun _ => 0)))), (q5, .inl (cy5, n, .inl f))] → va_S A s.heap H locs → lv_has ls 3 [(2, .int (nI i)), (0, .ref h0), (1, .int (nI n))] → W p l e rmi_X0 s m ([.ref h0, .int (nI n)] : List Value).toArray below meth c H locs 5 5001 Z (F0 m 58 ls []) := by
    intro k
    induction k with
    | zero =>
      intro i f H locs ls hi hf hP hD hS hl
      refine lv_iload_n hx hb dX0_init_58 rfl (lv_at hl 0 rfl) ?_
      refine lv_iload_n hx hb dX0_init_59 rfl (lv_at hl 2 rfl) ?_
      refine lv_icmp_ge (tgt := 76) hx hb dX0_init_60 (by decide) (fun hc => ?_) (fun hc => absurd (nI_le (by omega) (by omega)) hc)
      subst hQ
      refine W.vret hx hb hr (fun t ht hW => ⟨⟨((fun k => if k = 0 then q1 else if k = 1 then q2 else if k = 2 then q3 else if k = 3 then q4 else if k = 4 then q5 else 0), (fun k => if k = 0 then cy1 else if k = 1 then cy2 else if k = 2 then cy3 else if k = 3 then cy4 else if k = 4 then cy5 else 0), f), rfl, fun j hj => hf j (by omega), by rw [ht]; exact hP, va_K.moved hW.alike hK, hD⟩, hS.F ht⟩) hS.2.2 dX0_init_76
    | succ k ih =>
      intro i f H locs ls hi hf hP hD hS hl
      refine lv_iload_n hx hb dX0_init_58 rfl (lv_at hl 0 rfl) ?_
      refine lv_iload_n hx hb dX0_init_59 rfl (lv_at hl 2 rfl) ?_
      refine lv_icmp_ge (tgt := 76) hx hb dX0_init_60 (by decide) (fun hc => absurd hc (nI_ge (by omega) (by omega))) (fun hc => ?_)
      refine lv_aload_n hx hb dX0_init_63 rfl (lv_at hl 1 rfl) ?_
      refine va_get (D := D) (ci := 0) (v := .ref q5) (C := RX0) (T := TX0) (N := 8) hx hb hW kl_X0 hown hK hP 0 rfl rfl 4 (by decide) (hW _ kfX0_32) (fun _ h9 => h9) rfl dX0_init_64 ?_
      refine lv_iload_n hx hb dX0_init_67 rfl (lv_at hl 0 rfl) ?_
      refine lv_iload_n hx hb dX0_init_68 rfl (lv_at hl 0 rfl) ?_
      refine va_iast hx hb hK hP hD hS 5 4 rfl rfl (vp_in_nI (by omega) (by omega)) dX0_init_69 (fun H locs hP hD hS => ?_)
      have hP : va_P D vwCl [(h0, .inr (0, [.ref q1, .ref q2, .ref q3, .ref q4, .ref q5, .int (nI n), .int (0 : Int32), .int (0 : Int32)])), (q1, .inl (cy1, n, .inr (.inl (fun _ => 0)))), (q2, .inl (cy2, n, .inr (.inl (fun _ => 0)))), (q3, .inl (cy3, n, .inl (fun _ => 0))), (q4, .inl (cy4, (n + 1), .inr (.inl (fun _ => 0)))), (q5, .inl (cy5, n, .inl (upd f (nI i).toNatClampNeg (nI i))))] H := hP
      have hD : va_D A [(h0, .inr (0, [.ref q1, .ref q2, .ref q3, .ref q4, .ref q5, .int (nI n), .int (0 : Int32), .int (0 : Int32)])), (q1, .inl (cy1, n, .inr (.inl (fun _ => 0)))), (q2, .inl (cy2, n, .inr (.inl (fun _ => 0)))), (q3, .inl (cy3, n, .inl (fun _ => 0))), (q4, .inl (cy4, (n + 1), .inr (.inl (fun _ => 0)))), (q5, .inl (cy5, n, .inl (upd f (nI i).toNatClampNeg (nI i))))] := hD
      refine lv_iinc (v := nI i + 1) (lv' := [(2, .int (nI i + 1)), (0, .ref h0), (1, .int (nI n))]) hx hb dX0_init_70 hl (k := 0) rfl rfl (by decide) rfl (fun ls hl => ?_)
      refine lv_goto (tgt := 58) hx hb dX0_init_73 (by decide) ?_
      refine ih (i + 1) _ _ _ _ (by omega) ?_ hP hD hS (by rw [nI_1] at hl; exact hl)
      intro j hj
      rw [nI_clamp (by omega)]
      rcases Nat.lt_succ_iff_lt_or_eq.mp hj with h | h
      · rw [pk_un (by omega)]; exact hf j h
      · subst h; exact pk_us
  exact L n 0 (fun _ => 0) _ _ _ (by omega) (fun j hj => absurd hj (by omega)) hP hD hS (lv_sub hl [0, 1, 2] rfl)
