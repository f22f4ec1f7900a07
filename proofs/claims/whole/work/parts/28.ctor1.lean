theorem nw_long (n : Nat) : ∀ cA : ClassId, vp_cell cA (n, .inr (.inl (fun _ => 0))) = arrV cA n (fun _ => defaultValue .long) := fun _ => rfl
theorem nw_int (n : Nat) : ∀ cA : ClassId, vp_cell cA (n, .inl (fun _ => 0)) = arrV cA n (fun _ => defaultValue .int) := fun _ => rfl
theorem nw_char (n : Nat) : ∀ cA : ClassId, vp_cell cA (n, .inl (fun _ => 0)) = arrV cA n (fun _ => defaultValue .char) := fun _ => rfl
theorem nw_boolean (n : Nat) : ∀ cA : ClassId, vp_cell cA (n, .inl (fun _ => 0)) = arrV cA n (fun _ => defaultValue .boolean) := fun _ => rfl
theorem gd_I {y : MethodName} {bytes : ByteArray} {maxL : Nat} {ret : Option FieldType} (hk : Cond.code y bytes maxL ret ∈ WS) : GoodIn WS (Cond.code y bytes maxL ret :: WS) := fun w h => by
  rcases List.mem_cons.mp h with rfl | h
  · exact ⟨hk, WS_good _ hk⟩
  · exact ⟨h, WS_good _ h⟩
abbrev rmi_X6 : Room := { frames := 1, cells := 1, slots := 2000, locals := 20 }
set_option maxHeartbeats 4000000 in
set_option maxRecDepth 100000 in
theorem ti_X6 (l : Launch) (D : va_G) (h0 : Nat)   (sz : Nat) : Met l yX6_init (Cond.code yX6_init cX6_init 1 none :: WS) rmi_X6 (va_Pc [.ref h0] (fun U => U.heap.size = sz ∧ va_P D vwCl [(h0, .inr (6, [.null, .int 0, .int 0, .int 0]))] U.heap ∧ va_K D vwCl [] U ∧ va_D (fun _ => True) [(h0, .inr (6, [.null, .int 0, .int 0, .int 0]))])) (va_Qv (fun z : (Nat → Nat) × (Nat → ClassId) => True) (fun z t => va_P D vwCl [(h0, .inr (6, [.ref (z.1 0), .int (0 : Int32), .int (0 : Int32), .int (-1 : Int32)])), ((z.1 0), .inl ((z.2 0), 2000, .inl (fun _ => 0)))] t.heap ∧ va_K D vwCl [((z.2 0), .char)] t ∧ va_D (va_A [(h0, .inr (6, [.null, .int 0, .int 0, .int 0]))] sz) [(h0, .inr (6, [.ref (z.1 0), .int (0 : Int32), .int (0 : Int32), .int (-1 : Int32)])), ((z.1 0), .inl ((z.2 0), 2000, .inl (fun _ => 0)))]) (va_A [(h0, .inr (6, [.null, .int 0, .int 0, .int 0]))] sz)) 1 2000 (va_A [(h0, .inr (6, [.null, .int 0, .int 0, .int 0]))] sz) := by
  refine Met.ofW (cc := cX6_init) (maxL := 1) (ret := none) (by decide) rfl ?_
  intro p e s m args below meth c s₁ B hml hv
  obtain ⟨rfl, hsz, hP, hK, hD0⟩ := hv
  have hx := B.exec
  have hb := B.bytes
  have hr := B.returns
  have hW : ∀ w ∈ WS, w.before _ s = true := fun w h => atoms_spec (ws := Cond.code yX6_init cX6_init 1 none :: WS) B.pre w (List.mem_cons_of_mem _ h)
  have hown : s.vm.findClass RX6 = some m.cls := findClass_of_methodNamed B.named
  have hlocks := B.notSynchronized
  have hin : meth.name = "<init>" := (name_of_methodNamed B.named B.method).1
  subst hsz
  have hD := hD0.self (sz := s.heap.size)
  generalize hAe : va_A [(h0, .inr (6, [.null, .int 0, .int 0, .int 0]))] s.heap.size = A at hD ⊢
  have hA : ∀ q : Nat, s.heap.size ≤ q → A q := fun q h => by rw [← hAe]; exact Or.inr h
  have hS : va_S A s.heap s.heap [] := va_S.rf
  have hl := lv_entry ([.ref h0]) (n := 1) (Nat.le_of_ble_eq_true rfl)
  rw [lg_entry_eq]
  generalize (lg_sl ([.ref h0]) ++ List.replicate (1 - (lg_sl ([.ref h0])).length) Slot.unset).toArray = ls at hl ⊢
  have hl : lv_has ls 1 [(0, .ref h0)] := hl
  refine lv_aload_n hx hb dX6_init_0 rfl (lv_at hl 0 rfl) ?_
  refine W.objInit hx hb hown (hW _ kmX6_3) (hW _ ki_obj) (hW _ kk_obj) rfl (by rw [hml]; exact hl.1) rfl dX6_init_1 (Nat.le_of_ble_eq_true rfl) (Nat.le_of_ble_eq_true rfl) ?_
  refine W.eq (g2 := F0 m 4 ls []) rfl ?_
  refine lv_aload_n hx hb dX6_init_4 rfl (lv_at hl 0 rfl) ?_
  refine lv_sipush (v := (2000 : Int32)) hx hb dX6_init_5 (by decide) ?_
  refine va_newa (N' := 2000) (a0 := (2000, .inl (fun _ => 0))) (atype := .char) hx hb (hW _ ka_char) rfl hK hP hD hS hA (nw_char _) ((⟨by decide +kernel, by decide +kernel⟩ : ¬ (2000 : Int32) < 0 ∧ (2000 : Int32).toNatClampNeg = 2000)).1 ((⟨by decide +kernel, by decide +kernel⟩ : ¬ (2000 : Int32) < 0 ∧ (2000 : Int32).toNatClampNeg = 2000)).2 (by show 2000 * 2 ≤ 536870912; omega) (Nat.le_of_ble_eq_true rfl) (by show 0 + 2000 ≤ 2000; omega) dX6_init_8 (fun q1 cy1 H hK hP hD hS => ?_)
  have hP : va_P D vwCl [(h0, .inr (6, [.null, .int 0, .int 0, .int 0])), (q1, .inl (cy1, 2000, .inl (fun _ => 0)))] H := hP
  have hD : va_D A [(h0, .inr (6, [.null, .int 0, .int 0, .int 0])), (q1, .inl (cy1, 2000, .inl (fun _ => 0)))] := hD
  have hK : va_K D vwCl [(cy1, .char)] s := hK
  refine W.widen (k := 1) (n := 2000) (by omega) (by omega) ?_
  refine va_putF (D := D) (ci := 6) (v := .ref q1) (ty := .array .char) (C := RX6) (T := TX6) (N := 4) hx hb hW kl_X6 tyX6 tyX6_ok nmX6 hown hK hP hD hS 0 rfl rfl 0 (by decide) (hW _ kfX6_9) (fun _ h9 => h9) rfl hin rfl (by decide +kernel) rfl rfl (Nat.le_of_ble_eq_true rfl) dX6_init_10 (fun H locs hP hD hS => ?_)
  have hP : va_P D vwCl [(h0, .inr (6, [.ref q1, .int 0, .int 0, .int 0])), (q1, .inl (cy1, 2000, .inl (fun _ => 0)))] H := hP
  have hD : va_D A [(h0, .inr (6, [.ref q1, .int 0, .int 0, .int 0])), (q1, .inl (cy1, 2000, .inl (fun _ => 0)))] := hD
  refine lv_aload_n hx hb dX6_init_13 rfl (lv_at hl 0 rfl) ?_
  refine lv_iconst (v := (0 : Int32)) hx hb dX6_init_14 (by decide) ?_
  refine va_put (D := D) (ci := 6) (v := .int (0 : Int32)) (ty := .int) (C := RX6) (T := TX6) (N := 4) hx hb hW kl_X6 tyX6 tyX6_ok nmX6 hown hK hP hD hS 0 rfl rfl 1 (by decide) (hW _ kfX6_15) (fun _ h9 => h9) rfl (by decide +kernel) rfl rfl (Nat.le_of_ble_eq_true rfl) dX6_init_15 (fun H locs hP hD hS => ?_)
  have hP : va_P D vwCl [(h0, .inr (6, [.ref q1, .int (0 : Int32), .int 0, .int 0])), (q1, .inl (cy1, 2000, .inl (fun _ => 0)))] H := hP
  have hD : va_D A [(h0, .inr (6, [.ref q1, .int (0 : Int32), .int 0, .int 0])), (q1, .inl (cy1, 2000, .inl (fun _ => 0)))] := hD
  refine lv_aload_n hx hb dX6_init_18 rfl (lv_at hl 0 rfl) ?_
  refine lv_iconst (v := (0 : Int32)) hx hb dX6_init_19 (by decide) ?_
  refine va_put (D := D) (ci := 6) (v := .int (0 : Int32)) (ty := .int) (C := RX6) (T := TX6) (N := 4) hx hb hW kl_X6 tyX6 tyX6_ok nmX6 hown hK hP hD hS 0 rfl rfl 2 (by decide) (hW _ kfX6_19) (fun _ h9 => h9) rfl (by decide +kernel) rfl rfl (Nat.le_of_ble_eq_true rfl) dX6_init_20 (fun H locs hP hD hS => ?_)
  have hP : va_P D vwCl [(h0, .inr (6, [.ref q1, .int (0 : Int32), .int (0 : Int32), .int 0])), (q1, .inl (cy1, 2000, .inl (fun _ => 0)))] H := hP
  have hD : va_D A [(h0, .inr (6, [.ref q1, .int (0 : Int32), .int (0 : Int32), .int 0])), (q1, .inl (cy1, 2000, .inl (fun _ => 0)))] := hD
  refine lv_aload_n hx hb dX6_init_23 rfl (lv_at hl 0 rfl) ?_
  refine lv_iconst (v := (-1 : Int32)) hx hb dX6_init_24 (by decide) ?_
  refine va_put (D := D) (ci := 6) (v := .int (-1 : Int32)) (ty := .int) (C := RX6) (T := TX6) (N := 4) hx hb hW kl_X6 tyX6 tyX6_ok nmX6 hown hK hP hD hS 0 rfl rfl 3 (by decide) (hW _ kfX6_22) (fun _ h9 => h9) rfl (by decide +kernel) rfl rfl (Nat.le_of_ble_eq_true rfl) dX6_init_25 (fun H locs hP hD hS => ?_)
  have hP : va_P D vwCl [(h0, .inr (6, [.ref q1, .int (0 : Int32), .int (0 : Int32), .int (-1 : Int32)])), (q1, .inl (cy1, 2000, .inl (fun _ => 0)))] H := hP
  have hD : va_D A [(h0, .inr (6, [.ref q1, .int (0 : Int32), .int (0 : Int32), .int (-1 : Int32)])), (q1, .inl (cy1, 2000, .inl (fun _ => 0)))] := hD
  exact W.vret hx hb hr (fun t ht hW => ⟨⟨((fun k => if k = 0 then q1 else 0), (fun k => if k = 0 then cy1 else 0)), rfl, trivial, by rw [ht]; exact hP, va_K.moved hW.alike hK, hD⟩, hS.F ht⟩) hS.2.2 dX6_init_28
abbrev rmi_X7 : Room := { frames := 1, cells := 3, slots := 13000, locals := 20 }
set_option maxHeartbeats 4000000 in
set_option maxRecDepth 100000 in
theorem ti_X7 (l : Launch) (D : va_G) (h0 : Nat) (n : Nat) (hn : n ≤ 1000) (sz : Nat) : Met l yX7_init (Cond.code yX7_init cX7_init 2 none :: WS) rmi_X7 (va_Pc [.ref h0, .int (nI n)] (fun U => U.heap.size = sz ∧ va_P D vwCl [(h0, .inr (7, [.null, .null, .null, .int 0, .int 0]))] U.heap ∧ va_K D vwCl [] U ∧ va_D (fun _ => True) [(h0, .inr (7, [.null, .null, .null, .int 0, .int 0]))])) (va_Qv (fun z : (Nat → Nat) × (Nat → ClassId) => True) (fun z t => va_P D vwCl [(h0, .inr (7, [.ref (z.1 0), .ref (z.1 1), .ref (z.1 2), .int (0 : Int32), .int (0 : Int32)])), ((z.1 0), .inl ((z.2 0), n, .inl (fun _ => 0))), ((z.1 1), .inl ((z.2 1), n, .inl (fun _ => 0))), ((z.1 2), .inl ((z.2 2), (n * 11), .inr (.inl (fun _ => 0))))] t.heap ∧ va_K D vwCl [((z.2 0), .int), ((z.2 1), .int), ((z.2 2), .long)] t ∧ va_D (va_A [(h0, .inr (7, [.null, .null, .null, .int 0, .int 0]))] sz) [(h0, .inr (7, [.ref (z.1 0), .ref (z.1 1), .ref (z.1 2), .int (0 : Int32), .int (0 : Int32)])), ((z.1 0), .inl ((z.2 0), n, .inl (fun _ => 0))), ((z.1 1), .inl ((z.2 1), n, .inl (fun _ => 0))), ((z.1 2), .inl ((z.2 2), (n * 11), .inr (.inl (fun _ => 0))))]) (va_A [(h0, .inr (7, [.null, .null, .null, .int 0, .int 0]))] sz)) 3 13000 (va_A [(h0, .inr (7, [.null, .null, .null, .int 0, .int 0]))] sz) := by
  refine Met.ofW (cc := cX7_init) (maxL := 2) (ret := none) (by decide) rfl ?_
  intro p e s m args below meth c s₁ B hml hv
  obtain ⟨rfl, hsz, hP, hK, hD0⟩ := hv
  have hx := B.exec
  have hb := B.bytes
  have hr := B.returns
  have hW : ∀ w ∈ WS, w.before _ s = true := fun w h => atoms_spec (ws := Cond.code yX7_init cX7_init 2 none :: WS) B.pre w (List.mem_cons_of_mem _ h)
  have hown : s.vm.findClass RX7 = some m.cls := findClass_of_methodNamed B.named
  have hlocks := B.notSynchronized
  have hin : meth.name = "<init>" := (name_of_methodNamed B.named B.method).1
  subst hsz
  have hD := hD0.self (sz := s.heap.size)
  generalize hAe : va_A [(h0, .inr (7, [.null, .null, .null, .int 0, .int 0]))] s.heap.size = A at hD ⊢
  have hA : ∀ q : Nat, s.heap.size ≤ q → A q := fun q h => by rw [← hAe]; exact Or.inr h
  have hS : va_S A s.heap s.heap [] := va_S.rf
  have hl := lv_entry ([.ref h0, .int (nI n)]) (n := 2) (Nat.le_of_ble_eq_true rfl)
  rw [lg_entry_eq]
  generalize (lg_sl ([.ref h0, .int (nI n)]) ++ List.replicate (2 - (lg_sl ([.ref h0, .int (nI n)])).length) Slot.unset).toArray = ls at hl ⊢
  have hl : lv_has ls 2 [(0, .ref h0), (1, .int (nI n))] := hl
  refine lv_aload_n hx hb dX7_init_0 rfl (lv_at hl 0 rfl) ?_
  refine W.objInit hx hb hown (hW _ kmX7_5) (hW _ ki_obj) (hW _ kk_obj) rfl (by rw [hml]; exact hl.1) rfl dX7_init_1 (Nat.le_of_ble_eq_true rfl) (Nat.le_of_ble_eq_true rfl) ?_
  refine W.eq (g2 := F0 m 4 ls []) rfl ?_
  refine lv_aload_n hx hb dX7_init_4 rfl (lv_at hl 0 rfl) ?_
  refine lv_iconst (v := (0 : Int32)) hx hb dX7_init_5 (by decide) ?_
  refine va_put (D := D) (ci := 7) (v := .int (0 : Int32)) (ty := .int) (C := RX7) (T := TX7) (N := 5) hx hb hW kl_X7 tyX7 tyX7_ok nmX7 hown hK hP hD hS 0 rfl rfl 3 (by decide) (hW _ kfX7_11) (fun _ h9 => h9) rfl (by decide +kernel) rfl rfl (Nat.le_of_ble_eq_true rfl) dX7_init_6 (fun H locs hP hD hS => ?_)
  have hP : va_P D vwCl [(h0, .inr (7, [.null, .null, .null, .int (0 : Int32), .int 0]))] H := hP
  have hD : va_D A [(h0, .inr (7, [.null, .null, .null, .int (0 : Int32), .int 0]))] := hD
  refine lv_aload_n hx hb dX7_init_9 rfl (lv_at hl 0 rfl) ?_
  refine lv_iconst (v := (0 : Int32)) hx hb dX7_init_10 (by decide) ?_
  refine va_put (D := D) (ci := 7) (v := .int (0 : Int32)) (ty := .int) (C := RX7) (T := TX7) (N := 5) hx hb hW kl_X7 tyX7 tyX7_ok nmX7 hown hK hP hD hS 0 rfl rfl 4 (by decide) (hW _ kfX7_15) (fun _ h9 => h9) rfl (by decide +kernel) rfl rfl (Nat.le_of_ble_eq_true rfl) dX7_init_11 (fun H locs hP hD hS => ?_)
  have hP : va_P D vwCl [(h0, .inr (7, [.null, .null, .null, .int (0 : Int32), .int (0 : Int32)]))] H := hP
  have hD : va_D A [(h0, .inr (7, [.null, .null, .null, .int (0 : Int32), .int (0 : Int32)]))] := hD
  refine lv_aload_n hx hb dX7_init_14 rfl (lv_at hl 0 rfl) ?_
  refine lv_iload_n hx hb dX7_init_15 rfl (lv_at hl 1 rfl) ?_
  refine va_newa (N' := n) (a0 := (n, .inl (fun _ => 0))) (atype := .int) hx hb (hW _ ka_int) rfl hK hP hD hS hA (nw_int _) ((⟨nI_pos (by omega), nI_clamp (by omega)⟩ : ¬ (nI n) < 0 ∧ (nI n).toNatClampNeg = n)).1 ((⟨nI_pos (by omega), nI_clamp (by omega)⟩ : ¬ (nI n) < 0 ∧ (nI n).toNatClampNeg = n)).2 (by show n * 4 ≤ 536870912; omega) (Nat.le_of_ble_eq_true rfl) (by show 0 + n ≤ 13000; omega) dX7_init_16 (fun q1 cy1 H hK hP hD hS => ?_)
  have hP : va_P D vwCl [(h0, .inr (7, [.null, .null, .null, .int (0 : Int32), .int (0 : Int32)])), (q1, .inl (cy1, n, .inl (fun _ => 0)))] H := hP
  have hD : va_D A [(h0, .inr (7, [.null, .null, .null, .int (0 : Int32), .int (0 : Int32)])), (q1, .inl (cy1, n, .inl (fun _ => 0)))] := hD
  have hK : va_K D vwCl [(cy1, .int)] s := hK
  refine W.widen (k := 1) (n := 1000) (by omega) (by omega) ?_
  refine va_putF (D := D) (ci := 7) (v := .ref q1) (ty := .array .int) (C := RX7) (T := TX7) (N := 5) hx hb hW kl_X7 tyX7 tyX7_ok nmX7 hown hK hP hD hS 0 rfl rfl 0 (by decide) (hW _ kfX7_18) (fun _ h9 => h9) rfl hin rfl (by decide +kernel) rfl rfl (Nat.le_of_ble_eq_true rfl) dX7_init_18 (fun H locs hP hD hS => ?_)
  have hP : va_P D vwCl [(h0, .inr (7, [.ref q1, .null, .null, .int (0 : Int32), .int (0 : Int32)])), (q1, .inl (cy1, n, .inl (fun _ => 0)))] H := hP
  have hD : va_D A [(h0, .inr (7, [.ref q1, .null, .null, .int (0 : Int32), .int (0 : Int32)])), (q1, .inl (cy1, n, .inl (fun _ => 0)))] := hD
  refine lv_aload_n hx hb dX7_init_21 rfl (lv_at hl 0 rfl) ?_
  refine lv_iload_n hx hb dX7_init_22 rfl (lv_at hl 1 rfl) ?_
  refine va_newa (N' := n) (a0 := (n, .inl (fun _ => 0))) (atype := .int) hx hb (hW _ ka_int) rfl hK hP hD hS hA (nw_int _) ((⟨nI_pos (by omega), nI_clamp (by omega)⟩ : ¬ (nI n) < 0 ∧ (nI n).toNatClampNeg = n)).1 ((⟨nI_pos (by omega), nI_clamp (by omega)⟩ : ¬ (nI n) < 0 ∧ (nI n).toNatClampNeg = n)).2 (by show n * 4 ≤ 536870912; omega) (Nat.le_of_ble_eq_true rfl) (by show 1000 + n ≤ 13000; omega) dX7_init_23 (fun q2 cy2 H hK hP hD hS => ?_)
  have hP : va_P D vwCl [(h0, .inr (7, [.ref q1, .null, .null, .int (0 : Int32), .int (0 : Int32)])), (q1, .inl (cy1, n, .inl (fun _ => 0))), (q2, .inl (cy2, n, .inl (fun _ => 0)))] H := hP
  have hD : va_D A [(h0, .inr (7, [.ref q1, .null, .null, .int (0 : Int32), .int (0 : Int32)])), (q1, .inl (cy1, n, .inl (fun _ => 0))), (q2, .inl (cy2, n, .inl (fun _ => 0)))] := hD
  have hK : va_K D vwCl [(cy1, .int), (cy2, .int)] s := hK
  refine W.widen (k := 2) (n := 2000) (by omega) (by omega) ?_
  refine va_putF (D := D) (ci := 7) (v := .ref q2) (ty := .array .int) (C := RX7) (T := TX7) (N := 5) hx hb hW kl_X7 tyX7 tyX7_ok nmX7 hown hK hP hD hS 0 rfl rfl 1 (by decide) (hW _ kfX7_22) (fun _ h9 => h9) rfl hin rfl (by decide +kernel) rfl rfl (Nat.le_of_ble_eq_true rfl) dX7_init_25 (fun H locs hP hD hS => ?_)
  have hP : va_P D vwCl [(h0, .inr (7, [.ref q1, .ref q2, .null, .int (0 : Int32), .int (0 : Int32)])), (q1, .inl (cy1, n, .inl (fun _ => 0))), (q2, .inl (cy2, n, .inl (fun _ => 0)))] H := hP
  have hD : va_D A [(h0, .inr (7, [.ref q1, .ref q2, .null, .int (0 : Int32), .int (0 : Int32)])), (q1, .inl (cy1, n, .inl (fun _ => 0))), (q2, .inl (cy2, n, .inl (fun _ => 0)))] := hD
  refine lv_aload_n hx hb dX7_init_28 rfl (lv_at hl 0 rfl) ?_
  refine lv_iload_n hx hb dX7_init_29 rfl (lv_at hl 1 rfl) ?_
  refine lv_bipush (v := (11 : Int32)) hx hb dX7_init_30 (by decide) ?_
  refine lv_imul hx hb dX7_init_32 ?_
  refine va_newa (N' := (n * 11)) (a0 := ((n * 11), .inr (.inl (fun _ => 0)))) (atype := .long) hx hb (hW _ ka_long) rfl hK hP hD hS hA (nw_long _) ((by rw [show (11 : Int32) = nI 11 from rfl, pk_mul]; exact ⟨nI_pos (by omega), nI_clamp (by omega)⟩ : ¬ ((nI n) * (11 : Int32)) < 0 ∧ ((nI n) * (11 : Int32)).toNatClampNeg = n * 11)).1 ((by rw [show (11 : Int32) = nI 11 from rfl, pk_mul]; exact ⟨nI_pos (by omega), nI_clamp (by omega)⟩ : ¬ ((nI n) * (11 : Int32)) < 0 ∧ ((nI n) * (11 : Int32)).toNatClampNeg = n * 11)).2 (by show (n * 11) * 8 ≤ 536870912; omega) (Nat.le_of_ble_eq_true rfl) (by show 2000 + (n * 11) ≤ 13000; omega) dX7_init_33 (fun q3 cy3 H hK hP hD hS => ?_)
  have hP : va_P D vwCl [(h0, .inr (7, [.ref q1, .ref q2, .null, .int (0 : Int32), .int (0 : Int32)])), (q1, .inl (cy1, n, .inl (fun _ => 0))), (q2, .inl (cy2, n, .inl (fun _ => 0))), (q3, .inl (cy3, (n * 11), .inr (.inl (fun _ => 0))))] H := hP
  have hD : va_D A [(h0, .inr (7, [.ref q1, .ref q2, .null, .int (0 : Int32), .int (0 : Int32)])), (q1, .inl (cy1, n, .inl (fun _ => 0))), (q2, .inl (cy2, n, .inl (fun _ => 0))), (q3, .inl (cy3, (n * 11), .inr (.inl (fun _ => 0))))] := hD
  have hK : va_K D vwCl [(cy1, .int), (cy2, .int), (cy3, .long)] s := hK
  refine W.widen (k := 3) (n := 13000) (by omega) (by omega) ?_
  refine va_putF (D := D) (ci := 7) (v := .ref q3) (ty := .array .long) (C := RX7) (T := TX7) (N := 5) hx hb hW kl_X7 tyX7 tyX7_ok nmX7 hown hK hP hD hS 0 rfl rfl 2 (by decide) (hW _ kfX7_25) (fun _ h9 => h9) rfl hin rfl (by decide +kernel) rfl rfl (Nat.le_of_ble_eq_true rfl) dX7_init_35 (fun H locs hP hD hS => ?_)
  have hP : va_P D vwCl [(h0, .inr (7, [.ref q1, .ref q2, .ref q3, .int (0 : Int32), .int (0 : Int32)])), (q1, .inl (cy1, n, .inl (fun _ => 0))), (q2, .inl (cy2, n, .inl (fun _ => 0))), (q3, .inl (cy3, (n * 11), .inr (.inl (fun _ => 0))))] H := hP
  have hD : va_D A [(h0, .inr (7, [.ref q1, .ref q2, .ref q3, .int (0 : Int32), .int (0 : Int32)])), (q1, .inl (cy1, n, .inl (fun _ => 0))), (q2, .inl (cy2, n, .inl (fun _ => 0))), (q3, .inl (cy3, (n * 11), .inr (.inl (fun _ => 0))))] := hD
  exact W.vret hx hb hr (fun t ht hW => ⟨⟨((fun k => if k = 0 then q1 else if k = 1 then q2 else if k = 2 then q3 else 0), (fun k => if k = 0 then cy1 else if k = 1 then cy2 else if k = 2 then cy3 else 0)), rfl, trivial, by rw [ht]; exact hP, va_K.moved hW.alike hK, hD⟩, hS.F ht⟩) hS.2.2 dX7_init_38
abbrev rmi_X1 : Room := { frames := 1, cells := 1, slots := 2, locals := 20 }
set_option maxHeartbeats 4000000 in
set_option maxRecDepth 100000 in
theorem ti_X1 (l : Launch) (D : va_G) (h0 : Nat) (a8 a2 a3 : Nat)  (sz : Nat) : Met l yX1_init (Cond.code yX1_init cX1_init 4 none :: WS) rmi_X1 (va_Pc [.ref h0, .ref a8, .ref a2, .ref a3] (fun U => U.heap.size = sz ∧ va_P D vwCl [(h0, .inr (1, [.null, .null, .null, .null]))] U.heap ∧ va_K D vwCl [] U ∧ va_D (fun _ => True) [(h0, .inr (1, [.null, .null, .null, .null]))])) (va_Qv (fun z : (Nat → Nat) × (Nat → ClassId) => True) (fun z t => va_P D vwCl [(h0, .inr (1, [.ref a8, .ref a2, .ref a3, .ref (z.1 0)])), ((z.1 0), .inl ((z.2 0), 2, .inr (.inl (fun _ => 0))))] t.heap ∧ va_K D vwCl [((z.2 0), .long)] t ∧ va_D (va_A [(h0, .inr (1, [.null, .null, .null, .null]))] sz) [(h0, .inr (1, [.ref a8, .ref a2, .ref a3, .ref (z.1 0)])), ((z.1 0), .inl ((z.2 0), 2, .inr (.inl (fun _ => 0))))]) (va_A [(h0, .inr (1, [.null, .null, .null, .null]))] sz)) 1 2 (va_A [(h0, .inr (1, [.null, .null, .null, .null]))] sz) := by
  refine Met.ofW (cc := cX1_init) (maxL := 4) (ret := none) (by decide) rfl ?_
  intro p e s m args below meth c s₁ B hml hv
  obtain ⟨rfl, hsz, hP, hK, hD0⟩ := hv
  have hx := B.exec
  have hb := B.bytes
  have hr := B.returns
  have hW : ∀ w ∈ WS, w.before _ s = true := fun w h => atoms_spec (ws := Cond.code yX1_init cX1_init 4 none :: WS) B.pre w (List.mem_cons_of_mem _ h)
  have hown : s.vm.findClass RX1 = some m.cls := findClass_of_methodNamed B.named
  have hlocks := B.notSynchronized
  have hin : meth.name = "<init>" := (name_of_methodNamed B.named B.method).1
  subst hsz
  have hD := hD0.self (sz := s.heap.size)
  generalize hAe : va_A [(h0, .inr (1, [.null, .null, .null, .null]))] s.heap.size = A at hD ⊢
  have hA : ∀ q : Nat, s.heap.size ≤ q → A q := fun q h => by rw [← hAe]; exact Or.inr h
  have hS : va_S A s.heap s.heap [] := va_S.rf
  have hl := lv_entry ([.ref h0, .ref a8, .ref a2, .ref a3]) (n := 4) (Nat.le_of_ble_eq_true rfl)
  rw [lg_entry_eq]
  generalize (lg_sl ([.ref h0, .ref a8, .ref a2, .ref a3]) ++ List.replicate (4 - (lg_sl ([.ref h0, .ref a8, .ref a2, .ref a3])).length) Slot.unset).toArray = ls at hl ⊢
  have hl : lv_has ls 4 [(0, .ref h0), (1, .ref a8), (2, .ref a2), (3, .ref a3)] := hl
  refine lv_aload_n hx hb dX1_init_0 rfl (lv_at hl 0 rfl) ?_
  refine W.objInit hx hb hown (hW _ kmX1_1) (hW _ ki_obj) (hW _ kk_obj) rfl (by rw [hml]; exact hl.1) rfl dX1_init_1 (Nat.le_of_ble_eq_true rfl) (Nat.le_of_ble_eq_true rfl) ?_
  refine W.eq (g2 := F0 m 4 ls []) rfl ?_
  refine lv_aload_n hx hb dX1_init_4 rfl (lv_at hl 0 rfl) ?_
  refine lv_iconst (v := (2 : Int32)) hx hb dX1_init_5 (by decide) ?_
  refine va_newa (N' := 2) (a0 := (2, .inr (.inl (fun _ => 0)))) (atype := .long) hx hb (hW _ ka_long) rfl hK hP hD hS hA (nw_long _) ((⟨by decide +kernel, by decide +kernel⟩ : ¬ (2 : Int32) < 0 ∧ (2 : Int32).toNatClampNeg = 2)).1 ((⟨by decide +kernel, by decide +kernel⟩ : ¬ (2 : Int32) < 0 ∧ (2 : Int32).toNatClampNeg = 2)).2 (by show 2 * 8 ≤ 536870912; omega) (Nat.le_of_ble_eq_true rfl) (by show 0 + 2 ≤ 2; omega) dX1_init_6 (fun q1 cy1 H hK hP hD hS => ?_)
  have hP : va_P D vwCl [(h0, .inr (1, [.null, .null, .null, .null])), (q1, .inl (cy1, 2, .inr (.inl (fun _ => 0))))] H := hP
  have hD : va_D A [(h0, .inr (1, [.null, .null, .null, .null])), (q1, .inl (cy1, 2, .inr (.inl (fun _ => 0))))] := hD
  have hK : va_K D vwCl [(cy1, .long)] s := hK
  refine W.widen (k := 1) (n := 2) (by omega) (by omega) ?_
  refine va_putF (D := D) (ci := 1) (v := .ref q1) (ty := .array .long) (C := RX1) (T := TX1) (N := 4) hx hb hW kl_X1 tyX1 tyX1_ok nmX1 hown hK hP hD hS 0 rfl rfl 3 (by decide) (hW _ kfX1_7) (fun _ h9 => h9) rfl hin rfl (by decide +kernel) rfl rfl (Nat.le_of_ble_eq_true rfl) dX1_init_8 (fun H locs hP hD hS => ?_)
  have hP : va_P D vwCl [(h0, .inr (1, [.null, .null, .null, .ref q1])), (q1, .inl (cy1, 2, .inr (.inl (fun _ => 0))))] H := hP
  have hD : va_D A [(h0, .inr (1, [.null, .null, .null, .ref q1])), (q1, .inl (cy1, 2, .inr (.inl (fun _ => 0))))] := hD
  refine lv_aload_n hx hb dX1_init_11 rfl (lv_at hl 0 rfl) ?_
  refine lv_aload_n hx hb dX1_init_12 rfl (lv_at hl 1 rfl) ?_
  refine va_putF (D := D) (ci := 1) (v := .ref a8) (ty := .object "ConsHouse$Heap") (C := RX1) (T := TX1) (N := 4) hx hb hW kl_X1 tyX1 tyX1_ok nmX1 hown hK hP hD hS 0 rfl rfl 0 (by decide) (hW _ kfX1_13) (fun _ h9 => h9) rfl hin rfl (by decide +kernel) rfl rfl (Nat.le_of_ble_eq_true rfl) dX1_init_13 (fun H locs hP hD hS => ?_)
  have hP : va_P D vwCl [(h0, .inr (1, [.ref a8, .null, .null, .ref q1])), (q1, .inl (cy1, 2, .inr (.inl (fun _ => 0))))] H := hP
  have hD : va_D A [(h0, .inr (1, [.ref a8, .null, .null, .ref q1])), (q1, .inl (cy1, 2, .inr (.inl (fun _ => 0))))] := hD
  refine lv_aload_n hx hb dX1_init_16 rfl (lv_at hl 0 rfl) ?_
  refine lv_aload_n hx hb dX1_init_17 rfl (lv_at hl 2 rfl) ?_
  refine va_putF (D := D) (ci := 1) (v := .ref a2) (ty := .object "ConsHouse$Names") (C := RX1) (T := TX1) (N := 4) hx hb hW kl_X1 tyX1 tyX1_ok nmX1 hown hK hP hD hS 0 rfl rfl 1 (by decide) (hW _ kfX1_17) (fun _ h9 => h9) rfl hin rfl (by decide +kernel) rfl rfl (Nat.le_of_ble_eq_true rfl) dX1_init_18 (fun H locs hP hD hS => ?_)
  have hP : va_P D vwCl [(h0, .inr (1, [.ref a8, .ref a2, .null, .ref q1])), (q1, .inl (cy1, 2, .inr (.inl (fun _ => 0))))] H := hP
  have hD : va_D A [(h0, .inr (1, [.ref a8, .ref a2, .null, .ref q1])), (q1, .inl (cy1, 2, .inr (.inl (fun _ => 0))))] := hD
  refine lv_aload_n hx hb dX1_init_21 rfl (lv_at hl 0 rfl) ?_
  refine lv_aload_n hx hb dX1_init_22 rfl (lv_at hl 3 rfl) ?_
  refine va_putF (D := D) (ci := 1) (v := .ref a3) (ty := .object "ConsHouse$Waiting") (C := RX1) (T := TX1) (N := 4) hx hb hW kl_X1 tyX1 tyX1_ok nmX1 hown hK hP hD hS 0 rfl rfl 2 (by decide) (hW _ kfX1_21) (fun _ h9 => h9) rfl hin rfl (by decide +kernel) rfl rfl (Nat.le_of_ble_eq_true rfl) dX1_init_23 (fun H locs hP hD hS => ?_)
  have hP : va_P D vwCl [(h0, .inr (1, [.ref a8, .ref a2, .ref a3, .ref q1])), (q1, .inl (cy1, 2, .inr (.inl (fun _ => 0))))] H := hP
  have hD : va_D A [(h0, .inr (1, [.ref a8, .ref a2, .ref a3, .ref q1])), (q1, .inl (cy1, 2, .inr (.inl (fun _ => 0))))] := hD
  exact W.vret hx hb hr (fun t ht hW => ⟨⟨((fun k => if k = 0 then q1 else 0), (fun k => if k = 0 then cy1 else 0)), rfl, trivial, by rw [ht]; exact hP, va_K.moved hW.alike hK, hD⟩, hS.F ht⟩) hS.2.2 dX1_init_26
abbrev rmi_X5 : Room := { frames := 1, cells := 5, slots := 2180, locals := 20 }
set_option maxHeartbeats 4000000 in
set_option maxRecDepth 100000 in
theorem ti_X5 (l : Launch) (D : va_G) (h0 : Nat) (a1 a2 a8 a4 : Nat)  (sz : Nat) : Met l yX5_init (Cond.code yX5_init cX5_init 5 none :: WS) rmi_X5 (va_Pc [.ref h0, .ref a1, .ref a2, .ref a8, .ref a4] (fun U => U.heap.size = sz ∧ va_P D vwCl [(h0, .inr (5, [.null, .null, .null, .null, .null, .null, .null, .null, .null, .int 0, .int 0, .int 0, .int 0, .long 0]))] U.heap ∧ va_K D vwCl [] U ∧ va_D (fun _ => True) [(h0, .inr (5, [.null, .null, .null, .null, .null, .null, .null, .null, .null, .int 0, .int 0, .int 0, .int 0, .long 0]))])) (va_Qv (fun z : (Nat → Nat) × (Nat → ClassId) => True) (fun z t => va_P D vwCl [(h0, .inr (5, [.ref a1, .ref a2, .ref a8, .ref a4, .ref (z.1 0), .ref (z.1 1), .ref (z.1 2), .ref (z.1 3), .ref (z.1 4), .int (0 : Int32), .int (0 : Int32), .int (0 : Int32), .int (0 : Int32), .long (1099511627776 : Int64)])), ((z.1 0), .inl ((z.2 0), 2000, .inr (.inl (fun _ => 0)))), ((z.1 1), .inl ((z.2 1), 60, .inl (fun _ => 0))), ((z.1 2), .inl ((z.2 2), 60, .inr (.inl (fun _ => 0)))), ((z.1 3), .inl ((z.2 3), 60, .inr (.inl (fun _ => 0)))), ((z.1 4), .inl ((z.2 4), 0, .inr (.inl (fun _ => 0))))] t.heap ∧ va_K D vwCl [((z.2 0), .long), ((z.2 1), .int), ((z.2 2), .long), ((z.2 3), .long), ((z.2 4), .long)] t ∧ va_D (va_A [(h0, .inr (5, [.null, .null, .null, .null, .null, .null, .null, .null, .null, .int 0, .int 0, .int 0, .int 0, .long 0]))] sz) [(h0, .inr (5, [.ref a1, .ref a2, .ref a8, .ref a4, .ref (z.1 0), .ref (z.1 1), .ref (z.1 2), .ref (z.1 3), .ref (z.1 4), .int (0 : Int32), .int (0 : Int32), .int (0 : Int32), .int (0 : Int32), .long (1099511627776 : Int64)])), ((z.1 0), .inl ((z.2 0), 2000, .inr (.inl (fun _ => 0)))), ((z.1 1), .inl ((z.2 1), 60, .inl (fun _ => 0))), ((z.1 2), .inl ((z.2 2), 60, .inr (.inl (fun _ => 0)))), ((z.1 3), .inl ((z.2 3), 60, .inr (.inl (fun _ => 0)))), ((z.1 4), .inl ((z.2 4), 0, .inr (.inl (fun _ => 0))))]) (va_A [(h0, .inr (5, [.null, .null, .null, .null, .null, .null, .null, .null, .null, .int 0, .int 0, .int 0, .int 0, .long 0]))] sz)) 5 2180 (va_A [(h0, .inr (5, [.null, .null, .null, .null, .null, .null, .null, .null, .null, .int 0, .int 0, .int 0, .int 0, .long 0]))] sz) := by
  refine Met.ofW (cc := cX5_init) (maxL := 5) (ret := none) (by decide) rfl ?_
  intro p e s m args below meth c s₁ B hml hv
  obtain ⟨rfl, hsz, hP, hK, hD0⟩ := hv
  have hx := B.exec
  have hb := B.bytes
  have hr := B.returns
  have hW : ∀ w ∈ WS, w.before _ s = true := fun w h => atoms_spec (ws := Cond.code yX5_init cX5_init 5 none :: WS) B.pre w (List.mem_cons_of_mem _ h)
  have hown : s.vm.findClass RX5 = some m.cls := findClass_of_methodNamed B.named
  have hlocks := B.notSynchronized
  have hin : meth.name = "<init>" := (name_of_methodNamed B.named B.method).1
  subst hsz
  have hD := hD0.self (sz := s.heap.size)
  generalize hAe : va_A [(h0, .inr (5, [.null, .null, .null, .null, .null, .null, .null, .null, .null, .int 0, .int 0, .int 0, .int 0, .long 0]))] s.heap.size = A at hD ⊢
  have hA : ∀ q : Nat, s.heap.size ≤ q → A q := fun q h => by rw [← hAe]; exact Or.inr h
  have hS : va_S A s.heap s.heap [] := va_S.rf
  have hl := lv_entry ([.ref h0, .ref a1, .ref a2, .ref a8, .ref a4]) (n := 5) (Nat.le_of_ble_eq_true rfl)
  rw [lg_entry_eq]
  generalize (lg_sl ([.ref h0, .ref a1, .ref a2, .ref a8, .ref a4]) ++ List.replicate (5 - (lg_sl ([.ref h0, .ref a1, .ref a2, .ref a8, .ref a4])).length) Slot.unset).toArray = ls at hl ⊢
  have hl : lv_has ls 5 [(0, .ref h0), (1, .ref a1), (2, .ref a2), (3, .ref a8), (4, .ref a4)] := hl
  refine lv_aload_n hx hb dX5_init_0 rfl (lv_at hl 0 rfl) ?_
  refine W.objInit hx hb hown (hW _ kmX5_3) (hW _ ki_obj) (hW _ kk_obj) rfl (by rw [hml]; exact hl.1) rfl dX5_init_1 (Nat.le_of_ble_eq_true rfl) (Nat.le_of_ble_eq_true rfl) ?_
  refine W.eq (g2 := F0 m 4 ls []) rfl ?_
  refine lv_aload_n hx hb dX5_init_4 rfl (lv_at hl 0 rfl) ?_
  refine lv_sipush (v := (2000 : Int32)) hx hb dX5_init_5 (by decide) ?_
  refine va_newa (N' := 2000) (a0 := (2000, .inr (.inl (fun _ => 0)))) (atype := .long) hx hb (hW _ ka_long) rfl hK hP hD hS hA (nw_long _) ((⟨by decide +kernel, by decide +kernel⟩ : ¬ (2000 : Int32) < 0 ∧ (2000 : Int32).toNatClampNeg = 2000)).1 ((⟨by decide +kernel, by decide +kernel⟩ : ¬ (2000 : Int32) < 0 ∧ (2000 : Int32).toNatClampNeg = 2000)).2 (by show 2000 * 8 ≤ 536870912; omega) (Nat.le_of_ble_eq_true rfl) (by show 0 + 2000 ≤ 2180; omega) dX5_init_8 (fun q1 cy1 H hK hP hD hS => ?_)
  have hP : va_P D vwCl [(h0, .inr (5, [.null, .null, .null, .null, .null, .null, .null, .null, .null, .int 0, .int 0, .int 0, .int 0, .long 0])), (q1, .inl (cy1, 2000, .inr (.inl (fun _ => 0))))] H := hP
  have hD : va_D A [(h0, .inr (5, [.null, .null, .null, .null, .null, .null, .null, .null, .null, .int 0, .int 0, .int 0, .int 0, .long 0])), (q1, .inl (cy1, 2000, .inr (.inl (fun _ => 0))))] := hD
  have hK : va_K D vwCl [(cy1, .long)] s := hK
  refine W.widen (k := 1) (n := 2000) (by omega) (by omega) ?_
  refine va_putF (D := D) (ci := 5) (v := .ref q1) (ty := .array .long) (C := RX5) (T := TX5) (N := 14) hx hb hW kl_X5 tyX5 tyX5_ok nmX5 hown hK hP hD hS 0 rfl rfl 4 (by decide) (hW _ kfX5_9) (fun _ h9 => h9) rfl hin rfl (by decide +kernel) rfl rfl (Nat.le_of_ble_eq_true rfl) dX5_init_10 (fun H locs hP hD hS => ?_)
  have hP : va_P D vwCl [(h0, .inr (5, [.null, .null, .null, .null, .ref q1, .null, .null, .null, .null, .int 0, .int 0, .int 0, .int 0, .long 0])), (q1, .inl (cy1, 2000, .inr (.inl (fun _ => 0))))] H := hP
  have hD : va_D A [(h0, .inr (5, [.null, .null, .null, .null, .ref q1, .null, .null, .null, .null, .int 0, .int 0, .int 0, .int 0, .long 0])), (q1, .inl (cy1, 2000, .inr (.inl (fun _ => 0))))] := hD
  refine lv_aload_n hx hb dX5_init_13 rfl (lv_at hl 0 rfl) ?_
  refine lv_bipush (v := (60 : Int32)) hx hb dX5_init_14 (by decide) ?_
  refine va_newa (N' := 60) (a0 := (60, .inl (fun _ => 0))) (atype := .int) hx hb (hW _ ka_int) rfl hK hP hD hS hA (nw_int _) ((⟨by decide +kernel, by decide +kernel⟩ : ¬ (60 : Int32) < 0 ∧ (60 : Int32).toNatClampNeg = 60)).1 ((⟨by decide +kernel, by decide +kernel⟩ : ¬ (60 : Int32) < 0 ∧ (60 : Int32).toNatClampNeg = 60)).2 (by show 60 * 4 ≤ 536870912; omega) (Nat.le_of_ble_eq_true rfl) (by show 2000 + 60 ≤ 2180; omega) dX5_init_16 (fun q2 cy2 H hK hP hD hS => ?_)
  have hP : va_P D vwCl [(h0, .inr (5, [.null, .null, .null, .null, .ref q1, .null, .null, .null, .null, .int 0, .int 0, .int 0, .int 0, .long 0])), (q1, .inl (cy1, 2000, .inr (.inl (fun _ => 0)))), (q2, .inl (cy2, 60, .inl (fun _ => 0)))] H := hP
  have hD : va_D A [(h0, .inr (5, [.null, .null, .null, .null, .ref q1, .null, .null, .null, .null, .int 0, .int 0, .int 0, .int 0, .long 0])), (q1, .inl (cy1, 2000, .inr (.inl (fun _ => 0)))), (q2, .inl (cy2, 60, .inl (fun _ => 0)))] := hD
  have hK : va_K D vwCl [(cy1, .long), (cy2, .int)] s := hK
  refine W.widen (k := 2) (n := 2060) (by omega) (by omega) ?_
  refine va_putF (D := D) (ci := 5) (v := .ref q2) (ty := .array .int) (C := RX5) (T := TX5) (N := 14) hx hb hW kl_X5 tyX5 tyX5_ok nmX5 hown hK hP hD hS 0 rfl rfl 5 (by decide) (hW _ kfX5_15) (fun _ h9 => h9) rfl hin rfl (by decide +kernel) rfl rfl (Nat.le_of_ble_eq_true rfl) dX5_init_18 (fun H locs hP hD hS => ?_)
  have hP : va_P D vwCl [(h0, .inr (5, [.null, .null, .null, .null, .ref q1, .ref q2, .null, .null, .null, .int 0, .int 0, .int 0, .int 0, .long 0])), (q1, .inl (cy1, 2000, .inr (.inl (fun _ => 0)))), (q2, .inl (cy2, 60, .inl (fun _ => 0)))] H := hP
  have hD : va_D A [(h0, .inr (5, [.null, .null, .null, .null, .ref q1, .ref q2, .null, .null, .null, .int 0, .int 0, .int 0, .int 0, .long 0])), (q1, .inl (cy1, 2000, .inr (.inl (fun _ => 0)))), (q2, .inl (cy2, 60, .inl (fun _ => 0)))] := hD
  refine lv_aload_n hx hb dX5_init_21 rfl (lv_at hl 0 rfl) ?_
  refine lv_bipush (v := (60 : Int32)) hx hb dX5_init_22 (by decide) ?_
  refine va_newa (N' := 60) (a0 := (60, .inr (.inl (fun _ => 0)))) (atype := .long) hx hb (hW _ ka_long) rfl hK hP hD hS hA (nw_long _) ((⟨by decide +kernel, by decide +kernel⟩ : ¬ (60 : Int32) < 0 ∧ (60 : Int32).toNatClampNeg = 60)).1 ((⟨by decide +kernel, by decide +kernel⟩ : ¬ (60 : Int32) < 0 ∧ (60 : Int32).toNatClampNeg = 60)).2 (by show 60 * 8 ≤ 536870912; omega) (Nat.le_of_ble_eq_true rfl) (by show 2060 + 60 ≤ 2180; omega) dX5_init_24 (fun q3 cy3 H hK hP hD hS => ?_)
  have hP : va_P D vwCl [(h0, .inr (5, [.null, .null, .null, .null, .ref q1, .ref q2, .null, .null, .null, .int 0, .int 0, .int 0, .int 0, .long 0])), (q1, .inl (cy1, 2000, .inr (.inl (fun _ => 0)))), (q2, .inl (cy2, 60, .inl (fun _ => 0))), (q3, .inl (cy3, 60, .inr (.inl (fun _ => 0))))] H := hP
  have hD : va_D A [(h0, .inr (5, [.null, .null, .null, .null, .ref q1, .ref q2, .null, .null, .null, .int 0, .int 0, .int 0, .int 0, .long 0])), (q1, .inl (cy1, 2000, .inr (.inl (fun _ => 0)))), (q2, .inl (cy2, 60, .inl (fun _ => 0))), (q3, .inl (cy3, 60, .inr (.inl (fun _ => 0))))] := hD
  have hK : va_K D vwCl [(cy1, .long), (cy2, .int), (cy3, .long)] s := hK
  refine W.widen (k := 3) (n := 2120) (by omega) (by omega) ?_
  refine va_putF (D := D) (ci := 5) (v := .ref q3) (ty := .array .long) (C := RX5) (T := TX5) (N := 14) hx hb hW kl_X5 tyX5 tyX5_ok nmX5 hown hK hP hD hS 0 rfl rfl 6 (by decide) (hW _ kfX5_19) (fun _ h9 => h9) rfl hin rfl (by decide +kernel) rfl rfl (Nat.le_of_ble_eq_true rfl) dX5_init_26 (fun H locs hP hD hS => ?_)
  have hP : va_P D vwCl [(h0, .inr (5, [.null, .null, .null, .null, .ref q1, .ref q2, .ref q3, .null, .null, .int 0, .int 0, .int 0, .int 0, .long 0])), (q1, .inl (cy1, 2000, .inr (.inl (fun _ => 0)))), (q2, .inl (cy2, 60, .inl (fun _ => 0))), (q3, .inl (cy3, 60, .inr (.inl (fun _ => 0))))] H := hP
  have hD : va_D A [(h0, .inr (5, [.null, .null, .null, .null, .ref q1, .ref q2, .ref q3, .null, .null, .int 0, .int 0, .int 0, .int 0, .long 0])), (q1, .inl (cy1, 2000, .inr (.inl (fun _ => 0)))), (q2, .inl (cy2, 60, .inl (fun _ => 0))), (q3, .inl (cy3, 60, .inr (.inl (fun _ => 0))))] := hD
  refine lv_aload_n hx hb dX5_init_29 rfl (lv_at hl 0 rfl) ?_
  refine lv_bipush (v := (60 : Int32)) hx hb dX5_init_30 (by decide) ?_
  refine va_newa (N' := 60) (a0 := (60, .inr (.inl (fun _ => 0)))) (atype := .long) hx hb (hW _ ka_long) rfl hK hP hD hS hA (nw_long _) ((⟨by decide +kernel, by decide +kernel⟩ : ¬ (60 : Int32) < 0 ∧ (60 : Int32).toNatClampNeg = 60)).1 ((⟨by decide +kernel, by decide +kernel⟩ : ¬ (60 : Int32) < 0 ∧ (60 : Int32).toNatClampNeg = 60)).2 (by show 60 * 8 ≤ 536870912; omega) (Nat.le_of_ble_eq_true rfl) (by show 2120 + 60 ≤ 2180; omega) dX5_init_32 (fun q4 cy4 H hK hP hD hS => ?_)
  have hP : va_P D vwCl [(h0, .inr (5, [.null, .null, .null, .null, .ref q1, .ref q2, .ref q3, .null, .null, .int 0, .int 0, .int 0, .int 0, .long 0])), (q1, .inl (cy1, 2000, .inr (.inl (fun _ => 0)))), (q2, .inl (cy2, 60, .inl (fun _ => 0))), (q3, .inl (cy3, 60, .inr (.inl (fun _ => 0)))), (q4, .inl (cy4, 60, .inr (.inl (fun _ => 0))))] H := hP
  have hD : va_D A [(h0, .inr (5, [.null, .null, .null, .null, .ref q1, .ref q2, .ref q3, .null, .null, .int 0, .int 0, .int 0, .int 0, .long 0])), (q1, .inl (cy1, 2000, .inr (.inl (fun _ => 0)))), (q2, .inl (cy2, 60, .inl (fun _ => 0))), (q3, .inl (cy3, 60, .inr (.inl (fun _ => 0)))), (q4, .inl (cy4, 60, .inr (.inl (fun _ => 0))))] := hD
  have hK : va_K D vwCl [(cy1, .long), (cy2, .int), (cy3, .long), (cy4, .long)] s := hK
  refine W.widen (k := 4) (n := 2180) (by omega) (by omega) ?_
  refine va_putF (D := D) (ci := 5) (v := .ref q4) (ty := .array .long) (C := RX5) (T := TX5) (N := 14) hx hb hW kl_X5 tyX5 tyX5_ok nmX5 hown hK hP hD hS 0 rfl rfl 7 (by decide) (hW _ kfX5_22) (fun _ h9 => h9) rfl hin rfl (by decide +kernel) rfl rfl (Nat.le_of_ble_eq_true rfl) dX5_init_34 (fun H locs hP hD hS => ?_)
  have hP : va_P D vwCl [(h0, .inr (5, [.null, .null, .null, .null, .ref q1, .ref q2, .ref q3, .ref q4, .null, .int 0, .int 0, .int 0, .int 0, .long 0])), (q1, .inl (cy1, 2000, .inr (.inl (fun _ => 0)))), (q2, .inl (cy2, 60, .inl (fun _ => 0))), (q3, .inl (cy3, 60, .inr (.inl (fun _ => 0)))), (q4, .inl (cy4, 60, .inr (.inl (fun _ => 0))))] H := hP
  have hD : va_D A [(h0, .inr (5, [.null, .null, .null, .null, .ref q1, .ref q2, .ref q3, .ref q4, .null, .int 0, .int 0, .int 0, .int 0, .long 0])), (q1, .inl (cy1, 2000, .inr (.inl (fun _ => 0)))), (q2, .inl (cy2, 60, .inl (fun _ => 0))), (q3, .inl (cy3, 60, .inr (.inl (fun _ => 0)))), (q4, .inl (cy4, 60, .inr (.inl (fun _ => 0))))] := hD
  refine lv_aload_n hx hb dX5_init_37 rfl (lv_at hl 0 rfl) ?_
  refine lv_iconst (v := (0 : Int32)) hx hb dX5_init_38 (by decide) ?_
  refine va_newa (N' := 0) (a0 := (0, .inr (.inl (fun _ => 0)))) (atype := .long) hx hb (hW _ ka_long) rfl hK hP hD hS hA (nw_long _) ((⟨by decide +kernel, by decide +kernel⟩ : ¬ (0 : Int32) < 0 ∧ (0 : Int32).toNatClampNeg = 0)).1 ((⟨by decide +kernel, by decide +kernel⟩ : ¬ (0 : Int32) < 0 ∧ (0 : Int32).toNatClampNeg = 0)).2 (by show 0 * 8 ≤ 536870912; omega) (Nat.le_of_ble_eq_true rfl) (by show 2180 + 0 ≤ 2180; omega) dX5_init_39 (fun q5 cy5 H hK hP hD hS => ?_)
  have hP : va_P D vwCl [(h0, .inr (5, [.null, .null, .null, .null, .ref q1, .ref q2, .ref q3, .ref q4, .null, .int 0, .int 0, .int 0, .int 0, .long 0])), (q1, .inl (cy1, 2000, .inr (.inl (fun _ => 0)))), (q2, .inl (cy2, 60, .inl (fun _ => 0))), (q3, .inl (cy3, 60, .inr (.inl (fun _ => 0)))), (q4, .inl (cy4, 60, .inr (.inl (fun _ => 0)))), (q5, .inl (cy5, 0, .inr (.inl (fun _ => 0))))] H := hP
  have hD : va_D A [(h0, .inr (5, [.null, .null, .null, .null, .ref q1, .ref q2, .ref q3, .ref q4, .null, .int 0, .int 0, .int 0, .int 0, .long 0])), (q1, .inl (cy1, 2000, .inr (.inl (fun _ => 0)))), (q2, .inl (cy2, 60, .inl (fun _ => 0))), (q3, .inl (cy3, 60, .inr (.inl (fun _ => 0)))), (q4, .inl (cy4, 60, .inr (.inl (fun _ => 0)))), (q5, .inl (cy5, 0, .inr (.inl (fun _ => 0))))] := hD
  have hK : va_K D vwCl [(cy1, .long), (cy2, .int), (cy3, .long), (cy4, .long), (cy5, .long)] s := hK
  refine W.widen (k := 5) (n := 2180) (by omega) (by omega) ?_
  refine va_putF (D := D) (ci := 5) (v := .ref q5) (ty := .array .long) (C := RX5) (T := TX5) (N := 14) hx hb hW kl_X5 tyX5 tyX5_ok nmX5 hown hK hP hD hS 0 rfl rfl 8 (by decide) (hW _ kfX5_25) (fun _ h9 => h9) rfl hin rfl (by decide +kernel) rfl rfl (Nat.le_of_ble_eq_true rfl) dX5_init_41 (fun H locs hP hD hS => ?_)
  have hP : va_P D vwCl [(h0, .inr (5, [.null, .null, .null, .null, .ref q1, .ref q2, .ref q3, .ref q4, .ref q5, .int 0, .int 0, .int 0, .int 0, .long 0])), (q1, .inl (cy1, 2000, .inr (.inl (fun _ => 0)))), (q2, .inl (cy2, 60, .inl (fun _ => 0))), (q3, .inl (cy3, 60, .inr (.inl (fun _ => 0)))), (q4, .inl (cy4, 60, .inr (.inl (fun _ => 0)))), (q5, .inl (cy5, 0, .inr (.inl (fun _ => 0))))] H := hP
  have hD : va_D A [(h0, .inr (5, [.null, .null, .null, .null, .ref q1, .ref q2, .ref q3, .ref q4, .ref q5, .int 0, .int 0, .int 0, .int 0, .long 0])), (q1, .inl (cy1, 2000, .inr (.inl (fun _ => 0)))), (q2, .inl (cy2, 60, .inl (fun _ => 0))), (q3, .inl (cy3, 60, .inr (.inl (fun _ => 0)))), (q4, .inl (cy4, 60, .inr (.inl (fun _ => 0)))), (q5, .inl (cy5, 0, .inr (.inl (fun _ => 0))))] := hD
  refine lv_aload_n hx hb dX5_init_44 rfl (lv_at hl 0 rfl) ?_
  refine lv_iconst (v := (0 : Int32)) hx hb dX5_init_45 (by decide) ?_
  refine va_put (D := D) (ci := 5) (v := .int (0 : Int32)) (ty := .int) (C := RX5) (T := TX5) (N := 14) hx hb hW kl_X5 tyX5 tyX5_ok nmX5 hown hK hP hD hS 0 rfl rfl 9 (by decide) (hW _ kfX5_28) (fun _ h9 => h9) rfl (by decide +kernel) rfl rfl (Nat.le_of_ble_eq_true rfl) dX5_init_46 (fun H locs hP hD hS => ?_)
  have hP : va_P D vwCl [(h0, .inr (5, [.null, .null, .null, .null, .ref q1, .ref q2, .ref q3, .ref q4, .ref q5, .int (0 : Int32), .int 0, .int 0, .int 0, .long 0])), (q1, .inl (cy1, 2000, .inr (.inl (fun _ => 0)))), (q2, .inl (cy2, 60, .inl (fun _ => 0))), (q3, .inl (cy3, 60, .inr (.inl (fun _ => 0)))), (q4, .inl (cy4, 60, .inr (.inl (fun _ => 0)))), (q5, .inl (cy5, 0, .inr (.inl (fun _ => 0))))] H := hP
  have hD : va_D A [(h0, .inr (5, [.null, .null, .null, .null, .ref q1, .ref q2, .ref q3, .ref q4, .ref q5, .int (0 : Int32), .int 0, .int 0, .int 0, .long 0])), (q1, .inl (cy1, 2000, .inr (.inl (fun _ => 0)))), (q2, .inl (cy2, 60, .inl (fun _ => 0))), (q3, .inl (cy3, 60, .inr (.inl (fun _ => 0)))), (q4, .inl (cy4, 60, .inr (.inl (fun _ => 0)))), (q5, .inl (cy5, 0, .inr (.inl (fun _ => 0))))] := hD
  refine lv_aload_n hx hb dX5_init_49 rfl (lv_at hl 0 rfl) ?_
  refine lv_iconst (v := (0 : Int32)) hx hb dX5_init_50 (by decide) ?_
  refine va_put (D := D) (ci := 5) (v := .int (0 : Int32)) (ty := .int) (C := RX5) (T := TX5) (N := 14) hx hb hW kl_X5 tyX5 tyX5_ok nmX5 hown hK hP hD hS 0 rfl rfl 10 (by decide) (hW _ kfX5_32) (fun _ h9 => h9) rfl (by decide +kernel) rfl rfl (Nat.le_of_ble_eq_true rfl) dX5_init_51 (fun H locs hP hD hS => ?_)
  have hP : va_P D vwCl [(h0, .inr (5, [.null, .null, .null, .null, .ref q1, .ref q2, .ref q3, .ref q4, .ref q5, .int (0 : Int32), .int (0 : Int32), .int 0, .int 0, .long 0])), (q1, .inl (cy1, 2000, .inr (.inl (fun _ => 0)))), (q2, .inl (cy2, 60, .inl (fun _ => 0))), (q3, .inl (cy3, 60, .inr (.inl (fun _ => 0)))), (q4, .inl (cy4, 60, .inr (.inl (fun _ => 0)))), (q5, .inl (cy5, 0, .inr (.inl (fun _ => 0))))] H := hP
  have hD : va_D A [(h0, .inr (5, [.null, .null, .null, .null, .ref q1, .ref q2, .ref q3, .ref q4, .ref q5, .int (0 : Int32), .int (0 : Int32), .int 0, .int 0, .long 0])), (q1, .inl (cy1, 2000, .inr (.inl (fun _ => 0)))), (q2, .inl (cy2, 60, .inl (fun _ => 0))), (q3, .inl (cy3, 60, .inr (.inl (fun _ => 0)))), (q4, .inl (cy4, 60, .inr (.inl (fun _ => 0)))), (q5, .inl (cy5, 0, .inr (.inl (fun _ => 0))))] := hD
  refine lv_aload_n hx hb dX5_init_54 rfl (lv_at hl 0 rfl) ?_
  refine lv_iconst (v := (0 : Int32)) hx hb dX5_init_55 (by decide) ?_
  refine va_put (D := D) (ci := 5) (v := .int (0 : Int32)) (ty := .int) (C := RX5) (T := TX5) (N := 14) hx hb hW kl_X5 tyX5 tyX5_ok nmX5 hown hK hP hD hS 0 rfl rfl 11 (by decide) (hW _ kfX5_35) (fun _ h9 => h9) rfl (by decide +kernel) rfl rfl (Nat.le_of_ble_eq_true rfl) dX5_init_56 (fun H locs hP hD hS => ?_)
  have hP : va_P D vwCl [(h0, .inr (5, [.null, .null, .null, .null, .ref q1, .ref q2, .ref q3, .ref q4, .ref q5, .int (0 : Int32), .int (0 : Int32), .int (0 : Int32), .int 0, .long 0])), (q1, .inl (cy1, 2000, .inr (.inl (fun _ => 0)))), (q2, .inl (cy2, 60, .inl (fun _ => 0))), (q3, .inl (cy3, 60, .inr (.inl (fun _ => 0)))), (q4, .inl (cy4, 60, .inr (.inl (fun _ => 0)))), (q5, .inl (cy5, 0, .inr (.inl (fun _ => 0))))] H := hP
  have hD : va_D A [(h0, .inr (5, [.null, .null, .null, .null, .ref q1, .ref q2, .ref q3, .ref q4, .ref q5, .int (0 : Int32), .int (0 : Int32), .int (0 : Int32), .int 0, .long 0])), (q1, .inl (cy1, 2000, .inr (.inl (fun _ => 0)))), (q2, .inl (cy2, 60, .inl (fun _ => 0))), (q3, .inl (cy3, 60, .inr (.inl (fun _ => 0)))), (q4, .inl (cy4, 60, .inr (.inl (fun _ => 0)))), (q5, .inl (cy5, 0, .inr (.inl (fun _ => 0))))] := hD
  refine lv_aload_n hx hb dX5_init_59 rfl (lv_at hl 0 rfl) ?_
  refine lv_iconst (v := (0 : Int32)) hx hb dX5_init_60 (by decide) ?_
  refine va_put (D := D) (ci := 5) (v := .int (0 : Int32)) (ty := .int) (C := RX5) (T := TX5) (N := 14) hx hb hW kl_X5 tyX5 tyX5_ok nmX5 hown hK hP hD hS 0 rfl rfl 12 (by decide) (hW _ kfX5_38) (fun _ h9 => h9) rfl (by decide +kernel) rfl rfl (Nat.le_of_ble_eq_true rfl) dX5_init_61 (fun H locs hP hD hS => ?_)
  have hP : va_P D vwCl [(h0, .inr (5, [.null, .null, .null, .null, .ref q1, .ref q2, .ref q3, .ref q4, .ref q5, .int (0 : Int32), .int (0 : Int32), .int (0 : Int32), .int (0 : Int32), .long 0])), (q1, .inl (cy1, 2000, .inr (.inl (fun _ => 0)))), (q2, .inl (cy2, 60, .inl (fun _ => 0))), (q3, .inl (cy3, 60, .inr (.inl (fun _ => 0)))), (q4, .inl (cy4, 60, .inr (.inl (fun _ => 0)))), (q5, .inl (cy5, 0, .inr (.inl (fun _ => 0))))] H := hP
  have hD : va_D A [(h0, .inr (5, [.null, .null, .null, .null, .ref q1, .ref q2, .ref q3, .ref q4, .ref q5, .int (0 : Int32), .int (0 : Int32), .int (0 : Int32), .int (0 : Int32), .long 0])), (q1, .inl (cy1, 2000, .inr (.inl (fun _ => 0)))), (q2, .inl (cy2, 60, .inl (fun _ => 0))), (q3, .inl (cy3, 60, .inr (.inl (fun _ => 0)))), (q4, .inl (cy4, 60, .inr (.inl (fun _ => 0)))), (q5, .inl (cy5, 0, .inr (.inl (fun _ => 0))))] := hD
  refine lv_aload_n hx hb dX5_init_64 rfl (lv_at hl 0 rfl) ?_
  refine lv_ldc2 (v := (1099511627776 : Int64)) hx hb hown (hW _ kcX5_41) dX5_init_65 ?_
  refine va_put (D := D) (ci := 5) (v := .long (1099511627776 : Int64)) (ty := .long) (C := RX5) (T := TX5) (N := 14) hx hb hW kl_X5 tyX5 tyX5_ok nmX5 hown hK hP hD hS 0 rfl rfl 13 (by decide) (hW _ kfX5_43) (fun _ h9 => h9) rfl (by decide +kernel) rfl rfl (Nat.le_of_ble_eq_true rfl) dX5_init_68 (fun H locs hP hD hS => ?_)
  have hP : va_P D vwCl [(h0, .inr (5, [.null, .null, .null, .null, .ref q1, .ref q2, .ref q3, .ref q4, .ref q5, .int (0 : Int32), .int (0 : Int32), .int (0 : Int32), .int (0 : Int32), .long (1099511627776 : Int64)])), (q1, .inl (cy1, 2000, .inr (.inl (fun _ => 0)))), (q2, .inl (cy2, 60, .inl (fun _ => 0))), (q3, .inl (cy3, 60, .inr (.inl (fun _ => 0)))), (q4, .inl (cy4, 60, .inr (.inl (fun _ => 0)))), (q5, .inl (cy5, 0, .inr (.inl (fun _ => 0))))] H := hP
  have hD : va_D A [(h0, .inr (5, [.null, .null, .null, .null, .ref q1, .ref q2, .ref q3, .ref q4, .ref q5, .int (0 : Int32), .int (0 : Int32), .int (0 : Int32), .int (0 : Int32), .long (1099511627776 : Int64)])), (q1, .inl (cy1, 2000, .inr (.inl (fun _ => 0)))), (q2, .inl (cy2, 60, .inl (fun _ => 0))), (q3, .inl (cy3, 60, .inr (.inl (fun _ => 0)))), (q4, .inl (cy4, 60, .inr (.inl (fun _ => 0)))), (q5, .inl (cy5, 0, .inr (.inl (fun _ => 0))))] := hD
  refine lv_aload_n hx hb dX5_init_71 rfl (lv_at hl 0 rfl) ?_
  refine lv_aload_n hx hb dX5_init_72 rfl (lv_at hl 1 rfl) ?_
  refine va_putF (D := D) (ci := 5) (v := .ref a1) (ty := .object "ConsHouse$Text") (C := RX5) (T := TX5) (N := 14) hx hb hW kl_X5 tyX5 tyX5_ok nmX5 hown hK hP hD hS 0 rfl rfl 0 (by decide) (hW _ kfX5_47) (fun _ h9 => h9) rfl hin rfl (by decide +kernel) rfl rfl (Nat.le_of_ble_eq_true rfl) dX5_init_73 (fun H locs hP hD hS => ?_)
  have hP : va_P D vwCl [(h0, .inr (5, [.ref a1, .null, .null, .null, .ref q1, .ref q2, .ref q3, .ref q4, .ref q5, .int (0 : Int32), .int (0 : Int32), .int (0 : Int32), .int (0 : Int32), .long (1099511627776 : Int64)])), (q1, .inl (cy1, 2000, .inr (.inl (fun _ => 0)))), (q2, .inl (cy2, 60, .inl (fun _ => 0))), (q3, .inl (cy3, 60, .inr (.inl (fun _ => 0)))), (q4, .inl (cy4, 60, .inr (.inl (fun _ => 0)))), (q5, .inl (cy5, 0, .inr (.inl (fun _ => 0))))] H := hP
  have hD : va_D A [(h0, .inr (5, [.ref a1, .null, .null, .null, .ref q1, .ref q2, .ref q3, .ref q4, .ref q5, .int (0 : Int32), .int (0 : Int32), .int (0 : Int32), .int (0 : Int32), .long (1099511627776 : Int64)])), (q1, .inl (cy1, 2000, .inr (.inl (fun _ => 0)))), (q2, .inl (cy2, 60, .inl (fun _ => 0))), (q3, .inl (cy3, 60, .inr (.inl (fun _ => 0)))), (q4, .inl (cy4, 60, .inr (.inl (fun _ => 0)))), (q5, .inl (cy5, 0, .inr (.inl (fun _ => 0))))] := hD
  refine lv_aload_n hx hb dX5_init_76 rfl (lv_at hl 0 rfl) ?_
  refine lv_aload_n hx hb dX5_init_77 rfl (lv_at hl 2 rfl) ?_
  refine va_putF (D := D) (ci := 5) (v := .ref a2) (ty := .object "ConsHouse$Names") (C := RX5) (T := TX5) (N := 14) hx hb hW kl_X5 tyX5 tyX5_ok nmX5 hown hK hP hD hS 0 rfl rfl 1 (by decide) (hW _ kfX5_51) (fun _ h9 => h9) rfl hin rfl (by decide +kernel) rfl rfl (Nat.le_of_ble_eq_true rfl) dX5_init_78 (fun H locs hP hD hS => ?_)
  have hP : va_P D vwCl [(h0, .inr (5, [.ref a1, .ref a2, .null, .null, .ref q1, .ref q2, .ref q3, .ref q4, .ref q5, .int (0 : Int32), .int (0 : Int32), .int (0 : Int32), .int (0 : Int32), .long (1099511627776 : Int64)])), (q1, .inl (cy1, 2000, .inr (.inl (fun _ => 0)))), (q2, .inl (cy2, 60, .inl (fun _ => 0))), (q3, .inl (cy3, 60, .inr (.inl (fun _ => 0)))), (q4, .inl (cy4, 60, .inr (.inl (fun _ => 0)))), (q5, .inl (cy5, 0, .inr (.inl (fun _ => 0))))] H := hP
  have hD : va_D A [(h0, .inr (5, [.ref a1, .ref a2, .null, .null, .ref q1, .ref q2, .ref q3, .ref q4, .ref q5, .int (0 : Int32), .int (0 : Int32), .int (0 : Int32), .int (0 : Int32), .long (1099511627776 : Int64)])), (q1, .inl (cy1, 2000, .inr (.inl (fun _ => 0)))), (q2, .inl (cy2, 60, .inl (fun _ => 0))), (q3, .inl (cy3, 60, .inr (.inl (fun _ => 0)))), (q4, .inl (cy4, 60, .inr (.inl (fun _ => 0)))), (q5, .inl (cy5, 0, .inr (.inl (fun _ => 0))))] := hD
  refine lv_aload_n hx hb dX5_init_81 rfl (lv_at hl 0 rfl) ?_
  refine lv_aload_n hx hb dX5_init_82 rfl (lv_at hl 3 rfl) ?_
  refine va_putF (D := D) (ci := 5) (v := .ref a8) (ty := .object "ConsHouse$Heap") (C := RX5) (T := TX5) (N := 14) hx hb hW kl_X5 tyX5 tyX5_ok nmX5 hown hK hP hD hS 0 rfl rfl 2 (by decide) (hW _ kfX5_55) (fun _ h9 => h9) rfl hin rfl (by decide +kernel) rfl rfl (Nat.le_of_ble_eq_true rfl) dX5_init_83 (fun H locs hP hD hS => ?_)
  have hP : va_P D vwCl [(h0, .inr (5, [.ref a1, .ref a2, .ref a8, .null, .ref q1, .ref q2, .ref q3, .ref q4, .ref q5, .int (0 : Int32), .int (0 : Int32), .int (0 : Int32), .int (0 : Int32), .long (1099511627776 : Int64)])), (q1, .inl (cy1, 2000, .inr (.inl (fun _ => 0)))), (q2, .inl (cy2, 60, .inl (fun _ => 0))), (q3, .inl (cy3, 60, .inr (.inl (fun _ => 0)))), (q4, .inl (cy4, 60, .inr (.inl (fun _ => 0)))), (q5, .inl (cy5, 0, .inr (.inl (fun _ => 0))))] H := hP
  have hD : va_D A [(h0, .inr (5, [.ref a1, .ref a2, .ref a8, .null, .ref q1, .ref q2, .ref q3, .ref q4, .ref q5, .int (0 : Int32), .int (0 : Int32), .int (0 : Int32), .int (0 : Int32), .long (1099511627776 : Int64)])), (q1, .inl (cy1, 2000, .inr (.inl (fun _ => 0)))), (q2, .inl (cy2, 60, .inl (fun _ => 0))), (q3, .inl (cy3, 60, .inr (.inl (fun _ => 0)))), (q4, .inl (cy4, 60, .inr (.inl (fun _ => 0)))), (q5, .inl (cy5, 0, .inr (.inl (fun _ => 0))))] := hD
  refine lv_aload_n hx hb dX5_init_86 rfl (lv_at hl 0 rfl) ?_
  refine lv_aload hx hb dX5_init_87 (lv_at hl 4 rfl) ?_
  refine va_putF (D := D) (ci := 5) (v := .ref a4) (ty := .object "ConsHouse$Keeper") (C := RX5) (T := TX5) (N := 14) hx hb hW kl_X5 tyX5 tyX5_ok nmX5 hown hK hP hD hS 0 rfl rfl 3 (by decide) (hW _ kfX5_59) (fun _ h9 => h9) rfl hin rfl (by decide +kernel) rfl rfl (Nat.le_of_ble_eq_true rfl) dX5_init_89 (fun H locs hP hD hS => ?_)
  have hP : va_P D vwCl [(h0, .inr (5, [.ref a1, .ref a2, .ref a8, .ref a4, .ref q1, .ref q2, .ref q3, .ref q4, .ref q5, .int (0 : Int32), .int (0 : Int32), .int (0 : Int32), .int (0 : Int32), .long (1099511627776 : Int64)])), (q1, .inl (cy1, 2000, .inr (.inl (fun _ => 0)))), (q2, .inl (cy2, 60, .inl (fun _ => 0))), (q3, .inl (cy3, 60, .inr (.inl (fun _ => 0)))), (q4, .inl (cy4, 60, .inr (.inl (fun _ => 0)))), (q5, .inl (cy5, 0, .inr (.inl (fun _ => 0))))] H := hP
  have hD : va_D A [(h0, .inr (5, [.ref a1, .ref a2, .ref a8, .ref a4, .ref q1, .ref q2, .ref q3, .ref q4, .ref q5, .int (0 : Int32), .int (0 : Int32), .int (0 : Int32), .int (0 : Int32), .long (1099511627776 : Int64)])), (q1, .inl (cy1, 2000, .inr (.inl (fun _ => 0)))), (q2, .inl (cy2, 60, .inl (fun _ => 0))), (q3, .inl (cy3, 60, .inr (.inl (fun _ => 0)))), (q4, .inl (cy4, 60, .inr (.inl (fun _ => 0)))), (q5, .inl (cy5, 0, .inr (.inl (fun _ => 0))))] := hD
  exact W.vret hx hb hr (fun t ht hW => ⟨⟨((fun k => if k = 0 then q1 else if k = 1 then q2 else if k = 2 then q3 else if k = 3 then q4 else if k = 4 then q5 else 0), (fun k => if k = 0 then cy1 else if k = 1 then cy2 else if k = 2 then cy3 else if k = 3 then cy4 else if k = 4 then cy5 else 0)), rfl, trivial, by rw [ht]; exact hP, va_K.moved hW.alike hK, hD⟩, hS.F ht⟩) hS.2.2 dX5_init_92
abbrev rmi_X2 : Room := { frames := 1, cells := 1, slots := 8, locals := 20 }
set_option maxHeartbeats 4000000 in
set_option maxRecDepth 100000 in
theorem ti_X2 (l : Launch) (D : va_G) (h0 : Nat) (a8 a2 a3 a4 : Nat) (p5 : Int32)  (sz : Nat) : Met l yX2_init (Cond.code yX2_init cX2_init 6 none :: WS) rmi_X2 (va_Pc [.ref h0, .ref a8, .ref a2, .ref a3, .ref a4, .int p5] (fun U => U.heap.size = sz ∧ va_P D vwCl [(h0, .inr (2, [.null, .null, .null, .null, .int 0, .null, .int 0, .int 0, .int 0, .int 0, .long 0, .long 0, .long 0, .long 0, .long 0]))] U.heap ∧ va_K D vwCl [] U ∧ va_D (fun _ => True) [(h0, .inr (2, [.null, .null, .null, .null, .int 0, .null, .int 0, .int 0, .int 0, .int 0, .long 0, .long 0, .long 0, .long 0, .long 0]))])) (va_Qv (fun z : (Nat → Nat) × (Nat → ClassId) => True) (fun z t => va_P D vwCl [(h0, .inr (2, [.ref a8, .ref a2, .ref a3, .ref a4, .int p5, .ref (z.1 0), .int (0 : Int32), .int (0 : Int32), .int (4 : Int32), .int (0 : Int32), .long (1099511627776 : Int64), .long (1099511627776 : Int64), .long (1099511627776 : Int64), .long (1099511627776 : Int64), .long (1099511627776 : Int64)])), ((z.1 0), .inl ((z.2 0), 8, .inr (.inl (fun _ => 0))))] t.heap ∧ va_K D vwCl [((z.2 0), .long)] t ∧ va_D (va_A [(h0, .inr (2, [.null, .null, .null, .null, .int 0, .null, .int 0, .int 0, .int 0, .int 0, .long 0, .long 0, .long 0, .long 0, .long 0]))] sz) [(h0, .inr (2, [.ref a8, .ref a2, .ref a3, .ref a4, .int p5, .ref (z.1 0), .int (0 : Int32), .int (0 : Int32), .int (4 : Int32), .int (0 : Int32), .long (1099511627776 : Int64), .long (1099511627776 : Int64), .long (1099511627776 : Int64), .long (1099511627776 : Int64), .long (1099511627776 : Int64)])), ((z.1 0), .inl ((z.2 0), 8, .inr (.inl (fun _ => 0))))]) (va_A [(h0, .inr (2, [.null, .null, .null, .null, .int 0, .null, .int 0, .int 0, .int 0, .int 0, .long 0, .long 0, .long 0, .long 0, .long 0]))] sz)) 1 8 (va_A [(h0, .inr (2, [.null, .null, .null, .null, .int 0, .null, .int 0, .int 0, .int 0, .int 0, .long 0, .long 0, .long 0, .long 0, .long 0]))] sz) := by
  refine Met.ofW (cc := cX2_init) (maxL := 6) (ret := none) (by decide) rfl ?_
  intro p e s m args below meth c s₁ B hml hv
  obtain ⟨rfl, hsz, hP, hK, hD0⟩ := hv
  have hx := B.exec
  have hb := B.bytes
  have hr := B.returns
  have hW : ∀ w ∈ WS, w.before _ s = true := fun w h => atoms_spec (ws := Cond.code yX2_init cX2_init 6 none :: WS) B.pre w (List.mem_cons_of_mem _ h)
  have hown : s.vm.findClass RX2 = some m.cls := findClass_of_methodNamed B.named
  have hlocks := B.notSynchronized
  have hin : meth.name = "<init>" := (name_of_methodNamed B.named B.method).1
  subst hsz
  have hD := hD0.self (sz := s.heap.size)
  generalize hAe : va_A [(h0, .inr (2, [.null, .null, .null, .null, .int 0, .null, .int 0, .int 0, .int 0, .int 0, .long 0, .long 0, .long 0, .long 0, .long 0]))] s.heap.size = A at hD ⊢
  have hA : ∀ q : Nat, s.heap.size ≤ q → A q := fun q h => by rw [← hAe]; exact Or.inr h
  have hS : va_S A s.heap s.heap [] := va_S.rf
  have hl := lv_entry ([.ref h0, .ref a8, .ref a2, .ref a3, .ref a4, .int p5]) (n := 6) (Nat.le_of_ble_eq_true rfl)
  rw [lg_entry_eq]
  generalize (lg_sl ([.ref h0, .ref a8, .ref a2, .ref a3, .ref a4, .int p5]) ++ List.replicate (6 - (lg_sl ([.ref h0, .ref a8, .ref a2, .ref a3, .ref a4, .int p5])).length) Slot.unset).toArray = ls at hl ⊢
  have hl : lv_has ls 6 [(0, .ref h0), (1, .ref a8), (2, .ref a2), (3, .ref a3), (4, .ref a4), (5, .int p5)] := hl
  refine lv_aload_n hx hb dX2_init_0 rfl (lv_at hl 0 rfl) ?_
  refine W.objInit hx hb hown (hW _ kmX2_3) (hW _ ki_obj) (hW _ kk_obj) rfl (by rw [hml]; exact hl.1) rfl dX2_init_1 (Nat.le_of_ble_eq_true rfl) (Nat.le_of_ble_eq_true rfl) ?_
  refine W.eq (g2 := F0 m 4 ls []) rfl ?_
  refine lv_aload_n hx hb dX2_init_4 rfl (lv_at hl 0 rfl) ?_
  refine lv_bipush (v := (8 : Int32)) hx hb dX2_init_5 (by decide) ?_
  refine va_newa (N' := 8) (a0 := (8, .inr (.inl (fun _ => 0)))) (atype := .long) hx hb (hW _ ka_long) rfl hK hP hD hS hA (nw_long _) ((⟨by decide +kernel, by decide +kernel⟩ : ¬ (8 : Int32) < 0 ∧ (8 : Int32).toNatClampNeg = 8)).1 ((⟨by decide +kernel, by decide +kernel⟩ : ¬ (8 : Int32) < 0 ∧ (8 : Int32).toNatClampNeg = 8)).2 (by show 8 * 8 ≤ 536870912; omega) (Nat.le_of_ble_eq_true rfl) (by show 0 + 8 ≤ 8; omega) dX2_init_7 (fun q1 cy1 H hK hP hD hS => ?_)
  have hP : va_P D vwCl [(h0, .inr (2, [.null, .null, .null, .null, .int 0, .null, .int 0, .int 0, .int 0, .int 0, .long 0, .long 0, .long 0, .long 0, .long 0])), (q1, .inl (cy1, 8, .inr (.inl (fun _ => 0))))] H := hP
  have hD : va_D A [(h0, .inr (2, [.null, .null, .null, .null, .int 0, .null, .int 0, .int 0, .int 0, .int 0, .long 0, .long 0, .long 0, .long 0, .long 0])), (q1, .inl (cy1, 8, .inr (.inl (fun _ => 0))))] := hD
  have hK : va_K D vwCl [(cy1, .long)] s := hK
  refine W.widen (k := 1) (n := 8) (by omega) (by omega) ?_
  refine va_putF (D := D) (ci := 2) (v := .ref q1) (ty := .array .long) (C := RX2) (T := TX2) (N := 15) hx hb hW kl_X2 tyX2 tyX2_ok nmX2 hown hK hP hD hS 0 rfl rfl 5 (by decide) (hW _ kfX2_9) (fun _ h9 => h9) rfl hin rfl (by decide +kernel) rfl rfl (Nat.le_of_ble_eq_true rfl) dX2_init_9 (fun H locs hP hD hS => ?_)
  have hP : va_P D vwCl [(h0, .inr (2, [.null, .null, .null, .null, .int 0, .ref q1, .int 0, .int 0, .int 0, .int 0, .long 0, .long 0, .long 0, .long 0, .long 0])), (q1, .inl (cy1, 8, .inr (.inl (fun _ => 0))))] H := hP
  have hD : va_D A [(h0, .inr (2, [.null, .null, .null, .null, .int 0, .ref q1, .int 0, .int 0, .int 0, .int 0, .long 0, .long 0, .long 0, .long 0, .long 0])), (q1, .inl (cy1, 8, .inr (.inl (fun _ => 0))))] := hD
  refine lv_aload_n hx hb dX2_init_12 rfl (lv_at hl 0 rfl) ?_
  refine lv_iconst (v := (0 : Int32)) hx hb dX2_init_13 (by decide) ?_
  refine va_put (D := D) (ci := 2) (v := .int (0 : Int32)) (ty := .int) (C := RX2) (T := TX2) (N := 15) hx hb hW kl_X2 tyX2 tyX2_ok nmX2 hown hK hP hD hS 0 rfl rfl 6 (by decide) (hW _ kfX2_15) (fun _ h9 => h9) rfl (by decide +kernel) rfl rfl (Nat.le_of_ble_eq_true rfl) dX2_init_14 (fun H locs hP hD hS => ?_)
  have hP : va_P D vwCl [(h0, .inr (2, [.null, .null, .null, .null, .int 0, .ref q1, .int (0 : Int32), .int 0, .int 0, .int 0, .long 0, .long 0, .long 0, .long 0, .long 0])), (q1, .inl (cy1, 8, .inr (.inl (fun _ => 0))))] H := hP
  have hD : va_D A [(h0, .inr (2, [.null, .null, .null, .null, .int 0, .ref q1, .int (0 : Int32), .int 0, .int 0, .int 0, .long 0, .long 0, .long 0, .long 0, .long 0])), (q1, .inl (cy1, 8, .inr (.inl (fun _ => 0))))] := hD
  refine lv_aload_n hx hb dX2_init_17 rfl (lv_at hl 0 rfl) ?_
  refine lv_iconst (v := (0 : Int32)) hx hb dX2_init_18 (by decide) ?_
  refine va_put (D := D) (ci := 2) (v := .int (0 : Int32)) (ty := .int) (C := RX2) (T := TX2) (N := 15) hx hb hW kl_X2 tyX2 tyX2_ok nmX2 hown hK hP hD hS 0 rfl rfl 7 (by decide) (hW _ kfX2_19) (fun _ h9 => h9) rfl (by decide +kernel) rfl rfl (Nat.le_of_ble_eq_true rfl) dX2_init_19 (fun H locs hP hD hS => ?_)
  have hP : va_P D vwCl [(h0, .inr (2, [.null, .null, .null, .null, .int 0, .ref q1, .int (0 : Int32), .int (0 : Int32), .int 0, .int 0, .long 0, .long 0, .long 0, .long 0, .long 0])), (q1, .inl (cy1, 8, .inr (.inl (fun _ => 0))))] H := hP
  have hD : va_D A [(h0, .inr (2, [.null, .null, .null, .null, .int 0, .ref q1, .int (0 : Int32), .int (0 : Int32), .int 0, .int 0, .long 0, .long 0, .long 0, .long 0, .long 0])), (q1, .inl (cy1, 8, .inr (.inl (fun _ => 0))))] := hD
  refine lv_aload_n hx hb dX2_init_22 rfl (lv_at hl 0 rfl) ?_
  refine lv_iconst (v := (4 : Int32)) hx hb dX2_init_23 (by decide) ?_
  refine va_put (D := D) (ci := 2) (v := .int (4 : Int32)) (ty := .int) (C := RX2) (T := TX2) (N := 15) hx hb hW kl_X2 tyX2 tyX2_ok nmX2 hown hK hP hD hS 0 rfl rfl 8 (by decide) (hW _ kfX2_22) (fun _ h9 => h9) rfl (by decide +kernel) rfl rfl (Nat.le_of_ble_eq_true rfl) dX2_init_24 (fun H locs hP hD hS => ?_)
  have hP : va_P D vwCl [(h0, .inr (2, [.null, .null, .null, .null, .int 0, .ref q1, .int (0 : Int32), .int (0 : Int32), .int (4 : Int32), .int 0, .long 0, .long 0, .long 0, .long 0, .long 0])), (q1, .inl (cy1, 8, .inr (.inl (fun _ => 0))))] H := hP
  have hD : va_D A [(h0, .inr (2, [.null, .null, .null, .null, .int 0, .ref q1, .int (0 : Int32), .int (0 : Int32), .int (4 : Int32), .int 0, .long 0, .long 0, .long 0, .long 0, .long 0])), (q1, .inl (cy1, 8, .inr (.inl (fun _ => 0))))] := hD
  refine lv_aload_n hx hb dX2_init_27 rfl (lv_at hl 0 rfl) ?_
  refine lv_iconst (v := (0 : Int32)) hx hb dX2_init_28 (by decide) ?_
  refine va_put (D := D) (ci := 2) (v := .int (0 : Int32)) (ty := .int) (C := RX2) (T := TX2) (N := 15) hx hb hW kl_X2 tyX2 tyX2_ok nmX2 hown hK hP hD hS 0 rfl rfl 9 (by decide) (hW _ kfX2_25) (fun _ h9 => h9) rfl (by decide +kernel) rfl rfl (Nat.le_of_ble_eq_true rfl) dX2_init_29 (fun H locs hP hD hS => ?_)
  have hP : va_P D vwCl [(h0, .inr (2, [.null, .null, .null, .null, .int 0, .ref q1, .int (0 : Int32), .int (0 : Int32), .int (4 : Int32), .int (0 : Int32), .long 0, .long 0, .long 0, .long 0, .long 0])), (q1, .inl (cy1, 8, .inr (.inl (fun _ => 0))))] H := hP
  have hD : va_D A [(h0, .inr (2, [.null, .null, .null, .null, .int 0, .ref q1, .int (0 : Int32), .int (0 : Int32), .int (4 : Int32), .int (0 : Int32), .long 0, .long 0, .long 0, .long 0, .long 0])), (q1, .inl (cy1, 8, .inr (.inl (fun _ => 0))))] := hD
  refine lv_aload_n hx hb dX2_init_32 rfl (lv_at hl 0 rfl) ?_
  refine lv_ldc2 (v := (1099511627776 : Int64)) hx hb hown (hW _ kcX2_28) dX2_init_33 ?_
  refine va_put (D := D) (ci := 2) (v := .long (1099511627776 : Int64)) (ty := .long) (C := RX2) (T := TX2) (N := 15) hx hb hW kl_X2 tyX2 tyX2_ok nmX2 hown hK hP hD hS 0 rfl rfl 10 (by decide) (hW _ kfX2_30) (fun _ h9 => h9) rfl (by decide +kernel) rfl rfl (Nat.le_of_ble_eq_true rfl) dX2_init_36 (fun H locs hP hD hS => ?_)
  have hP : va_P D vwCl [(h0, .inr (2, [.null, .null, .null, .null, .int 0, .ref q1, .int (0 : Int32), .int (0 : Int32), .int (4 : Int32), .int (0 : Int32), .long (1099511627776 : Int64), .long 0, .long 0, .long 0, .long 0])), (q1, .inl (cy1, 8, .inr (.inl (fun _ => 0))))] H := hP
  have hD : va_D A [(h0, .inr (2, [.null, .null, .null, .null, .int 0, .ref q1, .int (0 : Int32), .int (0 : Int32), .int (4 : Int32), .int (0 : Int32), .long (1099511627776 : Int64), .long 0, .long 0, .long 0, .long 0])), (q1, .inl (cy1, 8, .inr (.inl (fun _ => 0))))] := hD
  refine lv_aload_n hx hb dX2_init_39 rfl (lv_at hl 0 rfl) ?_
  refine lv_ldc2 (v := (1099511627776 : Int64)) hx hb hown (hW _ kcX2_28) dX2_init_40 ?_
  refine va_put (D := D) (ci := 2) (v := .long (1099511627776 : Int64)) (ty := .long) (C := RX2) (T := TX2) (N := 15) hx hb hW kl_X2 tyX2 tyX2_ok nmX2 hown hK hP hD hS 0 rfl rfl 11 (by decide) (hW _ kfX2_34) (fun _ h9 => h9) rfl (by decide +kernel) rfl rfl (Nat.le_of_ble_eq_true rfl) dX2_init_43 (fun H locs hP hD hS => ?_)
  have hP : va_P D vwCl [(h0, .inr (2, [.null, .null, .null, .null, .int 0, .ref q1, .int (0 : Int32), .int (0 : Int32), .int (4 : Int32), .int (0 : Int32), .long (1099511627776 : Int64), .long (1099511627776 : Int64), .long 0, .long 0, .long 0])), (q1, .inl (cy1, 8, .inr (.inl (fun _ => 0))))] H := hP
  have hD : va_D A [(h0, .inr (2, [.null, .null, .null, .null, .int 0, .ref q1, .int (0 : Int32), .int (0 : Int32), .int (4 : Int32), .int (0 : Int32), .long (1099511627776 : Int64), .long (1099511627776 : Int64), .long 0, .long 0, .long 0])), (q1, .inl (cy1, 8, .inr (.inl (fun _ => 0))))] := hD
  refine lv_aload_n hx hb dX2_init_46 rfl (lv_at hl 0 rfl) ?_
  refine lv_ldc2 (v := (1099511627776 : Int64)) hx hb hown (hW _ kcX2_28) dX2_init_47 ?_
  refine va_put (D := D) (ci := 2) (v := .long (1099511627776 : Int64)) (ty := .long) (C := RX2) (T := TX2) (N := 15) hx hb hW kl_X2 tyX2 tyX2_ok nmX2 hown hK hP hD hS 0 rfl rfl 12 (by decide) (hW _ kfX2_37) (fun _ h9 => h9) rfl (by decide +kernel) rfl rfl (Nat.le_of_ble_eq_true rfl) dX2_init_50 (fun H locs hP hD hS => ?_)
  have hP : va_P D vwCl [(h0, .inr (2, [.null, .null, .null, .null, .int 0, .ref q1, .int (0 : Int32), .int (0 : Int32), .int (4 : Int32), .int (0 : Int32), .long (1099511627776 : Int64), .long (1099511627776 : Int64), .long (1099511627776 : Int64), .long 0, .long 0])), (q1, .inl (cy1, 8, .inr (.inl (fun _ => 0))))] H := hP
  have hD : va_D A [(h0, .inr (2, [.null, .null, .null, .null, .int 0, .ref q1, .int (0 : Int32), .int (0 : Int32), .int (4 : Int32), .int (0 : Int32), .long (1099511627776 : Int64), .long (1099511627776 : Int64), .long (1099511627776 : Int64), .long 0, .long 0])), (q1, .inl (cy1, 8, .inr (.inl (fun _ => 0))))] := hD
  refine lv_aload_n hx hb dX2_init_53 rfl (lv_at hl 0 rfl) ?_
  refine lv_ldc2 (v := (1099511627776 : Int64)) hx hb hown (hW _ kcX2_28) dX2_init_54 ?_
  refine va_put (D := D) (ci := 2) (v := .long (1099511627776 : Int64)) (ty := .long) (C := RX2) (T := TX2) (N := 15) hx hb hW kl_X2 tyX2 tyX2_ok nmX2 hown hK hP hD hS 0 rfl rfl 13 (by decide) (hW _ kfX2_40) (fun _ h9 => h9) rfl (by decide +kernel) rfl rfl (Nat.le_of_ble_eq_true rfl) dX2_init_57 (fun H locs hP hD hS => ?_)
  have hP : va_P D vwCl [(h0, .inr (2, [.null, .null, .null, .null, .int 0, .ref q1, .int (0 : Int32), .int (0 : Int32), .int (4 : Int32), .int (0 : Int32), .long (1099511627776 : Int64), .long (1099511627776 : Int64), .long (1099511627776 : Int64), .long (1099511627776 : Int64), .long 0])), (q1, .inl (cy1, 8, .inr (.inl (fun _ => 0))))] H := hP
  have hD : va_D A [(h0, .inr (2, [.null, .null, .null, .null, .int 0, .ref q1, .int (0 : Int32), .int (0 : Int32), .int (4 : Int32), .int (0 : Int32), .long (1099511627776 : Int64), .long (1099511627776 : Int64), .long (1099511627776 : Int64), .long (1099511627776 : Int64), .long 0])), (q1, .inl (cy1, 8, .inr (.inl (fun _ => 0))))] := hD
  refine lv_aload_n hx hb dX2_init_60 rfl (lv_at hl 0 rfl) ?_
  refine lv_ldc2 (v := (1099511627776 : Int64)) hx hb hown (hW _ kcX2_28) dX2_init_61 ?_
  refine va_put (D := D) (ci := 2) (v := .long (1099511627776 : Int64)) (ty := .long) (C := RX2) (T := TX2) (N := 15) hx hb hW kl_X2 tyX2 tyX2_ok nmX2 hown hK hP hD hS 0 rfl rfl 14 (by decide) (hW _ kfX2_43) (fun _ h9 => h9) rfl (by decide +kernel) rfl rfl (Nat.le_of_ble_eq_true rfl) dX2_init_64 (fun H locs hP hD hS => ?_)
  have hP : va_P D vwCl [(h0, .inr (2, [.null, .null, .null, .null, .int 0, .ref q1, .int (0 : Int32), .int (0 : Int32), .int (4 : Int32), .int (0 : Int32), .long (1099511627776 : Int64), .long (1099511627776 : Int64), .long (1099511627776 : Int64), .long (1099511627776 : Int64), .long (1099511627776 : Int64)])), (q1, .inl (cy1, 8, .inr (.inl (fun _ => 0))))] H := hP
  have hD : va_D A [(h0, .inr (2, [.null, .null, .null, .null, .int 0, .ref q1, .int (0 : Int32), .int (0 : Int32), .int (4 : Int32), .int (0 : Int32), .long (1099511627776 : Int64), .long (1099511627776 : Int64), .long (1099511627776 : Int64), .long (1099511627776 : Int64), .long (1099511627776 : Int64)])), (q1, .inl (cy1, 8, .inr (.inl (fun _ => 0))))] := hD
  refine lv_aload_n hx hb dX2_init_67 rfl (lv_at hl 0 rfl) ?_
  refine lv_aload_n hx hb dX2_init_68 rfl (lv_at hl 1 rfl) ?_
  refine va_putF (D := D) (ci := 2) (v := .ref a8) (ty := .object "ConsHouse$Heap") (C := RX2) (T := TX2) (N := 15) hx hb hW kl_X2 tyX2 tyX2_ok nmX2 hown hK hP hD hS 0 rfl rfl 0 (by decide) (hW _ kfX2_46) (fun _ h9 => h9) rfl hin rfl (by decide +kernel) rfl rfl (Nat.le_of_ble_eq_true rfl) dX2_init_69 (fun H locs hP hD hS => ?_)
  have hP : va_P D vwCl [(h0, .inr (2, [.ref a8, .null, .null, .null, .int 0, .ref q1, .int (0 : Int32), .int (0 : Int32), .int (4 : Int32), .int (0 : Int32), .long (1099511627776 : Int64), .long (1099511627776 : Int64), .long (1099511627776 : Int64), .long (1099511627776 : Int64), .long (1099511627776 : Int64)])), (q1, .inl (cy1, 8, .inr (.inl (fun _ => 0))))] H := hP
  have hD : va_D A [(h0, .inr (2, [.ref a8, .null, .null, .null, .int 0, .ref q1, .int (0 : Int32), .int (0 : Int32), .int (4 : Int32), .int (0 : Int32), .long (1099511627776 : Int64), .long (1099511627776 : Int64), .long (1099511627776 : Int64), .long (1099511627776 : Int64), .long (1099511627776 : Int64)])), (q1, .inl (cy1, 8, .inr (.inl (fun _ => 0))))] := hD
  refine lv_aload_n hx hb dX2_init_72 rfl (lv_at hl 0 rfl) ?_
  refine lv_aload_n hx hb dX2_init_73 rfl (lv_at hl 2 rfl) ?_
  refine va_putF (D := D) (ci := 2) (v := .ref a2) (ty := .object "ConsHouse$Names") (C := RX2) (T := TX2) (N := 15) hx hb hW kl_X2 tyX2 tyX2_ok nmX2 hown hK hP hD hS 0 rfl rfl 1 (by decide) (hW _ kfX2_50) (fun _ h9 => h9) rfl hin rfl (by decide +kernel) rfl rfl (Nat.le_of_ble_eq_true rfl) dX2_init_74 (fun H locs hP hD hS => ?_)
  have hP : va_P D vwCl [(h0, .inr (2, [.ref a8, .ref a2, .null, .null, .int 0, .ref q1, .int (0 : Int32), .int (0 : Int32), .int (4 : Int32), .int (0 : Int32), .long (1099511627776 : Int64), .long (1099511627776 : Int64), .long (1099511627776 : Int64), .long (1099511627776 : Int64), .long (1099511627776 : Int64)])), (q1, .inl (cy1, 8, .inr (.inl (fun _ => 0))))] H := hP
  have hD : va_D A [(h0, .inr (2, [.ref a8, .ref a2, .null, .null, .int 0, .ref q1, .int (0 : Int32), .int (0 : Int32), .int (4 : Int32), .int (0 : Int32), .long (1099511627776 : Int64), .long (1099511627776 : Int64), .long (1099511627776 : Int64), .long (1099511627776 : Int64), .long (1099511627776 : Int64)])), (q1, .inl (cy1, 8, .inr (.inl (fun _ => 0))))] := hD
  refine lv_aload_n hx hb dX2_init_77 rfl (lv_at hl 0 rfl) ?_
  refine lv_aload_n hx hb dX2_init_78 rfl (lv_at hl 3 rfl) ?_
  refine va_putF (D := D) (ci := 2) (v := .ref a3) (ty := .object "ConsHouse$Waiting") (C := RX2) (T := TX2) (N := 15) hx hb hW kl_X2 tyX2 tyX2_ok nmX2 hown hK hP hD hS 0 rfl rfl 2 (by decide) (hW _ kfX2_54) (fun _ h9 => h9) rfl hin rfl (by decide +kernel) rfl rfl (Nat.le_of_ble_eq_true rfl) dX2_init_79 (fun H locs hP hD hS => ?_)
  have hP : va_P D vwCl [(h0, .inr (2, [.ref a8, .ref a2, .ref a3, .null, .int 0, .ref q1, .int (0 : Int32), .int (0 : Int32), .int (4 : Int32), .int (0 : Int32), .long (1099511627776 : Int64), .long (1099511627776 : Int64), .long (1099511627776 : Int64), .long (1099511627776 : Int64), .long (1099511627776 : Int64)])), (q1, .inl (cy1, 8, .inr (.inl (fun _ => 0))))] H := hP
  have hD : va_D A [(h0, .inr (2, [.ref a8, .ref a2, .ref a3, .null, .int 0, .ref q1, .int (0 : Int32), .int (0 : Int32), .int (4 : Int32), .int (0 : Int32), .long (1099511627776 : Int64), .long (1099511627776 : Int64), .long (1099511627776 : Int64), .long (1099511627776 : Int64), .long (1099511627776 : Int64)])), (q1, .inl (cy1, 8, .inr (.inl (fun _ => 0))))] := hD
  refine lv_aload_n hx hb dX2_init_82 rfl (lv_at hl 0 rfl) ?_
  refine lv_aload hx hb dX2_init_83 (lv_at hl 4 rfl) ?_
  refine va_putF (D := D) (ci := 2) (v := .ref a4) (ty := .object "ConsHouse$Keeper") (C := RX2) (T := TX2) (N := 15) hx hb hW kl_X2 tyX2 tyX2_ok nmX2 hown hK hP hD hS 0 rfl rfl 3 (by decide) (hW _ kfX2_58) (fun _ h9 => h9) rfl hin rfl (by decide +kernel) rfl rfl (Nat.le_of_ble_eq_true rfl) dX2_init_85 (fun H locs hP hD hS => ?_)
  have hP : va_P D vwCl [(h0, .inr (2, [.ref a8, .ref a2, .ref a3, .ref a4, .int 0, .ref q1, .int (0 : Int32), .int (0 : Int32), .int (4 : Int32), .int (0 : Int32), .long (1099511627776 : Int64), .long (1099511627776 : Int64), .long (1099511627776 : Int64), .long (1099511627776 : Int64), .long (1099511627776 : Int64)])), (q1, .inl (cy1, 8, .inr (.inl (fun _ => 0))))] H := hP
  have hD : va_D A [(h0, .inr (2, [.ref a8, .ref a2, .ref a3, .ref a4, .int 0, .ref q1, .int (0 : Int32), .int (0 : Int32), .int (4 : Int32), .int (0 : Int32), .long (1099511627776 : Int64), .long (1099511627776 : Int64), .long (1099511627776 : Int64), .long (1099511627776 : Int64), .long (1099511627776 : Int64)])), (q1, .inl (cy1, 8, .inr (.inl (fun _ => 0))))] := hD
  refine lv_aload_n hx hb dX2_init_88 rfl (lv_at hl 0 rfl) ?_
  refine lv_iload hx hb dX2_init_89 (lv_at hl 5 rfl) ?_
  refine va_putF (D := D) (ci := 2) (v := .int p5) (ty := .int) (C := RX2) (T := TX2) (N := 15) hx hb hW kl_X2 tyX2 tyX2_ok nmX2 hown hK hP hD hS 0 rfl rfl 4 (by decide) (hW _ kfX2_62) (fun _ h9 => h9) rfl hin rfl (by decide +kernel) rfl rfl (Nat.le_of_ble_eq_true rfl) dX2_init_91 (fun H locs hP hD hS => ?_)
  have hP : va_P D vwCl [(h0, .inr (2, [.ref a8, .ref a2, .ref a3, .ref a4, .int p5, .ref q1, .int (0 : Int32), .int (0 : Int32), .int (4 : Int32), .int (0 : Int32), .long (1099511627776 : Int64), .long (1099511627776 : Int64), .long (1099511627776 : Int64), .long (1099511627776 : Int64), .long (1099511627776 : Int64)])), (q1, .inl (cy1, 8, .inr (.inl (fun _ => 0))))] H := hP
  have hD : va_D A [(h0, .inr (2, [.ref a8, .ref a2, .ref a3, .ref a4, .int p5, .ref q1, .int (0 : Int32), .int (0 : Int32), .int (4 : Int32), .int (0 : Int32), .long (1099511627776 : Int64), .long (1099511627776 : Int64), .long (1099511627776 : Int64), .long (1099511627776 : Int64), .long (1099511627776 : Int64)])), (q1, .inl (cy1, 8, .inr (.inl (fun _ => 0))))] := hD
  exact W.vret hx hb hr (fun t ht hW => ⟨⟨((fun k => if k = 0 then q1 else 0), (fun k => if k = 0 then cy1 else 0)), rfl, trivial, by rw [ht]; exact hP, va_K.moved hW.alike hK, hD⟩, hS.F ht⟩) hS.2.2 dX2_init_94
abbrev rmi_X4 : Room := { frames := 1, cells := 3, slots := 812, locals := 20 }
set_option maxHeartbeats 4000000 in
set_option maxRecDepth 100000 in
theorem ti_X4 (l : Launch) (D : va_G) (h0 : Nat) (a8 a2 : Nat)  (sz : Nat) : Met l yX4_init (Cond.code yX4_init cX4_init 3 none :: WS) rmi_X4 (va_Pc [.ref h0, .ref a8, .ref a2] (fun U => U.heap.size = sz ∧ va_P D vwCl [(h0, .inr (4, [.null, .null, .null, .null, .null, .int 0, .int 0]))] U.heap ∧ va_K D vwCl [] U ∧ va_D (fun _ => True) [(h0, .inr (4, [.null, .null, .null, .null, .null, .int 0, .int 0]))])) (va_Qv (fun z : (Nat → Nat) × (Nat → ClassId) => True) (fun z t => va_P D vwCl [(h0, .inr (4, [.ref a8, .ref a2, .ref (z.1 0), .ref (z.1 1), .ref (z.1 2), .int (0 : Int32), .int (0 : Int32)])), ((z.1 0), .inl ((z.2 0), 400, .inl (fun _ => 0))), ((z.1 1), .inl ((z.2 1), 400, .inr (.inl (fun _ => 0)))), ((z.1 2), .inl ((z.2 2), 12, .inl (fun _ => 0)))] t.heap ∧ va_K D vwCl [((z.2 0), .char), ((z.2 1), .long), ((z.2 2), .char)] t ∧ va_D (va_A [(h0, .inr (4, [.null, .null, .null, .null, .null, .int 0, .int 0]))] sz) [(h0, .inr (4, [.ref a8, .ref a2, .ref (z.1 0), .ref (z.1 1), .ref (z.1 2), .int (0 : Int32), .int (0 : Int32)])), ((z.1 0), .inl ((z.2 0), 400, .inl (fun _ => 0))), ((z.1 1), .inl ((z.2 1), 400, .inr (.inl (fun _ => 0)))), ((z.1 2), .inl ((z.2 2), 12, .inl (fun _ => 0)))]) (va_A [(h0, .inr (4, [.null, .null, .null, .null, .null, .int 0, .int 0]))] sz)) 3 812 (va_A [(h0, .inr (4, [.null, .null, .null, .null, .null, .int 0, .int 0]))] sz) := by
  refine Met.ofW (cc := cX4_init) (maxL := 3) (ret := none) (by decide) rfl ?_
  intro p e s m args below meth c s₁ B hml hv
  obtain ⟨rfl, hsz, hP, hK, hD0⟩ := hv
  have hx := B.exec
  have hb := B.bytes
  have hr := B.returns
  have hW : ∀ w ∈ WS, w.before _ s = true := fun w h => atoms_spec (ws := Cond.code yX4_init cX4_init 3 none :: WS) B.pre w (List.mem_cons_of_mem _ h)
  have hown : s.vm.findClass RX4 = some m.cls := findClass_of_methodNamed B.named
  have hlocks := B.notSynchronized
  have hin : meth.name = "<init>" := (name_of_methodNamed B.named B.method).1
  subst hsz
  have hD := hD0.self (sz := s.heap.size)
  generalize hAe : va_A [(h0, .inr (4, [.null, .null, .null, .null, .null, .int 0, .int 0]))] s.heap.size = A at hD ⊢
  have hA : ∀ q : Nat, s.heap.size ≤ q → A q := fun q h => by rw [← hAe]; exact Or.inr h
  have hS : va_S A s.heap s.heap [] := va_S.rf
  have hl := lv_entry ([.ref h0, .ref a8, .ref a2]) (n := 3) (Nat.le_of_ble_eq_true rfl)
  rw [lg_entry_eq]
  generalize (lg_sl ([.ref h0, .ref a8, .ref a2]) ++ List.replicate (3 - (lg_sl ([.ref h0, .ref a8, .ref a2])).length) Slot.unset).toArray = ls at hl ⊢
  have hl : lv_has ls 3 [(0, .ref h0), (1, .ref a8), (2, .ref a2)] := hl
  refine lv_aload_n hx hb dX4_init_0 rfl (lv_at hl 0 rfl) ?_
  refine W.objInit hx hb hown (hW _ kmX4_3) (hW _ ki_obj) (hW _ kk_obj) rfl (by rw [hml]; exact hl.1) rfl dX4_init_1 (Nat.le_of_ble_eq_true rfl) (Nat.le_of_ble_eq_true rfl) ?_
  refine W.eq (g2 := F0 m 4 ls []) rfl ?_
  refine lv_aload_n hx hb dX4_init_4 rfl (lv_at hl 0 rfl) ?_
  refine lv_sipush (v := (400 : Int32)) hx hb dX4_init_5 (by decide) ?_
  refine va_newa (N' := 400) (a0 := (400, .inl (fun _ => 0))) (atype := .char) hx hb (hW _ ka_char) rfl hK hP hD hS hA (nw_char _) ((⟨by decide +kernel, by decide +kernel⟩ : ¬ (400 : Int32) < 0 ∧ (400 : Int32).toNatClampNeg = 400)).1 ((⟨by decide +kernel, by decide +kernel⟩ : ¬ (400 : Int32) < 0 ∧ (400 : Int32).toNatClampNeg = 400)).2 (by show 400 * 2 ≤ 536870912; omega) (Nat.le_of_ble_eq_true rfl) (by show 0 + 400 ≤ 812; omega) dX4_init_8 (fun q1 cy1 H hK hP hD hS => ?_)
  have hP : va_P D vwCl [(h0, .inr (4, [.null, .null, .null, .null, .null, .int 0, .int 0])), (q1, .inl (cy1, 400, .inl (fun _ => 0)))] H := hP
  have hD : va_D A [(h0, .inr (4, [.null, .null, .null, .null, .null, .int 0, .int 0])), (q1, .inl (cy1, 400, .inl (fun _ => 0)))] := hD
  have hK : va_K D vwCl [(cy1, .char)] s := hK
  refine W.widen (k := 1) (n := 400) (by omega) (by omega) ?_
  refine va_putF (D := D) (ci := 4) (v := .ref q1) (ty := .array .char) (C := RX4) (T := TX4) (N := 7) hx hb hW kl_X4 tyX4 tyX4_ok nmX4 hown hK hP hD hS 0 rfl rfl 2 (by decide) (hW _ kfX4_9) (fun _ h9 => h9) rfl hin rfl (by decide +kernel) rfl rfl (Nat.le_of_ble_eq_true rfl) dX4_init_10 (fun H locs hP hD hS => ?_)
  have hP : va_P D vwCl [(h0, .inr (4, [.null, .null, .ref q1, .null, .null, .int 0, .int 0])), (q1, .inl (cy1, 400, .inl (fun _ => 0)))] H := hP
  have hD : va_D A [(h0, .inr (4, [.null, .null, .ref q1, .null, .null, .int 0, .int 0])), (q1, .inl (cy1, 400, .inl (fun _ => 0)))] := hD
  refine lv_aload_n hx hb dX4_init_13 rfl (lv_at hl 0 rfl) ?_
  refine lv_sipush (v := (400 : Int32)) hx hb dX4_init_14 (by decide) ?_
  refine va_newa (N' := 400) (a0 := (400, .inr (.inl (fun _ => 0)))) (atype := .long) hx hb (hW _ ka_long) rfl hK hP hD hS hA (nw_long _) ((⟨by decide +kernel, by decide +kernel⟩ : ¬ (400 : Int32) < 0 ∧ (400 : Int32).toNatClampNeg = 400)).1 ((⟨by decide +kernel, by decide +kernel⟩ : ¬ (400 : Int32) < 0 ∧ (400 : Int32).toNatClampNeg = 400)).2 (by show 400 * 8 ≤ 536870912; omega) (Nat.le_of_ble_eq_true rfl) (by show 400 + 400 ≤ 812; omega) dX4_init_17 (fun q2 cy2 H hK hP hD hS => ?_)
  have hP : va_P D vwCl [(h0, .inr (4, [.null, .null, .ref q1, .null, .null, .int 0, .int 0])), (q1, .inl (cy1, 400, .inl (fun _ => 0))), (q2, .inl (cy2, 400, .inr (.inl (fun _ => 0))))] H := hP
  have hD : va_D A [(h0, .inr (4, [.null, .null, .ref q1, .null, .null, .int 0, .int 0])), (q1, .inl (cy1, 400, .inl (fun _ => 0))), (q2, .inl (cy2, 400, .inr (.inl (fun _ => 0))))] := hD
  have hK : va_K D vwCl [(cy1, .char), (cy2, .long)] s := hK
  refine W.widen (k := 2) (n := 800) (by omega) (by omega) ?_
  refine va_putF (D := D) (ci := 4) (v := .ref q2) (ty := .array .long) (C := RX4) (T := TX4) (N := 7) hx hb hW kl_X4 tyX4 tyX4_ok nmX4 hown hK hP hD hS 0 rfl rfl 3 (by decide) (hW _ kfX4_15) (fun _ h9 => h9) rfl hin rfl (by decide +kernel) rfl rfl (Nat.le_of_ble_eq_true rfl) dX4_init_19 (fun H locs hP hD hS => ?_)
  have hP : va_P D vwCl [(h0, .inr (4, [.null, .null, .ref q1, .ref q2, .null, .int 0, .int 0])), (q1, .inl (cy1, 400, .inl (fun _ => 0))), (q2, .inl (cy2, 400, .inr (.inl (fun _ => 0))))] H := hP
  have hD : va_D A [(h0, .inr (4, [.null, .null, .ref q1, .ref q2, .null, .int 0, .int 0])), (q1, .inl (cy1, 400, .inl (fun _ => 0))), (q2, .inl (cy2, 400, .inr (.inl (fun _ => 0))))] := hD
  refine lv_aload_n hx hb dX4_init_22 rfl (lv_at hl 0 rfl) ?_
  refine lv_bipush (v := (12 : Int32)) hx hb dX4_init_23 (by decide) ?_
  refine va_newa (N' := 12) (a0 := (12, .inl (fun _ => 0))) (atype := .char) hx hb (hW _ ka_char) rfl hK hP hD hS hA (nw_char _) ((⟨by decide +kernel, by decide +kernel⟩ : ¬ (12 : Int32) < 0 ∧ (12 : Int32).toNatClampNeg = 12)).1 ((⟨by decide +kernel, by decide +kernel⟩ : ¬ (12 : Int32) < 0 ∧ (12 : Int32).toNatClampNeg = 12)).2 (by show 12 * 2 ≤ 536870912; omega) (Nat.le_of_ble_eq_true rfl) (by show 800 + 12 ≤ 812; omega) dX4_init_25 (fun q3 cy3 H hK hP hD hS => ?_)
  have hP : va_P D vwCl [(h0, .inr (4, [.null, .null, .ref q1, .ref q2, .null, .int 0, .int 0])), (q1, .inl (cy1, 400, .inl (fun _ => 0))), (q2, .inl (cy2, 400, .inr (.inl (fun _ => 0)))), (q3, .inl (cy3, 12, .inl (fun _ => 0)))] H := hP
  have hD : va_D A [(h0, .inr (4, [.null, .null, .ref q1, .ref q2, .null, .int 0, .int 0])), (q1, .inl (cy1, 400, .inl (fun _ => 0))), (q2, .inl (cy2, 400, .inr (.inl (fun _ => 0)))), (q3, .inl (cy3, 12, .inl (fun _ => 0)))] := hD
  have hK : va_K D vwCl [(cy1, .char), (cy2, .long), (cy3, .char)] s := hK
  refine W.widen (k := 3) (n := 812) (by omega) (by omega) ?_
  refine va_putF (D := D) (ci := 4) (v := .ref q3) (ty := .array .char) (C := RX4) (T := TX4) (N := 7) hx hb hW kl_X4 tyX4 tyX4_ok nmX4 hown hK hP hD hS 0 rfl rfl 4 (by decide) (hW _ kfX4_19) (fun _ h9 => h9) rfl hin rfl (by decide +kernel) rfl rfl (Nat.le_of_ble_eq_true rfl) dX4_init_27 (fun H locs hP hD hS => ?_)
  have hP : va_P D vwCl [(h0, .inr (4, [.null, .null, .ref q1, .ref q2, .ref q3, .int 0, .int 0])), (q1, .inl (cy1, 400, .inl (fun _ => 0))), (q2, .inl (cy2, 400, .inr (.inl (fun _ => 0)))), (q3, .inl (cy3, 12, .inl (fun _ => 0)))] H := hP
  have hD : va_D A [(h0, .inr (4, [.null, .null, .ref q1, .ref q2, .ref q3, .int 0, .int 0])), (q1, .inl (cy1, 400, .inl (fun _ => 0))), (q2, .inl (cy2, 400, .inr (.inl (fun _ => 0)))), (q3, .inl (cy3, 12, .inl (fun _ => 0)))] := hD
  refine lv_aload_n hx hb dX4_init_30 rfl (lv_at hl 0 rfl) ?_
  refine lv_iconst (v := (0 : Int32)) hx hb dX4_init_31 (by decide) ?_
  refine va_put (D := D) (ci := 4) (v := .int (0 : Int32)) (ty := .int) (C := RX4) (T := TX4) (N := 7) hx hb hW kl_X4 tyX4 tyX4_ok nmX4 hown hK hP hD hS 0 rfl rfl 5 (by decide) (hW _ kfX4_22) (fun _ h9 => h9) rfl (by decide +kernel) rfl rfl (Nat.le_of_ble_eq_true rfl) dX4_init_32 (fun H locs hP hD hS => ?_)
  have hP : va_P D vwCl [(h0, .inr (4, [.null, .null, .ref q1, .ref q2, .ref q3, .int (0 : Int32), .int 0])), (q1, .inl (cy1, 400, .inl (fun _ => 0))), (q2, .inl (cy2, 400, .inr (.inl (fun _ => 0)))), (q3, .inl (cy3, 12, .inl (fun _ => 0)))] H := hP
  have hD : va_D A [(h0, .inr (4, [.null, .null, .ref q1, .ref q2, .ref q3, .int (0 : Int32), .int 0])), (q1, .inl (cy1, 400, .inl (fun _ => 0))), (q2, .inl (cy2, 400, .inr (.inl (fun _ => 0)))), (q3, .inl (cy3, 12, .inl (fun _ => 0)))] := hD
  refine lv_aload_n hx hb dX4_init_35 rfl (lv_at hl 0 rfl) ?_
  refine lv_iconst (v := (0 : Int32)) hx hb dX4_init_36 (by decide) ?_
  refine va_put (D := D) (ci := 4) (v := .int (0 : Int32)) (ty := .int) (C := RX4) (T := TX4) (N := 7) hx hb hW kl_X4 tyX4 tyX4_ok nmX4 hown hK hP hD hS 0 rfl rfl 6 (by decide) (hW _ kfX4_26) (fun _ h9 => h9) rfl (by decide +kernel) rfl rfl (Nat.le_of_ble_eq_true rfl) dX4_init_37 (fun H locs hP hD hS => ?_)
  have hP : va_P D vwCl [(h0, .inr (4, [.null, .null, .ref q1, .ref q2, .ref q3, .int (0 : Int32), .int (0 : Int32)])), (q1, .inl (cy1, 400, .inl (fun _ => 0))), (q2, .inl (cy2, 400, .inr (.inl (fun _ => 0)))), (q3, .inl (cy3, 12, .inl (fun _ => 0)))] H := hP
  have hD : va_D A [(h0, .inr (4, [.null, .null, .ref q1, .ref q2, .ref q3, .int (0 : Int32), .int (0 : Int32)])), (q1, .inl (cy1, 400, .inl (fun _ => 0))), (q2, .inl (cy2, 400, .inr (.inl (fun _ => 0)))), (q3, .inl (cy3, 12, .inl (fun _ => 0)))] := hD
  refine lv_aload_n hx hb dX4_init_40 rfl (lv_at hl 0 rfl) ?_
  refine lv_aload_n hx hb dX4_init_41 rfl (lv_at hl 1 rfl) ?_
  refine va_putF (D := D) (ci := 4) (v := .ref a8) (ty := .object "ConsHouse$Heap") (C := RX4) (T := TX4) (N := 7) hx hb hW kl_X4 tyX4 tyX4_ok nmX4 hown hK hP hD hS 0 rfl rfl 0 (by decide) (hW _ kfX4_29) (fun _ h9 => h9) rfl hin rfl (by decide +kernel) rfl rfl (Nat.le_of_ble_eq_true rfl) dX4_init_42 (fun H locs hP hD hS => ?_)
  have hP : va_P D vwCl [(h0, .inr (4, [.ref a8, .null, .ref q1, .ref q2, .ref q3, .int (0 : Int32), .int (0 : Int32)])), (q1, .inl (cy1, 400, .inl (fun _ => 0))), (q2, .inl (cy2, 400, .inr (.inl (fun _ => 0)))), (q3, .inl (cy3, 12, .inl (fun _ => 0)))] H := hP
  have hD : va_D A [(h0, .inr (4, [.ref a8, .null, .ref q1, .ref q2, .ref q3, .int (0 : Int32), .int (0 : Int32)])), (q1, .inl (cy1, 400, .inl (fun _ => 0))), (q2, .inl (cy2, 400, .inr (.inl (fun _ => 0)))), (q3, .inl (cy3, 12, .inl (fun _ => 0)))] := hD
  refine lv_aload_n hx hb dX4_init_45 rfl (lv_at hl 0 rfl) ?_
  refine lv_aload_n hx hb dX4_init_46 rfl (lv_at hl 2 rfl) ?_
  refine va_putF (D := D) (ci := 4) (v := .ref a2) (ty := .object "ConsHouse$Names") (C := RX4) (T := TX4) (N := 7) hx hb hW kl_X4 tyX4 tyX4_ok nmX4 hown hK hP hD hS 0 rfl rfl 1 (by decide) (hW _ kfX4_33) (fun _ h9 => h9) rfl hin rfl (by decide +kernel) rfl rfl (Nat.le_of_ble_eq_true rfl) dX4_init_47 (fun H locs hP hD hS => ?_)
  have hP : va_P D vwCl [(h0, .inr (4, [.ref a8, .ref a2, .ref q1, .ref q2, .ref q3, .int (0 : Int32), .int (0 : Int32)])), (q1, .inl (cy1, 400, .inl (fun _ => 0))), (q2, .inl (cy2, 400, .inr (.inl (fun _ => 0)))), (q3, .inl (cy3, 12, .inl (fun _ => 0)))] H := hP
  have hD : va_D A [(h0, .inr (4, [.ref a8, .ref a2, .ref q1, .ref q2, .ref q3, .int (0 : Int32), .int (0 : Int32)])), (q1, .inl (cy1, 400, .inl (fun _ => 0))), (q2, .inl (cy2, 400, .inr (.inl (fun _ => 0)))), (q3, .inl (cy3, 12, .inl (fun _ => 0)))] := hD
  exact W.vret hx hb hr (fun t ht hW => ⟨⟨((fun k => if k = 0 then q1 else if k = 1 then q2 else if k = 2 then q3 else 0), (fun k => if k = 0 then cy1 else if k = 1 then cy2 else if k = 2 then cy3 else 0)), rfl, trivial, by rw [ht]; exact hP, va_K.moved hW.alike hK, hD⟩, hS.F ht⟩) hS.2.2 dX4_init_50
