def wp_X10_waits (p0 : Int32) (p1 : Int64) (p2 : Int64) (u : St) (Q : Int32 → St → Prop) : Prop := (((gI u 32) = (gI u 2) → wp_X10_fails (7 : Int32) u (fun (u1 : St) => Q (0 : Int32) u1)) ∧ (¬ (gI u 32) = (gI u 2) → vp_in (gI u 32) 200 ∧ vp_in (gI u 32) 200 ∧ vp_in (gI u 32) 200 ∧ vp_in (gI u 32) 200 ∧ vp_in (gI u 32) 200 ∧ ((((gI u 32) + (1 : Int32)) ≤ (gI u 10) → Q (1 : Int32) (sI (sA (sB (sB (sB (sA u 33 (upd (gA u 33) ((gI u 32)).toNatClampNeg p0)) 34 (vp_updL (gB u 34) ((gI u 32)).toNatClampNeg p1)) 35 (vp_updL (gB u 35) ((gI u 32)).toNatClampNeg p2)) 36 (vp_updL (gB u 36) ((gI u 32)).toNatClampNeg (gJ u 41))) 37 (upd (gA u 37) ((gI u 32)).toNatClampNeg (0 : Int32))) 32 ((gI u 32) + (1 : Int32)))) ∧ (¬ ((gI u 32) + (1 : Int32)) ≤ (gI u 10) → Q (1 : Int32) (sI (sI (sA (sB (sB (sB (sA u 33 (upd (gA u 33) ((gI u 32)).toNatClampNeg p0)) 34 (vp_updL (gB u 34) ((gI u 32)).toNatClampNeg p1)) 35 (vp_updL (gB u 35) ((gI u 32)).toNatClampNeg p2)) 36 (vp_updL (gB u 36) ((gI u 32)).toNatClampNeg (gJ u 41))) 37 (upd (gA u 37) ((gI u 32)).toNatClampNeg (0 : Int32))) 32 ((gI u 32) + (1 : Int32))) 10 ((gI u 32) + (1 : Int32)))))))
abbrev rm_X10_waits : Room := { frames := 1, cells := 0, slots := 0, locals := 21 }
set_option maxHeartbeats 4000000 in
set_option maxRecDepth 100000 in
theorem t_X10_waits (l : Launch) (D : va_G) (G : Gd) (p0 : Int32) (p1 : Int64) (p2 : Int64) (u : St) (Q : Int32 → St → Prop) (h : wp_X10_waits p0 p1 p2 u Q) : MRi l D G yX10_waits cX10_waits 6 (some .boolean) rm_X10_waits [.ref (G.1 0), .int p0, .long p1, .long p2] u Q := by
  refine startR_i (by decide) ?_
  intro p e s m args below meth c E hr hlk hml hP hD hS hA
  have hx := E.1
  have hb := E.2.1
  have hown := E.2.2.1
  have hW := E.2.2.2.1
  have hl := lv_entry ([.ref (G.1 0), .int p0, .long p1, .long p2]) (n := 6) (Nat.le_of_ble_eq_true rfl)
  rw [lg_entry_eq]
  generalize (lg_sl ([.ref (G.1 0), .int p0, .long p1, .long p2]) ++ List.replicate (6 - (lg_sl ([.ref (G.1 0), .int p0, .long p1, .long p2])).length) Slot.unset).toArray = ls at hl ⊢
  have hl : lv_has ls 6 [(0, .ref (G.1 0)), (1, .int p0), (2, .long p1), (4, .long p2)] := hl
  unfold wp_X10_waits at h
  refine lv_aload_n hx hb dX10_waits_0 rfl (lv_at hl 0 rfl) ?_
  refine gR_32 E hP kfX10_111 (v := (gI u 32)) rfl dX10_waits_1 ?_
  refine lv_aload_n hx hb dX10_waits_4 rfl (lv_at hl 0 rfl) ?_
  refine gR_2 E hP kfX10_16 (v := (gI u 2)) rfl dX10_waits_5 ?_
  refine lv_icmp_ne (tgt := 19) hx hb dX10_waits_8 (by decide) (fun hc => ?_) (fun hc => ?_)
  · have h := h.2 hc
    refine lv_aload_n hx hb dX10_waits_19 rfl (lv_at hl 0 rfl) ?_
    refine gR_33 E hP kfX10_114 dX10_waits_20 ?_
    refine lv_aload_n hx hb dX10_waits_23 rfl (lv_at hl 0 rfl) ?_
    refine gR_32 E hP kfX10_111 (v := (gI u 32)) rfl dX10_waits_24 ?_
    refine lv_iload_n hx hb dX10_waits_27 rfl (lv_at hl 1 rfl) ?_
    obtain ⟨h9, h⟩ := h
    refine yR_33 E hP hD hS h9 (f := (gA u 33)) rfl dX10_waits_28 (fun H locs hP hD hS => ?_)
    refine lv_aload_n hx hb dX10_waits_29 rfl (lv_at hl 0 rfl) ?_
    refine gR_34 E hP kfX10_117 dX10_waits_30 ?_
    refine lv_aload_n hx hb dX10_waits_33 rfl (lv_at hl 0 rfl) ?_
    refine gR_32 E hP kfX10_111 (v := (gI u 32)) rfl dX10_waits_34 ?_
    refine lv_lload_n hx hb dX10_waits_37 rfl (lv_at hl 2 rfl) ?_
    obtain ⟨h9, h⟩ := h
    refine yR_34 E hP hD hS h9 (f := (gB u 34)) rfl dX10_waits_38 (fun H locs hP hD hS => ?_)
    refine lv_aload_n hx hb dX10_waits_39 rfl (lv_at hl 0 rfl) ?_
    refine gR_35 E hP kfX10_120 dX10_waits_40 ?_
    refine lv_aload_n hx hb dX10_waits_43 rfl (lv_at hl 0 rfl) ?_
    refine gR_32 E hP kfX10_111 (v := (gI u 32)) rfl dX10_waits_44 ?_
    refine lv_lload hx hb dX10_waits_47 (lv_at hl 3 rfl) ?_
    obtain ⟨h9, h⟩ := h
    refine yR_35 E hP hD hS h9 (f := (gB u 35)) rfl dX10_waits_49 (fun H locs hP hD hS => ?_)
    refine lv_aload_n hx hb dX10_waits_50 rfl (lv_at hl 0 rfl) ?_
    refine gR_36 E hP kfX10_123 dX10_waits_51 ?_
    refine lv_aload_n hx hb dX10_waits_54 rfl (lv_at hl 0 rfl) ?_
    refine gR_32 E hP kfX10_111 (v := (gI u 32)) rfl dX10_waits_55 ?_
    refine lv_aload_n hx hb dX10_waits_58 rfl (lv_at hl 0 rfl) ?_
    refine gR_41 E hP kfX10_138 (v := (gJ u 41)) rfl dX10_waits_59 ?_
    obtain ⟨h9, h⟩ := h
    refine yR_36 E hP hD hS h9 (f := (gB u 36)) rfl dX10_waits_62 (fun H locs hP hD hS => ?_)
    refine lv_aload_n hx hb dX10_waits_63 rfl (lv_at hl 0 rfl) ?_
    refine gR_37 E hP kfX10_126 dX10_waits_64 ?_
    refine lv_aload_n hx hb dX10_waits_67 rfl (lv_at hl 0 rfl) ?_
    refine gR_32 E hP kfX10_111 (v := (gI u 32)) rfl dX10_waits_68 ?_
    refine lv_iconst (v := (0 : Int32)) hx hb dX10_waits_71 (by decide) ?_
    obtain ⟨h9, h⟩ := h
    refine yR_37 E hP hD hS h9 (f := (gA u 37)) rfl dX10_waits_72 (fun H locs hP hD hS => ?_)
    refine lv_aload_n hx hb dX10_waits_73 rfl (lv_at hl 0 rfl) ?_
    refine lv_dup hx hb dX10_waits_74 rfl ?_
    refine gR_32 E hP kfX10_111 (v := (gI u 32)) rfl dX10_waits_75 ?_
    refine lv_iconst (v := (1 : Int32)) hx hb dX10_waits_78 (by decide) ?_
    refine lv_iadd hx hb dX10_waits_79 ?_
    refine pR_32 E hP hD hS kfX10_111 dX10_waits_80 (fun H locs hP hD hS => ?_)
    refine lv_aload_n hx hb dX10_waits_83 rfl (lv_at hl 0 rfl) ?_
    refine gR_32 E hP kfX10_111 (v := ((gI u 32) + (1 : Int32))) rfl dX10_waits_84 ?_
    refine lv_aload_n hx hb dX10_waits_87 rfl (lv_at hl 0 rfl) ?_
    refine gR_10 E hP kfX10_41 (v := (gI u 10)) rfl dX10_waits_88 ?_
    refine lv_icmp_le (tgt := 102) hx hb dX10_waits_91 (by decide) (fun hc => ?_) (fun hc => ?_)
    · have h := h.1 hc
      refine lv_iconst (v := (1 : Int32)) hx hb dX10_waits_102 (by decide) ?_
      exact retR_z E hr hlk hP hD hS (vz_n vz_1) h dX10_waits_103
    · have h := h.2 hc
      refine lv_aload_n hx hb dX10_waits_94 rfl (lv_at hl 0 rfl) ?_
      refine lv_aload_n hx hb dX10_waits_95 rfl (lv_at hl 0 rfl) ?_
      refine gR_32 E hP kfX10_111 (v := ((gI u 32) + (1 : Int32))) rfl dX10_waits_96 ?_
      refine pR_10 E hP hD hS kfX10_41 dX10_waits_99 (fun H locs hP hD hS => ?_)
      refine lv_iconst (v := (1 : Int32)) hx hb dX10_waits_102 (by decide) ?_
      exact retR_z E hr hlk hP hD hS (vz_n vz_1) h dX10_waits_103
  · have h := h.1 hc
    refine lv_aload_n hx hb dX10_waits_11 rfl (lv_at hl 0 rfl) ?_
    refine lv_bipush (v := (7 : Int32)) hx hb dX10_waits_12 (by decide) ?_
    refine cR_v (ci := 9) (q0 := 0) (As := [.int (7 : Int32)]) (rest := []) E hml hP hD hS hA (t_X10_fails l D G (7 : Int32) u _ h) kmX10_265 mwyX10_fails rfl rfl ⟨⟨rfl, rfl⟩, Nat.le_of_ble_eq_true rfl, Nat.le_of_ble_eq_true rfl⟩ rfl hl.1 rfl (Nat.le_of_ble_eq_true rfl) dX10_waits_14 ⟨Nat.zero_le _, Nat.zero_le _⟩ (fun u1 H locs hP hD hS h => ?_)
    refine lv_iconst (v := (0 : Int32)) hx hb dX10_waits_17 (by decide) ?_
    exact retR_z E hr hlk hP hD hS (vz_n vz_0) h dX10_waits_18
def wp_X10_condition (p0 : Int64) (u : St) (Q : St → Prop) : Prop := ((p0 = (4294967296 : Int64) → wp_X10_fails (5 : Int32) u (fun (u14 : St) => Q u14)) ∧ (¬ p0 = (4294967296 : Int64) → wp_X10_isPair p0 (fun (r1 : Int32) => ((r1 = 0 → wp_X10_fails (3 : Int32) u (fun (u2 : St) => Q u2)) ∧ (¬ r1 = 0 → wp_X10_first p0 u (fun (r3 : Int64) (u4 : St) => wp_X10_listOf r3 (2 : Int32) u4 (fun (r5 : Int32) (u6 : St) => ((r5 = 0 → wp_X10_fails (3 : Int32) u6 (fun (u13 : St) => Q u13)) ∧ (¬ r5 = 0 → wp_X10_waits (1 : Int32) (4294967296 : Int64) p0 u6 (fun (r7 : Int32) (u8 : St) => ((r7 = 0 → Q u8) ∧ (¬ r7 = 0 → wp_X10_first p0 (sI u8 39 (0 : Int32)) (fun (r9 : Int64) (u10 : St) => wp_X10_first r9 u10 (fun (r11 : Int64) (u12 : St) => Q (sJ u12 40 r11)))))))))))))))
abbrev rm_X10_condition : Room := { frames := 2, cells := 0, slots := 0, locals := 48 }
set_option maxHeartbeats 4000000 in
set_option maxRecDepth 100000 in
theorem t_X10_condition (l : Launch) (D : va_G) (G : Gd) (p0 : Int64) (u : St) (Q : St → Prop) (h : wp_X10_condition p0 u Q) : MRv l D G yX10_condition cX10_condition 3 none rm_X10_condition [.ref (G.1 0), .long p0] u Q := by
  refine startR_v (by decide) ?_
  intro p e s m args below meth c E hr hlk hml hP hD hS hA
  have hx := E.1
  have hb := E.2.1
  have hown := E.2.2.1
  have hW := E.2.2.2.1
  have hl := lv_entry ([.ref (G.1 0), .long p0]) (n := 3) (Nat.le_of_ble_eq_true rfl)
  rw [lg_entry_eq]
  generalize (lg_sl ([.ref (G.1 0), .long p0]) ++ List.replicate (3 - (lg_sl ([.ref (G.1 0), .long p0])).length) Slot.unset).toArray = ls at hl ⊢
  have hl : lv_has ls 3 [(0, .ref (G.1 0)), (1, .long p0)] := hl
  unfold wp_X10_condition at h
  refine lv_lload_n hx hb dX10_condition_0 rfl (lv_at hl 1 rfl) ?_
  refine lv_ldc2 (v := (4294967296 : Int64)) hx hb hown (hW _ kcX10_199) dX10_condition_1 ?_
  refine lq_ne (tgt := 16) hx hb dX10_condition_4 dX10_condition_5 (by decide) (fun hc => ?_) (fun hc => ?_)
  · have h := h.2 hc
    refine lv_lload_n hx hb dX10_condition_16 rfl (lv_at hl 1 rfl) ?_
    refine c0_i (As := [.long p0]) (rest := []) hx hb hml hown hW hP hS hA (t_X10_isPair l p0 _ h) kmX10_205 mwyX10_isPair ⟨⟨rfl, rfl⟩, Nat.le_of_ble_eq_true rfl, Nat.le_of_ble_eq_true rfl⟩ rfl hl.1 rfl (Nat.le_of_ble_eq_true rfl) dX10_condition_17 ⟨Nat.zero_le _, Nat.zero_le _⟩ (fun r1 H locs hP hS h => ?_)
    refine lv_if_eq (tgt := 36) hx hb dX10_condition_20 (by decide) (fun hc => ?_) (fun hc => ?_)
    · have h := h.1 hc
      refine lv_aload_n hx hb dX10_condition_36 rfl (lv_at hl 0 rfl) ?_
      refine lv_iconst (v := (3 : Int32)) hx hb dX10_condition_37 (by decide) ?_
      refine cR_v (ci := 9) (q0 := 0) (As := [.int (3 : Int32)]) (rest := []) E hml hP hD hS hA (t_X10_fails l D G (3 : Int32) u _ h) kmX10_265 mwyX10_fails rfl rfl ⟨⟨rfl, rfl⟩, Nat.le_of_ble_eq_true rfl, Nat.le_of_ble_eq_true rfl⟩ rfl hl.1 rfl (Nat.le_of_ble_eq_true rfl) dX10_condition_38 ⟨Nat.zero_le _, Nat.zero_le _⟩ (fun u2 H locs hP hD hS h => ?_)
      refine lv_goto (tgt := 74) hx hb dX10_condition_41 (by decide) ?_
      exact retR_v E hr hlk hP hD hS h dX10_condition_74
    · have h := h.2 hc
      refine lv_aload_n hx hb dX10_condition_23 rfl (lv_at hl 0 rfl) ?_
      refine lv_aload_n hx hb dX10_condition_24 rfl (lv_at hl 0 rfl) ?_
      refine lv_lload_n hx hb dX10_condition_25 rfl (lv_at hl 1 rfl) ?_
      refine cR_l (ci := 9) (q0 := 0) (As := [.long p0]) (rest := [.ref (G.1 0)]) E hml hP hD hS hA (t_X10_first l D G p0 u _ h) kmX10_209 mwyX10_first rfl rfl ⟨⟨rfl, rfl⟩, Nat.le_of_ble_eq_true rfl, Nat.le_of_ble_eq_true rfl⟩ rfl hl.1 rfl (Nat.le_of_ble_eq_true rfl) dX10_condition_26 ⟨Nat.zero_le _, Nat.zero_le _⟩ (fun r3 u4 H locs hP hD hS h => ?_)
      refine lv_iconst (v := (2 : Int32)) hx hb dX10_condition_29 (by decide) ?_
      refine cR_i (ci := 9) (q0 := 0) (As := [.long r3, .int (2 : Int32)]) (rest := []) E hml hP hD hS hA (t_X10_listOf l D G r3 (2 : Int32) u4 _ h) kmX10_269 mwyX10_listOf rfl rfl ⟨⟨rfl, rfl⟩, Nat.le_of_ble_eq_true rfl, Nat.le_of_ble_eq_true rfl⟩ rfl hl.1 rfl (Nat.le_of_ble_eq_true rfl) dX10_condition_30 ⟨Nat.zero_le _, Nat.zero_le _⟩ (fun r5 u6 H locs hP hD hS h => ?_)
      refine lv_if_ne (tgt := 44) hx hb dX10_condition_33 (by decide) (fun hc => ?_) (fun hc => ?_)
      · have h := h.2 hc
        refine lv_aload_n hx hb dX10_condition_44 rfl (lv_at hl 0 rfl) ?_
        refine lv_iconst (v := (1 : Int32)) hx hb dX10_condition_45 (by decide) ?_
        refine lv_ldc2 (v := (4294967296 : Int64)) hx hb hown (hW _ kcX10_199) dX10_condition_46 ?_
        refine lv_lload_n hx hb dX10_condition_49 rfl (lv_at hl 1 rfl) ?_
        refine cR_i (ci := 9) (q0 := 0) (As := [.int (1 : Int32), .long (4294967296 : Int64), .long p0]) (rest := []) E hml hP hD hS hA (t_X10_waits l D G (1 : Int32) (4294967296 : Int64) p0 u6 _ h) kmX10_273 mwyX10_waits rfl rfl ⟨⟨rfl, rfl⟩, Nat.le_of_ble_eq_true rfl, Nat.le_of_ble_eq_true rfl⟩ rfl hl.1 rfl (Nat.le_of_ble_eq_true rfl) dX10_condition_50 ⟨Nat.zero_le _, Nat.zero_le _⟩ (fun r7 u8 H locs hP hD hS h => ?_)
        refine lv_if_eq (tgt := 74) hx hb dX10_condition_53 (by decide) (fun hc => ?_) (fun hc => ?_)
        · have h := h.1 hc
          exact retR_v E hr hlk hP hD hS h dX10_condition_74
        · have h := h.2 hc
          refine lv_aload_n hx hb dX10_condition_56 rfl (lv_at hl 0 rfl) ?_
          refine lv_iconst (v := (0 : Int32)) hx hb dX10_condition_57 (by decide) ?_
          refine pR_39 E hP hD hS kfX10_132 dX10_condition_58 (fun H locs hP hD hS => ?_)
          refine lv_aload_n hx hb dX10_condition_61 rfl (lv_at hl 0 rfl) ?_
          refine lv_aload_n hx hb dX10_condition_62 rfl (lv_at hl 0 rfl) ?_
          refine lv_aload_n hx hb dX10_condition_63 rfl (lv_at hl 0 rfl) ?_
          refine lv_lload_n hx hb dX10_condition_64 rfl (lv_at hl 1 rfl) ?_
          refine cR_l (ci := 9) (q0 := 0) (As := [.long p0]) (rest := [.ref (G.1 0), .ref (G.1 0)]) E hml hP hD hS hA (t_X10_first l D G p0 (sI u8 39 (0 : Int32)) _ h) kmX10_209 mwyX10_first rfl rfl ⟨⟨rfl, rfl⟩, Nat.le_of_ble_eq_true rfl, Nat.le_of_ble_eq_true rfl⟩ rfl hl.1 rfl (Nat.le_of_ble_eq_true rfl) dX10_condition_65 ⟨Nat.zero_le _, Nat.zero_le _⟩ (fun r9 u10 H locs hP hD hS h => ?_)
          refine cR_l (ci := 9) (q0 := 0) (As := [.long r9]) (rest := [.ref (G.1 0)]) E hml hP hD hS hA (t_X10_first l D G r9 u10 _ h) kmX10_209 mwyX10_first rfl rfl ⟨⟨rfl, rfl⟩, Nat.le_of_ble_eq_true rfl, Nat.le_of_ble_eq_true rfl⟩ rfl hl.1 rfl (Nat.le_of_ble_eq_true rfl) dX10_condition_68 ⟨Nat.zero_le _, Nat.zero_le _⟩ (fun r11 u12 H locs hP hD hS h => ?_)
          refine pR_40 E hP hD hS kfX10_135 dX10_condition_71 (fun H locs hP hD hS => ?_)
          exact retR_v E hr hlk hP hD hS h dX10_condition_74
      · have h := h.1 hc
        refine lv_aload_n hx hb dX10_condition_36 rfl (lv_at hl 0 rfl) ?_
        refine lv_iconst (v := (3 : Int32)) hx hb dX10_condition_37 (by decide) ?_
        refine cR_v (ci := 9) (q0 := 0) (As := [.int (3 : Int32)]) (rest := []) E hml hP hD hS hA (t_X10_fails l D G (3 : Int32) u6 _ h) kmX10_265 mwyX10_fails rfl rfl ⟨⟨rfl, rfl⟩, Nat.le_of_ble_eq_true rfl, Nat.le_of_ble_eq_true rfl⟩ rfl hl.1 rfl (Nat.le_of_ble_eq_true rfl) dX10_condition_38 ⟨Nat.zero_le _, Nat.zero_le _⟩ (fun u13 H locs hP hD hS h => ?_)
        refine lv_goto (tgt := 74) hx hb dX10_condition_41 (by decide) ?_
        exact retR_v E hr hlk hP hD hS h dX10_condition_74
  · have h := h.1 hc
    refine lv_aload_n hx hb dX10_condition_8 rfl (lv_at hl 0 rfl) ?_
    refine lv_iconst (v := (5 : Int32)) hx hb dX10_condition_9 (by decide) ?_
    refine cR_v (ci := 9) (q0 := 0) (As := [.int (5 : Int32)]) (rest := []) E hml hP hD hS hA (t_X10_fails l D G (5 : Int32) u _ h) kmX10_265 mwyX10_fails rfl rfl ⟨⟨rfl, rfl⟩, Nat.le_of_ble_eq_true rfl, Nat.le_of_ble_eq_true rfl⟩ rfl hl.1 rfl (Nat.le_of_ble_eq_true rfl) dX10_condition_10 ⟨Nat.zero_le _, Nat.zero_le _⟩ (fun u14 H locs hP hD hS h => ?_)
    refine lv_goto (tgt := 74) hx hb dX10_condition_13 (by decide) ?_
    exact retR_v E hr hlk hP hD hS h dX10_condition_74
def l_X10_back_240 (c1 : Int32) (K : St → Prop) : Nat → Int32 → St → Prop
  | 0, _, _ => False
  | n + 1, x2, u => (((gI u 43) ≤ x2 → K u) ∧ (¬ (gI u 43) ≤ x2 → vp_in (((8 : Int32) * c1) + x2) 1600 ∧ vp_in x2 8 ∧ l_X10_back_240  c1 K n (x2 + (1 : Int32)) (sB u 42 (vp_updL (gB u 42) (x2).toNatClampNeg ((gB u 38) ((((8 : Int32) * c1) + x2)).toNatClampNeg)))))
def l_X10_back_134 (c1 : Int32) (K : St → Prop) : Nat → Int32 → St → Prop
  | 0, _, _ => False
  | n + 1, x2, u => (((gI u 43) ≤ x2 → K u) ∧ (¬ (gI u 43) ≤ x2 → vp_in (((8 : Int32) * c1) + x2) 1600 ∧ vp_in x2 8 ∧ l_X10_back_134  c1 K n (x2 + (1 : Int32)) (sB u 42 (vp_updL (gB u 42) (x2).toNatClampNeg ((gB u 38) ((((8 : Int32) * c1) + x2)).toNatClampNeg)))))
def wp_X10_back  (u : St) (Q : St → Prop) : Prop := vp_in ((gI u 32) - (1 : Int32)) 200 ∧ vp_in ((gI u 32) - (1 : Int32)) 200 ∧ ((((gA u 33) (((gI u 32) - (1 : Int32))).toNatClampNeg) = (1 : Int32) → vp_in ((gI u 32) - (1 : Int32)) 200 ∧ wp_X10_first ((gB u 35) (((gI u 32) - (1 : Int32))).toNatClampNeg) (sI (sJ u 41 ((gB u 36) (((gI u 32) - (1 : Int32))).toNatClampNeg)) 32 ((gI u 32) - (1 : Int32))) (fun (r12 : Int64) (u13 : St) => (((gJ u13 40) = (4294967296 : Int64) → wp_X10_begins  (sI u13 39 (0 : Int32)) (fun (r14 : Int32) (u15 : St) => ((r14 = 0 → Q u15) ∧ (¬ r14 = 0 → vp_in ((gI u 32) - (1 : Int32)) 200 ∧ wp_X10_behind ((gB u15 35) (((gI u 32) - (1 : Int32))).toNatClampNeg) u15 (fun (r16 : Int64) (u17 : St) => wp_X10_condition r16 u17 (fun (u18 : St) => Q u18)))))) ∧ (¬ (gJ u13 40) = (4294967296 : Int64) → wp_X10_behind r12 (sI u13 39 (0 : Int32)) (fun (r19 : Int64) (u20 : St) => wp_X10_first r19 u20 (fun (r21 : Int64) (u22 : St) => Q (sJ u22 40 r21))))))) ∧ (¬ ((gA u 33) (((gI u 32) - (1 : Int32))).toNatClampNeg) = (1 : Int32) → vp_in ((gI u 32) - (1 : Int32)) 200 ∧ ((((gA u 33) (((gI u 32) - (1 : Int32))).toNatClampNeg) = (2 : Int32) → vp_in ((gI u 32) - (1 : Int32)) 200 ∧ (∃ k11 : Nat, l_X10_back_134  ((gI u 32) - (1 : Int32)) (fun (u10 : St) => Q (sI u10 39 (1 : Int32))) k11 (0 : Int32) (sI (sI (sJ u 41 ((gB u 36) (((gI u 32) - (1 : Int32))).toNatClampNeg)) 32 ((gI u 32) - (1 : Int32))) 43 ((gA u 37) (((gI u 32) - (1 : Int32))).toNatClampNeg)))) ∧ (¬ ((gA u 33) (((gI u 32) - (1 : Int32))).toNatClampNeg) = (2 : Int32) → vp_in ((gI u 32) - (1 : Int32)) 200 ∧ vp_in (((8 : Int32) * ((gI u 32) - (1 : Int32))) + ((gA u 37) (((gI u 32) - (1 : Int32))).toNatClampNeg)) 1600 ∧ vp_in ((gI u 32) - (1 : Int32)) 200 ∧ vp_in ((gI u 32) - (1 : Int32)) 200 ∧ vp_in ((gI u 32) - (1 : Int32)) 200 ∧ ((((gB u 35) (((gI u 32) - (1 : Int32))).toNatClampNeg) = (4294967296 : Int64) → vp_in ((gI u 32) - (1 : Int32)) 200 ∧ (∃ k9 : Nat, l_X10_back_240  ((gI u 32) - (1 : Int32)) (fun (u8 : St) => vp_in ((gI u 32) - (1 : Int32)) 200 ∧ Q (sJ (sI u8 39 (1 : Int32)) 40 ((gB u8 34) (((gI u 32) - (1 : Int32))).toNatClampNeg))) k9 (0 : Int32) (sI (sI (sA (sB (sJ u 41 ((gB u 36) (((gI u 32) - (1 : Int32))).toNatClampNeg)) 38 (vp_updL (gB u 38) ((((8 : Int32) * ((gI u 32) - (1 : Int32))) + ((gA u 37) (((gI u 32) - (1 : Int32))).toNatClampNeg))).toNatClampNeg (gJ u 40))) 37 (upd (gA u 37) (((gI u 32) - (1 : Int32))).toNatClampNeg (((gA u 37) (((gI u 32) - (1 : Int32))).toNatClampNeg) + (1 : Int32)))) 32 ((gI u 32) - (1 : Int32))) 43 ((upd (gA u 37) (((gI u 32) - (1 : Int32))).toNatClampNeg (((gA u 37) (((gI u 32) - (1 : Int32))).toNatClampNeg) + (1 : Int32))) (((gI u 32) - (1 : Int32))).toNatClampNeg)))) ∧ (¬ ((gB u 35) (((gI u 32) - (1 : Int32))).toNatClampNeg) = (4294967296 : Int64) → vp_in ((gI u 32) - (1 : Int32)) 200 ∧ wp_X10_isPair ((gB u 35) (((gI u 32) - (1 : Int32))).toNatClampNeg) (fun (r1 : Int32) => ((r1 = 0 → wp_X10_fails (3 : Int32) (sA (sB (sJ u 41 ((gB u 36) (((gI u 32) - (1 : Int32))).toNatClampNeg)) 38 (vp_updL (gB u 38) ((((8 : Int32) * ((gI u 32) - (1 : Int32))) + ((gA u 37) (((gI u 32) - (1 : Int32))).toNatClampNeg))).toNatClampNeg (gJ u 40))) 37 (upd (gA u 37) (((gI u 32) - (1 : Int32))).toNatClampNeg (((gA u 37) (((gI u 32) - (1 : Int32))).toNatClampNeg) + (1 : Int32)))) (fun (u2 : St) => Q u2)) ∧ (¬ r1 = 0 → vp_in ((gI u 32) - (1 : Int32)) 200 ∧ ((((upd (gA u 37) (((gI u 32) - (1 : Int32))).toNatClampNeg (((gA u 37) (((gI u 32) - (1 : Int32))).toNatClampNeg) + (1 : Int32))) (((gI u 32) - (1 : Int32))).toNatClampNeg) = (8 : Int32) → wp_X10_fails (3 : Int32) (sA (sB (sJ u 41 ((gB u 36) (((gI u 32) - (1 : Int32))).toNatClampNeg)) 38 (vp_updL (gB u 38) ((((8 : Int32) * ((gI u 32) - (1 : Int32))) + ((gA u 37) (((gI u 32) - (1 : Int32))).toNatClampNeg))).toNatClampNeg (gJ u 40))) 37 (upd (gA u 37) (((gI u 32) - (1 : Int32))).toNatClampNeg (((gA u 37) (((gI u 32) - (1 : Int32))).toNatClampNeg) + (1 : Int32)))) (fun (u7 : St) => Q u7)) ∧ (¬ ((upd (gA u 37) (((gI u 32) - (1 : Int32))).toNatClampNeg (((gA u 37) (((gI u 32) - (1 : Int32))).toNatClampNeg) + (1 : Int32))) (((gI u 32) - (1 : Int32))).toNatClampNeg) = (8 : Int32) → vp_in ((gI u 32) - (1 : Int32)) 200 ∧ wp_X10_first ((gB u 35) (((gI u 32) - (1 : Int32))).toNatClampNeg) (sI (sA (sB (sJ u 41 ((gB u 36) (((gI u 32) - (1 : Int32))).toNatClampNeg)) 38 (vp_updL (gB u 38) ((((8 : Int32) * ((gI u 32) - (1 : Int32))) + ((gA u 37) (((gI u 32) - (1 : Int32))).toNatClampNeg))).toNatClampNeg (gJ u 40))) 37 (upd (gA u 37) (((gI u 32) - (1 : Int32))).toNatClampNeg (((gA u 37) (((gI u 32) - (1 : Int32))).toNatClampNeg) + (1 : Int32)))) 39 (0 : Int32)) (fun (r3 : Int64) (u4 : St) => vp_in ((gI u 32) - (1 : Int32)) 200 ∧ wp_X10_behind ((gB u4 35) (((gI u 32) - (1 : Int32))).toNatClampNeg) (sJ u4 40 r3) (fun (r5 : Int64) (u6 : St) => vp_in ((gI u 32) - (1 : Int32)) 200 ∧ Q (sB u6 35 (vp_updL (gB u6 35) (((gI u 32) - (1 : Int32))).toNatClampNeg r5)))))))))))))))
abbrev rm_X10_back : Room := { frames := 3, cells := 0, slots := 0, locals := 70 }
set_option maxHeartbeats 4000000 in
set_option maxRecDepth 100000 in
theorem t_X10_back (l : Launch) (D : va_G) (G : Gd)  (u : St) (Q : St → Prop) (h : wp_X10_back  u Q) : MRv l D G yX10_back cX10_back 4 none rm_X10_back [.ref (G.1 0)] u Q := by
  refine startR_v (by decide) ?_
  intro p e s m args below meth c E hr hlk hml hP hD hS hA
  have hx := E.1
  have hb := E.2.1
  have hown := E.2.2.1
  have hW := E.2.2.2.1
  have hl := lv_entry ([.ref (G.1 0)]) (n := 4) (Nat.le_of_ble_eq_true rfl)
  rw [lg_entry_eq]
  generalize (lg_sl ([.ref (G.1 0)]) ++ List.replicate (4 - (lg_sl ([.ref (G.1 0)])).length) Slot.unset).toArray = ls at hl ⊢
  have hl : lv_has ls 4 [(0, .ref (G.1 0))] := hl
  have L_240 : ∀ (c1 : Int32) (K : St → Prop), (∀  (u : St) (H : Heap) (locs : List Loc) (ls : Array Slot), K  u → va_P D vwCl (wR G u) H → va_D (AR G s.heap.size) (wR G u) → va_S (AR G s.heap.size) s.heap H locs → lv_has ls 4 [(0, .ref (G.1 0)), (1, .int c1)] → W p l e rm_X10_back s m args below meth c H locs 0 0 (MQ below (va_Qv Q (BR D G s.heap.size) (AR G s.heap.size)) args s 0 0 (AR G s.heap.size)) (F0 m 271 ls [])) → ∀ (n : Nat) (x2 : Int32) (u : St) (H : Heap) (locs : List Loc) (ls : Array Slot), l_X10_back_240  c1 K n x2 u → va_P D vwCl (wR G u) H → va_D (AR G s.heap.size) (wR G u) → va_S (AR G s.heap.size) s.heap H locs → lv_has ls 4 [(0, .ref (G.1 0)), (1, .int c1), (2, .int x2)] → W p l e rm_X10_back s m args below meth c H locs 0 0 (MQ below (va_Qv Q (BR D G s.heap.size) (AR G s.heap.size)) args s 0 0 (AR G s.heap.size)) (F0 m 240 ls []) := by
    intro c1 K hK n
    induction n with
    | zero => intro x2 u H locs ls h; exact False.elim h
    | succ n ih =>
      intro x2 u H locs ls h hP hD hS hl
      unfold l_X10_back_240 at h
      refine lv_iload_n hx hb dX10_back_240 rfl (lv_at hl 2 rfl) ?_
      refine lv_aload_n hx hb dX10_back_241 rfl (lv_at hl 0 rfl) ?_
      refine gR_43 E hP kfX10_144 (v := (gI u 43)) rfl dX10_back_242 ?_
      refine lv_icmp_ge (tgt := 271) hx hb dX10_back_245 (by decide) (fun hc => ?_) (fun hc => ?_)
      · have h := h.1 hc
        exact hK u _ _ _ h hP hD hS (lv_sub hl [0, 1] rfl)
      · have h := h.2 hc
        refine lv_aload_n hx hb dX10_back_248 rfl (lv_at hl 0 rfl) ?_
        refine gR_42 E hP kfX10_141 dX10_back_249 ?_
        refine lv_iload_n hx hb dX10_back_252 rfl (lv_at hl 2 rfl) ?_
        refine lv_aload_n hx hb dX10_back_253 rfl (lv_at hl 0 rfl) ?_
        refine gR_38 E hP kfX10_129 dX10_back_254 ?_
        refine lv_bipush (v := (8 : Int32)) hx hb dX10_back_257 (by decide) ?_
        refine lv_iload_n hx hb dX10_back_259 rfl (lv_at hl 1 rfl) ?_
        refine lv_imul hx hb dX10_back_260 ?_
        refine lv_iload_n hx hb dX10_back_261 rfl (lv_at hl 2 rfl) ?_
        refine lv_iadd hx hb dX10_back_262 ?_
        obtain ⟨h9, h⟩ := h
        refine xR_38 E hP h9 (v := ((gB u 38) ((((8 : Int32) * c1) + x2)).toNatClampNeg)) rfl dX10_back_263 ?_
        obtain ⟨h9, h⟩ := h
        refine yR_42 E hP hD hS h9 (f := (gB u 42)) rfl dX10_back_264 (fun H locs hP hD hS => ?_)
        refine lv_iinc (v := (x2 + (1 : Int32))) (lv' := [(2, .int (x2 + (1 : Int32))), (0, .ref (G.1 0)), (1, .int c1)]) hx hb dX10_back_265 hl (k := 2) rfl rfl (by decide) rfl (fun ls hl => ?_)
        refine lv_goto (tgt := 240) hx hb dX10_back_268 (by decide) ?_
        exact ih (x2 + (1 : Int32)) (sB u 42 (vp_updL (gB u 42) (x2).toNatClampNeg ((gB u 38) ((((8 : Int32) * c1) + x2)).toNatClampNeg))) _ _ _ h hP hD hS (lv_sub hl [1, 2, 0] rfl)
  have L_134 : ∀ (c1 : Int32) (K : St → Prop), (∀  (u : St) (H : Heap) (locs : List Loc) (ls : Array Slot), K  u → va_P D vwCl (wR G u) H → va_D (AR G s.heap.size) (wR G u) → va_S (AR G s.heap.size) s.heap H locs → lv_has ls 4 [(0, .ref (G.1 0))] → W p l e rm_X10_back s m args below meth c H locs 0 0 (MQ below (va_Qv Q (BR D G s.heap.size) (AR G s.heap.size)) args s 0 0 (AR G s.heap.size)) (F0 m 165 ls [])) → ∀ (n : Nat) (x2 : Int32) (u : St) (H : Heap) (locs : List Loc) (ls : Array Slot), l_X10_back_134  c1 K n x2 u → va_P D vwCl (wR G u) H → va_D (AR G s.heap.size) (wR G u) → va_S (AR G s.heap.size) s.heap H locs → lv_has ls 4 [(0, .ref (G.1 0)), (1, .int c1), (2, .int x2)] → W p l e rm_X10_back s m args below meth c H locs 0 0 (MQ below (va_Qv Q (BR D G s.heap.size) (AR G s.heap.size)) args s 0 0 (AR G s.heap.size)) (F0 m 134 ls []) := by
    intro c1 K hK n
    induction n with
    | zero => intro x2 u H locs ls h; exact False.elim h
    | succ n ih =>
      intro x2 u H locs ls h hP hD hS hl
      unfold l_X10_back_134 at h
      refine lv_iload_n hx hb dX10_back_134 rfl (lv_at hl 2 rfl) ?_
      refine lv_aload_n hx hb dX10_back_135 rfl (lv_at hl 0 rfl) ?_
      refine gR_43 E hP kfX10_144 (v := (gI u 43)) rfl dX10_back_136 ?_
      refine lv_icmp_ge (tgt := 165) hx hb dX10_back_139 (by decide) (fun hc => ?_) (fun hc => ?_)
      · have h := h.1 hc
        exact hK u _ _ _ h hP hD hS (lv_sub hl [0] rfl)
      · have h := h.2 hc
        refine lv_aload_n hx hb dX10_back_142 rfl (lv_at hl 0 rfl) ?_
        refine gR_42 E hP kfX10_141 dX10_back_143 ?_
        refine lv_iload_n hx hb dX10_back_146 rfl (lv_at hl 2 rfl) ?_
        refine lv_aload_n hx hb dX10_back_147 rfl (lv_at hl 0 rfl) ?_
        refine gR_38 E hP kfX10_129 dX10_back_148 ?_
        refine lv_bipush (v := (8 : Int32)) hx hb dX10_back_151 (by decide) ?_
        refine lv_iload_n hx hb dX10_back_153 rfl (lv_at hl 1 rfl) ?_
        refine lv_imul hx hb dX10_back_154 ?_
        refine lv_iload_n hx hb dX10_back_155 rfl (lv_at hl 2 rfl) ?_
        refine lv_iadd hx hb dX10_back_156 ?_
        obtain ⟨h9, h⟩ := h
        refine xR_38 E hP h9 (v := ((gB u 38) ((((8 : Int32) * c1) + x2)).toNatClampNeg)) rfl dX10_back_157 ?_
        obtain ⟨h9, h⟩ := h
        refine yR_42 E hP hD hS h9 (f := (gB u 42)) rfl dX10_back_158 (fun H locs hP hD hS => ?_)
        refine lv_iinc (v := (x2 + (1 : Int32))) (lv' := [(2, .int (x2 + (1 : Int32))), (0, .ref (G.1 0)), (1, .int c1)]) hx hb dX10_back_159 hl (k := 2) rfl rfl (by decide) rfl (fun ls hl => ?_)
        refine lv_goto (tgt := 134) hx hb dX10_back_162 (by decide) ?_
        exact ih (x2 + (1 : Int32)) (sB u 42 (vp_updL (gB u 42) (x2).toNatClampNeg ((gB u 38) ((((8 : Int32) * c1) + x2)).toNatClampNeg))) _ _ _ h hP hD hS (lv_sub hl [1, 2, 0] rfl)
  unfold wp_X10_back at h
  refine lv_aload_n hx hb dX10_back_0 rfl (lv_at hl 0 rfl) ?_
  refine gR_32 E hP kfX10_111 (v := (gI u 32)) rfl dX10_back_1 ?_
  refine lv_iconst (v := (1 : Int32)) hx hb dX10_back_4 (by decide) ?_
  refine lv_isub hx hb dX10_back_5 ?_
  refine lv_istore_n (lv' := [(1, .int ((gI u 32) - (1 : Int32))), (0, .ref (G.1 0))]) hx hb dX10_back_6 rfl hl (by decide) rfl (fun ls hl => ?_)
  refine lv_aload_n hx hb dX10_back_7 rfl (lv_at hl 1 rfl) ?_
  refine lv_aload_n hx hb dX10_back_8 rfl (lv_at hl 1 rfl) ?_
  refine gR_36 E hP kfX10_123 dX10_back_9 ?_
  refine lv_iload_n hx hb dX10_back_12 rfl (lv_at hl 0 rfl) ?_
  obtain ⟨h9, h⟩ := h
  refine xR_36 E hP h9 (v := ((gB u 36) (((gI u 32) - (1 : Int32))).toNatClampNeg)) rfl dX10_back_13 ?_
  refine pR_41 E hP hD hS kfX10_138 dX10_back_14 (fun H locs hP hD hS => ?_)
  refine lv_aload_n hx hb dX10_back_17 rfl (lv_at hl 1 rfl) ?_
  refine gR_33 E hP kfX10_114 dX10_back_18 ?_
  refine lv_iload_n hx hb dX10_back_21 rfl (lv_at hl 0 rfl) ?_
  obtain ⟨h9, h⟩ := h
  refine xR_33 E hP h9 (v := ((gA u 33) (((gI u 32) - (1 : Int32))).toNatClampNeg)) rfl dX10_back_22 ?_
  refine lv_iconst (v := (1 : Int32)) hx hb dX10_back_23 (by decide) ?_
  refine lv_icmp_ne (tgt := 102) hx hb dX10_back_24 (by decide) (fun hc => ?_) (fun hc => ?_)
  · have h := h.2 hc
    refine lv_aload_n hx hb dX10_back_102 rfl (lv_at hl 1 rfl) ?_
    refine gR_33 E hP kfX10_114 dX10_back_103 ?_
    refine lv_iload_n hx hb dX10_back_106 rfl (lv_at hl 0 rfl) ?_
    obtain ⟨h9, h⟩ := h
    refine xR_33 E hP h9 (v := ((gA u 33) (((gI u 32) - (1 : Int32))).toNatClampNeg)) rfl dX10_back_107 ?_
    refine lv_iconst (v := (2 : Int32)) hx hb dX10_back_108 (by decide) ?_
    refine lv_icmp_ne (tgt := 171) hx hb dX10_back_109 (by decide) (fun hc => ?_) (fun hc => ?_)
    · have h := h.2 hc
      refine lv_aload_n hx hb dX10_back_171 rfl (lv_at hl 1 rfl) ?_
      refine gR_38 E hP kfX10_129 dX10_back_172 ?_
      refine lv_bipush (v := (8 : Int32)) hx hb dX10_back_175 (by decide) ?_
      refine lv_iload_n hx hb dX10_back_177 rfl (lv_at hl 0 rfl) ?_
      refine lv_imul hx hb dX10_back_178 ?_
      refine lv_aload_n hx hb dX10_back_179 rfl (lv_at hl 1 rfl) ?_
      refine gR_37 E hP kfX10_126 dX10_back_180 ?_
      refine lv_iload_n hx hb dX10_back_183 rfl (lv_at hl 0 rfl) ?_
      obtain ⟨h9, h⟩ := h
      refine xR_37 E hP h9 (v := ((gA u 37) (((gI u 32) - (1 : Int32))).toNatClampNeg)) rfl dX10_back_184 ?_
      refine lv_iadd hx hb dX10_back_185 ?_
      refine lv_aload_n hx hb dX10_back_186 rfl (lv_at hl 1 rfl) ?_
      refine gR_40 E hP kfX10_135 (v := (gJ u 40)) rfl dX10_back_187 ?_
      obtain ⟨h9, h⟩ := h
      refine yR_38 E hP hD hS h9 (f := (gB u 38)) rfl dX10_back_190 (fun H locs hP hD hS => ?_)
      refine lv_aload_n hx hb dX10_back_191 rfl (lv_at hl 1 rfl) ?_
      refine gR_37 E hP kfX10_126 dX10_back_192 ?_
      refine lv_iload_n hx hb dX10_back_195 rfl (lv_at hl 0 rfl) ?_
      refine lv_aload_n hx hb dX10_back_196 rfl (lv_at hl 1 rfl) ?_
      refine gR_37 E hP kfX10_126 dX10_back_197 ?_
      refine lv_iload_n hx hb dX10_back_200 rfl (lv_at hl 0 rfl) ?_
      obtain ⟨h9, h⟩ := h
      refine xR_37 E hP h9 (v := ((gA u 37) (((gI u 32) - (1 : Int32))).toNatClampNeg)) rfl dX10_back_201 ?_
      refine lv_iconst (v := (1 : Int32)) hx hb dX10_back_202 (by decide) ?_
      refine lv_iadd hx hb dX10_back_203 ?_
      obtain ⟨h9, h⟩ := h
      refine yR_37 E hP hD hS h9 (f := (gA u 37)) rfl dX10_back_204 (fun H locs hP hD hS => ?_)
      refine lv_aload_n hx hb dX10_back_205 rfl (lv_at hl 1 rfl) ?_
      refine gR_35 E hP kfX10_120 dX10_back_206 ?_
      refine lv_iload_n hx hb dX10_back_209 rfl (lv_at hl 0 rfl) ?_
      obtain ⟨h9, h⟩ := h
      refine xR_35 E hP h9 (v := ((gB u 35) (((gI u 32) - (1 : Int32))).toNatClampNeg)) rfl dX10_back_210 ?_
      refine lv_ldc2 (v := (4294967296 : Int64)) hx hb hown (hW _ kcX10_199) dX10_back_211 ?_
      refine lq_ne (tgt := 289) hx hb dX10_back_214 dX10_back_215 (by decide) (fun hc => ?_) (fun hc => ?_)
      · have h := h.2 hc
        refine lv_aload_n hx hb dX10_back_289 rfl (lv_at hl 1 rfl) ?_
        refine gR_35 E hP kfX10_120 dX10_back_290 ?_
        refine lv_iload_n hx hb dX10_back_293 rfl (lv_at hl 0 rfl) ?_
        obtain ⟨h9, h⟩ := h
        refine xR_35 E hP h9 (v := ((gB u 35) (((gI u 32) - (1 : Int32))).toNatClampNeg)) rfl dX10_back_294 ?_
        refine c0_i (As := [.long ((gB u 35) (((gI u 32) - (1 : Int32))).toNatClampNeg)]) (rest := []) hx hb hml hown hW hP hS hA (t_X10_isPair l ((gB u 35) (((gI u 32) - (1 : Int32))).toNatClampNeg) _ h) kmX10_205 mwyX10_isPair ⟨⟨rfl, rfl⟩, Nat.le_of_ble_eq_true rfl, Nat.le_of_ble_eq_true rfl⟩ rfl hl.1 rfl (Nat.le_of_ble_eq_true rfl) dX10_back_295 ⟨Nat.zero_le _, Nat.zero_le _⟩ (fun r1 H locs hP hS h => ?_)
        refine lv_if_eq (tgt := 312) hx hb dX10_back_298 (by decide) (fun hc => ?_) (fun hc => ?_)
        · have h := h.1 hc
          refine lv_aload_n hx hb dX10_back_312 rfl (lv_at hl 1 rfl) ?_
          refine lv_iconst (v := (3 : Int32)) hx hb dX10_back_313 (by decide) ?_
          refine cR_v (ci := 9) (q0 := 0) (As := [.int (3 : Int32)]) (rest := []) E hml hP hD hS hA (t_X10_fails l D G (3 : Int32) (sA (sB (sJ u 41 ((gB u 36) (((gI u 32) - (1 : Int32))).toNatClampNeg)) 38 (vp_updL (gB u 38) ((((8 : Int32) * ((gI u 32) - (1 : Int32))) + ((gA u 37) (((gI u 32) - (1 : Int32))).toNatClampNeg))).toNatClampNeg (gJ u 40))) 37 (upd (gA u 37) (((gI u 32) - (1 : Int32))).toNatClampNeg (((gA u 37) (((gI u 32) - (1 : Int32))).toNatClampNeg) + (1 : Int32)))) _ h) kmX10_265 mwyX10_fails rfl rfl ⟨⟨rfl, rfl⟩, Nat.le_of_ble_eq_true rfl, Nat.le_of_ble_eq_true rfl⟩ rfl hl.1 rfl (Nat.le_of_ble_eq_true rfl) dX10_back_314 ⟨Nat.zero_le _, Nat.zero_le _⟩ (fun u2 H locs hP hD hS h => ?_)
          refine lv_goto (tgt := 355) hx hb dX10_back_317 (by decide) ?_
          exact retR_v E hr hlk hP hD hS h dX10_back_355
        · have h := h.2 hc
          refine lv_aload_n hx hb dX10_back_301 rfl (lv_at hl 1 rfl) ?_
          refine gR_37 E hP kfX10_126 dX10_back_302 ?_
          refine lv_iload_n hx hb dX10_back_305 rfl (lv_at hl 0 rfl) ?_
          obtain ⟨h9, h⟩ := h
          refine xR_37 E hP h9 (v := ((upd (gA u 37) (((gI u 32) - (1 : Int32))).toNatClampNeg (((gA u 37) (((gI u 32) - (1 : Int32))).toNatClampNeg) + (1 : Int32))) (((gI u 32) - (1 : Int32))).toNatClampNeg)) rfl dX10_back_306 ?_
          refine lv_bipush (v := (8 : Int32)) hx hb dX10_back_307 (by decide) ?_
          refine lv_icmp_ne (tgt := 320) hx hb dX10_back_309 (by decide) (fun hc => ?_) (fun hc => ?_)
          · have h := h.2 hc
            refine lv_aload_n hx hb dX10_back_320 rfl (lv_at hl 1 rfl) ?_
            refine lv_iconst (v := (0 : Int32)) hx hb dX10_back_321 (by decide) ?_
            refine pR_39 E hP hD hS kfX10_132 dX10_back_322 (fun H locs hP hD hS => ?_)
            refine lv_aload_n hx hb dX10_back_325 rfl (lv_at hl 1 rfl) ?_
            refine lv_aload_n hx hb dX10_back_326 rfl (lv_at hl 1 rfl) ?_
            refine lv_aload_n hx hb dX10_back_327 rfl (lv_at hl 1 rfl) ?_
            refine gR_35 E hP kfX10_120 dX10_back_328 ?_
            refine lv_iload_n hx hb dX10_back_331 rfl (lv_at hl 0 rfl) ?_
            obtain ⟨h9, h⟩ := h
            refine xR_35 E hP h9 (v := ((gB u 35) (((gI u 32) - (1 : Int32))).toNatClampNeg)) rfl dX10_back_332 ?_
            refine cR_l (ci := 9) (q0 := 0) (As := [.long ((gB u 35) (((gI u 32) - (1 : Int32))).toNatClampNeg)]) (rest := [.ref (G.1 0)]) E hml hP hD hS hA (t_X10_first l D G ((gB u 35) (((gI u 32) - (1 : Int32))).toNatClampNeg) (sI (sA (sB (sJ u 41 ((gB u 36) (((gI u 32) - (1 : Int32))).toNatClampNeg)) 38 (vp_updL (gB u 38) ((((8 : Int32) * ((gI u 32) - (1 : Int32))) + ((gA u 37) (((gI u 32) - (1 : Int32))).toNatClampNeg))).toNatClampNeg (gJ u 40))) 37 (upd (gA u 37) (((gI u 32) - (1 : Int32))).toNatClampNeg (((gA u 37) (((gI u 32) - (1 : Int32))).toNatClampNeg) + (1 : Int32)))) 39 (0 : Int32)) _ h) kmX10_209 mwyX10_first rfl rfl ⟨⟨rfl, rfl⟩, Nat.le_of_ble_eq_true rfl, Nat.le_of_ble_eq_true rfl⟩ rfl hl.1 rfl (Nat.le_of_ble_eq_true rfl) dX10_back_333 ⟨Nat.zero_le _, Nat.zero_le _⟩ (fun r3 u4 H locs hP hD hS h => ?_)
            refine pR_40 E hP hD hS kfX10_135 dX10_back_336 (fun H locs hP hD hS => ?_)
            refine lv_aload_n hx hb dX10_back_339 rfl (lv_at hl 1 rfl) ?_
            refine gR_35 E hP kfX10_120 dX10_back_340 ?_
            refine lv_iload_n hx hb dX10_back_343 rfl (lv_at hl 0 rfl) ?_
            refine lv_aload_n hx hb dX10_back_344 rfl (lv_at hl 1 rfl) ?_
            refine lv_aload_n hx hb dX10_back_345 rfl (lv_at hl 1 rfl) ?_
            refine gR_35 E hP kfX10_120 dX10_back_346 ?_
            refine lv_iload_n hx hb dX10_back_349 rfl (lv_at hl 0 rfl) ?_
            obtain ⟨h9, h⟩ := h
            refine xR_35 E hP h9 (v := ((gB u4 35) (((gI u 32) - (1 : Int32))).toNatClampNeg)) rfl dX10_back_350 ?_
            refine cR_l (ci := 9) (q0 := 0) (As := [.long ((gB u4 35) (((gI u 32) - (1 : Int32))).toNatClampNeg)]) (rest := [.int ((gI u 32) - (1 : Int32)), .ref (G.1 15)]) E hml hP hD hS hA (t_X10_behind l D G ((gB u4 35) (((gI u 32) - (1 : Int32))).toNatClampNeg) (sJ u4 40 r3) _ h) kmX10_216 mwyX10_behind rfl rfl ⟨⟨rfl, rfl⟩, Nat.le_of_ble_eq_true rfl, Nat.le_of_ble_eq_true rfl⟩ rfl hl.1 rfl (Nat.le_of_ble_eq_true rfl) dX10_back_351 ⟨Nat.zero_le _, Nat.zero_le _⟩ (fun r5 u6 H locs hP hD hS h => ?_)
            obtain ⟨h9, h⟩ := h
            refine yR_35 E hP hD hS h9 (f := (gB u6 35)) rfl dX10_back_354 (fun H locs hP hD hS => ?_)
            exact retR_v E hr hlk hP hD hS h dX10_back_355
          · have h := h.1 hc
            refine lv_aload_n hx hb dX10_back_312 rfl (lv_at hl 1 rfl) ?_
            refine lv_iconst (v := (3 : Int32)) hx hb dX10_back_313 (by decide) ?_
            refine cR_v (ci := 9) (q0 := 0) (As := [.int (3 : Int32)]) (rest := []) E hml hP hD hS hA (t_X10_fails l D G (3 : Int32) (sA (sB (sJ u 41 ((gB u 36) (((gI u 32) - (1 : Int32))).toNatClampNeg)) 38 (vp_updL (gB u 38) ((((8 : Int32) * ((gI u 32) - (1 : Int32))) + ((gA u 37) (((gI u 32) - (1 : Int32))).toNatClampNeg))).toNatClampNeg (gJ u 40))) 37 (upd (gA u 37) (((gI u 32) - (1 : Int32))).toNatClampNeg (((gA u 37) (((gI u 32) - (1 : Int32))).toNatClampNeg) + (1 : Int32)))) _ h) kmX10_265 mwyX10_fails rfl rfl ⟨⟨rfl, rfl⟩, Nat.le_of_ble_eq_true rfl, Nat.le_of_ble_eq_true rfl⟩ rfl hl.1 rfl (Nat.le_of_ble_eq_true rfl) dX10_back_314 ⟨Nat.zero_le _, Nat.zero_le _⟩ (fun u7 H locs hP hD hS h => ?_)
            refine lv_goto (tgt := 355) hx hb dX10_back_317 (by decide) ?_
            exact retR_v E hr hlk hP hD hS h dX10_back_355
      · have h := h.1 hc
        refine lv_aload_n hx hb dX10_back_218 rfl (lv_at hl 1 rfl) ?_
        refine lv_dup hx hb dX10_back_219 rfl ?_
        refine gR_32 E hP kfX10_111 (v := (gI u 32)) rfl dX10_back_220 ?_
        refine lv_iconst (v := (1 : Int32)) hx hb dX10_back_223 (by decide) ?_
        refine lv_isub hx hb dX10_back_224 ?_
        refine pR_32 E hP hD hS kfX10_111 dX10_back_225 (fun H locs hP hD hS => ?_)
        refine lv_aload_n hx hb dX10_back_228 rfl (lv_at hl 1 rfl) ?_
        refine lv_aload_n hx hb dX10_back_229 rfl (lv_at hl 1 rfl) ?_
        refine gR_37 E hP kfX10_126 dX10_back_230 ?_
        refine lv_iload_n hx hb dX10_back_233 rfl (lv_at hl 0 rfl) ?_
        obtain ⟨h9, h⟩ := h
        refine xR_37 E hP h9 (v := ((upd (gA u 37) (((gI u 32) - (1 : Int32))).toNatClampNeg (((gA u 37) (((gI u 32) - (1 : Int32))).toNatClampNeg) + (1 : Int32))) (((gI u 32) - (1 : Int32))).toNatClampNeg)) rfl dX10_back_234 ?_
        refine pR_43 E hP hD hS kfX10_144 dX10_back_235 (fun H locs hP hD hS => ?_)
        refine lv_iconst (v := (0 : Int32)) hx hb dX10_back_238 (by decide) ?_
        refine lv_istore_n (lv' := [(2, .int (0 : Int32)), (1, .int ((gI u 32) - (1 : Int32))), (0, .ref (G.1 0))]) hx hb dX10_back_239 rfl hl (by decide) rfl (fun ls hl => ?_)
        obtain ⟨n, h⟩ := h
        refine L_240 ((gI u 32) - (1 : Int32)) _ (fun u8 H locs ls h hP hD hS hl => ?_) n (0 : Int32) (sI (sI (sA (sB (sJ u 41 ((gB u 36) (((gI u 32) - (1 : Int32))).toNatClampNeg)) 38 (vp_updL (gB u 38) ((((8 : Int32) * ((gI u 32) - (1 : Int32))) + ((gA u 37) (((gI u 32) - (1 : Int32))).toNatClampNeg))).toNatClampNeg (gJ u 40))) 37 (upd (gA u 37) (((gI u 32) - (1 : Int32))).toNatClampNeg (((gA u 37) (((gI u 32) - (1 : Int32))).toNatClampNeg) + (1 : Int32)))) 32 ((gI u 32) - (1 : Int32))) 43 ((upd (gA u 37) (((gI u 32) - (1 : Int32))).toNatClampNeg (((gA u 37) (((gI u 32) - (1 : Int32))).toNatClampNeg) + (1 : Int32))) (((gI u 32) - (1 : Int32))).toNatClampNeg)) _ _ _ h hP hD hS (lv_sub hl [2, 1, 0] rfl)
        refine lv_aload_n hx hb dX10_back_271 rfl (lv_at hl 0 rfl) ?_
        refine lv_iconst (v := (1 : Int32)) hx hb dX10_back_272 (by decide) ?_
        refine pR_39 E hP hD hS kfX10_132 dX10_back_273 (fun H locs hP hD hS => ?_)
        refine lv_aload_n hx hb dX10_back_276 rfl (lv_at hl 0 rfl) ?_
        refine lv_aload_n hx hb dX10_back_277 rfl (lv_at hl 0 rfl) ?_
        refine gR_34 E hP kfX10_117 dX10_back_278 ?_
        refine lv_iload_n hx hb dX10_back_281 rfl (lv_at hl 1 rfl) ?_
        obtain ⟨h9, h⟩ := h
        refine xR_34 E hP h9 (v := ((gB u8 34) (((gI u 32) - (1 : Int32))).toNatClampNeg)) rfl dX10_back_282 ?_
        refine pR_40 E hP hD hS kfX10_135 dX10_back_283 (fun H locs hP hD hS => ?_)
        refine lv_goto (tgt := 355) hx hb dX10_back_286 (by decide) ?_
        exact retR_v E hr hlk hP hD hS h dX10_back_355
    · have h := h.1 hc
      refine lv_aload_n hx hb dX10_back_112 rfl (lv_at hl 1 rfl) ?_
      refine lv_dup hx hb dX10_back_113 rfl ?_
      refine gR_32 E hP kfX10_111 (v := (gI u 32)) rfl dX10_back_114 ?_
      refine lv_iconst (v := (1 : Int32)) hx hb dX10_back_117 (by decide) ?_
      refine lv_isub hx hb dX10_back_118 ?_
      refine pR_32 E hP hD hS kfX10_111 dX10_back_119 (fun H locs hP hD hS => ?_)
      refine lv_aload_n hx hb dX10_back_122 rfl (lv_at hl 1 rfl) ?_
      refine lv_aload_n hx hb dX10_back_123 rfl (lv_at hl 1 rfl) ?_
      refine gR_37 E hP kfX10_126 dX10_back_124 ?_
      refine lv_iload_n hx hb dX10_back_127 rfl (lv_at hl 0 rfl) ?_
      obtain ⟨h9, h⟩ := h
      refine xR_37 E hP h9 (v := ((gA u 37) (((gI u 32) - (1 : Int32))).toNatClampNeg)) rfl dX10_back_128 ?_
      refine pR_43 E hP hD hS kfX10_144 dX10_back_129 (fun H locs hP hD hS => ?_)
      refine lv_iconst (v := (0 : Int32)) hx hb dX10_back_132 (by decide) ?_
      refine lv_istore_n (lv' := [(2, .int (0 : Int32)), (1, .int ((gI u 32) - (1 : Int32))), (0, .ref (G.1 0))]) hx hb dX10_back_133 rfl hl (by decide) rfl (fun ls hl => ?_)
      obtain ⟨n, h⟩ := h
      refine L_134 ((gI u 32) - (1 : Int32)) _ (fun u10 H locs ls h hP hD hS hl => ?_) n (0 : Int32) (sI (sI (sJ u 41 ((gB u 36) (((gI u 32) - (1 : Int32))).toNatClampNeg)) 32 ((gI u 32) - (1 : Int32))) 43 ((gA u 37) (((gI u 32) - (1 : Int32))).toNatClampNeg)) _ _ _ h hP hD hS (lv_sub hl [2, 1, 0] rfl)
      refine lv_aload_n hx hb dX10_back_165 rfl (lv_at hl 0 rfl) ?_
      refine lv_iconst (v := (1 : Int32)) hx hb dX10_back_166 (by decide) ?_
      refine pR_39 E hP hD hS kfX10_132 dX10_back_167 (fun H locs hP hD hS => ?_)
      exact retR_v E hr hlk hP hD hS h dX10_back_170
  · have h := h.1 hc
    refine lv_aload_n hx hb dX10_back_27 rfl (lv_at hl 1 rfl) ?_
    refine lv_dup hx hb dX10_back_28 rfl ?_
    refine gR_32 E hP kfX10_111 (v := (gI u 32)) rfl dX10_back_29 ?_
    refine lv_iconst (v := (1 : Int32)) hx hb dX10_back_32 (by decide) ?_
    refine lv_isub hx hb dX10_back_33 ?_
    refine pR_32 E hP hD hS kfX10_111 dX10_back_34 (fun H locs hP hD hS => ?_)
    refine lv_aload_n hx hb dX10_back_37 rfl (lv_at hl 1 rfl) ?_
    refine lv_aload_n hx hb dX10_back_38 rfl (lv_at hl 1 rfl) ?_
    refine gR_35 E hP kfX10_120 dX10_back_39 ?_
    refine lv_iload_n hx hb dX10_back_42 rfl (lv_at hl 0 rfl) ?_
    obtain ⟨h9, h⟩ := h
    refine xR_35 E hP h9 (v := ((gB u 35) (((gI u 32) - (1 : Int32))).toNatClampNeg)) rfl dX10_back_43 ?_
    refine cR_l (ci := 9) (q0 := 0) (As := [.long ((gB u 35) (((gI u 32) - (1 : Int32))).toNatClampNeg)]) (rest := []) E hml hP hD hS hA (t_X10_first l D G ((gB u 35) (((gI u 32) - (1 : Int32))).toNatClampNeg) (sI (sJ u 41 ((gB u 36) (((gI u 32) - (1 : Int32))).toNatClampNeg)) 32 ((gI u 32) - (1 : Int32))) _ h) kmX10_209 mwyX10_first rfl rfl ⟨⟨rfl, rfl⟩, Nat.le_of_ble_eq_true rfl, Nat.le_of_ble_eq_true rfl⟩ rfl hl.1 rfl (Nat.le_of_ble_eq_true rfl) dX10_back_44 ⟨Nat.zero_le _, Nat.zero_le _⟩ (fun r12 u13 H locs hP hD hS h => ?_)
    refine lv_lstore_n (lv' := [(2, .long r12), (1, .int ((gI u 32) - (1 : Int32))), (0, .ref (G.1 0))]) hx hb dX10_back_47 rfl hl (by decide) rfl (fun ls hl => ?_)
    refine lv_aload_n hx hb dX10_back_48 rfl (lv_at hl 2 rfl) ?_
    refine lv_iconst (v := (0 : Int32)) hx hb dX10_back_49 (by decide) ?_
    refine pR_39 E hP hD hS kfX10_132 dX10_back_50 (fun H locs hP hD hS => ?_)
    refine lv_aload_n hx hb dX10_back_53 rfl (lv_at hl 2 rfl) ?_
    refine gR_40 E hP kfX10_135 (v := (gJ u13 40)) rfl dX10_back_54 ?_
    refine lv_ldc2 (v := (4294967296 : Int64)) hx hb hown (hW _ kcX10_199) dX10_back_57 ?_
    refine lq_eq (tgt := 80) hx hb dX10_back_60 dX10_back_61 (by decide) (fun hc => ?_) (fun hc => ?_)
    · have h := h.1 hc
      refine lv_aload_n hx hb dX10_back_80 rfl (lv_at hl 2 rfl) ?_
      refine cR_i (ci := 9) (q0 := 0) (As := []) (rest := []) E hml hP hD hS hA (t_X10_begins l D G  (sI u13 39 (0 : Int32)) _ h) kmX10_277 mwyX10_begins rfl rfl ⟨⟨rfl, rfl⟩, Nat.le_of_ble_eq_true rfl, Nat.le_of_ble_eq_true rfl⟩ rfl hl.1 rfl (Nat.le_of_ble_eq_true rfl) dX10_back_81 ⟨Nat.zero_le _, Nat.zero_le _⟩ (fun r14 u15 H locs hP hD hS h => ?_)
      refine lv_if_eq (tgt := 101) hx hb dX10_back_84 (by decide) (fun hc => ?_) (fun hc => ?_)
      · have h := h.1 hc
        exact retR_v E hr hlk hP hD hS h dX10_back_101
      · have h := h.2 hc
        refine lv_aload_n hx hb dX10_back_87 rfl (lv_at hl 2 rfl) ?_
        refine lv_aload_n hx hb dX10_back_88 rfl (lv_at hl 2 rfl) ?_
        refine lv_aload_n hx hb dX10_back_89 rfl (lv_at hl 2 rfl) ?_
        refine gR_35 E hP kfX10_120 dX10_back_90 ?_
        refine lv_iload_n hx hb dX10_back_93 rfl (lv_at hl 1 rfl) ?_
        obtain ⟨h9, h⟩ := h
        refine xR_35 E hP h9 (v := ((gB u15 35) (((gI u 32) - (1 : Int32))).toNatClampNeg)) rfl dX10_back_94 ?_
        refine cR_l (ci := 9) (q0 := 0) (As := [.long ((gB u15 35) (((gI u 32) - (1 : Int32))).toNatClampNeg)]) (rest := [.ref (G.1 0)]) E hml hP hD hS hA (t_X10_behind l D G ((gB u15 35) (((gI u 32) - (1 : Int32))).toNatClampNeg) u15 _ h) kmX10_216 mwyX10_behind rfl rfl ⟨⟨rfl, rfl⟩, Nat.le_of_ble_eq_true rfl, Nat.le_of_ble_eq_true rfl⟩ rfl hl.1 rfl (Nat.le_of_ble_eq_true rfl) dX10_back_95 ⟨Nat.zero_le _, Nat.zero_le _⟩ (fun r16 u17 H locs hP hD hS h => ?_)
        refine cR_v (ci := 9) (q0 := 0) (As := [.long r16]) (rest := []) E hml hP hD hS hA (t_X10_condition l D G r16 u17 _ h) kmX10_299 mwyX10_condition rfl rfl ⟨⟨rfl, rfl⟩, Nat.le_of_ble_eq_true rfl, Nat.le_of_ble_eq_true rfl⟩ rfl hl.1 rfl (Nat.le_of_ble_eq_true rfl) dX10_back_98 ⟨Nat.zero_le _, Nat.zero_le _⟩ (fun u18 H locs hP hD hS h => ?_)
        exact retR_v E hr hlk hP hD hS h dX10_back_101
    · have h := h.2 hc
      refine lv_aload_n hx hb dX10_back_64 rfl (lv_at hl 2 rfl) ?_
      refine lv_aload_n hx hb dX10_back_65 rfl (lv_at hl 2 rfl) ?_
      refine lv_aload_n hx hb dX10_back_66 rfl (lv_at hl 2 rfl) ?_
      refine lv_lload_n hx hb dX10_back_67 rfl (lv_at hl 0 rfl) ?_
      refine cR_l (ci := 9) (q0 := 0) (As := [.long r12]) (rest := [.ref (G.1 0), .ref (G.1 0)]) E hml hP hD hS hA (t_X10_behind l D G r12 (sI u13 39 (0 : Int32)) _ h) kmX10_216 mwyX10_behind rfl rfl ⟨⟨rfl, rfl⟩, Nat.le_of_ble_eq_true rfl, Nat.le_of_ble_eq_true rfl⟩ rfl hl.1 rfl (Nat.le_of_ble_eq_true rfl) dX10_back_68 ⟨Nat.zero_le _, Nat.zero_le _⟩ (fun r19 u20 H locs hP hD hS h => ?_)
      refine cR_l (ci := 9) (q0 := 0) (As := [.long r19]) (rest := [.ref (G.1 0)]) E hml hP hD hS hA (t_X10_first l D G r19 u20 _ h) kmX10_209 mwyX10_first rfl rfl ⟨⟨rfl, rfl⟩, Nat.le_of_ble_eq_true rfl, Nat.le_of_ble_eq_true rfl⟩ rfl hl.1 rfl (Nat.le_of_ble_eq_true rfl) dX10_back_71 ⟨Nat.zero_le _, Nat.zero_le _⟩ (fun r21 u22 H locs hP hD hS h => ?_)
      refine pR_40 E hP hD hS kfX10_135 dX10_back_74 (fun H locs hP hD hS => ?_)
      refine lv_goto (tgt := 101) hx hb dX10_back_77 (by decide) ?_
      exact retR_v E hr hlk hP hD hS h dX10_back_101
def wp_X10_isNumber (p0 : Int64) (Q : Int32 → Prop) : Prop := ((p0 < (0 : Int64) → Q (0 : Int32)) ∧ (¬ p0 < (0 : Int64) → (((4294967296 : Int64) ≤ p0 → Q (0 : Int32)) ∧ (¬ (4294967296 : Int64) ≤ p0 → Q (1 : Int32)))))
abbrev rm_X10_isNumber : Room := { frames := 0, cells := 0, slots := 0, locals := 0 }
set_option maxHeartbeats 4000000 in
set_option maxRecDepth 100000 in
theorem t_X10_isNumber (l : Launch) (p0 : Int64) (Q : Int32 → Prop) (h : wp_X10_isNumber p0 Q) : M0i l yX10_isNumber cX10_isNumber 2 (some .boolean) rm_X10_isNumber [.long p0] Q := by
  refine start0_i (by decide) ?_
  intro p e s m args below meth c hx hb hown hW hr hlk hml hS
  have hP : va_P ((fun _ => 0), (fun _ _ => 0)) vwCl [] s.heap := fun k q h => by simp at h
  have hA : ∀ q, s.heap.size ≤ q → (fun q => s.heap.size ≤ q) q := fun _ h => h
  have hl := lv_entry ([.long p0]) (n := 2) (Nat.le_of_ble_eq_true rfl)
  rw [lg_entry_eq]
  generalize (lg_sl ([.long p0]) ++ List.replicate (2 - (lg_sl ([.long p0])).length) Slot.unset).toArray = ls at hl ⊢
  have hl : lv_has ls 2 [(0, .long p0)] := hl
  unfold wp_X10_isNumber at h
  refine lv_lload_n hx hb dX10_isNumber_0 rfl (lv_at hl 0 rfl) ?_
  refine lv_lconst (v := (0 : Int64)) hx hb dX10_isNumber_1 (by decide) ?_
  refine lq_lt (tgt := 18) hx hb dX10_isNumber_2 dX10_isNumber_3 (by decide) (fun hc => ?_) (fun hc => ?_)
  · have h := h.1 hc
    refine lv_iconst (v := (0 : Int32)) hx hb dX10_isNumber_18 (by decide) ?_
    exact ret0_z hx hb hr hlk hS (vz_n vz_0) h dX10_isNumber_19
  · have h := h.2 hc
    refine lv_lload_n hx hb dX10_isNumber_6 rfl (lv_at hl 0 rfl) ?_
    refine lv_ldc2 (v := (4294967296 : Int64)) hx hb hown (hW _ kcX10_199) dX10_isNumber_7 ?_
    refine lq_ge (tgt := 18) hx hb dX10_isNumber_10 dX10_isNumber_11 (by decide) (fun hc => ?_) (fun hc => ?_)
    · have h := h.1 hc
      refine lv_iconst (v := (0 : Int32)) hx hb dX10_isNumber_18 (by decide) ?_
      exact ret0_z hx hb hr hlk hS (vz_n vz_0) h dX10_isNumber_19
    · have h := h.2 hc
      refine lv_iconst (v := (1 : Int32)) hx hb dX10_isNumber_14 (by decide) ?_
      refine lv_goto (tgt := 19) hx hb dX10_isNumber_15 (by decide) ?_
      exact ret0_z hx hb hr hlk hS (vz_n vz_1) h dX10_isNumber_19
def l_X10_holdWaiting_46 (c1 : Int32) (K : St → Prop) : Nat → Int32 → St → Prop
  | 0, _, _ => False
  | n + 1, x2, u => vp_in c1 200 ∧ ((((gA u 37) (c1).toNatClampNeg) ≤ x2 → K u) ∧ (¬ ((gA u 37) (c1).toNatClampNeg) ≤ x2 → vp_in (((8 : Int32) * c1) + x2) 1600 ∧ wp_X10_hold ((gB u 38) ((((8 : Int32) * c1) + x2)).toNatClampNeg) u (fun (u5 : St) => l_X10_holdWaiting_46  c1 K n (x2 + (1 : Int32)) u5)))
def l_X10_holdWaiting_6  (K : St → Prop) : Nat → Int32 → St → Prop
  | 0, _, _ => False
  | n + 1, x1, u => (((gI u 32) ≤ x1 → K u) ∧ (¬ (gI u 32) ≤ x1 → vp_in x1 200 ∧ wp_X10_hold ((gB u 34) (x1).toNatClampNeg) u (fun (u2 : St) => vp_in x1 200 ∧ wp_X10_hold ((gB u2 35) (x1).toNatClampNeg) u2 (fun (u3 : St) => vp_in x1 200 ∧ wp_X10_hold ((gB u3 36) (x1).toNatClampNeg) u3 (fun (u4 : St) => (∃ k8 : Nat, l_X10_holdWaiting_46  x1 (fun (u6 : St) => wp_X10_holdAll  u6 (fun (u7 : St) => l_X10_holdWaiting_6  K n (x1 + (1 : Int32)) u7)) k8 (0 : Int32) u4))))))
def wp_X10_holdWaiting  (u : St) (Q : St → Prop) : Prop := wp_X10_holdGlobals  u (fun (u1 : St) => (∃ k10 : Nat, l_X10_holdWaiting_6   (fun (u9 : St) => Q u9) k10 (0 : Int32) u1))
abbrev rm_X10_holdWaiting : Room := { frames := 4, cells := 0, slots := 0, locals := 87 }
set_option maxHeartbeats 4000000 in
set_option maxRecDepth 100000 in
theorem t_X10_holdWaiting (l : Launch) (D : va_G) (G : Gd)  (u : St) (Q : St → Prop) (h : wp_X10_holdWaiting  u Q) : MRv l D G yX10_holdWaiting cX10_holdWaiting 3 none rm_X10_holdWaiting [.ref (G.1 0)] u Q := by
  refine startR_v (by decide) ?_
  intro p e s m args below meth c E hr hlk hml hP hD hS hA
  have hx := E.1
  have hb := E.2.1
  have hown := E.2.2.1
  have hW := E.2.2.2.1
  have hl := lv_entry ([.ref (G.1 0)]) (n := 3) (Nat.le_of_ble_eq_true rfl)
  rw [lg_entry_eq]
  generalize (lg_sl ([.ref (G.1 0)]) ++ List.replicate (3 - (lg_sl ([.ref (G.1 0)])).length) Slot.unset).toArray = ls at hl ⊢
  have hl : lv_has ls 3 [(0, .ref (G.1 0))] := hl
  have L_46 : ∀ (c1 : Int32) (K : St → Prop), (∀  (u : St) (H : Heap) (locs : List Loc) (ls : Array Slot), K  u → va_P D vwCl (wR G u) H → va_D (AR G s.heap.size) (wR G u) → va_S (AR G s.heap.size) s.heap H locs → lv_has ls 3 [(0, .ref (G.1 0)), (1, .int c1)] → W p l e rm_X10_holdWaiting s m args below meth c H locs 0 0 (MQ below (va_Qv Q (BR D G s.heap.size) (AR G s.heap.size)) args s 0 0 (AR G s.heap.size)) (F0 m 77 ls [])) → ∀ (n : Nat) (x2 : Int32) (u : St) (H : Heap) (locs : List Loc) (ls : Array Slot), l_X10_holdWaiting_46  c1 K n x2 u → va_P D vwCl (wR G u) H → va_D (AR G s.heap.size) (wR G u) → va_S (AR G s.heap.size) s.heap H locs → lv_has ls 3 [(0, .ref (G.1 0)), (1, .int c1), (2, .int x2)] → W p l e rm_X10_holdWaiting s m args below meth c H locs 0 0 (MQ below (va_Qv Q (BR D G s.heap.size) (AR G s.heap.size)) args s 0 0 (AR G s.heap.size)) (F0 m 46 ls []) := by
    intro c1 K hK n
    induction n with
    | zero => intro x2 u H locs ls h; exact False.elim h
    | succ n ih =>
      intro x2 u H locs ls h hP hD hS hl
      unfold l_X10_holdWaiting_46 at h
      refine lv_iload_n hx hb dX10_holdWaiting_46 rfl (lv_at hl 2 rfl) ?_
      refine lv_aload_n hx hb dX10_holdWaiting_47 rfl (lv_at hl 0 rfl) ?_
      refine gR_37 E hP kfX10_126 dX10_holdWaiting_48 ?_
      refine lv_iload_n hx hb dX10_holdWaiting_51 rfl (lv_at hl 1 rfl) ?_
      obtain ⟨h9, h⟩ := h
      refine xR_37 E hP h9 (v := ((gA u 37) (c1).toNatClampNeg)) rfl dX10_holdWaiting_52 ?_
      refine lv_icmp_ge (tgt := 77) hx hb dX10_holdWaiting_53 (by decide) (fun hc => ?_) (fun hc => ?_)
      · have h := h.1 hc
        exact hK u _ _ _ h hP hD hS (lv_sub hl [0, 1] rfl)
      · have h := h.2 hc
        refine lv_aload_n hx hb dX10_holdWaiting_56 rfl (lv_at hl 0 rfl) ?_
        refine lv_aload_n hx hb dX10_holdWaiting_57 rfl (lv_at hl 0 rfl) ?_
        refine gR_38 E hP kfX10_129 dX10_holdWaiting_58 ?_
        refine lv_bipush (v := (8 : Int32)) hx hb dX10_holdWaiting_61 (by decide) ?_
        refine lv_iload_n hx hb dX10_holdWaiting_63 rfl (lv_at hl 1 rfl) ?_
        refine lv_imul hx hb dX10_holdWaiting_64 ?_
        refine lv_iload_n hx hb dX10_holdWaiting_65 rfl (lv_at hl 2 rfl) ?_
        refine lv_iadd hx hb dX10_holdWaiting_66 ?_
        obtain ⟨h9, h⟩ := h
        refine xR_38 E hP h9 (v := ((gB u 38) ((((8 : Int32) * c1) + x2)).toNatClampNeg)) rfl dX10_holdWaiting_67 ?_
        refine cR_v (ci := 9) (q0 := 0) (As := [.long ((gB u 38) ((((8 : Int32) * c1) + x2)).toNatClampNeg)]) (rest := []) E hml hP hD hS hA (t_X10_hold l D G ((gB u 38) ((((8 : Int32) * c1) + x2)).toNatClampNeg) u _ h) kmX10_213 mwyX10_hold rfl rfl ⟨⟨rfl, rfl⟩, Nat.le_of_ble_eq_true rfl, Nat.le_of_ble_eq_true rfl⟩ rfl hl.1 rfl (Nat.le_of_ble_eq_true rfl) dX10_holdWaiting_68 ⟨Nat.zero_le _, Nat.zero_le _⟩ (fun u5 H locs hP hD hS h => ?_)
        refine lv_iinc (v := (x2 + (1 : Int32))) (lv' := [(2, .int (x2 + (1 : Int32))), (0, .ref (G.1 0)), (1, .int c1)]) hx hb dX10_holdWaiting_71 hl (k := 2) rfl rfl (by decide) rfl (fun ls hl => ?_)
        refine lv_goto (tgt := 46) hx hb dX10_holdWaiting_74 (by decide) ?_
        exact ih (x2 + (1 : Int32)) u5 _ _ _ h hP hD hS (lv_sub hl [1, 2, 0] rfl)
  have L_6 : ∀  (K : St → Prop), (∀  (u : St) (H : Heap) (locs : List Loc) (ls : Array Slot), K  u → va_P D vwCl (wR G u) H → va_D (AR G s.heap.size) (wR G u) → va_S (AR G s.heap.size) s.heap H locs → lv_has ls 3 [] → W p l e rm_X10_holdWaiting s m args below meth c H locs 0 0 (MQ below (va_Qv Q (BR D G s.heap.size) (AR G s.heap.size)) args s 0 0 (AR G s.heap.size)) (F0 m 87 ls [])) → ∀ (n : Nat) (x1 : Int32) (u : St) (H : Heap) (locs : List Loc) (ls : Array Slot), l_X10_holdWaiting_6  K n x1 u → va_P D vwCl (wR G u) H → va_D (AR G s.heap.size) (wR G u) → va_S (AR G s.heap.size) s.heap H locs → lv_has ls 3 [(0, .ref (G.1 0)), (1, .int x1)] → W p l e rm_X10_holdWaiting s m args below meth c H locs 0 0 (MQ below (va_Qv Q (BR D G s.heap.size) (AR G s.heap.size)) args s 0 0 (AR G s.heap.size)) (F0 m 6 ls []) := by
    intro  K hK n
    induction n with
    | zero => intro x1 u H locs ls h; exact False.elim h
    | succ n ih =>
      intro x1 u H locs ls h hP hD hS hl
      unfold l_X10_holdWaiting_6 at h
      refine lv_iload_n hx hb dX10_holdWaiting_6 rfl (lv_at hl 1 rfl) ?_
      refine lv_aload_n hx hb dX10_holdWaiting_7 rfl (lv_at hl 0 rfl) ?_
      refine gR_32 E hP kfX10_111 (v := (gI u 32)) rfl dX10_holdWaiting_8 ?_
      refine lv_icmp_ge (tgt := 87) hx hb dX10_holdWaiting_11 (by decide) (fun hc => ?_) (fun hc => ?_)
      · have h := h.1 hc
        exact hK u _ _ _ h hP hD hS (lv_sub hl [] rfl)
      · have h := h.2 hc
        refine lv_aload_n hx hb dX10_holdWaiting_14 rfl (lv_at hl 0 rfl) ?_
        refine lv_aload_n hx hb dX10_holdWaiting_15 rfl (lv_at hl 0 rfl) ?_
        refine gR_34 E hP kfX10_117 dX10_holdWaiting_16 ?_
        refine lv_iload_n hx hb dX10_holdWaiting_19 rfl (lv_at hl 1 rfl) ?_
        obtain ⟨h9, h⟩ := h
        refine xR_34 E hP h9 (v := ((gB u 34) (x1).toNatClampNeg)) rfl dX10_holdWaiting_20 ?_
        refine cR_v (ci := 9) (q0 := 0) (As := [.long ((gB u 34) (x1).toNatClampNeg)]) (rest := []) E hml hP hD hS hA (t_X10_hold l D G ((gB u 34) (x1).toNatClampNeg) u _ h) kmX10_213 mwyX10_hold rfl rfl ⟨⟨rfl, rfl⟩, Nat.le_of_ble_eq_true rfl, Nat.le_of_ble_eq_true rfl⟩ rfl hl.1 rfl (Nat.le_of_ble_eq_true rfl) dX10_holdWaiting_21 ⟨Nat.zero_le _, Nat.zero_le _⟩ (fun u2 H locs hP hD hS h => ?_)
        refine lv_aload_n hx hb dX10_holdWaiting_24 rfl (lv_at hl 0 rfl) ?_
        refine lv_aload_n hx hb dX10_holdWaiting_25 rfl (lv_at hl 0 rfl) ?_
        refine gR_35 E hP kfX10_120 dX10_holdWaiting_26 ?_
        refine lv_iload_n hx hb dX10_holdWaiting_29 rfl (lv_at hl 1 rfl) ?_
        obtain ⟨h9, h⟩ := h
        refine xR_35 E hP h9 (v := ((gB u2 35) (x1).toNatClampNeg)) rfl dX10_holdWaiting_30 ?_
        refine cR_v (ci := 9) (q0 := 0) (As := [.long ((gB u2 35) (x1).toNatClampNeg)]) (rest := []) E hml hP hD hS hA (t_X10_hold l D G ((gB u2 35) (x1).toNatClampNeg) u2 _ h) kmX10_213 mwyX10_hold rfl rfl ⟨⟨rfl, rfl⟩, Nat.le_of_ble_eq_true rfl, Nat.le_of_ble_eq_true rfl⟩ rfl hl.1 rfl (Nat.le_of_ble_eq_true rfl) dX10_holdWaiting_31 ⟨Nat.zero_le _, Nat.zero_le _⟩ (fun u3 H locs hP hD hS h => ?_)
        refine lv_aload_n hx hb dX10_holdWaiting_34 rfl (lv_at hl 0 rfl) ?_
        refine lv_aload_n hx hb dX10_holdWaiting_35 rfl (lv_at hl 0 rfl) ?_
        refine gR_36 E hP kfX10_123 dX10_holdWaiting_36 ?_
        refine lv_iload_n hx hb dX10_holdWaiting_39 rfl (lv_at hl 1 rfl) ?_
        obtain ⟨h9, h⟩ := h
        refine xR_36 E hP h9 (v := ((gB u3 36) (x1).toNatClampNeg)) rfl dX10_holdWaiting_40 ?_
        refine cR_v (ci := 9) (q0 := 0) (As := [.long ((gB u3 36) (x1).toNatClampNeg)]) (rest := []) E hml hP hD hS hA (t_X10_hold l D G ((gB u3 36) (x1).toNatClampNeg) u3 _ h) kmX10_213 mwyX10_hold rfl rfl ⟨⟨rfl, rfl⟩, Nat.le_of_ble_eq_true rfl, Nat.le_of_ble_eq_true rfl⟩ rfl hl.1 rfl (Nat.le_of_ble_eq_true rfl) dX10_holdWaiting_41 ⟨Nat.zero_le _, Nat.zero_le _⟩ (fun u4 H locs hP hD hS h => ?_)
        refine lv_iconst (v := (0 : Int32)) hx hb dX10_holdWaiting_44 (by decide) ?_
        refine lv_istore_n (lv' := [(2, .int (0 : Int32)), (0, .ref (G.1 0)), (1, .int x1)]) hx hb dX10_holdWaiting_45 rfl hl (by decide) rfl (fun ls hl => ?_)
        obtain ⟨n, h⟩ := h
        refine L_46 x1 _ (fun u6 H locs ls h hP hD hS hl => ?_) n (0 : Int32) u4 _ _ _ h hP hD hS (lv_sub hl [1, 2, 0] rfl)
        refine lv_aload_n hx hb dX10_holdWaiting_77 rfl (lv_at hl 0 rfl) ?_
        refine cR_v (ci := 9) (q0 := 0) (As := []) (rest := []) E hml hP hD hS hA (t_X10_holdAll l D G  u6 _ h) kmX10_219 mwyX10_holdAll rfl rfl ⟨⟨rfl, rfl⟩, Nat.le_of_ble_eq_true rfl, Nat.le_of_ble_eq_true rfl⟩ rfl hl.1 rfl (Nat.le_of_ble_eq_true rfl) dX10_holdWaiting_78 ⟨Nat.zero_le _, Nat.zero_le _⟩ (fun u7 H locs hP hD hS h => ?_)
        refine lv_iinc (v := (x1 + (1 : Int32))) (lv' := [(1, .int (x1 + (1 : Int32))), (0, .ref (G.1 0))]) hx hb dX10_holdWaiting_81 hl (k := 1) rfl rfl (by decide) rfl (fun ls hl => ?_)
        refine lv_goto (tgt := 6) hx hb dX10_holdWaiting_84 (by decide) ?_
        exact ih (x1 + (1 : Int32)) u7 _ _ _ h hP hD hS (lv_sub hl [1, 0] rfl)
  unfold wp_X10_holdWaiting at h
  refine lv_aload_n hx hb dX10_holdWaiting_0 rfl (lv_at hl 0 rfl) ?_
  refine cR_v (ci := 9) (q0 := 0) (As := []) (rest := []) E hml hP hD hS hA (t_X10_holdGlobals l D G  u _ h) kmX10_222 mwyX10_holdGlobals rfl rfl ⟨⟨rfl, rfl⟩, Nat.le_of_ble_eq_true rfl, Nat.le_of_ble_eq_true rfl⟩ rfl hl.1 rfl (Nat.le_of_ble_eq_true rfl) dX10_holdWaiting_1 ⟨Nat.zero_le _, Nat.zero_le _⟩ (fun u1 H locs hP hD hS h => ?_)
  refine lv_iconst (v := (0 : Int32)) hx hb dX10_holdWaiting_4 (by decide) ?_
  refine lv_istore_n (lv' := [(1, .int (0 : Int32)), (0, .ref (G.1 0))]) hx hb dX10_holdWaiting_5 rfl hl (by decide) rfl (fun ls hl => ?_)
  obtain ⟨n, h⟩ := h
  refine L_6  _ (fun u9 H locs ls h hP hD hS hl => ?_) n (0 : Int32) u1 _ _ _ h hP hD hS (lv_sub hl [1, 0] rfl)
  exact retR_v E hr hlk hP hD hS h dX10_holdWaiting_87
def l_X10_holdForBinding_19  (K : St → Prop) : Nat → Int32 → St → Prop
  | 0, _, _ => False
  | n + 1, x3, u => (((gI u 43) ≤ x3 → K u) ∧ (¬ (gI u 43) ≤ x3 → vp_in x3 8 ∧ wp_X10_hold ((gB u 42) (x3).toNatClampNeg) u (fun (u4 : St) => l_X10_holdForBinding_19  K n (x3 + (1 : Int32)) u4)))
def wp_X10_holdForBinding (p0 : Int64) (u : St) (Q : St → Prop) : Prop := wp_X10_holdWaiting  u (fun (u1 : St) => wp_X10_hold p0 u1 (fun (u2 : St) => wp_X10_hold (gJ u2 41) u2 (fun (u3 : St) => (∃ k6 : Nat, l_X10_holdForBinding_19   (fun (u5 : St) => Q u5) k6 (0 : Int32) u3))))
abbrev rm_X10_holdForBinding : Room := { frames := 5, cells := 0, slots := 0, locals := 109 }
set_option maxHeartbeats 4000000 in
set_option maxRecDepth 100000 in
theorem t_X10_holdForBinding (l : Launch) (D : va_G) (G : Gd) (p0 : Int64) (u : St) (Q : St → Prop) (h : wp_X10_holdForBinding p0 u Q) : MRv l D G yX10_holdForBinding cX10_holdForBinding 4 none rm_X10_holdForBinding [.ref (G.1 0), .long p0] u Q := by
  refine startR_v (by decide) ?_
  intro p e s m args below meth c E hr hlk hml hP hD hS hA
  have hx := E.1
  have hb := E.2.1
  have hown := E.2.2.1
  have hW := E.2.2.2.1
  have hl := lv_entry ([.ref (G.1 0), .long p0]) (n := 4) (Nat.le_of_ble_eq_true rfl)
  rw [lg_entry_eq]
  generalize (lg_sl ([.ref (G.1 0), .long p0]) ++ List.replicate (4 - (lg_sl ([.ref (G.1 0), .long p0])).length) Slot.unset).toArray = ls at hl ⊢
  have hl : lv_has ls 4 [(0, .ref (G.1 0)), (1, .long p0)] := hl
  have L_19 : ∀  (K : St → Prop), (∀  (u : St) (H : Heap) (locs : List Loc) (ls : Array Slot), K  u → va_P D vwCl (wR G u) H → va_D (AR G s.heap.size) (wR G u) → va_S (AR G s.heap.size) s.heap H locs → lv_has ls 4 [] → W p l e rm_X10_holdForBinding s m args below meth c H locs 0 0 (MQ below (va_Qv Q (BR D G s.heap.size) (AR G s.heap.size)) args s 0 0 (AR G s.heap.size)) (F0 m 43 ls [])) → ∀ (n : Nat) (x3 : Int32) (u : St) (H : Heap) (locs : List Loc) (ls : Array Slot), l_X10_holdForBinding_19  K n x3 u → va_P D vwCl (wR G u) H → va_D (AR G s.heap.size) (wR G u) → va_S (AR G s.heap.size) s.heap H locs → lv_has ls 4 [(0, .ref (G.1 0)), (3, .int x3)] → W p l e rm_X10_holdForBinding s m args below meth c H locs 0 0 (MQ below (va_Qv Q (BR D G s.heap.size) (AR G s.heap.size)) args s 0 0 (AR G s.heap.size)) (F0 m 19 ls []) := by
    intro  K hK n
    induction n with
    | zero => intro x3 u H locs ls h; exact False.elim h
    | succ n ih =>
      intro x3 u H locs ls h hP hD hS hl
      unfold l_X10_holdForBinding_19 at h
      refine lv_iload_n hx hb dX10_holdForBinding_19 rfl (lv_at hl 1 rfl) ?_
      refine lv_aload_n hx hb dX10_holdForBinding_20 rfl (lv_at hl 0 rfl) ?_
      refine gR_43 E hP kfX10_144 (v := (gI u 43)) rfl dX10_holdForBinding_21 ?_
      refine lv_icmp_ge (tgt := 43) hx hb dX10_holdForBinding_24 (by decide) (fun hc => ?_) (fun hc => ?_)
      · have h := h.1 hc
        exact hK u _ _ _ h hP hD hS (lv_sub hl [] rfl)
      · have h := h.2 hc
        refine lv_aload_n hx hb dX10_holdForBinding_27 rfl (lv_at hl 0 rfl) ?_
        refine lv_aload_n hx hb dX10_holdForBinding_28 rfl (lv_at hl 0 rfl) ?_
        refine gR_42 E hP kfX10_141 dX10_holdForBinding_29 ?_
        refine lv_iload_n hx hb dX10_holdForBinding_32 rfl (lv_at hl 1 rfl) ?_
        obtain ⟨h9, h⟩ := h
        refine xR_42 E hP h9 (v := ((gB u 42) (x3).toNatClampNeg)) rfl dX10_holdForBinding_33 ?_
        refine cR_v (ci := 9) (q0 := 0) (As := [.long ((gB u 42) (x3).toNatClampNeg)]) (rest := []) E hml hP hD hS hA (t_X10_hold l D G ((gB u 42) (x3).toNatClampNeg) u _ h) kmX10_213 mwyX10_hold rfl rfl ⟨⟨rfl, rfl⟩, Nat.le_of_ble_eq_true rfl, Nat.le_of_ble_eq_true rfl⟩ rfl hl.1 rfl (Nat.le_of_ble_eq_true rfl) dX10_holdForBinding_34 ⟨Nat.zero_le _, Nat.zero_le _⟩ (fun u4 H locs hP hD hS h => ?_)
        refine lv_iinc (v := (x3 + (1 : Int32))) (lv' := [(3, .int (x3 + (1 : Int32))), (0, .ref (G.1 0))]) hx hb dX10_holdForBinding_37 hl (k := 1) rfl rfl (by decide) rfl (fun ls hl => ?_)
        refine lv_goto (tgt := 19) hx hb dX10_holdForBinding_40 (by decide) ?_
        exact ih (x3 + (1 : Int32)) u4 _ _ _ h hP hD hS (lv_sub hl [1, 0] rfl)
  unfold wp_X10_holdForBinding at h
  refine lv_aload_n hx hb dX10_holdForBinding_0 rfl (lv_at hl 0 rfl) ?_
  refine cR_v (ci := 9) (q0 := 0) (As := []) (rest := []) E hml hP hD hS hA (t_X10_holdWaiting l D G  u _ h) kmX10_304 mwyX10_holdWaiting rfl rfl ⟨⟨rfl, rfl⟩, Nat.le_of_ble_eq_true rfl, Nat.le_of_ble_eq_true rfl⟩ rfl hl.1 rfl (Nat.le_of_ble_eq_true rfl) dX10_holdForBinding_1 ⟨Nat.zero_le _, Nat.zero_le _⟩ (fun u1 H locs hP hD hS h => ?_)
  refine lv_aload_n hx hb dX10_holdForBinding_4 rfl (lv_at hl 0 rfl) ?_
  refine lv_lload_n hx hb dX10_holdForBinding_5 rfl (lv_at hl 1 rfl) ?_
  refine cR_v (ci := 9) (q0 := 0) (As := [.long p0]) (rest := []) E hml hP hD hS hA (t_X10_hold l D G p0 u1 _ h) kmX10_213 mwyX10_hold rfl rfl ⟨⟨rfl, rfl⟩, Nat.le_of_ble_eq_true rfl, Nat.le_of_ble_eq_true rfl⟩ rfl hl.1 rfl (Nat.le_of_ble_eq_true rfl) dX10_holdForBinding_6 ⟨Nat.zero_le _, Nat.zero_le _⟩ (fun u2 H locs hP hD hS h => ?_)
  refine lv_aload_n hx hb dX10_holdForBinding_9 rfl (lv_at hl 0 rfl) ?_
  refine lv_aload_n hx hb dX10_holdForBinding_10 rfl (lv_at hl 0 rfl) ?_
  refine gR_41 E hP kfX10_138 (v := (gJ u2 41)) rfl dX10_holdForBinding_11 ?_
  refine cR_v (ci := 9) (q0 := 0) (As := [.long (gJ u2 41)]) (rest := []) E hml hP hD hS hA (t_X10_hold l D G (gJ u2 41) u2 _ h) kmX10_213 mwyX10_hold rfl rfl ⟨⟨rfl, rfl⟩, Nat.le_of_ble_eq_true rfl, Nat.le_of_ble_eq_true rfl⟩ rfl hl.1 rfl (Nat.le_of_ble_eq_true rfl) dX10_holdForBinding_14 ⟨Nat.zero_le _, Nat.zero_le _⟩ (fun u3 H locs hP hD hS h => ?_)
  refine lv_iconst (v := (0 : Int32)) hx hb dX10_holdForBinding_17 (by decide) ?_
  refine lv_istore_n (lv' := [(3, .int (0 : Int32)), (0, .ref (G.1 0)), (1, .long p0)]) hx hb dX10_holdForBinding_18 rfl hl (by decide) rfl (fun ls hl => ?_)
  obtain ⟨n, h⟩ := h
  refine L_19  _ (fun u5 H locs ls h hP hD hS hl => ?_) n (0 : Int32) u3 _ _ _ h hP hD hS (lv_sub hl [1, 0] rfl)
  exact retR_v E hr hlk hP hD hS h dX10_holdForBinding_43
def wp_X10_label (p0 : Int64) (u : St) (Q : St → Prop) : Prop := wp_X10_behind p0 u (fun (r1 : Int64) (u2 : St) => wp_X10_listOf r1 (2 : Int32) u2 (fun (r3 : Int32) (u4 : St) => ((r3 = 0 → wp_X10_fails (3 : Int32) u4 (fun (u5 : St) => Q u5)) ∧ (¬ r3 = 0 → wp_X10_first r1 u4 (fun (r6 : Int64) (u7 : St) => wp_X10_isName r6 (fun (r8 : Int32) => ((r8 = 0 → wp_X10_fails (3 : Int32) u7 (fun (u26 : St) => Q u26)) ∧ (¬ r8 = 0 → wp_X10_holdForBinding p0 u7 (fun (u9 : St) => wp_X10_room (2 : Int32) u9 (fun (r10 : Int32) (u11 : St) => ((r10 = 0 → Q u11) ∧ (¬ r10 = 0 → wp_X10_first r1 u11 (fun (r12 : Int64) (u13 : St) => wp_X10_behind r1 u13 (fun (r14 : Int64) (u15 : St) => wp_X10_first r14 u15 (fun (r16 : Int64) (u17 : St) => wp_X10_pair r12 r16 u17 (fun (r18 : Int64) (u19 : St) => wp_X10_pair r18 (gJ u19 41) u19 (fun (r20 : Int64) (u21 : St) => wp_X10_behind r1 (sJ u21 41 r20) (fun (r22 : Int64) (u23 : St) => wp_X10_first r22 u23 (fun (r24 : Int64) (u25 : St) => Q (sJ u25 40 r24))))))))))))))))))))
abbrev rm_X10_label : Room := { frames := 6, cells := 0, slots := 0, locals := 132 }
set_option maxHeartbeats 4000000 in
set_option maxRecDepth 100000 in
theorem t_X10_label (l : Launch) (D : va_G) (G : Gd) (p0 : Int64) (u : St) (Q : St → Prop) (h : wp_X10_label p0 u Q) : MRv l D G yX10_label cX10_label 5 none rm_X10_label [.ref (G.1 0), .long p0] u Q := by
  refine startR_v (by decide) ?_
  intro p e s m args below meth c E hr hlk hml hP hD hS hA
  have hx := E.1
  have hb := E.2.1
  have hown := E.2.2.1
  have hW := E.2.2.2.1
  have hl := lv_entry ([.ref (G.1 0), .long p0]) (n := 5) (Nat.le_of_ble_eq_true rfl)
  rw [lg_entry_eq]
  generalize (lg_sl ([.ref (G.1 0), .long p0]) ++ List.replicate (5 - (lg_sl ([.ref (G.1 0), .long p0])).length) Slot.unset).toArray = ls at hl ⊢
  have hl : lv_has ls 5 [(0, .ref (G.1 0)), (1, .long p0)] := hl
  unfold wp_X10_label at h
  refine lv_aload_n hx hb dX10_label_0 rfl (lv_at hl 0 rfl) ?_
  refine lv_lload_n hx hb dX10_label_1 rfl (lv_at hl 1 rfl) ?_
  refine cR_l (ci := 9) (q0 := 0) (As := [.long p0]) (rest := []) E hml hP hD hS hA (t_X10_behind l D G p0 u _ h) kmX10_216 mwyX10_behind rfl rfl ⟨⟨rfl, rfl⟩, Nat.le_of_ble_eq_true rfl, Nat.le_of_ble_eq_true rfl⟩ rfl hl.1 rfl (Nat.le_of_ble_eq_true rfl) dX10_label_2 ⟨Nat.zero_le _, Nat.zero_le _⟩ (fun r1 u2 H locs hP hD hS h => ?_)
  refine lv_lstore_n (lv' := [(3, .long r1), (0, .ref (G.1 0)), (1, .long p0)]) hx hb dX10_label_5 rfl hl (by decide) rfl (fun ls hl => ?_)
  refine lv_aload_n hx hb dX10_label_6 rfl (lv_at hl 1 rfl) ?_
  refine lv_lload_n hx hb dX10_label_7 rfl (lv_at hl 0 rfl) ?_
  refine lv_iconst (v := (2 : Int32)) hx hb dX10_label_8 (by decide) ?_
  refine cR_i (ci := 9) (q0 := 0) (As := [.long r1, .int (2 : Int32)]) (rest := []) E hml hP hD hS hA (t_X10_listOf l D G r1 (2 : Int32) u2 _ h) kmX10_269 mwyX10_listOf rfl rfl ⟨⟨rfl, rfl⟩, Nat.le_of_ble_eq_true rfl, Nat.le_of_ble_eq_true rfl⟩ rfl hl.1 rfl (Nat.le_of_ble_eq_true rfl) dX10_label_9 ⟨Nat.zero_le _, Nat.zero_le _⟩ (fun r3 u4 H locs hP hD hS h => ?_)
  refine lv_if_eq (tgt := 26) hx hb dX10_label_12 (by decide) (fun hc => ?_) (fun hc => ?_)
  · have h := h.1 hc
    refine lv_aload_n hx hb dX10_label_26 rfl (lv_at hl 1 rfl) ?_
    refine lv_iconst (v := (3 : Int32)) hx hb dX10_label_27 (by decide) ?_
    refine cR_v (ci := 9) (q0 := 0) (As := [.int (3 : Int32)]) (rest := []) E hml hP hD hS hA (t_X10_fails l D G (3 : Int32) u4 _ h) kmX10_265 mwyX10_fails rfl rfl ⟨⟨rfl, rfl⟩, Nat.le_of_ble_eq_true rfl, Nat.le_of_ble_eq_true rfl⟩ rfl hl.1 rfl (Nat.le_of_ble_eq_true rfl) dX10_label_28 ⟨Nat.zero_le _, Nat.zero_le _⟩ (fun u5 H locs hP hD hS h => ?_)
    exact retR_v E hr hlk hP hD hS h dX10_label_31
  · have h := h.2 hc
    refine lv_aload_n hx hb dX10_label_15 rfl (lv_at hl 1 rfl) ?_
    refine lv_lload_n hx hb dX10_label_16 rfl (lv_at hl 0 rfl) ?_
    refine cR_l (ci := 9) (q0 := 0) (As := [.long r1]) (rest := []) E hml hP hD hS hA (t_X10_first l D G r1 u4 _ h) kmX10_209 mwyX10_first rfl rfl ⟨⟨rfl, rfl⟩, Nat.le_of_ble_eq_true rfl, Nat.le_of_ble_eq_true rfl⟩ rfl hl.1 rfl (Nat.le_of_ble_eq_true rfl) dX10_label_17 ⟨Nat.zero_le _, Nat.zero_le _⟩ (fun r6 u7 H locs hP hD hS h => ?_)
    refine c0_i (As := [.long r6]) (rest := []) hx hb hml hown hW hP hS hA (t_X10_isName l r6 _ h) kmX10_289 mwyX10_isName ⟨⟨rfl, rfl⟩, Nat.le_of_ble_eq_true rfl, Nat.le_of_ble_eq_true rfl⟩ rfl hl.1 rfl (Nat.le_of_ble_eq_true rfl) dX10_label_20 ⟨Nat.zero_le _, Nat.zero_le _⟩ (fun r8 H locs hP hS h => ?_)
    refine lv_if_ne (tgt := 32) hx hb dX10_label_23 (by decide) (fun hc => ?_) (fun hc => ?_)
    · have h := h.2 hc
      refine lv_aload_n hx hb dX10_label_32 rfl (lv_at hl 1 rfl) ?_
      refine lv_lload_n hx hb dX10_label_33 rfl (lv_at hl 2 rfl) ?_
      refine cR_v (ci := 9) (q0 := 0) (As := [.long p0]) (rest := []) E hml hP hD hS hA (t_X10_holdForBinding l D G p0 u7 _ h) kmX10_313 mwyX10_holdForBinding rfl rfl ⟨⟨rfl, rfl⟩, Nat.le_of_ble_eq_true rfl, Nat.le_of_ble_eq_true rfl⟩ rfl hl.1 rfl (Nat.le_of_ble_eq_true rfl) dX10_label_34 ⟨Nat.zero_le _, Nat.zero_le _⟩ (fun u9 H locs hP hD hS h => ?_)
      refine lv_aload_n hx hb dX10_label_37 rfl (lv_at hl 1 rfl) ?_
      refine lv_iconst (v := (2 : Int32)) hx hb dX10_label_38 (by decide) ?_
      refine cR_i (ci := 9) (q0 := 0) (As := [.int (2 : Int32)]) (rest := []) E hml hP hD hS hA (t_X10_room l D G (2 : Int32) u9 _ h) kmX10_307 mwyX10_room rfl rfl ⟨⟨rfl, rfl⟩, Nat.le_of_ble_eq_true rfl, Nat.le_of_ble_eq_true rfl⟩ rfl hl.1 rfl (Nat.le_of_ble_eq_true rfl) dX10_label_39 ⟨Nat.zero_le _, Nat.zero_le _⟩ (fun r10 u11 H locs hP hD hS h => ?_)
      refine lv_if_ne (tgt := 46) hx hb dX10_label_42 (by decide) (fun hc => ?_) (fun hc => ?_)
      · have h := h.2 hc
        refine lv_aload_n hx hb dX10_label_46 rfl (lv_at hl 1 rfl) ?_
        refine lv_aload_n hx hb dX10_label_47 rfl (lv_at hl 1 rfl) ?_
        refine lv_aload_n hx hb dX10_label_48 rfl (lv_at hl 1 rfl) ?_
        refine lv_aload_n hx hb dX10_label_49 rfl (lv_at hl 1 rfl) ?_
        refine lv_lload_n hx hb dX10_label_50 rfl (lv_at hl 0 rfl) ?_
        refine cR_l (ci := 9) (q0 := 0) (As := [.long r1]) (rest := [.ref (G.1 0), .ref (G.1 0), .ref (G.1 0)]) E hml hP hD hS hA (t_X10_first l D G r1 u11 _ h) kmX10_209 mwyX10_first rfl rfl ⟨⟨rfl, rfl⟩, Nat.le_of_ble_eq_true rfl, Nat.le_of_ble_eq_true rfl⟩ rfl hl.1 rfl (Nat.le_of_ble_eq_true rfl) dX10_label_51 ⟨Nat.zero_le _, Nat.zero_le _⟩ (fun r12 u13 H locs hP hD hS h => ?_)
        refine lv_aload_n hx hb dX10_label_54 rfl (lv_at hl 1 rfl) ?_
        refine lv_aload_n hx hb dX10_label_55 rfl (lv_at hl 1 rfl) ?_
        refine lv_lload_n hx hb dX10_label_56 rfl (lv_at hl 0 rfl) ?_
        refine cR_l (ci := 9) (q0 := 0) (As := [.long r1]) (rest := [.ref (G.1 0), .long r12, .ref (G.1 0), .ref (G.1 0), .ref (G.1 0)]) E hml hP hD hS hA (t_X10_behind l D G r1 u13 _ h) kmX10_216 mwyX10_behind rfl rfl ⟨⟨rfl, rfl⟩, Nat.le_of_ble_eq_true rfl, Nat.le_of_ble_eq_true rfl⟩ rfl hl.1 rfl (Nat.le_of_ble_eq_true rfl) dX10_label_57 ⟨Nat.zero_le _, Nat.zero_le _⟩ (fun r14 u15 H locs hP hD hS h => ?_)
        refine cR_l (ci := 9) (q0 := 0) (As := [.long r14]) (rest := [.long r12, .ref (G.1 0), .ref (G.1 0), .ref (G.1 0)]) E hml hP hD hS hA (t_X10_first l D G r14 u15 _ h) kmX10_209 mwyX10_first rfl rfl ⟨⟨rfl, rfl⟩, Nat.le_of_ble_eq_true rfl, Nat.le_of_ble_eq_true rfl⟩ rfl hl.1 rfl (Nat.le_of_ble_eq_true rfl) dX10_label_60 ⟨Nat.zero_le _, Nat.zero_le _⟩ (fun r16 u17 H locs hP hD hS h => ?_)
        refine cR_l (ci := 9) (q0 := 0) (As := [.long r12, .long r16]) (rest := [.ref (G.1 0), .ref (G.1 0)]) E hml hP hD hS hA (t_X10_pair l D G r12 r16 u17 _ h) kmX10_244 mwyX10_pair rfl rfl ⟨⟨rfl, rfl⟩, Nat.le_of_ble_eq_true rfl, Nat.le_of_ble_eq_true rfl⟩ rfl hl.1 rfl (Nat.le_of_ble_eq_true rfl) dX10_label_63 ⟨Nat.zero_le _, Nat.zero_le _⟩ (fun r18 u19 H locs hP hD hS h => ?_)
        refine lv_aload_n hx hb dX10_label_66 rfl (lv_at hl 1 rfl) ?_
        refine gR_41 E hP kfX10_138 (v := (gJ u19 41)) rfl dX10_label_67 ?_
        refine cR_l (ci := 9) (q0 := 0) (As := [.long r18, .long (gJ u19 41)]) (rest := [.ref (G.1 0)]) E hml hP hD hS hA (t_X10_pair l D G r18 (gJ u19 41) u19 _ h) kmX10_244 mwyX10_pair rfl rfl ⟨⟨rfl, rfl⟩, Nat.le_of_ble_eq_true rfl, Nat.le_of_ble_eq_true rfl⟩ rfl hl.1 rfl (Nat.le_of_ble_eq_true rfl) dX10_label_70 ⟨Nat.zero_le _, Nat.zero_le _⟩ (fun r20 u21 H locs hP hD hS h => ?_)
        refine pR_41 E hP hD hS kfX10_138 dX10_label_73 (fun H locs hP hD hS => ?_)
        refine lv_aload_n hx hb dX10_label_76 rfl (lv_at hl 1 rfl) ?_
        refine lv_aload_n hx hb dX10_label_77 rfl (lv_at hl 1 rfl) ?_
        refine lv_aload_n hx hb dX10_label_78 rfl (lv_at hl 1 rfl) ?_
        refine lv_lload_n hx hb dX10_label_79 rfl (lv_at hl 0 rfl) ?_
        refine cR_l (ci := 9) (q0 := 0) (As := [.long r1]) (rest := [.ref (G.1 0), .ref (G.1 0)]) E hml hP hD hS hA (t_X10_behind l D G r1 (sJ u21 41 r20) _ h) kmX10_216 mwyX10_behind rfl rfl ⟨⟨rfl, rfl⟩, Nat.le_of_ble_eq_true rfl, Nat.le_of_ble_eq_true rfl⟩ rfl hl.1 rfl (Nat.le_of_ble_eq_true rfl) dX10_label_80 ⟨Nat.zero_le _, Nat.zero_le _⟩ (fun r22 u23 H locs hP hD hS h => ?_)
        refine cR_l (ci := 9) (q0 := 0) (As := [.long r22]) (rest := [.ref (G.1 0)]) E hml hP hD hS hA (t_X10_first l D G r22 u23 _ h) kmX10_209 mwyX10_first rfl rfl ⟨⟨rfl, rfl⟩, Nat.le_of_ble_eq_true rfl, Nat.le_of_ble_eq_true rfl⟩ rfl hl.1 rfl (Nat.le_of_ble_eq_true rfl) dX10_label_83 ⟨Nat.zero_le _, Nat.zero_le _⟩ (fun r24 u25 H locs hP hD hS h => ?_)
        refine pR_40 E hP hD hS kfX10_135 dX10_label_86 (fun H locs hP hD hS => ?_)
        exact retR_v E hr hlk hP hD hS h dX10_label_89
      · have h := h.1 hc
        exact retR_v E hr hlk hP hD hS h dX10_label_45
    · have h := h.1 hc
      refine lv_aload_n hx hb dX10_label_26 rfl (lv_at hl 1 rfl) ?_
      refine lv_iconst (v := (3 : Int32)) hx hb dX10_label_27 (by decide) ?_
      refine cR_v (ci := 9) (q0 := 0) (As := [.int (3 : Int32)]) (rest := []) E hml hP hD hS hA (t_X10_fails l D G (3 : Int32) u7 _ h) kmX10_265 mwyX10_fails rfl rfl ⟨⟨rfl, rfl⟩, Nat.le_of_ble_eq_true rfl, Nat.le_of_ble_eq_true rfl⟩ rfl hl.1 rfl (Nat.le_of_ble_eq_true rfl) dX10_label_28 ⟨Nat.zero_le _, Nat.zero_le _⟩ (fun u26 H locs hP hD hS h => ?_)
      exact retR_v E hr hlk hP hD hS h dX10_label_31
def l_X10_namesIn_5 (Q : Int32 → St → Prop)  (K : Int32 → Int64 → St → Prop) : Nat → Int32 → Int64 → St → Prop
  | 0, _, _, _ => False
  | n + 1, x3, x4, u => wp_X10_isPair x4 (fun (r1 : Int32) => ((r1 = 0 → K x3 x4 u) ∧ (¬ r1 = 0 → wp_X10_first x4 u (fun (r2 : Int64) (u3 : St) => wp_X10_isName r2 (fun (r4 : Int32) => ((r4 = 0 → Q (-1 : Int32) u3) ∧ (¬ r4 = 0 → wp_X10_behind x4 u3 (fun (r5 : Int64) (u6 : St) => l_X10_namesIn_5 Q K n (x3 + (1 : Int32)) r5 u6))))))))
def wp_X10_namesIn (p0 : Int64) (u : St) (Q : Int32 → St → Prop) : Prop := (∃ k10 : Nat, l_X10_namesIn_5 Q  (fun (y7 : Int32) (y8 : Int64) (u9 : St) => ((y8 = (4294967296 : Int64) → Q y7 u9) ∧ (¬ y8 = (4294967296 : Int64) → Q (-1 : Int32) u9))) k10 (0 : Int32) p0 u)
abbrev rm_X10_namesIn : Room := { frames := 1, cells := 0, slots := 0, locals := 22 }
set_option maxHeartbeats 4000000 in
set_option maxRecDepth 100000 in
theorem t_X10_namesIn (l : Launch) (D : va_G) (G : Gd) (p0 : Int64) (u : St) (Q : Int32 → St → Prop) (h : wp_X10_namesIn p0 u Q) : MRi l D G yX10_namesIn cX10_namesIn 6 (some .int) rm_X10_namesIn [.ref (G.1 0), .long p0] u Q := by
  refine startR_i (by decide) ?_
  intro p e s m args below meth c E hr hlk hml hP hD hS hA
  have hx := E.1
  have hb := E.2.1
  have hown := E.2.2.1
  have hW := E.2.2.2.1
  have hl := lv_entry ([.ref (G.1 0), .long p0]) (n := 6) (Nat.le_of_ble_eq_true rfl)
  rw [lg_entry_eq]
  generalize (lg_sl ([.ref (G.1 0), .long p0]) ++ List.replicate (6 - (lg_sl ([.ref (G.1 0), .long p0])).length) Slot.unset).toArray = ls at hl ⊢
  have hl : lv_has ls 6 [(0, .ref (G.1 0)), (1, .long p0)] := hl
  have L_5 : ∀  (K : Int32 → Int64 → St → Prop), (∀ (x3 : Int32) (x4 : Int64) (u : St) (H : Heap) (locs : List Loc) (ls : Array Slot), K x3 x4 u → va_P D vwCl (wR G u) H → va_D (AR G s.heap.size) (wR G u) → va_S (AR G s.heap.size) s.heap H locs → lv_has ls 6 [(3, .int x3), (4, .long x4)] → W p l e rm_X10_namesIn s m args below meth c H locs 0 0 (MQ below (va_Qi Q (BR D G s.heap.size) (AR G s.heap.size)) args s 0 0 (AR G s.heap.size)) (F0 m 41 ls [])) → ∀ (n : Nat) (x3 : Int32) (x4 : Int64) (u : St) (H : Heap) (locs : List Loc) (ls : Array Slot), l_X10_namesIn_5 Q K n x3 x4 u → va_P D vwCl (wR G u) H → va_D (AR G s.heap.size) (wR G u) → va_S (AR G s.heap.size) s.heap H locs → lv_has ls 6 [(0, .ref (G.1 0)), (3, .int x3), (4, .long x4)] → W p l e rm_X10_namesIn s m args below meth c H locs 0 0 (MQ below (va_Qi Q (BR D G s.heap.size) (AR G s.heap.size)) args s 0 0 (AR G s.heap.size)) (F0 m 5 ls []) := by
    intro  K hK n
    induction n with
    | zero => intro x3 x4 u H locs ls h; exact False.elim h
    | succ n ih =>
      intro x3 x4 u H locs ls h hP hD hS hl
      unfold l_X10_namesIn_5 at h
      refine lv_lload hx hb dX10_namesIn_5 (lv_at hl 2 rfl) ?_
      refine c0_i (As := [.long x4]) (rest := []) hx hb hml hown hW hP hS hA (t_X10_isPair l x4 _ h) kmX10_205 mwyX10_isPair ⟨⟨rfl, rfl⟩, Nat.le_of_ble_eq_true rfl, Nat.le_of_ble_eq_true rfl⟩ rfl hl.1 rfl (Nat.le_of_ble_eq_true rfl) dX10_namesIn_7 ⟨Nat.zero_le _, Nat.zero_le _⟩ (fun r1 H locs hP hS h => ?_)
      refine lv_if_eq (tgt := 41) hx hb dX10_namesIn_10 (by decide) (fun hc => ?_) (fun hc => ?_)
      · have h := h.1 hc
        exact hK x3 x4 u _ _ _ h hP hD hS (lv_sub hl [1, 2] rfl)
      · have h := h.2 hc
        refine lv_aload_n hx hb dX10_namesIn_13 rfl (lv_at hl 0 rfl) ?_
        refine lv_lload hx hb dX10_namesIn_14 (lv_at hl 2 rfl) ?_
        refine cR_l (ci := 9) (q0 := 0) (As := [.long x4]) (rest := []) E hml hP hD hS hA (t_X10_first l D G x4 u _ h) kmX10_209 mwyX10_first rfl rfl ⟨⟨rfl, rfl⟩, Nat.le_of_ble_eq_true rfl, Nat.le_of_ble_eq_true rfl⟩ rfl hl.1 rfl (Nat.le_of_ble_eq_true rfl) dX10_namesIn_16 ⟨Nat.zero_le _, Nat.zero_le _⟩ (fun r2 u3 H locs hP hD hS h => ?_)
        refine c0_i (As := [.long r2]) (rest := []) hx hb hml hown hW hP hS hA (t_X10_isName l r2 _ h) kmX10_289 mwyX10_isName ⟨⟨rfl, rfl⟩, Nat.le_of_ble_eq_true rfl, Nat.le_of_ble_eq_true rfl⟩ rfl hl.1 rfl (Nat.le_of_ble_eq_true rfl) dX10_namesIn_19 ⟨Nat.zero_le _, Nat.zero_le _⟩ (fun r4 H locs hP hS h => ?_)
        refine lv_if_ne (tgt := 27) hx hb dX10_namesIn_22 (by decide) (fun hc => ?_) (fun hc => ?_)
        · have h := h.2 hc
          refine lv_iinc (v := (x3 + (1 : Int32))) (lv' := [(3, .int (x3 + (1 : Int32))), (0, .ref (G.1 0)), (4, .long x4)]) hx hb dX10_namesIn_27 hl (k := 1) rfl rfl (by decide) rfl (fun ls hl => ?_)
          refine lv_aload_n hx hb dX10_namesIn_30 rfl (lv_at hl 1 rfl) ?_
          refine lv_lload hx hb dX10_namesIn_31 (lv_at hl 2 rfl) ?_
          refine cR_l (ci := 9) (q0 := 0) (As := [.long x4]) (rest := []) E hml hP hD hS hA (t_X10_behind l D G x4 u3 _ h) kmX10_216 mwyX10_behind rfl rfl ⟨⟨rfl, rfl⟩, Nat.le_of_ble_eq_true rfl, Nat.le_of_ble_eq_true rfl⟩ rfl hl.1 rfl (Nat.le_of_ble_eq_true rfl) dX10_namesIn_33 ⟨Nat.zero_le _, Nat.zero_le _⟩ (fun r5 u6 H locs hP hD hS h => ?_)
          refine lv_lstore (lv' := [(4, .long r5), (3, .int (x3 + (1 : Int32))), (0, .ref (G.1 0))]) hx hb dX10_namesIn_36 hl (by decide) rfl (fun ls hl => ?_)
          refine lv_goto (tgt := 5) hx hb dX10_namesIn_38 (by decide) ?_
          exact ih (x3 + (1 : Int32)) r5 u6 _ _ _ h hP hD hS (lv_sub hl [2, 1, 0] rfl)
        · have h := h.1 hc
          refine lv_iconst (v := (-1 : Int32)) hx hb dX10_namesIn_25 (by decide) ?_
          exact retR_i E hr hlk hP hD hS h dX10_namesIn_26
  unfold wp_X10_namesIn at h
  refine lv_iconst (v := (0 : Int32)) hx hb dX10_namesIn_0 (by decide) ?_
  refine lv_istore_n (lv' := [(3, .int (0 : Int32)), (0, .ref (G.1 0)), (1, .long p0)]) hx hb dX10_namesIn_1 rfl hl (by decide) rfl (fun ls hl => ?_)
  refine lv_lload_n hx hb dX10_namesIn_2 rfl (lv_at hl 2 rfl) ?_
  refine lv_lstore (lv' := [(4, .long p0), (3, .int (0 : Int32)), (0, .ref (G.1 0)), (1, .long p0)]) hx hb dX10_namesIn_3 hl (by decide) rfl (fun ls hl => ?_)
  obtain ⟨n, h⟩ := h
  refine L_5  _ (fun y7 y8 u9 H locs ls h hP hD hS hl => ?_) n (0 : Int32) p0 u _ _ _ h hP hD hS (lv_sub hl [2, 1, 0] rfl)
  refine lv_lload hx hb dX10_namesIn_41 (lv_at hl 1 rfl) ?_
  refine lv_ldc2 (v := (4294967296 : Int64)) hx hb hown (hW _ kcX10_199) dX10_namesIn_43 ?_
  refine lq_ne (tgt := 54) hx hb dX10_namesIn_46 dX10_namesIn_47 (by decide) (fun hc => ?_) (fun hc => ?_)
  · have h := h.2 hc
    refine lv_iconst (v := (-1 : Int32)) hx hb dX10_namesIn_54 (by decide) ?_
    exact retR_i E hr hlk hP hD hS h dX10_namesIn_55
  · have h := h.1 hc
    refine lv_iload_n hx hb dX10_namesIn_50 rfl (lv_at hl 0 rfl) ?_
    refine lv_goto (tgt := 55) hx hb dX10_namesIn_51 (by decide) ?_
    exact retR_i E hr hlk hP hD hS h dX10_namesIn_55
def l_X10_lambda_85 (c3 : Int64) (c5 : Int64) (c7 : Int32) (K : Int64 → St → Prop) : Nat → Int64 → Int32 → St → Prop
  | 0, _, _, _ => False
  | n + 1, x8, x10, u => ((c7 ≤ x10 → K x8 u) ∧ (¬ c7 ≤ x10 → wp_X10_behind x8 u (fun (r15 : Int64) (u16 : St) => l_X10_lambda_85  c3 c5 c7 K n r15 (x10 + (1 : Int32)) u16)))
def l_X10_lambda_70 (c3 : Int64) (K : Int64 → St → Prop) : Nat → Int64 → Int32 → St → Prop
  | 0, _, _, _ => False
  | n + 1, x5, x7, u => ((x7 < 0 → K x5 u) ∧ (¬ x7 < 0 → wp_X10_first c3 u (fun (r13 : Int64) (u14 : St) => (∃ k25 : Nat, l_X10_lambda_85  c3 x5 x7 (fun (y17 : Int64) (u18 : St) => wp_X10_first y17 u18 (fun (r19 : Int64) (u20 : St) => vp_in x7 8 ∧ wp_X10_pair r19 ((gB u20 42) (x7).toNatClampNeg) u20 (fun (r21 : Int64) (u22 : St) => wp_X10_pair r21 x5 u22 (fun (r23 : Int64) (u24 : St) => l_X10_lambda_70  c3 K n r23 (x7 + (-1 : Int32)) u24)))) k25 r13 (0 : Int32) u14))))
def wp_X10_lambda (p0 : Int64) (u : St) (Q : St → Prop) : Prop := wp_X10_behind p0 u (fun (r1 : Int64) (u2 : St) => wp_X10_listOf r1 (2 : Int32) u2 (fun (r3 : Int32) (u4 : St) => ((r3 = 0 → wp_X10_fails (3 : Int32) u4 (fun (u5 : St) => Q u5)) ∧ (¬ r3 = 0 → wp_X10_first r1 u4 (fun (r6 : Int64) (u7 : St) => wp_X10_namesIn r6 u7 (fun (r8 : Int32) (u9 : St) => ((r8 = (gI u9 43) → wp_X10_holdForBinding p0 u9 (fun (u10 : St) => wp_X10_room ((2 : Int32) * (gI u10 43)) u10 (fun (r11 : Int32) (u12 : St) => ((r11 = 0 → Q u12) ∧ (¬ r11 = 0 → (∃ k32 : Nat, l_X10_lambda_70  r1 (fun (y26 : Int64) (u27 : St) => wp_X10_behind r1 (sI (sJ u27 41 y26) 39 (0 : Int32)) (fun (r28 : Int64) (u29 : St) => wp_X10_first r28 u29 (fun (r30 : Int64) (u31 : St) => Q (sJ u31 40 r30)))) k32 (gJ u12 41) ((gI u12 43) - (1 : Int32)) u12)))))) ∧ (¬ r8 = (gI u9 43) → wp_X10_fails (3 : Int32) u9 (fun (u33 : St) => Q u33)))))))))
abbrev rm_X10_lambda : Room := { frames := 6, cells := 0, slots := 0, locals := 132 }
set_option maxHeartbeats 4000000 in
set_option maxRecDepth 100000 in
theorem t_X10_lambda (l : Launch) (D : va_G) (G : Gd) (p0 : Int64) (u : St) (Q : St → Prop) (h : wp_X10_lambda p0 u Q) : MRv l D G yX10_lambda cX10_lambda 11 none rm_X10_lambda [.ref (G.1 0), .long p0] u Q := by
  refine startR_v (by decide) ?_
  intro p e s m args below meth c E hr hlk hml hP hD hS hA
  have hx := E.1
  have hb := E.2.1
  have hown := E.2.2.1
  have hW := E.2.2.2.1
  have hl := lv_entry ([.ref (G.1 0), .long p0]) (n := 11) (Nat.le_of_ble_eq_true rfl)
  rw [lg_entry_eq]
  generalize (lg_sl ([.ref (G.1 0), .long p0]) ++ List.replicate (11 - (lg_sl ([.ref (G.1 0), .long p0])).length) Slot.unset).toArray = ls at hl ⊢
  have hl : lv_has ls 11 [(0, .ref (G.1 0)), (1, .long p0)] := hl
  have L_85 : ∀ (c3 : Int64) (c5 : Int64) (c7 : Int32) (K : Int64 → St → Prop), (∀ (x8 : Int64) (u : St) (H : Heap) (locs : List Loc) (ls : Array Slot), K x8 u → va_P D vwCl (wR G u) H → va_D (AR G s.heap.size) (wR G u) → va_S (AR G s.heap.size) s.heap H locs → lv_has ls 11 [(0, .ref (G.1 0)), (3, .long c3), (5, .long c5), (7, .int c7), (8, .long x8)] → W p l e rm_X10_lambda s m args below meth c H locs 0 0 (MQ below (va_Qv Q (BR D G s.heap.size) (AR G s.heap.size)) args s 0 0 (AR G s.heap.size)) (F0 m 106 ls [])) → ∀ (n : Nat) (x8 : Int64) (x10 : Int32) (u : St) (H : Heap) (locs : List Loc) (ls : Array Slot), l_X10_lambda_85  c3 c5 c7 K n x8 x10 u → va_P D vwCl (wR G u) H → va_D (AR G s.heap.size) (wR G u) → va_S (AR G s.heap.size) s.heap H locs → lv_has ls 11 [(0, .ref (G.1 0)), (3, .long c3), (5, .long c5), (7, .int c7), (8, .long x8), (10, .int x10)] → W p l e rm_X10_lambda s m args below meth c H locs 0 0 (MQ below (va_Qv Q (BR D G s.heap.size) (AR G s.heap.size)) args s 0 0 (AR G s.heap.size)) (F0 m 85 ls []) := by
    intro c3 c5 c7 K hK n
    induction n with
    | zero => intro x8 x10 u H locs ls h; exact False.elim h
    | succ n ih =>
      intro x8 x10 u H locs ls h hP hD hS hl
      unfold l_X10_lambda_85 at h
      refine lv_iload hx hb dX10_lambda_85 (lv_at hl 5 rfl) ?_
      refine lv_iload hx hb dX10_lambda_87 (lv_at hl 3 rfl) ?_
      refine lv_icmp_ge (tgt := 106) hx hb dX10_lambda_89 (by decide) (fun hc => ?_) (fun hc => ?_)
      · have h := h.1 hc
        exact hK x8 u _ _ _ h hP hD hS (lv_sub hl [0, 1, 2, 3, 4] rfl)
      · have h := h.2 hc
        refine lv_aload_n hx hb dX10_lambda_92 rfl (lv_at hl 0 rfl) ?_
        refine lv_lload hx hb dX10_lambda_93 (lv_at hl 4 rfl) ?_
        refine cR_l (ci := 9) (q0 := 0) (As := [.long x8]) (rest := []) E hml hP hD hS hA (t_X10_behind l D G x8 u _ h) kmX10_216 mwyX10_behind rfl rfl ⟨⟨rfl, rfl⟩, Nat.le_of_ble_eq_true rfl, Nat.le_of_ble_eq_true rfl⟩ rfl hl.1 rfl (Nat.le_of_ble_eq_true rfl) dX10_lambda_95 ⟨Nat.zero_le _, Nat.zero_le _⟩ (fun r15 u16 H locs hP hD hS h => ?_)
        refine lv_lstore (lv' := [(8, .long r15), (0, .ref (G.1 0)), (3, .long c3), (5, .long c5), (7, .int c7), (10, .int x10)]) hx hb dX10_lambda_98 hl (by decide) rfl (fun ls hl => ?_)
        refine lv_iinc (v := (x10 + (1 : Int32))) (lv' := [(10, .int (x10 + (1 : Int32))), (8, .long r15), (0, .ref (G.1 0)), (3, .long c3), (5, .long c5), (7, .int c7)]) hx hb dX10_lambda_100 hl (k := 5) rfl rfl (by decide) rfl (fun ls hl => ?_)
        refine lv_goto (tgt := 85) hx hb dX10_lambda_103 (by decide) ?_
        exact ih r15 (x10 + (1 : Int32)) u16 _ _ _ h hP hD hS (lv_sub hl [2, 3, 4, 5, 1, 0] rfl)
  have L_70 : ∀ (c3 : Int64) (K : Int64 → St → Prop), (∀ (x5 : Int64) (u : St) (H : Heap) (locs : List Loc) (ls : Array Slot), K x5 u → va_P D vwCl (wR G u) H → va_D (AR G s.heap.size) (wR G u) → va_S (AR G s.heap.size) s.heap H locs → lv_has ls 11 [(0, .ref (G.1 0)), (3, .long c3), (5, .long x5)] → W p l e rm_X10_lambda s m args below meth c H locs 0 0 (MQ below (va_Qv Q (BR D G s.heap.size) (AR G s.heap.size)) args s 0 0 (AR G s.heap.size)) (F0 m 137 ls [])) → ∀ (n : Nat) (x5 : Int64) (x7 : Int32) (u : St) (H : Heap) (locs : List Loc) (ls : Array Slot), l_X10_lambda_70  c3 K n x5 x7 u → va_P D vwCl (wR G u) H → va_D (AR G s.heap.size) (wR G u) → va_S (AR G s.heap.size) s.heap H locs → lv_has ls 11 [(0, .ref (G.1 0)), (3, .long c3), (5, .long x5), (7, .int x7)] → W p l e rm_X10_lambda s m args below meth c H locs 0 0 (MQ below (va_Qv Q (BR D G s.heap.size) (AR G s.heap.size)) args s 0 0 (AR G s.heap.size)) (F0 m 70 ls []) := by
    intro c3 K hK n
    induction n with
    | zero => intro x5 x7 u H locs ls h; exact False.elim h
    | succ n ih =>
      intro x5 x7 u H locs ls h hP hD hS hl
      unfold l_X10_lambda_70 at h
      refine lv_iload hx hb dX10_lambda_70 (lv_at hl 3 rfl) ?_
      refine lv_if_lt (tgt := 137) hx hb dX10_lambda_72 (by decide) (fun hc => ?_) (fun hc => ?_)
      · have h := h.1 hc
        exact hK x5 u _ _ _ h hP hD hS (lv_sub hl [0, 1, 2] rfl)
      · have h := h.2 hc
        refine lv_aload_n hx hb dX10_lambda_75 rfl (lv_at hl 0 rfl) ?_
        refine lv_lload_n hx hb dX10_lambda_76 rfl (lv_at hl 1 rfl) ?_
        refine cR_l (ci := 9) (q0 := 0) (As := [.long c3]) (rest := []) E hml hP hD hS hA (t_X10_first l D G c3 u _ h) kmX10_209 mwyX10_first rfl rfl ⟨⟨rfl, rfl⟩, Nat.le_of_ble_eq_true rfl, Nat.le_of_ble_eq_true rfl⟩ rfl hl.1 rfl (Nat.le_of_ble_eq_true rfl) dX10_lambda_77 ⟨Nat.zero_le _, Nat.zero_le _⟩ (fun r13 u14 H locs hP hD hS h => ?_)
        refine lv_lstore (lv' := [(8, .long r13), (0, .ref (G.1 0)), (3, .long c3), (5, .long x5), (7, .int x7)]) hx hb dX10_lambda_80 hl (by decide) rfl (fun ls hl => ?_)
        refine lv_iconst (v := (0 : Int32)) hx hb dX10_lambda_82 (by decide) ?_
        refine lv_istore (lv' := [(10, .int (0 : Int32)), (8, .long r13), (0, .ref (G.1 0)), (3, .long c3), (5, .long x5), (7, .int x7)]) hx hb dX10_lambda_83 hl (by decide) rfl (fun ls hl => ?_)
        obtain ⟨n, h⟩ := h
        refine L_85 c3 x5 x7 _ (fun y17 u18 H locs ls h hP hD hS hl => ?_) n r13 (0 : Int32) u14 _ _ _ h hP hD hS (lv_sub hl [2, 3, 4, 5, 1, 0] rfl)
        refine lv_aload_n hx hb dX10_lambda_106 rfl (lv_at hl 0 rfl) ?_
        refine lv_aload_n hx hb dX10_lambda_107 rfl (lv_at hl 0 rfl) ?_
        refine lv_aload_n hx hb dX10_lambda_108 rfl (lv_at hl 0 rfl) ?_
        refine lv_lload hx hb dX10_lambda_109 (lv_at hl 4 rfl) ?_
        refine cR_l (ci := 9) (q0 := 0) (As := [.long y17]) (rest := [.ref (G.1 0), .ref (G.1 0)]) E hml hP hD hS hA (t_X10_first l D G y17 u18 _ h) kmX10_209 mwyX10_first rfl rfl ⟨⟨rfl, rfl⟩, Nat.le_of_ble_eq_true rfl, Nat.le_of_ble_eq_true rfl⟩ rfl hl.1 rfl (Nat.le_of_ble_eq_true rfl) dX10_lambda_111 ⟨Nat.zero_le _, Nat.zero_le _⟩ (fun r19 u20 H locs hP hD hS h => ?_)
        refine lv_aload_n hx hb dX10_lambda_114 rfl (lv_at hl 0 rfl) ?_
        refine gR_42 E hP kfX10_141 dX10_lambda_115 ?_
        refine lv_iload hx hb dX10_lambda_118 (lv_at hl 3 rfl) ?_
        obtain ⟨h9, h⟩ := h
        refine xR_42 E hP h9 (v := ((gB u20 42) (x7).toNatClampNeg)) rfl dX10_lambda_120 ?_
        refine cR_l (ci := 9) (q0 := 0) (As := [.long r19, .long ((gB u20 42) (x7).toNatClampNeg)]) (rest := [.ref (G.1 0)]) E hml hP hD hS hA (t_X10_pair l D G r19 ((gB u20 42) (x7).toNatClampNeg) u20 _ h) kmX10_244 mwyX10_pair rfl rfl ⟨⟨rfl, rfl⟩, Nat.le_of_ble_eq_true rfl, Nat.le_of_ble_eq_true rfl⟩ rfl hl.1 rfl (Nat.le_of_ble_eq_true rfl) dX10_lambda_121 ⟨Nat.zero_le _, Nat.zero_le _⟩ (fun r21 u22 H locs hP hD hS h => ?_)
        refine lv_lload hx hb dX10_lambda_124 (lv_at hl 2 rfl) ?_
        refine cR_l (ci := 9) (q0 := 0) (As := [.long r21, .long x5]) (rest := []) E hml hP hD hS hA (t_X10_pair l D G r21 x5 u22 _ h) kmX10_244 mwyX10_pair rfl rfl ⟨⟨rfl, rfl⟩, Nat.le_of_ble_eq_true rfl, Nat.le_of_ble_eq_true rfl⟩ rfl hl.1 rfl (Nat.le_of_ble_eq_true rfl) dX10_lambda_126 ⟨Nat.zero_le _, Nat.zero_le _⟩ (fun r23 u24 H locs hP hD hS h => ?_)
        refine lv_lstore (lv' := [(5, .long r23), (0, .ref (G.1 0)), (3, .long c3), (7, .int x7), (8, .long y17)]) hx hb dX10_lambda_129 hl (by decide) rfl (fun ls hl => ?_)
        refine lv_iinc (v := (x7 + (-1 : Int32))) (lv' := [(7, .int (x7 + (-1 : Int32))), (5, .long r23), (0, .ref (G.1 0)), (3, .long c3), (8, .long y17)]) hx hb dX10_lambda_131 hl (k := 3) rfl rfl (by decide) rfl (fun ls hl => ?_)
        refine lv_goto (tgt := 70) hx hb dX10_lambda_134 (by decide) ?_
        exact ih r23 (x7 + (-1 : Int32)) u24 _ _ _ h hP hD hS (lv_sub hl [2, 3, 1, 0] rfl)
  unfold wp_X10_lambda at h
  refine lv_aload_n hx hb dX10_lambda_0 rfl (lv_at hl 0 rfl) ?_
  refine lv_lload_n hx hb dX10_lambda_1 rfl (lv_at hl 1 rfl) ?_
  refine cR_l (ci := 9) (q0 := 0) (As := [.long p0]) (rest := []) E hml hP hD hS hA (t_X10_behind l D G p0 u _ h) kmX10_216 mwyX10_behind rfl rfl ⟨⟨rfl, rfl⟩, Nat.le_of_ble_eq_true rfl, Nat.le_of_ble_eq_true rfl⟩ rfl hl.1 rfl (Nat.le_of_ble_eq_true rfl) dX10_lambda_2 ⟨Nat.zero_le _, Nat.zero_le _⟩ (fun r1 u2 H locs hP hD hS h => ?_)
  refine lv_lstore_n (lv' := [(3, .long r1), (0, .ref (G.1 0)), (1, .long p0)]) hx hb dX10_lambda_5 rfl hl (by decide) rfl (fun ls hl => ?_)
  refine lv_aload_n hx hb dX10_lambda_6 rfl (lv_at hl 1 rfl) ?_
  refine lv_lload_n hx hb dX10_lambda_7 rfl (lv_at hl 0 rfl) ?_
  refine lv_iconst (v := (2 : Int32)) hx hb dX10_lambda_8 (by decide) ?_
  refine cR_i (ci := 9) (q0 := 0) (As := [.long r1, .int (2 : Int32)]) (rest := []) E hml hP hD hS hA (t_X10_listOf l D G r1 (2 : Int32) u2 _ h) kmX10_269 mwyX10_listOf rfl rfl ⟨⟨rfl, rfl⟩, Nat.le_of_ble_eq_true rfl, Nat.le_of_ble_eq_true rfl⟩ rfl hl.1 rfl (Nat.le_of_ble_eq_true rfl) dX10_lambda_9 ⟨Nat.zero_le _, Nat.zero_le _⟩ (fun r3 u4 H locs hP hD hS h => ?_)
  refine lv_if_eq (tgt := 31) hx hb dX10_lambda_12 (by decide) (fun hc => ?_) (fun hc => ?_)
  · have h := h.1 hc
    refine lv_aload_n hx hb dX10_lambda_31 rfl (lv_at hl 1 rfl) ?_
    refine lv_iconst (v := (3 : Int32)) hx hb dX10_lambda_32 (by decide) ?_
    refine cR_v (ci := 9) (q0 := 0) (As := [.int (3 : Int32)]) (rest := []) E hml hP hD hS hA (t_X10_fails l D G (3 : Int32) u4 _ h) kmX10_265 mwyX10_fails rfl rfl ⟨⟨rfl, rfl⟩, Nat.le_of_ble_eq_true rfl, Nat.le_of_ble_eq_true rfl⟩ rfl hl.1 rfl (Nat.le_of_ble_eq_true rfl) dX10_lambda_33 ⟨Nat.zero_le _, Nat.zero_le _⟩ (fun u5 H locs hP hD hS h => ?_)
    exact retR_v E hr hlk hP hD hS h dX10_lambda_36
  · have h := h.2 hc
    refine lv_aload_n hx hb dX10_lambda_15 rfl (lv_at hl 1 rfl) ?_
    refine lv_aload_n hx hb dX10_lambda_16 rfl (lv_at hl 1 rfl) ?_
    refine lv_lload_n hx hb dX10_lambda_17 rfl (lv_at hl 0 rfl) ?_
    refine cR_l (ci := 9) (q0 := 0) (As := [.long r1]) (rest := [.ref (G.1 0)]) E hml hP hD hS hA (t_X10_first l D G r1 u4 _ h) kmX10_209 mwyX10_first rfl rfl ⟨⟨rfl, rfl⟩, Nat.le_of_ble_eq_true rfl, Nat.le_of_ble_eq_true rfl⟩ rfl hl.1 rfl (Nat.le_of_ble_eq_true rfl) dX10_lambda_18 ⟨Nat.zero_le _, Nat.zero_le _⟩ (fun r6 u7 H locs hP hD hS h => ?_)
    refine cR_i (ci := 9) (q0 := 0) (As := [.long r6]) (rest := []) E hml hP hD hS hA (t_X10_namesIn l D G r6 u7 _ h) kmX10_310 mwyX10_namesIn rfl rfl ⟨⟨rfl, rfl⟩, Nat.le_of_ble_eq_true rfl, Nat.le_of_ble_eq_true rfl⟩ rfl hl.1 rfl (Nat.le_of_ble_eq_true rfl) dX10_lambda_21 ⟨Nat.zero_le _, Nat.zero_le _⟩ (fun r8 u9 H locs hP hD hS h => ?_)
    refine lv_aload_n hx hb dX10_lambda_24 rfl (lv_at hl 1 rfl) ?_
    refine gR_43 E hP kfX10_144 (v := (gI u9 43)) rfl dX10_lambda_25 ?_
    refine lv_icmp_eq (tgt := 37) hx hb dX10_lambda_28 (by decide) (fun hc => ?_) (fun hc => ?_)
    · have h := h.1 hc
      refine lv_aload_n hx hb dX10_lambda_37 rfl (lv_at hl 1 rfl) ?_
      refine lv_lload_n hx hb dX10_lambda_38 rfl (lv_at hl 2 rfl) ?_
      refine cR_v (ci := 9) (q0 := 0) (As := [.long p0]) (rest := []) E hml hP hD hS hA (t_X10_holdForBinding l D G p0 u9 _ h) kmX10_313 mwyX10_holdForBinding rfl rfl ⟨⟨rfl, rfl⟩, Nat.le_of_ble_eq_true rfl, Nat.le_of_ble_eq_true rfl⟩ rfl hl.1 rfl (Nat.le_of_ble_eq_true rfl) dX10_lambda_39 ⟨Nat.zero_le _, Nat.zero_le _⟩ (fun u10 H locs hP hD hS h => ?_)
      refine lv_aload_n hx hb dX10_lambda_42 rfl (lv_at hl 1 rfl) ?_
      refine lv_iconst (v := (2 : Int32)) hx hb dX10_lambda_43 (by decide) ?_
      refine lv_aload_n hx hb dX10_lambda_44 rfl (lv_at hl 1 rfl) ?_
      refine gR_43 E hP kfX10_144 (v := (gI u10 43)) rfl dX10_lambda_45 ?_
      refine lv_imul hx hb dX10_lambda_48 ?_
      refine cR_i (ci := 9) (q0 := 0) (As := [.int ((2 : Int32) * (gI u10 43))]) (rest := []) E hml hP hD hS hA (t_X10_room l D G ((2 : Int32) * (gI u10 43)) u10 _ h) kmX10_307 mwyX10_room rfl rfl ⟨⟨rfl, rfl⟩, Nat.le_of_ble_eq_true rfl, Nat.le_of_ble_eq_true rfl⟩ rfl hl.1 rfl (Nat.le_of_ble_eq_true rfl) dX10_lambda_49 ⟨Nat.zero_le _, Nat.zero_le _⟩ (fun r11 u12 H locs hP hD hS h => ?_)
      refine lv_if_ne (tgt := 56) hx hb dX10_lambda_52 (by decide) (fun hc => ?_) (fun hc => ?_)
      · have h := h.2 hc
        refine lv_aload_n hx hb dX10_lambda_56 rfl (lv_at hl 1 rfl) ?_
        refine gR_41 E hP kfX10_138 (v := (gJ u12 41)) rfl dX10_lambda_57 ?_
        refine lv_lstore (lv' := [(5, .long (gJ u12 41)), (3, .long r1), (0, .ref (G.1 0)), (1, .long p0)]) hx hb dX10_lambda_60 hl (by decide) rfl (fun ls hl => ?_)
        refine lv_aload_n hx hb dX10_lambda_62 rfl (lv_at hl 2 rfl) ?_
        refine gR_43 E hP kfX10_144 (v := (gI u12 43)) rfl dX10_lambda_63 ?_
        refine lv_iconst (v := (1 : Int32)) hx hb dX10_lambda_66 (by decide) ?_
        refine lv_isub hx hb dX10_lambda_67 ?_
        refine lv_istore (lv' := [(7, .int ((gI u12 43) - (1 : Int32))), (5, .long (gJ u12 41)), (3, .long r1), (0, .ref (G.1 0)), (1, .long p0)]) hx hb dX10_lambda_68 hl (by decide) rfl (fun ls hl => ?_)
        obtain ⟨n, h⟩ := h
        refine L_70 r1 _ (fun y26 u27 H locs ls h hP hD hS hl => ?_) n (gJ u12 41) ((gI u12 43) - (1 : Int32)) u12 _ _ _ h hP hD hS (lv_sub hl [3, 2, 1, 0] rfl)
        refine lv_aload_n hx hb dX10_lambda_137 rfl (lv_at hl 0 rfl) ?_
        refine lv_lload hx hb dX10_lambda_138 (lv_at hl 2 rfl) ?_
        refine pR_41 E hP hD hS kfX10_138 dX10_lambda_140 (fun H locs hP hD hS => ?_)
        refine lv_aload_n hx hb dX10_lambda_143 rfl (lv_at hl 0 rfl) ?_
        refine lv_iconst (v := (0 : Int32)) hx hb dX10_lambda_144 (by decide) ?_
        refine pR_39 E hP hD hS kfX10_132 dX10_lambda_145 (fun H locs hP hD hS => ?_)
        refine lv_aload_n hx hb dX10_lambda_148 rfl (lv_at hl 0 rfl) ?_
        refine lv_aload_n hx hb dX10_lambda_149 rfl (lv_at hl 0 rfl) ?_
        refine lv_aload_n hx hb dX10_lambda_150 rfl (lv_at hl 0 rfl) ?_
        refine lv_lload_n hx hb dX10_lambda_151 rfl (lv_at hl 1 rfl) ?_
        refine cR_l (ci := 9) (q0 := 0) (As := [.long r1]) (rest := [.ref (G.1 0), .ref (G.1 0)]) E hml hP hD hS hA (t_X10_behind l D G r1 (sI (sJ u27 41 y26) 39 (0 : Int32)) _ h) kmX10_216 mwyX10_behind rfl rfl ⟨⟨rfl, rfl⟩, Nat.le_of_ble_eq_true rfl, Nat.le_of_ble_eq_true rfl⟩ rfl hl.1 rfl (Nat.le_of_ble_eq_true rfl) dX10_lambda_152 ⟨Nat.zero_le _, Nat.zero_le _⟩ (fun r28 u29 H locs hP hD hS h => ?_)
        refine cR_l (ci := 9) (q0 := 0) (As := [.long r28]) (rest := [.ref (G.1 0)]) E hml hP hD hS hA (t_X10_first l D G r28 u29 _ h) kmX10_209 mwyX10_first rfl rfl ⟨⟨rfl, rfl⟩, Nat.le_of_ble_eq_true rfl, Nat.le_of_ble_eq_true rfl⟩ rfl hl.1 rfl (Nat.le_of_ble_eq_true rfl) dX10_lambda_155 ⟨Nat.zero_le _, Nat.zero_le _⟩ (fun r30 u31 H locs hP hD hS h => ?_)
        refine pR_40 E hP hD hS kfX10_135 dX10_lambda_158 (fun H locs hP hD hS => ?_)
        exact retR_v E hr hlk hP hD hS h dX10_lambda_161
      · have h := h.1 hc
        exact retR_v E hr hlk hP hD hS h dX10_lambda_55
    · have h := h.2 hc
      refine lv_aload_n hx hb dX10_lambda_31 rfl (lv_at hl 1 rfl) ?_
      refine lv_iconst (v := (3 : Int32)) hx hb dX10_lambda_32 (by decide) ?_
      refine cR_v (ci := 9) (q0 := 0) (As := [.int (3 : Int32)]) (rest := []) E hml hP hD hS hA (t_X10_fails l D G (3 : Int32) u9 _ h) kmX10_265 mwyX10_fails rfl rfl ⟨⟨rfl, rfl⟩, Nat.le_of_ble_eq_true rfl, Nat.le_of_ble_eq_true rfl⟩ rfl hl.1 rfl (Nat.le_of_ble_eq_true rfl) dX10_lambda_33 ⟨Nat.zero_le _, Nat.zero_le _⟩ (fun u33 H locs hP hD hS h => ?_)
      exact retR_v E hr hlk hP hD hS h dX10_lambda_36
def l_X10_lookUp_5 (Q : Int64 → St → Prop) (c1 : Int64) (K : St → Prop) : Nat → Int64 → St → Prop
  | 0, _, _ => False
  | n + 1, x3, u => wp_X10_isPair x3 (fun (r1 : Int32) => ((r1 = 0 → K u) ∧ (¬ r1 = 0 → wp_X10_first x3 u (fun (r2 : Int64) (u3 : St) => wp_X10_first r2 u3 (fun (r4 : Int64) (u5 : St) => ((r4 = c1 → wp_X10_first x3 u5 (fun (r8 : Int64) (u9 : St) => wp_X10_behind r8 u9 (fun (r10 : Int64) (u11 : St) => Q r10 u11))) ∧ (¬ r4 = c1 → wp_X10_behind x3 u5 (fun (r6 : Int64) (u7 : St) => l_X10_lookUp_5 Q c1 K n r6 u7))))))))
def wp_X10_lookUp (p0 : Int64) (u : St) (Q : Int64 → St → Prop) : Prop := (∃ k14 : Nat, l_X10_lookUp_5 Q p0 (fun (u12 : St) => vp_in (((p0 - (4294967296 : Int64))).toInt32) 150 ∧ (((0 : Int64) ≤ ((gB u12 20) (((p0 - (4294967296 : Int64))).toInt32).toNatClampNeg) → Q ((gB u12 20) (((p0 - (4294967296 : Int64))).toInt32).toNatClampNeg) u12) ∧ (¬ (0 : Int64) ≤ ((gB u12 20) (((p0 - (4294967296 : Int64))).toInt32).toNatClampNeg) → wp_X10_fails (1 : Int32) u12 (fun (u13 : St) => Q ((gB u12 20) (((p0 - (4294967296 : Int64))).toInt32).toNatClampNeg) u13)))) k14 (gJ u 41) u)
abbrev rm_X10_lookUp : Room := { frames := 1, cells := 0, slots := 0, locals := 22 }
set_option maxHeartbeats 4000000 in
set_option maxRecDepth 100000 in
theorem t_X10_lookUp (l : Launch) (D : va_G) (G : Gd) (p0 : Int64) (u : St) (Q : Int64 → St → Prop) (h : wp_X10_lookUp p0 u Q) : MRl l D G yX10_lookUp cX10_lookUp 7 (some .long) rm_X10_lookUp [.ref (G.1 0), .long p0] u Q := by
  refine startR_l (by decide) ?_
  intro p e s m args below meth c E hr hlk hml hP hD hS hA
  have hx := E.1
  have hb := E.2.1
  have hown := E.2.2.1
  have hW := E.2.2.2.1
  have hl := lv_entry ([.ref (G.1 0), .long p0]) (n := 7) (Nat.le_of_ble_eq_true rfl)
  rw [lg_entry_eq]
  generalize (lg_sl ([.ref (G.1 0), .long p0]) ++ List.replicate (7 - (lg_sl ([.ref (G.1 0), .long p0])).length) Slot.unset).toArray = ls at hl ⊢
  have hl : lv_has ls 7 [(0, .ref (G.1 0)), (1, .long p0)] := hl
  have L_5 : ∀ (c1 : Int64) (K : St → Prop), (∀  (u : St) (H : Heap) (locs : List Loc) (ls : Array Slot), K  u → va_P D vwCl (wR G u) H → va_D (AR G s.heap.size) (wR G u) → va_S (AR G s.heap.size) s.heap H locs → lv_has ls 7 [(0, .ref (G.1 0)), (1, .long c1)] → W p l e rm_X10_lookUp s m args below meth c H locs 0 0 (MQ below (va_Ql Q (BR D G s.heap.size) (AR G s.heap.size)) args s 0 0 (AR G s.heap.size)) (F0 m 45 ls [])) → ∀ (n : Nat) (x3 : Int64) (u : St) (H : Heap) (locs : List Loc) (ls : Array Slot), l_X10_lookUp_5 Q c1 K n x3 u → va_P D vwCl (wR G u) H → va_D (AR G s.heap.size) (wR G u) → va_S (AR G s.heap.size) s.heap H locs → lv_has ls 7 [(0, .ref (G.1 0)), (1, .long c1), (3, .long x3)] → W p l e rm_X10_lookUp s m args below meth c H locs 0 0 (MQ below (va_Ql Q (BR D G s.heap.size) (AR G s.heap.size)) args s 0 0 (AR G s.heap.size)) (F0 m 5 ls []) := by
    intro c1 K hK n
    induction n with
    | zero => intro x3 u H locs ls h; exact False.elim h
    | succ n ih =>
      intro x3 u H locs ls h hP hD hS hl
      unfold l_X10_lookUp_5 at h
      refine lv_lload_n hx hb dX10_lookUp_5 rfl (lv_at hl 2 rfl) ?_
      refine c0_i (As := [.long x3]) (rest := []) hx hb hml hown hW hP hS hA (t_X10_isPair l x3 _ h) kmX10_205 mwyX10_isPair ⟨⟨rfl, rfl⟩, Nat.le_of_ble_eq_true rfl, Nat.le_of_ble_eq_true rfl⟩ rfl hl.1 rfl (Nat.le_of_ble_eq_true rfl) dX10_lookUp_6 ⟨Nat.zero_le _, Nat.zero_le _⟩ (fun r1 H locs hP hS h => ?_)
      refine lv_if_eq (tgt := 45) hx hb dX10_lookUp_9 (by decide) (fun hc => ?_) (fun hc => ?_)
      · have h := h.1 hc
        exact hK u _ _ _ h hP hD hS (lv_sub hl [0, 1] rfl)
      · have h := h.2 hc
        refine lv_aload_n hx hb dX10_lookUp_12 rfl (lv_at hl 0 rfl) ?_
        refine lv_aload_n hx hb dX10_lookUp_13 rfl (lv_at hl 0 rfl) ?_
        refine lv_lload_n hx hb dX10_lookUp_14 rfl (lv_at hl 2 rfl) ?_
        refine cR_l (ci := 9) (q0 := 0) (As := [.long x3]) (rest := [.ref (G.1 0)]) E hml hP hD hS hA (t_X10_first l D G x3 u _ h) kmX10_209 mwyX10_first rfl rfl ⟨⟨rfl, rfl⟩, Nat.le_of_ble_eq_true rfl, Nat.le_of_ble_eq_true rfl⟩ rfl hl.1 rfl (Nat.le_of_ble_eq_true rfl) dX10_lookUp_15 ⟨Nat.zero_le _, Nat.zero_le _⟩ (fun r2 u3 H locs hP hD hS h => ?_)
        refine cR_l (ci := 9) (q0 := 0) (As := [.long r2]) (rest := []) E hml hP hD hS hA (t_X10_first l D G r2 u3 _ h) kmX10_209 mwyX10_first rfl rfl ⟨⟨rfl, rfl⟩, Nat.le_of_ble_eq_true rfl, Nat.le_of_ble_eq_true rfl⟩ rfl hl.1 rfl (Nat.le_of_ble_eq_true rfl) dX10_lookUp_18 ⟨Nat.zero_le _, Nat.zero_le _⟩ (fun r4 u5 H locs hP hD hS h => ?_)
        refine lv_lload_n hx hb dX10_lookUp_21 rfl (lv_at hl 1 rfl) ?_
        refine lq_ne (tgt := 36) hx hb dX10_lookUp_22 dX10_lookUp_23 (by decide) (fun hc => ?_) (fun hc => ?_)
        · have h := h.2 hc
          refine lv_aload_n hx hb dX10_lookUp_36 rfl (lv_at hl 0 rfl) ?_
          refine lv_lload_n hx hb dX10_lookUp_37 rfl (lv_at hl 2 rfl) ?_
          refine cR_l (ci := 9) (q0 := 0) (As := [.long x3]) (rest := []) E hml hP hD hS hA (t_X10_behind l D G x3 u5 _ h) kmX10_216 mwyX10_behind rfl rfl ⟨⟨rfl, rfl⟩, Nat.le_of_ble_eq_true rfl, Nat.le_of_ble_eq_true rfl⟩ rfl hl.1 rfl (Nat.le_of_ble_eq_true rfl) dX10_lookUp_38 ⟨Nat.zero_le _, Nat.zero_le _⟩ (fun r6 u7 H locs hP hD hS h => ?_)
          refine lv_lstore_n (lv' := [(3, .long r6), (0, .ref (G.1 0)), (1, .long c1)]) hx hb dX10_lookUp_41 rfl hl (by decide) rfl (fun ls hl => ?_)
          refine lv_goto (tgt := 5) hx hb dX10_lookUp_42 (by decide) ?_
          exact ih r6 u7 _ _ _ h hP hD hS (lv_sub hl [1, 2, 0] rfl)
        · have h := h.1 hc
          refine lv_aload_n hx hb dX10_lookUp_26 rfl (lv_at hl 0 rfl) ?_
          refine lv_aload_n hx hb dX10_lookUp_27 rfl (lv_at hl 0 rfl) ?_
          refine lv_lload_n hx hb dX10_lookUp_28 rfl (lv_at hl 2 rfl) ?_
          refine cR_l (ci := 9) (q0 := 0) (As := [.long x3]) (rest := [.ref (G.1 0)]) E hml hP hD hS hA (t_X10_first l D G x3 u5 _ h) kmX10_209 mwyX10_first rfl rfl ⟨⟨rfl, rfl⟩, Nat.le_of_ble_eq_true rfl, Nat.le_of_ble_eq_true rfl⟩ rfl hl.1 rfl (Nat.le_of_ble_eq_true rfl) dX10_lookUp_29 ⟨Nat.zero_le _, Nat.zero_le _⟩ (fun r8 u9 H locs hP hD hS h => ?_)
          refine cR_l (ci := 9) (q0 := 0) (As := [.long r8]) (rest := []) E hml hP hD hS hA (t_X10_behind l D G r8 u9 _ h) kmX10_216 mwyX10_behind rfl rfl ⟨⟨rfl, rfl⟩, Nat.le_of_ble_eq_true rfl, Nat.le_of_ble_eq_true rfl⟩ rfl hl.1 rfl (Nat.le_of_ble_eq_true rfl) dX10_lookUp_32 ⟨Nat.zero_le _, Nat.zero_le _⟩ (fun r10 u11 H locs hP hD hS h => ?_)
          exact retR_l E hr hlk hP hD hS h dX10_lookUp_35
  unfold wp_X10_lookUp at h
  refine lv_aload_n hx hb dX10_lookUp_0 rfl (lv_at hl 0 rfl) ?_
  refine gR_41 E hP kfX10_138 (v := (gJ u 41)) rfl dX10_lookUp_1 ?_
  refine lv_lstore_n (lv' := [(3, .long (gJ u 41)), (0, .ref (G.1 0)), (1, .long p0)]) hx hb dX10_lookUp_4 rfl hl (by decide) rfl (fun ls hl => ?_)
  obtain ⟨n, h⟩ := h
  refine L_5 p0 _ (fun u12 H locs ls h hP hD hS hl => ?_) n (gJ u 41) u _ _ _ h hP hD hS (lv_sub hl [1, 2, 0] rfl)
  refine lv_aload_n hx hb dX10_lookUp_45 rfl (lv_at hl 0 rfl) ?_
  refine gR_20 E hP kfX10_73 dX10_lookUp_46 ?_
  refine lv_lload_n hx hb dX10_lookUp_49 rfl (lv_at hl 1 rfl) ?_
  refine lv_ldc2 (v := (4294967296 : Int64)) hx hb hown (hW _ kcX10_199) dX10_lookUp_50 ?_
  refine lv_lsub hx hb dX10_lookUp_53 ?_
  refine lv_l2i (v := ((p0 - (4294967296 : Int64))).toInt32) hx hb dX10_lookUp_54 rfl ?_
  obtain ⟨h9, h⟩ := h
  refine xR_20 E hP h9 (v := ((gB u12 20) (((p0 - (4294967296 : Int64))).toInt32).toNatClampNeg)) rfl dX10_lookUp_55 ?_
  refine lv_lstore (lv' := [(5, .long ((gB u12 20) (((p0 - (4294967296 : Int64))).toInt32).toNatClampNeg)), (0, .ref (G.1 0)), (1, .long p0)]) hx hb dX10_lookUp_56 hl (by decide) rfl (fun ls hl => ?_)
  refine lv_lload hx hb dX10_lookUp_58 (lv_at hl 0 rfl) ?_
  refine lv_lconst (v := (0 : Int64)) hx hb dX10_lookUp_60 (by decide) ?_
  refine lq_ge (tgt := 70) hx hb dX10_lookUp_61 dX10_lookUp_62 (by decide) (fun hc => ?_) (fun hc => ?_)
  · have h := h.1 hc
    refine lv_lload hx hb dX10_lookUp_70 (lv_at hl 0 rfl) ?_
    exact retR_l E hr hlk hP hD hS h dX10_lookUp_72
  · have h := h.2 hc
    refine lv_aload_n hx hb dX10_lookUp_65 rfl (lv_at hl 1 rfl) ?_
    refine lv_iconst (v := (1 : Int32)) hx hb dX10_lookUp_66 (by decide) ?_
    refine cR_v (ci := 9) (q0 := 0) (As := [.int (1 : Int32)]) (rest := []) E hml hP hD hS hA (t_X10_fails l D G (1 : Int32) u12 _ h) kmX10_265 mwyX10_fails rfl rfl ⟨⟨rfl, rfl⟩, Nat.le_of_ble_eq_true rfl, Nat.le_of_ble_eq_true rfl⟩ rfl hl.1 rfl (Nat.le_of_ble_eq_true rfl) dX10_lookUp_67 ⟨Nat.zero_le _, Nat.zero_le _⟩ (fun u13 H locs hP hD hS h => ?_)
    refine lv_lload hx hb dX10_lookUp_70 (lv_at hl 0 rfl) ?_
    exact retR_l E hr hlk hP hD hS h dX10_lookUp_72
def wp_X10_gives (p0 : Int64) (u : St) (Q : St → Prop) : Prop := Q (sJ (sI u 39 (2 : Int32)) 40 p0)
abbrev rm_X10_gives : Room := { frames := 0, cells := 0, slots := 0, locals := 0 }
set_option maxHeartbeats 4000000 in
set_option maxRecDepth 100000 in
theorem t_X10_gives (l : Launch) (D : va_G) (G : Gd) (p0 : Int64) (u : St) (Q : St → Prop) (h : wp_X10_gives p0 u Q) : MRv l D G yX10_gives cX10_gives 3 none rm_X10_gives [.ref (G.1 0), .long p0] u Q := by
  refine startR_v (by decide) ?_
  intro p e s m args below meth c E hr hlk hml hP hD hS hA
  have hx := E.1
  have hb := E.2.1
  have hown := E.2.2.1
  have hW := E.2.2.2.1
  have hl := lv_entry ([.ref (G.1 0), .long p0]) (n := 3) (Nat.le_of_ble_eq_true rfl)
  rw [lg_entry_eq]
  generalize (lg_sl ([.ref (G.1 0), .long p0]) ++ List.replicate (3 - (lg_sl ([.ref (G.1 0), .long p0])).length) Slot.unset).toArray = ls at hl ⊢
  have hl : lv_has ls 3 [(0, .ref (G.1 0)), (1, .long p0)] := hl
  unfold wp_X10_gives at h
  refine lv_aload_n hx hb dX10_gives_0 rfl (lv_at hl 0 rfl) ?_
  refine lv_iconst (v := (2 : Int32)) hx hb dX10_gives_1 (by decide) ?_
  refine pR_39 E hP hD hS kfX10_132 dX10_gives_2 (fun H locs hP hD hS => ?_)
  refine lv_aload_n hx hb dX10_gives_5 rfl (lv_at hl 0 rfl) ?_
  refine lv_lload_n hx hb dX10_gives_6 rfl (lv_at hl 1 rfl) ?_
  refine pR_40 E hP hD hS kfX10_135 dX10_gives_7 (fun H locs hP hD hS => ?_)
  exact retR_v E hr hlk hP hD hS h dX10_gives_10
def j_X10_primitive_35 (Q : St → Prop) (x1 : Int32) (s0 : Int32) (u : St) : Prop := (((gI u 43) = s0 → ((x1 = (7 : Int32) → wp_X10_isPair ((gB u 42) ((0 : Int32)).toNatClampNeg) (fun (r1 : Int32) => ((r1 = 0 → wp_X10_fails (2 : Int32) u (fun (u8 : St) => Q u8)) ∧ (¬ r1 = 0 → ((x1 = (7 : Int32) → wp_X10_first ((gB u 42) ((0 : Int32)).toNatClampNeg) u (fun (r5 : Int64) (u6 : St) => wp_X10_gives r5 u6 (fun (u7 : St) => Q u7))) ∧ (¬ x1 = (7 : Int32) → wp_X10_behind ((gB u 42) ((0 : Int32)).toNatClampNeg) u (fun (r2 : Int64) (u3 : St) => wp_X10_gives r2 u3 (fun (u4 : St) => Q u4)))))))) ∧ (¬ x1 = (7 : Int32) → ((x1 = (8 : Int32) → wp_X10_isPair ((gB u 42) ((0 : Int32)).toNatClampNeg) (fun (r43 : Int32) => ((r43 = 0 → wp_X10_fails (2 : Int32) u (fun (u50 : St) => Q u50)) ∧ (¬ r43 = 0 → ((x1 = (7 : Int32) → wp_X10_first ((gB u 42) ((0 : Int32)).toNatClampNeg) u (fun (r47 : Int64) (u48 : St) => wp_X10_gives r47 u48 (fun (u49 : St) => Q u49))) ∧ (¬ x1 = (7 : Int32) → wp_X10_behind ((gB u 42) ((0 : Int32)).toNatClampNeg) u (fun (r44 : Int64) (u45 : St) => wp_X10_gives r44 u45 (fun (u46 : St) => Q u46)))))))) ∧ (¬ x1 = (8 : Int32) → ((x1 = (9 : Int32) → wp_X10_holdWaiting  u (fun (u35 : St) => wp_X10_hold ((gB u 42) ((0 : Int32)).toNatClampNeg) u35 (fun (u36 : St) => wp_X10_hold ((gB u 42) ((1 : Int32)).toNatClampNeg) u36 (fun (u37 : St) => wp_X10_room (1 : Int32) u37 (fun (r38 : Int32) (u39 : St) => ((r38 = 0 → Q u39) ∧ (¬ r38 = 0 → wp_X10_pair ((gB u 42) ((0 : Int32)).toNatClampNeg) ((gB u 42) ((1 : Int32)).toNatClampNeg) u39 (fun (r40 : Int64) (u41 : St) => wp_X10_gives r40 u41 (fun (u42 : St) => Q u42))))))))) ∧ (¬ x1 = (9 : Int32) → ((x1 = (10 : Int32) → wp_X10_isPair ((gB u 42) ((0 : Int32)).toNatClampNeg) (fun (r32 : Int32) => ((r32 = 0 → wp_X10_gives (4294967297 : Int64) u (fun (u33 : St) => Q u33)) ∧ (¬ r32 = 0 → wp_X10_gives (4294967296 : Int64) u (fun (u34 : St) => Q u34))))) ∧ (¬ x1 = (10 : Int32) → ((x1 = (11 : Int32) → wp_X10_isPair ((gB u 42) ((0 : Int32)).toNatClampNeg) (fun (r26 : Int32) => ((r26 = 0 → wp_X10_isPair ((gB u 42) ((1 : Int32)).toNatClampNeg) (fun (r28 : Int32) => ((r28 = 0 → ((((gB u 42) ((0 : Int32)).toNatClampNeg) = ((gB u 42) ((1 : Int32)).toNatClampNeg) → wp_X10_gives (4294967297 : Int64) u (fun (u30 : St) => Q u30)) ∧ (¬ ((gB u 42) ((0 : Int32)).toNatClampNeg) = ((gB u 42) ((1 : Int32)).toNatClampNeg) → wp_X10_gives (4294967296 : Int64) u (fun (u29 : St) => Q u29)))) ∧ (¬ r28 = 0 → wp_X10_fails (2 : Int32) u (fun (u31 : St) => Q u31))))) ∧ (¬ r26 = 0 → wp_X10_fails (2 : Int32) u (fun (u27 : St) => Q u27))))) ∧ (¬ x1 = (11 : Int32) → ((x1 = (12 : Int32) → ((((gB u 42) ((0 : Int32)).toNatClampNeg) = (4294967296 : Int64) → wp_X10_gives (4294967297 : Int64) u (fun (u25 : St) => Q u25)) ∧ (¬ ((gB u 42) ((0 : Int32)).toNatClampNeg) = (4294967296 : Int64) → wp_X10_gives (4294967296 : Int64) u (fun (u24 : St) => Q u24)))) ∧ (¬ x1 = (12 : Int32) → ((x1 = (13 : Int32) → wp_X10_isNumber ((gB u 42) ((0 : Int32)).toNatClampNeg) (fun (r21 : Int32) => ((r21 = 0 → wp_X10_gives (4294967296 : Int64) u (fun (u22 : St) => Q u22)) ∧ (¬ r21 = 0 → wp_X10_gives (4294967297 : Int64) u (fun (u23 : St) => Q u23))))) ∧ (¬ x1 = (13 : Int32) → wp_X10_isNumber ((gB u 42) ((0 : Int32)).toNatClampNeg) (fun (r9 : Int32) => ((r9 = 0 → wp_X10_fails (2 : Int32) u (fun (u10 : St) => Q u10)) ∧ (¬ r9 = 0 → wp_X10_isNumber ((gB u 42) ((1 : Int32)).toNatClampNeg) (fun (r11 : Int32) => ((r11 = 0 → wp_X10_fails (2 : Int32) u (fun (u20 : St) => Q u20)) ∧ (¬ r11 = 0 → ((x1 = (14 : Int32) → wp_X10_number ((((gB u 42) ((0 : Int32)).toNatClampNeg)).toInt32 + (((gB u 42) ((1 : Int32)).toNatClampNeg)).toInt32) (fun (r18 : Int64) => wp_X10_gives r18 u (fun (u19 : St) => Q u19))) ∧ (¬ x1 = (14 : Int32) → ((x1 = (15 : Int32) → wp_X10_number ((((gB u 42) ((0 : Int32)).toNatClampNeg)).toInt32 - (((gB u 42) ((1 : Int32)).toNatClampNeg)).toInt32) (fun (r16 : Int64) => wp_X10_gives r16 u (fun (u17 : St) => Q u17))) ∧ (¬ x1 = (15 : Int32) → ((x1 = (16 : Int32) → wp_X10_number ((((gB u 42) ((0 : Int32)).toNatClampNeg)).toInt32 * (((gB u 42) ((1 : Int32)).toNatClampNeg)).toInt32) (fun (r14 : Int64) => wp_X10_gives r14 u (fun (u15 : St) => Q u15))) ∧ (¬ x1 = (16 : Int32) → (((((gB u 42) ((1 : Int32)).toNatClampNeg)).toInt32 ≤ (((gB u 42) ((0 : Int32)).toNatClampNeg)).toInt32 → wp_X10_gives (4294967296 : Int64) u (fun (u12 : St) => Q u12)) ∧ (¬ (((gB u 42) ((1 : Int32)).toNatClampNeg)).toInt32 ≤ (((gB u 42) ((0 : Int32)).toNatClampNeg)).toInt32 → wp_X10_gives (4294967297 : Int64) u (fun (u13 : St) => Q u13)))))))))))))))))))))))))))))) ∧ (¬ (gI u 43) = s0 → wp_X10_fails (3 : Int32) u (fun (u51 : St) => Q u51)))
def wp_X10_primitive (p0 : Int32) (u : St) (Q : St → Prop) : Prop := ((p0 = (7 : Int32) → j_X10_primitive_35 Q p0 (1 : Int32) u) ∧ (¬ p0 = (7 : Int32) → ((p0 = (8 : Int32) → j_X10_primitive_35 Q p0 (1 : Int32) u) ∧ (¬ p0 = (8 : Int32) → ((p0 = (10 : Int32) → j_X10_primitive_35 Q p0 (1 : Int32) u) ∧ (¬ p0 = (10 : Int32) → ((p0 = (12 : Int32) → j_X10_primitive_35 Q p0 (1 : Int32) u) ∧ (¬ p0 = (12 : Int32) → ((p0 = (13 : Int32) → j_X10_primitive_35 Q p0 (1 : Int32) u) ∧ (¬ p0 = (13 : Int32) → j_X10_primitive_35 Q p0 (2 : Int32) u))))))))))
abbrev rm_X10_primitive : Room := { frames := 5, cells := 0, slots := 0, locals := 109 }
set_option maxHeartbeats 4000000 in
set_option maxRecDepth 100000 in
theorem t_X10_primitive (l : Launch) (D : va_G) (G : Gd) (p0 : Int32) (u : St) (Q : St → Prop) (h : wp_X10_primitive p0 u Q) : MRv l D G yX10_primitive cX10_primitive 9 none rm_X10_primitive [.ref (G.1 0), .int p0] u Q := by
  refine startR_v (by decide) ?_
  intro p e s m args below meth c E hr hlk hml hP hD hS hA
  have hx := E.1
  have hb := E.2.1
  have hown := E.2.2.1
  have hW := E.2.2.2.1
  have hl := lv_entry ([.ref (G.1 0), .int p0]) (n := 9) (Nat.le_of_ble_eq_true rfl)
  rw [lg_entry_eq]
  generalize (lg_sl ([.ref (G.1 0), .int p0]) ++ List.replicate (9 - (lg_sl ([.ref (G.1 0), .int p0])).length) Slot.unset).toArray = ls at hl ⊢
  have hl : lv_has ls 9 [(0, .ref (G.1 0)), (1, .int p0)] := hl
  have J_35 : ∀ (x1 : Int32) (s0 : Int32) (u : St) (H : Heap) (locs : List Loc) (ls : Array Slot), j_X10_primitive_35 Q x1 s0 u → va_P D vwCl (wR G u) H → va_D (AR G s.heap.size) (wR G u) → va_S (AR G s.heap.size) s.heap H locs → lv_has ls 9 [(0, .ref (G.1 0)), (1, .int x1)] → W p l e rm_X10_primitive s m args below meth c H locs 0 0 (MQ below (va_Qv Q (BR D G s.heap.size) (AR G s.heap.size)) args s 0 0 (AR G s.heap.size)) (F0 m 35 ls [.int s0]) := by
    intro x1 s0 u H locs ls h hP hD hS hl
    unfold j_X10_primitive_35 at h
    refine lv_istore_n (lv' := [(2, .int s0), (0, .ref (G.1 0)), (1, .int x1)]) hx hb dX10_primitive_35 rfl hl (by decide) rfl (fun ls hl => ?_)
    refine lv_aload_n hx hb dX10_primitive_36 rfl (lv_at hl 1 rfl) ?_
    refine gR_43 E hP kfX10_144 (v := (gI u 43)) rfl dX10_primitive_37 ?_
    refine lv_iload_n hx hb dX10_primitive_40 rfl (lv_at hl 0 rfl) ?_
    refine lv_icmp_eq (tgt := 50) hx hb dX10_primitive_41 (by decide) (fun hc => ?_) (fun hc => ?_)
    · have h := h.1 hc
      refine lv_aload_n hx hb dX10_primitive_50 rfl (lv_at hl 1 rfl) ?_
      refine gR_42 E hP kfX10_141 dX10_primitive_51 ?_
      refine lv_iconst (v := (0 : Int32)) hx hb dX10_primitive_54 (by decide) ?_
      refine xR_42 E hP (by unfold vp_in; decide) (v := ((gB u 42) ((0 : Int32)).toNatClampNeg)) rfl dX10_primitive_55 ?_
      refine lv_lstore_n (lv' := [(3, .long ((gB u 42) ((0 : Int32)).toNatClampNeg)), (2, .int s0), (0, .ref (G.1 0)), (1, .int x1)]) hx hb dX10_primitive_56 rfl hl (by decide) rfl (fun ls hl => ?_)
      refine lv_aload_n hx hb dX10_primitive_57 rfl (lv_at hl 2 rfl) ?_
      refine gR_42 E hP kfX10_141 dX10_primitive_58 ?_
      refine lv_iconst (v := (1 : Int32)) hx hb dX10_primitive_61 (by decide) ?_
      refine xR_42 E hP (by unfold vp_in; decide) (v := ((gB u 42) ((1 : Int32)).toNatClampNeg)) rfl dX10_primitive_62 ?_
      refine lv_lstore (lv' := [(5, .long ((gB u 42) ((1 : Int32)).toNatClampNeg)), (3, .long ((gB u 42) ((0 : Int32)).toNatClampNeg)), (2, .int s0), (0, .ref (G.1 0)), (1, .int x1)]) hx hb dX10_primitive_63 hl (by decide) rfl (fun ls hl => ?_)
      refine lv_iload_n hx hb dX10_primitive_65 rfl (lv_at hl 4 rfl) ?_
      refine lv_bipush (v := (7 : Int32)) hx hb dX10_primitive_66 (by decide) ?_
      refine lv_icmp_eq (tgt := 77) hx hb dX10_primitive_68 (by decide) (fun hc => ?_) (fun hc => ?_)
      · have h := h.1 hc
        refine lv_lload_n hx hb dX10_primitive_77 rfl (lv_at hl 1 rfl) ?_
        refine c0_i (As := [.long ((gB u 42) ((0 : Int32)).toNatClampNeg)]) (rest := []) hx hb hml hown hW hP hS hA (t_X10_isPair l ((gB u 42) ((0 : Int32)).toNatClampNeg) _ h) kmX10_205 mwyX10_isPair ⟨⟨rfl, rfl⟩, Nat.le_of_ble_eq_true rfl, Nat.le_of_ble_eq_true rfl⟩ rfl hl.1 rfl (Nat.le_of_ble_eq_true rfl) dX10_primitive_78 ⟨Nat.zero_le _, Nat.zero_le _⟩ (fun r1 H locs hP hS h => ?_)
        refine lv_if_ne (tgt := 92) hx hb dX10_primitive_81 (by decide) (fun hc => ?_) (fun hc => ?_)
        · have h := h.2 hc
          refine lv_aload_n hx hb dX10_primitive_92 rfl (lv_at hl 3 rfl) ?_
          refine lv_iload_n hx hb dX10_primitive_93 rfl (lv_at hl 4 rfl) ?_
          refine lv_bipush (v := (7 : Int32)) hx hb dX10_primitive_94 (by decide) ?_
          refine lv_icmp_ne (tgt := 107) hx hb dX10_primitive_96 (by decide) (fun hc => ?_) (fun hc => ?_)
          · have h := h.2 hc
            refine lv_aload_n hx hb dX10_primitive_107 rfl (lv_at hl 3 rfl) ?_
            refine lv_lload_n hx hb dX10_primitive_108 rfl (lv_at hl 1 rfl) ?_
            refine cR_l (ci := 9) (q0 := 0) (As := [.long ((gB u 42) ((0 : Int32)).toNatClampNeg)]) (rest := [.ref (G.1 0)]) E hml hP hD hS hA (t_X10_behind l D G ((gB u 42) ((0 : Int32)).toNatClampNeg) u _ h) kmX10_216 mwyX10_behind rfl rfl ⟨⟨rfl, rfl⟩, Nat.le_of_ble_eq_true rfl, Nat.le_of_ble_eq_true rfl⟩ rfl hl.1 rfl (Nat.le_of_ble_eq_true rfl) dX10_primitive_109 ⟨Nat.zero_le _, Nat.zero_le _⟩ (fun r2 u3 H locs hP hD hS h => ?_)
            refine cR_v (ci := 9) (q0 := 0) (As := [.long r2]) (rest := []) E hml hP hD hS hA (t_X10_gives l D G r2 u3 _ h) kmX10_286 mwyX10_gives rfl rfl ⟨⟨rfl, rfl⟩, Nat.le_of_ble_eq_true rfl, Nat.le_of_ble_eq_true rfl⟩ rfl hl.1 rfl (Nat.le_of_ble_eq_true rfl) dX10_primitive_112 ⟨Nat.zero_le _, Nat.zero_le _⟩ (fun u4 H locs hP hD hS h => ?_)
            refine lv_goto (tgt := 404) hx hb dX10_primitive_115 (by decide) ?_
            exact retR_v E hr hlk hP hD hS h dX10_primitive_404
          · have h := h.1 hc
            refine lv_aload_n hx hb dX10_primitive_99 rfl (lv_at hl 3 rfl) ?_
            refine lv_lload_n hx hb dX10_primitive_100 rfl (lv_at hl 1 rfl) ?_
            refine cR_l (ci := 9) (q0 := 0) (As := [.long ((gB u 42) ((0 : Int32)).toNatClampNeg)]) (rest := [.ref (G.1 0)]) E hml hP hD hS hA (t_X10_first l D G ((gB u 42) ((0 : Int32)).toNatClampNeg) u _ h) kmX10_209 mwyX10_first rfl rfl ⟨⟨rfl, rfl⟩, Nat.le_of_ble_eq_true rfl, Nat.le_of_ble_eq_true rfl⟩ rfl hl.1 rfl (Nat.le_of_ble_eq_true rfl) dX10_primitive_101 ⟨Nat.zero_le _, Nat.zero_le _⟩ (fun r5 u6 H locs hP hD hS h => ?_)
            refine lv_goto (tgt := 112) hx hb dX10_primitive_104 (by decide) ?_
            refine cR_v (ci := 9) (q0 := 0) (As := [.long r5]) (rest := []) E hml hP hD hS hA (t_X10_gives l D G r5 u6 _ h) kmX10_286 mwyX10_gives rfl rfl ⟨⟨rfl, rfl⟩, Nat.le_of_ble_eq_true rfl, Nat.le_of_ble_eq_true rfl⟩ rfl hl.1 rfl (Nat.le_of_ble_eq_true rfl) dX10_primitive_112 ⟨Nat.zero_le _, Nat.zero_le _⟩ (fun u7 H locs hP hD hS h => ?_)
            refine lv_goto (tgt := 404) hx hb dX10_primitive_115 (by decide) ?_
            exact retR_v E hr hlk hP hD hS h dX10_primitive_404
        · have h := h.1 hc
          refine lv_aload_n hx hb dX10_primitive_84 rfl (lv_at hl 3 rfl) ?_
          refine lv_iconst (v := (2 : Int32)) hx hb dX10_primitive_85 (by decide) ?_
          refine cR_v (ci := 9) (q0 := 0) (As := [.int (2 : Int32)]) (rest := []) E hml hP hD hS hA (t_X10_fails l D G (2 : Int32) u _ h) kmX10_265 mwyX10_fails rfl rfl ⟨⟨rfl, rfl⟩, Nat.le_of_ble_eq_true rfl, Nat.le_of_ble_eq_true rfl⟩ rfl hl.1 rfl (Nat.le_of_ble_eq_true rfl) dX10_primitive_86 ⟨Nat.zero_le _, Nat.zero_le _⟩ (fun u8 H locs hP hD hS h => ?_)
          refine lv_goto (tgt := 404) hx hb dX10_primitive_89 (by decide) ?_
          exact retR_v E hr hlk hP hD hS h dX10_primitive_404
      · have h := h.2 hc
        refine lv_iload_n hx hb dX10_primitive_71 rfl (lv_at hl 4 rfl) ?_
        refine lv_bipush (v := (8 : Int32)) hx hb dX10_primitive_72 (by decide) ?_
        refine lv_icmp_ne (tgt := 118) hx hb dX10_primitive_74 (by decide) (fun hc => ?_) (fun hc => ?_)
        · have h := h.2 hc
          refine lv_iload_n hx hb dX10_primitive_118 rfl (lv_at hl 4 rfl) ?_
          refine lv_bipush (v := (9 : Int32)) hx hb dX10_primitive_119 (by decide) ?_
          refine lv_icmp_ne (tgt := 161) hx hb dX10_primitive_121 (by decide) (fun hc => ?_) (fun hc => ?_)
          · have h := h.2 hc
            refine lv_iload_n hx hb dX10_primitive_161 rfl (lv_at hl 4 rfl) ?_
            refine lv_bipush (v := (10 : Int32)) hx hb dX10_primitive_162 (by decide) ?_
            refine lv_icmp_ne (tgt := 190) hx hb dX10_primitive_164 (by decide) (fun hc => ?_) (fun hc => ?_)
            · have h := h.2 hc
              refine lv_iload_n hx hb dX10_primitive_190 rfl (lv_at hl 4 rfl) ?_
              refine lv_bipush (v := (11 : Int32)) hx hb dX10_primitive_191 (by decide) ?_
              refine lv_icmp_ne (tgt := 242) hx hb dX10_primitive_193 (by decide) (fun hc => ?_) (fun hc => ?_)
              · have h := h.2 hc
                refine lv_iload_n hx hb dX10_primitive_242 rfl (lv_at hl 4 rfl) ?_
                refine lv_bipush (v := (12 : Int32)) hx hb dX10_primitive_243 (by decide) ?_
                refine lv_icmp_ne (tgt := 272) hx hb dX10_primitive_245 (by decide) (fun hc => ?_) (fun hc => ?_)
                · have h := h.2 hc
                  refine lv_iload_n hx hb dX10_primitive_272 rfl (lv_at hl 4 rfl) ?_
                  refine lv_bipush (v := (13 : Int32)) hx hb dX10_primitive_273 (by decide) ?_
                  refine lv_icmp_ne (tgt := 301) hx hb dX10_primitive_275 (by decide) (fun hc => ?_) (fun hc => ?_)
                  · have h := h.2 hc
                    refine lv_lload_n hx hb dX10_primitive_301 rfl (lv_at hl 1 rfl) ?_
                    refine c0_i (As := [.long ((gB u 42) ((0 : Int32)).toNatClampNeg)]) (rest := []) hx hb hml hown hW hP hS hA (t_X10_isNumber l ((gB u 42) ((0 : Int32)).toNatClampNeg) _ h) kmX10_281 mwyX10_isNumber ⟨⟨rfl, rfl⟩, Nat.le_of_ble_eq_true rfl, Nat.le_of_ble_eq_true rfl⟩ rfl hl.1 rfl (Nat.le_of_ble_eq_true rfl) dX10_primitive_302 ⟨Nat.zero_le _, Nat.zero_le _⟩ (fun r9 H locs hP hS h => ?_)
                    refine lv_if_eq (tgt := 316) hx hb dX10_primitive_305 (by decide) (fun hc => ?_) (fun hc => ?_)
                    · have h := h.1 hc
                      refine lv_aload_n hx hb dX10_primitive_316 rfl (lv_at hl 3 rfl) ?_
                      refine lv_iconst (v := (2 : Int32)) hx hb dX10_primitive_317 (by decide) ?_
                      refine cR_v (ci := 9) (q0 := 0) (As := [.int (2 : Int32)]) (rest := []) E hml hP hD hS hA (t_X10_fails l D G (2 : Int32) u _ h) kmX10_265 mwyX10_fails rfl rfl ⟨⟨rfl, rfl⟩, Nat.le_of_ble_eq_true rfl, Nat.le_of_ble_eq_true rfl⟩ rfl hl.1 rfl (Nat.le_of_ble_eq_true rfl) dX10_primitive_318 ⟨Nat.zero_le _, Nat.zero_le _⟩ (fun u10 H locs hP hD hS h => ?_)
                      refine lv_goto (tgt := 404) hx hb dX10_primitive_321 (by decide) ?_
                      exact retR_v E hr hlk hP hD hS h dX10_primitive_404
                    · have h := h.2 hc
                      refine lv_lload hx hb dX10_primitive_308 (lv_at hl 0 rfl) ?_
                      refine c0_i (As := [.long ((gB u 42) ((1 : Int32)).toNatClampNeg)]) (rest := []) hx hb hml hown hW hP hS hA (t_X10_isNumber l ((gB u 42) ((1 : Int32)).toNatClampNeg) _ h) kmX10_281 mwyX10_isNumber ⟨⟨rfl, rfl⟩, Nat.le_of_ble_eq_true rfl, Nat.le_of_ble_eq_true rfl⟩ rfl hl.1 rfl (Nat.le_of_ble_eq_true rfl) dX10_primitive_310 ⟨Nat.zero_le _, Nat.zero_le _⟩ (fun r11 H locs hP hS h => ?_)
                      refine lv_if_ne (tgt := 324) hx hb dX10_primitive_313 (by decide) (fun hc => ?_) (fun hc => ?_)
                      · have h := h.2 hc
                        refine lv_lload_n hx hb dX10_primitive_324 rfl (lv_at hl 1 rfl) ?_
                        refine lv_l2i (v := (((gB u 42) ((0 : Int32)).toNatClampNeg)).toInt32) hx hb dX10_primitive_325 rfl ?_
                        refine lv_istore (lv' := [(7, .int (((gB u 42) ((0 : Int32)).toNatClampNeg)).toInt32), (5, .long ((gB u 42) ((1 : Int32)).toNatClampNeg)), (3, .long ((gB u 42) ((0 : Int32)).toNatClampNeg)), (2, .int s0), (0, .ref (G.1 0)), (1, .int x1)]) hx hb dX10_primitive_326 hl (by decide) rfl (fun ls hl => ?_)
                        refine lv_lload hx hb dX10_primitive_328 (lv_at hl 1 rfl) ?_
                        refine lv_l2i (v := (((gB u 42) ((1 : Int32)).toNatClampNeg)).toInt32) hx hb dX10_primitive_330 rfl ?_
                        refine lv_istore (lv' := [(8, .int (((gB u 42) ((1 : Int32)).toNatClampNeg)).toInt32), (7, .int (((gB u 42) ((0 : Int32)).toNatClampNeg)).toInt32), (5, .long ((gB u 42) ((1 : Int32)).toNatClampNeg)), (3, .long ((gB u 42) ((0 : Int32)).toNatClampNeg)), (2, .int s0), (0, .ref (G.1 0)), (1, .int x1)]) hx hb dX10_primitive_331 hl (by decide) rfl (fun ls hl => ?_)
                        refine lv_aload_n hx hb dX10_primitive_333 rfl (lv_at hl 5 rfl) ?_
                        refine lv_iload_n hx hb dX10_primitive_334 rfl (lv_at hl 6 rfl) ?_
                        refine lv_bipush (v := (14 : Int32)) hx hb dX10_primitive_335 (by decide) ?_
                        refine lv_icmp_ne (tgt := 351) hx hb dX10_primitive_337 (by decide) (fun hc => ?_) (fun hc => ?_)
                        · have h := h.2 hc
                          refine lv_iload_n hx hb dX10_primitive_351 rfl (lv_at hl 6 rfl) ?_
                          refine lv_bipush (v := (15 : Int32)) hx hb dX10_primitive_352 (by decide) ?_
                          refine lv_icmp_ne (tgt := 368) hx hb dX10_primitive_354 (by decide) (fun hc => ?_) (fun hc => ?_)
                          · have h := h.2 hc
                            refine lv_iload_n hx hb dX10_primitive_368 rfl (lv_at hl 6 rfl) ?_
                            refine lv_bipush (v := (16 : Int32)) hx hb dX10_primitive_369 (by decide) ?_
                            refine lv_icmp_ne (tgt := 385) hx hb dX10_primitive_371 (by decide) (fun hc => ?_) (fun hc => ?_)
                            · have h := h.2 hc
                              refine lv_iload hx hb dX10_primitive_385 (lv_at hl 1 rfl) ?_
                              refine lv_iload hx hb dX10_primitive_387 (lv_at hl 0 rfl) ?_
                              refine lv_icmp_ge (tgt := 398) hx hb dX10_primitive_389 (by decide) (fun hc => ?_) (fun hc => ?_)
                              · have h := h.1 hc
                                refine lv_ldc2 (v := (4294967296 : Int64)) hx hb hown (hW _ kcX10_199) dX10_primitive_398 ?_
                                refine cR_v (ci := 9) (q0 := 0) (As := [.long (4294967296 : Int64)]) (rest := []) E hml hP hD hS hA (t_X10_gives l D G (4294967296 : Int64) u _ h) kmX10_286 mwyX10_gives rfl rfl ⟨⟨rfl, rfl⟩, Nat.le_of_ble_eq_true rfl, Nat.le_of_ble_eq_true rfl⟩ rfl hl.1 rfl (Nat.le_of_ble_eq_true rfl) dX10_primitive_401 ⟨Nat.zero_le _, Nat.zero_le _⟩ (fun u12 H locs hP hD hS h => ?_)
                                exact retR_v E hr hlk hP hD hS h dX10_primitive_404
                              · have h := h.2 hc
                                refine lv_ldc2 (v := (4294967297 : Int64)) hx hb hown (hW _ kcX10_284) dX10_primitive_392 ?_
                                refine lv_goto (tgt := 401) hx hb dX10_primitive_395 (by decide) ?_
                                refine cR_v (ci := 9) (q0 := 0) (As := [.long (4294967297 : Int64)]) (rest := []) E hml hP hD hS hA (t_X10_gives l D G (4294967297 : Int64) u _ h) kmX10_286 mwyX10_gives rfl rfl ⟨⟨rfl, rfl⟩, Nat.le_of_ble_eq_true rfl, Nat.le_of_ble_eq_true rfl⟩ rfl hl.1 rfl (Nat.le_of_ble_eq_true rfl) dX10_primitive_401 ⟨Nat.zero_le _, Nat.zero_le _⟩ (fun u13 H locs hP hD hS h => ?_)
                                exact retR_v E hr hlk hP hD hS h dX10_primitive_404
                            · have h := h.1 hc
                              refine lv_iload hx hb dX10_primitive_374 (lv_at hl 1 rfl) ?_
                              refine lv_iload hx hb dX10_primitive_376 (lv_at hl 0 rfl) ?_
                              refine lv_imul hx hb dX10_primitive_378 ?_
                              refine c0_l (As := [.int ((((gB u 42) ((0 : Int32)).toNatClampNeg)).toInt32 * (((gB u 42) ((1 : Int32)).toNatClampNeg)).toInt32)]) (rest := [.ref (G.1 0)]) hx hb hml hown hW hP hS hA (t_X10_number l ((((gB u 42) ((0 : Int32)).toNatClampNeg)).toInt32 * (((gB u 42) ((1 : Int32)).toNatClampNeg)).toInt32) _ h) kmX10_236 mwyX10_number ⟨⟨rfl, rfl⟩, Nat.le_of_ble_eq_true rfl, Nat.le_of_ble_eq_true rfl⟩ rfl hl.1 rfl (Nat.le_of_ble_eq_true rfl) dX10_primitive_379 ⟨Nat.zero_le _, Nat.zero_le _⟩ (fun r14 H locs hP hS h => ?_)
                              refine lv_goto (tgt := 401) hx hb dX10_primitive_382 (by decide) ?_
                              refine cR_v (ci := 9) (q0 := 0) (As := [.long r14]) (rest := []) E hml hP hD hS hA (t_X10_gives l D G r14 u _ h) kmX10_286 mwyX10_gives rfl rfl ⟨⟨rfl, rfl⟩, Nat.le_of_ble_eq_true rfl, Nat.le_of_ble_eq_true rfl⟩ rfl hl.1 rfl (Nat.le_of_ble_eq_true rfl) dX10_primitive_401 ⟨Nat.zero_le _, Nat.zero_le _⟩ (fun u15 H locs hP hD hS h => ?_)
                              exact retR_v E hr hlk hP hD hS h dX10_primitive_404
                          · have h := h.1 hc
                            refine lv_iload hx hb dX10_primitive_357 (lv_at hl 1 rfl) ?_
                            refine lv_iload hx hb dX10_primitive_359 (lv_at hl 0 rfl) ?_
                            refine lv_isub hx hb dX10_primitive_361 ?_
                            refine c0_l (As := [.int ((((gB u 42) ((0 : Int32)).toNatClampNeg)).toInt32 - (((gB u 42) ((1 : Int32)).toNatClampNeg)).toInt32)]) (rest := [.ref (G.1 0)]) hx hb hml hown hW hP hS hA (t_X10_number l ((((gB u 42) ((0 : Int32)).toNatClampNeg)).toInt32 - (((gB u 42) ((1 : Int32)).toNatClampNeg)).toInt32) _ h) kmX10_236 mwyX10_number ⟨⟨rfl, rfl⟩, Nat.le_of_ble_eq_true rfl, Nat.le_of_ble_eq_true rfl⟩ rfl hl.1 rfl (Nat.le_of_ble_eq_true rfl) dX10_primitive_362 ⟨Nat.zero_le _, Nat.zero_le _⟩ (fun r16 H locs hP hS h => ?_)
                            refine lv_goto (tgt := 401) hx hb dX10_primitive_365 (by decide) ?_
                            refine cR_v (ci := 9) (q0 := 0) (As := [.long r16]) (rest := []) E hml hP hD hS hA (t_X10_gives l D G r16 u _ h) kmX10_286 mwyX10_gives rfl rfl ⟨⟨rfl, rfl⟩, Nat.le_of_ble_eq_true rfl, Nat.le_of_ble_eq_true rfl⟩ rfl hl.1 rfl (Nat.le_of_ble_eq_true rfl) dX10_primitive_401 ⟨Nat.zero_le _, Nat.zero_le _⟩ (fun u17 H locs hP hD hS h => ?_)
                            exact retR_v E hr hlk hP hD hS h dX10_primitive_404
                        · have h := h.1 hc
                          refine lv_iload hx hb dX10_primitive_340 (lv_at hl 1 rfl) ?_
                          refine lv_iload hx hb dX10_primitive_342 (lv_at hl 0 rfl) ?_
                          refine lv_iadd hx hb dX10_primitive_344 ?_
                          refine c0_l (As := [.int ((((gB u 42) ((0 : Int32)).toNatClampNeg)).toInt32 + (((gB u 42) ((1 : Int32)).toNatClampNeg)).toInt32)]) (rest := [.ref (G.1 0)]) hx hb hml hown hW hP hS hA (t_X10_number l ((((gB u 42) ((0 : Int32)).toNatClampNeg)).toInt32 + (((gB u 42) ((1 : Int32)).toNatClampNeg)).toInt32) _ h) kmX10_236 mwyX10_number ⟨⟨rfl, rfl⟩, Nat.le_of_ble_eq_true rfl, Nat.le_of_ble_eq_true rfl⟩ rfl hl.1 rfl (Nat.le_of_ble_eq_true rfl) dX10_primitive_345 ⟨Nat.zero_le _, Nat.zero_le _⟩ (fun r18 H locs hP hS h => ?_)
                          refine lv_goto (tgt := 401) hx hb dX10_primitive_348 (by decide) ?_
                          refine cR_v (ci := 9) (q0 := 0) (As := [.long r18]) (rest := []) E hml hP hD hS hA (t_X10_gives l D G r18 u _ h) kmX10_286 mwyX10_gives rfl rfl ⟨⟨rfl, rfl⟩, Nat.le_of_ble_eq_true rfl, Nat.le_of_ble_eq_true rfl⟩ rfl hl.1 rfl (Nat.le_of_ble_eq_true rfl) dX10_primitive_401 ⟨Nat.zero_le _, Nat.zero_le _⟩ (fun u19 H locs hP hD hS h => ?_)
                          exact retR_v E hr hlk hP hD hS h dX10_primitive_404
                      · have h := h.1 hc
                        refine lv_aload_n hx hb dX10_primitive_316 rfl (lv_at hl 3 rfl) ?_
                        refine lv_iconst (v := (2 : Int32)) hx hb dX10_primitive_317 (by decide) ?_
                        refine cR_v (ci := 9) (q0 := 0) (As := [.int (2 : Int32)]) (rest := []) E hml hP hD hS hA (t_X10_fails l D G (2 : Int32) u _ h) kmX10_265 mwyX10_fails rfl rfl ⟨⟨rfl, rfl⟩, Nat.le_of_ble_eq_true rfl, Nat.le_of_ble_eq_true rfl⟩ rfl hl.1 rfl (Nat.le_of_ble_eq_true rfl) dX10_primitive_318 ⟨Nat.zero_le _, Nat.zero_le _⟩ (fun u20 H locs hP hD hS h => ?_)
                        refine lv_goto (tgt := 404) hx hb dX10_primitive_321 (by decide) ?_
                        exact retR_v E hr hlk hP hD hS h dX10_primitive_404
                  · have h := h.1 hc
                    refine lv_aload_n hx hb dX10_primitive_278 rfl (lv_at hl 3 rfl) ?_
                    refine lv_lload_n hx hb dX10_primitive_279 rfl (lv_at hl 1 rfl) ?_
                    refine c0_i (As := [.long ((gB u 42) ((0 : Int32)).toNatClampNeg)]) (rest := [.ref (G.1 0)]) hx hb hml hown hW hP hS hA (t_X10_isNumber l ((gB u 42) ((0 : Int32)).toNatClampNeg) _ h) kmX10_281 mwyX10_isNumber ⟨⟨rfl, rfl⟩, Nat.le_of_ble_eq_true rfl, Nat.le_of_ble_eq_true rfl⟩ rfl hl.1 rfl (Nat.le_of_ble_eq_true rfl) dX10_primitive_280 ⟨Nat.zero_le _, Nat.zero_le _⟩ (fun r21 H locs hP hS h => ?_)
                    refine lv_if_eq (tgt := 292) hx hb dX10_primitive_283 (by decide) (fun hc => ?_) (fun hc => ?_)
                    · have h := h.1 hc
                      refine lv_ldc2 (v := (4294967296 : Int64)) hx hb hown (hW _ kcX10_199) dX10_primitive_292 ?_
                      refine cR_v (ci := 9) (q0 := 0) (As := [.long (4294967296 : Int64)]) (rest := []) E hml hP hD hS hA (t_X10_gives l D G (4294967296 : Int64) u _ h) kmX10_286 mwyX10_gives rfl rfl ⟨⟨rfl, rfl⟩, Nat.le_of_ble_eq_true rfl, Nat.le_of_ble_eq_true rfl⟩ rfl hl.1 rfl (Nat.le_of_ble_eq_true rfl) dX10_primitive_295 ⟨Nat.zero_le _, Nat.zero_le _⟩ (fun u22 H locs hP hD hS h => ?_)
                      refine lv_goto (tgt := 404) hx hb dX10_primitive_298 (by decide) ?_
                      exact retR_v E hr hlk hP hD hS h dX10_primitive_404
                    · have h := h.2 hc
                      refine lv_ldc2 (v := (4294967297 : Int64)) hx hb hown (hW _ kcX10_284) dX10_primitive_286 ?_
                      refine lv_goto (tgt := 295) hx hb dX10_primitive_289 (by decide) ?_
                      refine cR_v (ci := 9) (q0 := 0) (As := [.long (4294967297 : Int64)]) (rest := []) E hml hP hD hS hA (t_X10_gives l D G (4294967297 : Int64) u _ h) kmX10_286 mwyX10_gives rfl rfl ⟨⟨rfl, rfl⟩, Nat.le_of_ble_eq_true rfl, Nat.le_of_ble_eq_true rfl⟩ rfl hl.1 rfl (Nat.le_of_ble_eq_true rfl) dX10_primitive_295 ⟨Nat.zero_le _, Nat.zero_le _⟩ (fun u23 H locs hP hD hS h => ?_)
                      refine lv_goto (tgt := 404) hx hb dX10_primitive_298 (by decide) ?_
                      exact retR_v E hr hlk hP hD hS h dX10_primitive_404
                · have h := h.1 hc
                  refine lv_aload_n hx hb dX10_primitive_248 rfl (lv_at hl 3 rfl) ?_
                  refine lv_lload_n hx hb dX10_primitive_249 rfl (lv_at hl 1 rfl) ?_
                  refine lv_ldc2 (v := (4294967296 : Int64)) hx hb hown (hW _ kcX10_199) dX10_primitive_250 ?_
                  refine lq_ne (tgt := 263) hx hb dX10_primitive_253 dX10_primitive_254 (by decide) (fun hc => ?_) (fun hc => ?_)
                  · have h := h.2 hc
                    refine lv_ldc2 (v := (4294967296 : Int64)) hx hb hown (hW _ kcX10_199) dX10_primitive_263 ?_
                    refine cR_v (ci := 9) (q0 := 0) (As := [.long (4294967296 : Int64)]) (rest := []) E hml hP hD hS hA (t_X10_gives l D G (4294967296 : Int64) u _ h) kmX10_286 mwyX10_gives rfl rfl ⟨⟨rfl, rfl⟩, Nat.le_of_ble_eq_true rfl, Nat.le_of_ble_eq_true rfl⟩ rfl hl.1 rfl (Nat.le_of_ble_eq_true rfl) dX10_primitive_266 ⟨Nat.zero_le _, Nat.zero_le _⟩ (fun u24 H locs hP hD hS h => ?_)
                    refine lv_goto (tgt := 404) hx hb dX10_primitive_269 (by decide) ?_
                    exact retR_v E hr hlk hP hD hS h dX10_primitive_404
                  · have h := h.1 hc
                    refine lv_ldc2 (v := (4294967297 : Int64)) hx hb hown (hW _ kcX10_284) dX10_primitive_257 ?_
                    refine lv_goto (tgt := 266) hx hb dX10_primitive_260 (by decide) ?_
                    refine cR_v (ci := 9) (q0 := 0) (As := [.long (4294967297 : Int64)]) (rest := []) E hml hP hD hS hA (t_X10_gives l D G (4294967297 : Int64) u _ h) kmX10_286 mwyX10_gives rfl rfl ⟨⟨rfl, rfl⟩, Nat.le_of_ble_eq_true rfl, Nat.le_of_ble_eq_true rfl⟩ rfl hl.1 rfl (Nat.le_of_ble_eq_true rfl) dX10_primitive_266 ⟨Nat.zero_le _, Nat.zero_le _⟩ (fun u25 H locs hP hD hS h => ?_)
                    refine lv_goto (tgt := 404) hx hb dX10_primitive_269 (by decide) ?_
                    exact retR_v E hr hlk hP hD hS h dX10_primitive_404
              · have h := h.1 hc
                refine lv_lload_n hx hb dX10_primitive_196 rfl (lv_at hl 1 rfl) ?_
                refine c0_i (As := [.long ((gB u 42) ((0 : Int32)).toNatClampNeg)]) (rest := []) hx hb hml hown hW hP hS hA (t_X10_isPair l ((gB u 42) ((0 : Int32)).toNatClampNeg) _ h) kmX10_205 mwyX10_isPair ⟨⟨rfl, rfl⟩, Nat.le_of_ble_eq_true rfl, Nat.le_of_ble_eq_true rfl⟩ rfl hl.1 rfl (Nat.le_of_ble_eq_true rfl) dX10_primitive_197 ⟨Nat.zero_le _, Nat.zero_le _⟩ (fun r26 H locs hP hS h => ?_)
                refine lv_if_ne (tgt := 211) hx hb dX10_primitive_200 (by decide) (fun hc => ?_) (fun hc => ?_)
                · have h := h.2 hc
                  refine lv_aload_n hx hb dX10_primitive_211 rfl (lv_at hl 3 rfl) ?_
                  refine lv_iconst (v := (2 : Int32)) hx hb dX10_primitive_212 (by decide) ?_
                  refine cR_v (ci := 9) (q0 := 0) (As := [.int (2 : Int32)]) (rest := []) E hml hP hD hS hA (t_X10_fails l D G (2 : Int32) u _ h) kmX10_265 mwyX10_fails rfl rfl ⟨⟨rfl, rfl⟩, Nat.le_of_ble_eq_true rfl, Nat.le_of_ble_eq_true rfl⟩ rfl hl.1 rfl (Nat.le_of_ble_eq_true rfl) dX10_primitive_213 ⟨Nat.zero_le _, Nat.zero_le _⟩ (fun u27 H locs hP hD hS h => ?_)
                  refine lv_goto (tgt := 404) hx hb dX10_primitive_216 (by decide) ?_
                  exact retR_v E hr hlk hP hD hS h dX10_primitive_404
                · have h := h.1 hc
                  refine lv_lload hx hb dX10_primitive_203 (lv_at hl 0 rfl) ?_
                  refine c0_i (As := [.long ((gB u 42) ((1 : Int32)).toNatClampNeg)]) (rest := []) hx hb hml hown hW hP hS hA (t_X10_isPair l ((gB u 42) ((1 : Int32)).toNatClampNeg) _ h) kmX10_205 mwyX10_isPair ⟨⟨rfl, rfl⟩, Nat.le_of_ble_eq_true rfl, Nat.le_of_ble_eq_true rfl⟩ rfl hl.1 rfl (Nat.le_of_ble_eq_true rfl) dX10_primitive_205 ⟨Nat.zero_le _, Nat.zero_le _⟩ (fun r28 H locs hP hS h => ?_)
                  refine lv_if_eq (tgt := 219) hx hb dX10_primitive_208 (by decide) (fun hc => ?_) (fun hc => ?_)
                  · have h := h.1 hc
                    refine lv_aload_n hx hb dX10_primitive_219 rfl (lv_at hl 3 rfl) ?_
                    refine lv_lload_n hx hb dX10_primitive_220 rfl (lv_at hl 1 rfl) ?_
                    refine lv_lload hx hb dX10_primitive_221 (lv_at hl 0 rfl) ?_
                    refine lq_ne (tgt := 233) hx hb dX10_primitive_223 dX10_primitive_224 (by decide) (fun hc => ?_) (fun hc => ?_)
                    · have h := h.2 hc
                      refine lv_ldc2 (v := (4294967296 : Int64)) hx hb hown (hW _ kcX10_199) dX10_primitive_233 ?_
                      refine cR_v (ci := 9) (q0 := 0) (As := [.long (4294967296 : Int64)]) (rest := []) E hml hP hD hS hA (t_X10_gives l D G (4294967296 : Int64) u _ h) kmX10_286 mwyX10_gives rfl rfl ⟨⟨rfl, rfl⟩, Nat.le_of_ble_eq_true rfl, Nat.le_of_ble_eq_true rfl⟩ rfl hl.1 rfl (Nat.le_of_ble_eq_true rfl) dX10_primitive_236 ⟨Nat.zero_le _, Nat.zero_le _⟩ (fun u29 H locs hP hD hS h => ?_)
                      refine lv_goto (tgt := 404) hx hb dX10_primitive_239 (by decide) ?_
                      exact retR_v E hr hlk hP hD hS h dX10_primitive_404
                    · have h := h.1 hc
                      refine lv_ldc2 (v := (4294967297 : Int64)) hx hb hown (hW _ kcX10_284) dX10_primitive_227 ?_
                      refine lv_goto (tgt := 236) hx hb dX10_primitive_230 (by decide) ?_
                      refine cR_v (ci := 9) (q0 := 0) (As := [.long (4294967297 : Int64)]) (rest := []) E hml hP hD hS hA (t_X10_gives l D G (4294967297 : Int64) u _ h) kmX10_286 mwyX10_gives rfl rfl ⟨⟨rfl, rfl⟩, Nat.le_of_ble_eq_true rfl, Nat.le_of_ble_eq_true rfl⟩ rfl hl.1 rfl (Nat.le_of_ble_eq_true rfl) dX10_primitive_236 ⟨Nat.zero_le _, Nat.zero_le _⟩ (fun u30 H locs hP hD hS h => ?_)
                      refine lv_goto (tgt := 404) hx hb dX10_primitive_239 (by decide) ?_
                      exact retR_v E hr hlk hP hD hS h dX10_primitive_404
                  · have h := h.2 hc
                    refine lv_aload_n hx hb dX10_primitive_211 rfl (lv_at hl 3 rfl) ?_
                    refine lv_iconst (v := (2 : Int32)) hx hb dX10_primitive_212 (by decide) ?_
                    refine cR_v (ci := 9) (q0 := 0) (As := [.int (2 : Int32)]) (rest := []) E hml hP hD hS hA (t_X10_fails l D G (2 : Int32) u _ h) kmX10_265 mwyX10_fails rfl rfl ⟨⟨rfl, rfl⟩, Nat.le_of_ble_eq_true rfl, Nat.le_of_ble_eq_true rfl⟩ rfl hl.1 rfl (Nat.le_of_ble_eq_true rfl) dX10_primitive_213 ⟨Nat.zero_le _, Nat.zero_le _⟩ (fun u31 H locs hP hD hS h => ?_)
                    refine lv_goto (tgt := 404) hx hb dX10_primitive_216 (by decide) ?_
                    exact retR_v E hr hlk hP hD hS h dX10_primitive_404
            · have h := h.1 hc
              refine lv_aload_n hx hb dX10_primitive_167 rfl (lv_at hl 3 rfl) ?_
              refine lv_lload_n hx hb dX10_primitive_168 rfl (lv_at hl 1 rfl) ?_
              refine c0_i (As := [.long ((gB u 42) ((0 : Int32)).toNatClampNeg)]) (rest := [.ref (G.1 0)]) hx hb hml hown hW hP hS hA (t_X10_isPair l ((gB u 42) ((0 : Int32)).toNatClampNeg) _ h) kmX10_205 mwyX10_isPair ⟨⟨rfl, rfl⟩, Nat.le_of_ble_eq_true rfl, Nat.le_of_ble_eq_true rfl⟩ rfl hl.1 rfl (Nat.le_of_ble_eq_true rfl) dX10_primitive_169 ⟨Nat.zero_le _, Nat.zero_le _⟩ (fun r32 H locs hP hS h => ?_)
              refine lv_if_eq (tgt := 181) hx hb dX10_primitive_172 (by decide) (fun hc => ?_) (fun hc => ?_)
              · have h := h.1 hc
                refine lv_ldc2 (v := (4294967297 : Int64)) hx hb hown (hW _ kcX10_284) dX10_primitive_181 ?_
                refine cR_v (ci := 9) (q0 := 0) (As := [.long (4294967297 : Int64)]) (rest := []) E hml hP hD hS hA (t_X10_gives l D G (4294967297 : Int64) u _ h) kmX10_286 mwyX10_gives rfl rfl ⟨⟨rfl, rfl⟩, Nat.le_of_ble_eq_true rfl, Nat.le_of_ble_eq_true rfl⟩ rfl hl.1 rfl (Nat.le_of_ble_eq_true rfl) dX10_primitive_184 ⟨Nat.zero_le _, Nat.zero_le _⟩ (fun u33 H locs hP hD hS h => ?_)
                refine lv_goto (tgt := 404) hx hb dX10_primitive_187 (by decide) ?_
                exact retR_v E hr hlk hP hD hS h dX10_primitive_404
              · have h := h.2 hc
                refine lv_ldc2 (v := (4294967296 : Int64)) hx hb hown (hW _ kcX10_199) dX10_primitive_175 ?_
                refine lv_goto (tgt := 184) hx hb dX10_primitive_178 (by decide) ?_
                refine cR_v (ci := 9) (q0 := 0) (As := [.long (4294967296 : Int64)]) (rest := []) E hml hP hD hS hA (t_X10_gives l D G (4294967296 : Int64) u _ h) kmX10_286 mwyX10_gives rfl rfl ⟨⟨rfl, rfl⟩, Nat.le_of_ble_eq_true rfl, Nat.le_of_ble_eq_true rfl⟩ rfl hl.1 rfl (Nat.le_of_ble_eq_true rfl) dX10_primitive_184 ⟨Nat.zero_le _, Nat.zero_le _⟩ (fun u34 H locs hP hD hS h => ?_)
                refine lv_goto (tgt := 404) hx hb dX10_primitive_187 (by decide) ?_
                exact retR_v E hr hlk hP hD hS h dX10_primitive_404
          · have h := h.1 hc
            refine lv_aload_n hx hb dX10_primitive_124 rfl (lv_at hl 3 rfl) ?_
            refine cR_v (ci := 9) (q0 := 0) (As := []) (rest := []) E hml hP hD hS hA (t_X10_holdWaiting l D G  u _ h) kmX10_304 mwyX10_holdWaiting rfl rfl ⟨⟨rfl, rfl⟩, Nat.le_of_ble_eq_true rfl, Nat.le_of_ble_eq_true rfl⟩ rfl hl.1 rfl (Nat.le_of_ble_eq_true rfl) dX10_primitive_125 ⟨Nat.zero_le _, Nat.zero_le _⟩ (fun u35 H locs hP hD hS h => ?_)
            refine lv_aload_n hx hb dX10_primitive_128 rfl (lv_at hl 3 rfl) ?_
            refine lv_lload_n hx hb dX10_primitive_129 rfl (lv_at hl 1 rfl) ?_
            refine cR_v (ci := 9) (q0 := 0) (As := [.long ((gB u 42) ((0 : Int32)).toNatClampNeg)]) (rest := []) E hml hP hD hS hA (t_X10_hold l D G ((gB u 42) ((0 : Int32)).toNatClampNeg) u35 _ h) kmX10_213 mwyX10_hold rfl rfl ⟨⟨rfl, rfl⟩, Nat.le_of_ble_eq_true rfl, Nat.le_of_ble_eq_true rfl⟩ rfl hl.1 rfl (Nat.le_of_ble_eq_true rfl) dX10_primitive_130 ⟨Nat.zero_le _, Nat.zero_le _⟩ (fun u36 H locs hP hD hS h => ?_)
            refine lv_aload_n hx hb dX10_primitive_133 rfl (lv_at hl 3 rfl) ?_
            refine lv_lload hx hb dX10_primitive_134 (lv_at hl 0 rfl) ?_
            refine cR_v (ci := 9) (q0 := 0) (As := [.long ((gB u 42) ((1 : Int32)).toNatClampNeg)]) (rest := []) E hml hP hD hS hA (t_X10_hold l D G ((gB u 42) ((1 : Int32)).toNatClampNeg) u36 _ h) kmX10_213 mwyX10_hold rfl rfl ⟨⟨rfl, rfl⟩, Nat.le_of_ble_eq_true rfl, Nat.le_of_ble_eq_true rfl⟩ rfl hl.1 rfl (Nat.le_of_ble_eq_true rfl) dX10_primitive_136 ⟨Nat.zero_le _, Nat.zero_le _⟩ (fun u37 H locs hP hD hS h => ?_)
            refine lv_aload_n hx hb dX10_primitive_139 rfl (lv_at hl 3 rfl) ?_
            refine lv_iconst (v := (1 : Int32)) hx hb dX10_primitive_140 (by decide) ?_
            refine cR_i (ci := 9) (q0 := 0) (As := [.int (1 : Int32)]) (rest := []) E hml hP hD hS hA (t_X10_room l D G (1 : Int32) u37 _ h) kmX10_307 mwyX10_room rfl rfl ⟨⟨rfl, rfl⟩, Nat.le_of_ble_eq_true rfl, Nat.le_of_ble_eq_true rfl⟩ rfl hl.1 rfl (Nat.le_of_ble_eq_true rfl) dX10_primitive_141 ⟨Nat.zero_le _, Nat.zero_le _⟩ (fun r38 u39 H locs hP hD hS h => ?_)
            refine lv_if_eq (tgt := 404) hx hb dX10_primitive_144 (by decide) (fun hc => ?_) (fun hc => ?_)
            · have h := h.1 hc
              exact retR_v E hr hlk hP hD hS h dX10_primitive_404
            · have h := h.2 hc
              refine lv_aload_n hx hb dX10_primitive_147 rfl (lv_at hl 3 rfl) ?_
              refine lv_aload_n hx hb dX10_primitive_148 rfl (lv_at hl 3 rfl) ?_
              refine lv_lload_n hx hb dX10_primitive_149 rfl (lv_at hl 1 rfl) ?_
              refine lv_lload hx hb dX10_primitive_150 (lv_at hl 0 rfl) ?_
              refine cR_l (ci := 9) (q0 := 0) (As := [.long ((gB u 42) ((0 : Int32)).toNatClampNeg), .long ((gB u 42) ((1 : Int32)).toNatClampNeg)]) (rest := [.ref (G.1 0)]) E hml hP hD hS hA (t_X10_pair l D G ((gB u 42) ((0 : Int32)).toNatClampNeg) ((gB u 42) ((1 : Int32)).toNatClampNeg) u39 _ h) kmX10_244 mwyX10_pair rfl rfl ⟨⟨rfl, rfl⟩, Nat.le_of_ble_eq_true rfl, Nat.le_of_ble_eq_true rfl⟩ rfl hl.1 rfl (Nat.le_of_ble_eq_true rfl) dX10_primitive_152 ⟨Nat.zero_le _, Nat.zero_le _⟩ (fun r40 u41 H locs hP hD hS h => ?_)
              refine cR_v (ci := 9) (q0 := 0) (As := [.long r40]) (rest := []) E hml hP hD hS hA (t_X10_gives l D G r40 u41 _ h) kmX10_286 mwyX10_gives rfl rfl ⟨⟨rfl, rfl⟩, Nat.le_of_ble_eq_true rfl, Nat.le_of_ble_eq_true rfl⟩ rfl hl.1 rfl (Nat.le_of_ble_eq_true rfl) dX10_primitive_155 ⟨Nat.zero_le _, Nat.zero_le _⟩ (fun u42 H locs hP hD hS h => ?_)
              refine lv_goto (tgt := 404) hx hb dX10_primitive_158 (by decide) ?_
              exact retR_v E hr hlk hP hD hS h dX10_primitive_404
        · have h := h.1 hc
          refine lv_lload_n hx hb dX10_primitive_77 rfl (lv_at hl 1 rfl) ?_
          refine c0_i (As := [.long ((gB u 42) ((0 : Int32)).toNatClampNeg)]) (rest := []) hx hb hml hown hW hP hS hA (t_X10_isPair l ((gB u 42) ((0 : Int32)).toNatClampNeg) _ h) kmX10_205 mwyX10_isPair ⟨⟨rfl, rfl⟩, Nat.le_of_ble_eq_true rfl, Nat.le_of_ble_eq_true rfl⟩ rfl hl.1 rfl (Nat.le_of_ble_eq_true rfl) dX10_primitive_78 ⟨Nat.zero_le _, Nat.zero_le _⟩ (fun r43 H locs hP hS h => ?_)
          refine lv_if_ne (tgt := 92) hx hb dX10_primitive_81 (by decide) (fun hc => ?_) (fun hc => ?_)
          · have h := h.2 hc
            refine lv_aload_n hx hb dX10_primitive_92 rfl (lv_at hl 3 rfl) ?_
            refine lv_iload_n hx hb dX10_primitive_93 rfl (lv_at hl 4 rfl) ?_
            refine lv_bipush (v := (7 : Int32)) hx hb dX10_primitive_94 (by decide) ?_
            refine lv_icmp_ne (tgt := 107) hx hb dX10_primitive_96 (by decide) (fun hc => ?_) (fun hc => ?_)
            · have h := h.2 hc
              refine lv_aload_n hx hb dX10_primitive_107 rfl (lv_at hl 3 rfl) ?_
              refine lv_lload_n hx hb dX10_primitive_108 rfl (lv_at hl 1 rfl) ?_
              refine cR_l (ci := 9) (q0 := 0) (As := [.long ((gB u 42) ((0 : Int32)).toNatClampNeg)]) (rest := [.ref (G.1 0)]) E hml hP hD hS hA (t_X10_behind l D G ((gB u 42) ((0 : Int32)).toNatClampNeg) u _ h) kmX10_216 mwyX10_behind rfl rfl ⟨⟨rfl, rfl⟩, Nat.le_of_ble_eq_true rfl, Nat.le_of_ble_eq_true rfl⟩ rfl hl.1 rfl (Nat.le_of_ble_eq_true rfl) dX10_primitive_109 ⟨Nat.zero_le _, Nat.zero_le _⟩ (fun r44 u45 H locs hP hD hS h => ?_)
              refine cR_v (ci := 9) (q0 := 0) (As := [.long r44]) (rest := []) E hml hP hD hS hA (t_X10_gives l D G r44 u45 _ h) kmX10_286 mwyX10_gives rfl rfl ⟨⟨rfl, rfl⟩, Nat.le_of_ble_eq_true rfl, Nat.le_of_ble_eq_true rfl⟩ rfl hl.1 rfl (Nat.le_of_ble_eq_true rfl) dX10_primitive_112 ⟨Nat.zero_le _, Nat.zero_le _⟩ (fun u46 H locs hP hD hS h => ?_)
              refine lv_goto (tgt := 404) hx hb dX10_primitive_115 (by decide) ?_
              exact retR_v E hr hlk hP hD hS h dX10_primitive_404
            · have h := h.1 hc
              refine lv_aload_n hx hb dX10_primitive_99 rfl (lv_at hl 3 rfl) ?_
              refine lv_lload_n hx hb dX10_primitive_100 rfl (lv_at hl 1 rfl) ?_
              refine cR_l (ci := 9) (q0 := 0) (As := [.long ((gB u 42) ((0 : Int32)).toNatClampNeg)]) (rest := [.ref (G.1 0)]) E hml hP hD hS hA (t_X10_first l D G ((gB u 42) ((0 : Int32)).toNatClampNeg) u _ h) kmX10_209 mwyX10_first rfl rfl ⟨⟨rfl, rfl⟩, Nat.le_of_ble_eq_true rfl, Nat.le_of_ble_eq_true rfl⟩ rfl hl.1 rfl (Nat.le_of_ble_eq_true rfl) dX10_primitive_101 ⟨Nat.zero_le _, Nat.zero_le _⟩ (fun r47 u48 H locs hP hD hS h => ?_)
              refine lv_goto (tgt := 112) hx hb dX10_primitive_104 (by decide) ?_
              refine cR_v (ci := 9) (q0 := 0) (As := [.long r47]) (rest := []) E hml hP hD hS hA (t_X10_gives l D G r47 u48 _ h) kmX10_286 mwyX10_gives rfl rfl ⟨⟨rfl, rfl⟩, Nat.le_of_ble_eq_true rfl, Nat.le_of_ble_eq_true rfl⟩ rfl hl.1 rfl (Nat.le_of_ble_eq_true rfl) dX10_primitive_112 ⟨Nat.zero_le _, Nat.zero_le _⟩ (fun u49 H locs hP hD hS h => ?_)
              refine lv_goto (tgt := 404) hx hb dX10_primitive_115 (by decide) ?_
              exact retR_v E hr hlk hP hD hS h dX10_primitive_404
          · have h := h.1 hc
            refine lv_aload_n hx hb dX10_primitive_84 rfl (lv_at hl 3 rfl) ?_
            refine lv_iconst (v := (2 : Int32)) hx hb dX10_primitive_85 (by decide) ?_
            refine cR_v (ci := 9) (q0 := 0) (As := [.int (2 : Int32)]) (rest := []) E hml hP hD hS hA (t_X10_fails l D G (2 : Int32) u _ h) kmX10_265 mwyX10_fails rfl rfl ⟨⟨rfl, rfl⟩, Nat.le_of_ble_eq_true rfl, Nat.le_of_ble_eq_true rfl⟩ rfl hl.1 rfl (Nat.le_of_ble_eq_true rfl) dX10_primitive_86 ⟨Nat.zero_le _, Nat.zero_le _⟩ (fun u50 H locs hP hD hS h => ?_)
            refine lv_goto (tgt := 404) hx hb dX10_primitive_89 (by decide) ?_
            exact retR_v E hr hlk hP hD hS h dX10_primitive_404
    · have h := h.2 hc
      refine lv_aload_n hx hb dX10_primitive_44 rfl (lv_at hl 1 rfl) ?_
      refine lv_iconst (v := (3 : Int32)) hx hb dX10_primitive_45 (by decide) ?_
      refine cR_v (ci := 9) (q0 := 0) (As := [.int (3 : Int32)]) (rest := []) E hml hP hD hS hA (t_X10_fails l D G (3 : Int32) u _ h) kmX10_265 mwyX10_fails rfl rfl ⟨⟨rfl, rfl⟩, Nat.le_of_ble_eq_true rfl, Nat.le_of_ble_eq_true rfl⟩ rfl hl.1 rfl (Nat.le_of_ble_eq_true rfl) dX10_primitive_46 ⟨Nat.zero_le _, Nat.zero_le _⟩ (fun u51 H locs hP hD hS h => ?_)
      exact retR_v E hr hlk hP hD hS h dX10_primitive_49
  unfold wp_X10_primitive at h
  refine lv_iload_n hx hb dX10_primitive_0 rfl (lv_at hl 1 rfl) ?_
  refine lv_bipush (v := (7 : Int32)) hx hb dX10_primitive_1 (by decide) ?_
  refine lv_icmp_eq (tgt := 30) hx hb dX10_primitive_3 (by decide) (fun hc => ?_) (fun hc => ?_)
  · have h := h.1 hc
    refine lv_iconst (v := (1 : Int32)) hx hb dX10_primitive_30 (by decide) ?_
    refine lv_goto (tgt := 35) hx hb dX10_primitive_31 (by decide) ?_
    exact J_35 p0 (1 : Int32) u _ _ _ h hP hD hS (lv_sub hl [0, 1] rfl)
  · have h := h.2 hc
    refine lv_iload_n hx hb dX10_primitive_6 rfl (lv_at hl 1 rfl) ?_
    refine lv_bipush (v := (8 : Int32)) hx hb dX10_primitive_7 (by decide) ?_
    refine lv_icmp_eq (tgt := 30) hx hb dX10_primitive_9 (by decide) (fun hc => ?_) (fun hc => ?_)
    · have h := h.1 hc
      refine lv_iconst (v := (1 : Int32)) hx hb dX10_primitive_30 (by decide) ?_
      refine lv_goto (tgt := 35) hx hb dX10_primitive_31 (by decide) ?_
      exact J_35 p0 (1 : Int32) u _ _ _ h hP hD hS (lv_sub hl [0, 1] rfl)
    · have h := h.2 hc
      refine lv_iload_n hx hb dX10_primitive_12 rfl (lv_at hl 1 rfl) ?_
      refine lv_bipush (v := (10 : Int32)) hx hb dX10_primitive_13 (by decide) ?_
      refine lv_icmp_eq (tgt := 30) hx hb dX10_primitive_15 (by decide) (fun hc => ?_) (fun hc => ?_)
      · have h := h.1 hc
        refine lv_iconst (v := (1 : Int32)) hx hb dX10_primitive_30 (by decide) ?_
        refine lv_goto (tgt := 35) hx hb dX10_primitive_31 (by decide) ?_
        exact J_35 p0 (1 : Int32) u _ _ _ h hP hD hS (lv_sub hl [0, 1] rfl)
      · have h := h.2 hc
        refine lv_iload_n hx hb dX10_primitive_18 rfl (lv_at hl 1 rfl) ?_
        refine lv_bipush (v := (12 : Int32)) hx hb dX10_primitive_19 (by decide) ?_
        refine lv_icmp_eq (tgt := 30) hx hb dX10_primitive_21 (by decide) (fun hc => ?_) (fun hc => ?_)
        · have h := h.1 hc
          refine lv_iconst (v := (1 : Int32)) hx hb dX10_primitive_30 (by decide) ?_
          refine lv_goto (tgt := 35) hx hb dX10_primitive_31 (by decide) ?_
          exact J_35 p0 (1 : Int32) u _ _ _ h hP hD hS (lv_sub hl [0, 1] rfl)
        · have h := h.2 hc
          refine lv_iload_n hx hb dX10_primitive_24 rfl (lv_at hl 1 rfl) ?_
          refine lv_bipush (v := (13 : Int32)) hx hb dX10_primitive_25 (by decide) ?_
          refine lv_icmp_ne (tgt := 34) hx hb dX10_primitive_27 (by decide) (fun hc => ?_) (fun hc => ?_)
          · have h := h.2 hc
            refine lv_iconst (v := (2 : Int32)) hx hb dX10_primitive_34 (by decide) ?_
            exact J_35 p0 (2 : Int32) u _ _ _ h hP hD hS (lv_sub hl [0, 1] rfl)
          · have h := h.1 hc
            refine lv_iconst (v := (1 : Int32)) hx hb dX10_primitive_30 (by decide) ?_
            refine lv_goto (tgt := 35) hx hb dX10_primitive_31 (by decide) ?_
            exact J_35 p0 (1 : Int32) u _ _ _ h hP hD hS (lv_sub hl [0, 1] rfl)
def l_X10_apply_161  (K : St → Prop) : Nat → Int32 → St → Prop
  | 0, _, _ => False
  | n + 1, x3, u => (((gI u 43) ≤ x3 → K u) ∧ (¬ (gI u 43) ≤ x3 → vp_in x3 8 ∧ vp_in ((((8 : Int32) * (gI u 32)) - (8 : Int32)) + x3) 1600 ∧ l_X10_apply_161  K n (x3 + (1 : Int32)) (sB u 38 (vp_updL (gB u 38) (((((8 : Int32) * (gI u 32)) - (8 : Int32)) + x3)).toNatClampNeg ((gB u 42) (x3).toNatClampNeg)))))
def wp_X10_apply  (u : St) (Q : St → Prop) : Prop := wp_X10_begins  u (fun (r1 : Int32) (u2 : St) => ((r1 = 0 → Q u2) ∧ (¬ r1 = 0 → wp_X10_isNumber (gJ u2 40) (fun (r3 : Int32) => ((r3 = 0 → (((gJ u2 40) = (4294967296 : Int64) → wp_X10_fails (4 : Int32) u2 (fun (u5 : St) => Q u5)) ∧ (¬ (gJ u2 40) = (4294967296 : Int64) → (((gJ u2 40) = (4294967297 : Int64) → wp_X10_fails (4 : Int32) u2 (fun (u22 : St) => Q u22)) ∧ (¬ (gJ u2 40) = (4294967297 : Int64) → wp_X10_isName (gJ u2 40) (fun (r6 : Int32) => ((r6 = 0 → wp_X10_first (gJ u2 40) u2 (fun (r7 : Int64) (u8 : St) => ((r7 = (4294967301 : Int64) → wp_X10_lambda (gJ u2 40) u8 (fun (u16 : St) => Q u16)) ∧ (¬ r7 = (4294967301 : Int64) → wp_X10_first (gJ u2 40) u8 (fun (r9 : Int64) (u10 : St) => ((r9 = (4294967302 : Int64) → wp_X10_label (gJ u2 40) u10 (fun (u15 : St) => Q u15)) ∧ (¬ r9 = (4294967302 : Int64) → wp_X10_waits (2 : Int32) (4294967296 : Int64) (4294967296 : Int64) u10 (fun (r11 : Int32) (u12 : St) => ((r11 = 0 → Q u12) ∧ (¬ r11 = 0 → vp_in ((gI u12 32) - (1 : Int32)) 200 ∧ (∃ k14 : Nat, l_X10_apply_161   (fun (u13 : St) => Q (sI u13 39 (0 : Int32))) k14 (0 : Int32) (sA u12 37 (upd (gA u12 37) (((gI u12 32) - (1 : Int32))).toNatClampNeg (gI u12 43)))))))))))))) ∧ (¬ r6 = 0 → (((((gJ u2 40) - (4294967296 : Int64))).toInt32 ≤ (6 : Int32) → wp_X10_lookUp (gJ u2 40) u2 (fun (r17 : Int64) (u18 : St) => Q (sJ u18 40 r17))) ∧ (¬ (((gJ u2 40) - (4294967296 : Int64))).toInt32 ≤ (6 : Int32) → (((18 : Int32) ≤ (((gJ u2 40) - (4294967296 : Int64))).toInt32 → wp_X10_lookUp (gJ u2 40) u2 (fun (r19 : Int64) (u20 : St) => Q (sJ u20 40 r19))) ∧ (¬ (18 : Int32) ≤ (((gJ u2 40) - (4294967296 : Int64))).toInt32 → wp_X10_primitive ((((gJ u2 40) - (4294967296 : Int64))).toInt32) u2 (fun (u21 : St) => Q u21))))))))))))) ∧ (¬ r3 = 0 → wp_X10_fails (4 : Int32) u2 (fun (u4 : St) => Q u4)))))))
abbrev rm_X10_apply : Room := { frames := 7, cells := 0, slots := 0, locals := 162 }
set_option maxHeartbeats 4000000 in
set_option maxRecDepth 100000 in
theorem t_X10_apply (l : Launch) (D : va_G) (G : Gd)  (u : St) (Q : St → Prop) (h : wp_X10_apply  u Q) : MRv l D G yX10_apply cX10_apply 4 none rm_X10_apply [.ref (G.1 0)] u Q := by
  refine startR_v (by decide) ?_
  intro p e s m args below meth c E hr hlk hml hP hD hS hA
  have hx := E.1
  have hb := E.2.1
  have hown := E.2.2.1
  have hW := E.2.2.2.1
  have hl := lv_entry ([.ref (G.1 0)]) (n := 4) (Nat.le_of_ble_eq_true rfl)
  rw [lg_entry_eq]
  generalize (lg_sl ([.ref (G.1 0)]) ++ List.replicate (4 - (lg_sl ([.ref (G.1 0)])).length) Slot.unset).toArray = ls at hl ⊢
  have hl : lv_has ls 4 [(0, .ref (G.1 0))] := hl
  have L_161 : ∀  (K : St → Prop), (∀  (u : St) (H : Heap) (locs : List Loc) (ls : Array Slot), K  u → va_P D vwCl (wR G u) H → va_D (AR G s.heap.size) (wR G u) → va_S (AR G s.heap.size) s.heap H locs → lv_has ls 4 [(0, .ref (G.1 0))] → W p l e rm_X10_apply s m args below meth c H locs 0 0 (MQ below (va_Qv Q (BR D G s.heap.size) (AR G s.heap.size)) args s 0 0 (AR G s.heap.size)) (F0 m 198 ls [])) → ∀ (n : Nat) (x3 : Int32) (u : St) (H : Heap) (locs : List Loc) (ls : Array Slot), l_X10_apply_161  K n x3 u → va_P D vwCl (wR G u) H → va_D (AR G s.heap.size) (wR G u) → va_S (AR G s.heap.size) s.heap H locs → lv_has ls 4 [(0, .ref (G.1 0)), (3, .int x3)] → W p l e rm_X10_apply s m args below meth c H locs 0 0 (MQ below (va_Qv Q (BR D G s.heap.size) (AR G s.heap.size)) args s 0 0 (AR G s.heap.size)) (F0 m 161 ls []) := by
    intro  K hK n
    induction n with
    | zero => intro x3 u H locs ls h; exact False.elim h
    | succ n ih =>
      intro x3 u H locs ls h hP hD hS hl
      unfold l_X10_apply_161 at h
      refine lv_iload_n hx hb dX10_apply_161 rfl (lv_at hl 1 rfl) ?_
      refine lv_aload_n hx hb dX10_apply_162 rfl (lv_at hl 0 rfl) ?_
      refine gR_43 E hP kfX10_144 (v := (gI u 43)) rfl dX10_apply_163 ?_
      refine lv_icmp_ge (tgt := 198) hx hb dX10_apply_166 (by decide) (fun hc => ?_) (fun hc => ?_)
      · have h := h.1 hc
        exact hK u _ _ _ h hP hD hS (lv_sub hl [0] rfl)
      · have h := h.2 hc
        refine lv_aload_n hx hb dX10_apply_169 rfl (lv_at hl 0 rfl) ?_
        refine gR_38 E hP kfX10_129 dX10_apply_170 ?_
        refine lv_bipush (v := (8 : Int32)) hx hb dX10_apply_173 (by decide) ?_
        refine lv_aload_n hx hb dX10_apply_175 rfl (lv_at hl 0 rfl) ?_
        refine gR_32 E hP kfX10_111 (v := (gI u 32)) rfl dX10_apply_176 ?_
        refine lv_imul hx hb dX10_apply_179 ?_
        refine lv_bipush (v := (8 : Int32)) hx hb dX10_apply_180 (by decide) ?_
        refine lv_isub hx hb dX10_apply_182 ?_
        refine lv_iload_n hx hb dX10_apply_183 rfl (lv_at hl 1 rfl) ?_
        refine lv_iadd hx hb dX10_apply_184 ?_
        refine lv_aload_n hx hb dX10_apply_185 rfl (lv_at hl 0 rfl) ?_
        refine gR_42 E hP kfX10_141 dX10_apply_186 ?_
        refine lv_iload_n hx hb dX10_apply_189 rfl (lv_at hl 1 rfl) ?_
        obtain ⟨h9, h⟩ := h
        refine xR_42 E hP h9 (v := ((gB u 42) (x3).toNatClampNeg)) rfl dX10_apply_190 ?_
        obtain ⟨h9, h⟩ := h
        refine yR_38 E hP hD hS h9 (f := (gB u 38)) rfl dX10_apply_191 (fun H locs hP hD hS => ?_)
        refine lv_iinc (v := (x3 + (1 : Int32))) (lv' := [(3, .int (x3 + (1 : Int32))), (0, .ref (G.1 0))]) hx hb dX10_apply_192 hl (k := 1) rfl rfl (by decide) rfl (fun ls hl => ?_)
        refine lv_goto (tgt := 161) hx hb dX10_apply_195 (by decide) ?_
        exact ih (x3 + (1 : Int32)) (sB u 38 (vp_updL (gB u 38) (((((8 : Int32) * (gI u 32)) - (8 : Int32)) + x3)).toNatClampNeg ((gB u 42) (x3).toNatClampNeg))) _ _ _ h hP hD hS (lv_sub hl [1, 0] rfl)
  unfold wp_X10_apply at h
  refine lv_aload_n hx hb dX10_apply_0 rfl (lv_at hl 0 rfl) ?_
  refine cR_i (ci := 9) (q0 := 0) (As := []) (rest := []) E hml hP hD hS hA (t_X10_begins l D G  u _ h) kmX10_277 mwyX10_begins rfl rfl ⟨⟨rfl, rfl⟩, Nat.le_of_ble_eq_true rfl, Nat.le_of_ble_eq_true rfl⟩ rfl hl.1 rfl (Nat.le_of_ble_eq_true rfl) dX10_apply_1 ⟨Nat.zero_le _, Nat.zero_le _⟩ (fun r1 u2 H locs hP hD hS h => ?_)
  refine lv_if_ne (tgt := 8) hx hb dX10_apply_4 (by decide) (fun hc => ?_) (fun hc => ?_)
  · have h := h.2 hc
    refine lv_aload_n hx hb dX10_apply_8 rfl (lv_at hl 0 rfl) ?_
    refine gR_40 E hP kfX10_135 (v := (gJ u2 40)) rfl dX10_apply_9 ?_
    refine lv_lstore_n (lv' := [(1, .long (gJ u2 40)), (0, .ref (G.1 0))]) hx hb dX10_apply_12 rfl hl (by decide) rfl (fun ls hl => ?_)
    refine lv_lload_n hx hb dX10_apply_13 rfl (lv_at hl 0 rfl) ?_
    refine c0_i (As := [.long (gJ u2 40)]) (rest := []) hx hb hml hown hW hP hS hA (t_X10_isNumber l (gJ u2 40) _ h) kmX10_281 mwyX10_isNumber ⟨⟨rfl, rfl⟩, Nat.le_of_ble_eq_true rfl, Nat.le_of_ble_eq_true rfl⟩ rfl hl.1 rfl (Nat.le_of_ble_eq_true rfl) dX10_apply_14 ⟨Nat.zero_le _, Nat.zero_le _⟩ (fun r3 H locs hP hS h => ?_)
    refine lv_if_ne (tgt := 36) hx hb dX10_apply_17 (by decide) (fun hc => ?_) (fun hc => ?_)
    · have h := h.2 hc
      refine lv_aload_n hx hb dX10_apply_36 rfl (lv_at hl 1 rfl) ?_
      refine lv_iconst (v := (4 : Int32)) hx hb dX10_apply_37 (by decide) ?_
      refine cR_v (ci := 9) (q0 := 0) (As := [.int (4 : Int32)]) (rest := []) E hml hP hD hS hA (t_X10_fails l D G (4 : Int32) u2 _ h) kmX10_265 mwyX10_fails rfl rfl ⟨⟨rfl, rfl⟩, Nat.le_of_ble_eq_true rfl, Nat.le_of_ble_eq_true rfl⟩ rfl hl.1 rfl (Nat.le_of_ble_eq_true rfl) dX10_apply_38 ⟨Nat.zero_le _, Nat.zero_le _⟩ (fun u4 H locs hP hD hS h => ?_)
      refine lv_goto (tgt := 203) hx hb dX10_apply_41 (by decide) ?_
      exact retR_v E hr hlk hP hD hS h dX10_apply_203
    · have h := h.1 hc
      refine lv_lload_n hx hb dX10_apply_20 rfl (lv_at hl 0 rfl) ?_
      refine lv_ldc2 (v := (4294967296 : Int64)) hx hb hown (hW _ kcX10_199) dX10_apply_21 ?_
      refine lq_eq (tgt := 36) hx hb dX10_apply_24 dX10_apply_25 (by decide) (fun hc => ?_) (fun hc => ?_)
      · have h := h.1 hc
        refine lv_aload_n hx hb dX10_apply_36 rfl (lv_at hl 1 rfl) ?_
        refine lv_iconst (v := (4 : Int32)) hx hb dX10_apply_37 (by decide) ?_
        refine cR_v (ci := 9) (q0 := 0) (As := [.int (4 : Int32)]) (rest := []) E hml hP hD hS hA (t_X10_fails l D G (4 : Int32) u2 _ h) kmX10_265 mwyX10_fails rfl rfl ⟨⟨rfl, rfl⟩, Nat.le_of_ble_eq_true rfl, Nat.le_of_ble_eq_true rfl⟩ rfl hl.1 rfl (Nat.le_of_ble_eq_true rfl) dX10_apply_38 ⟨Nat.zero_le _, Nat.zero_le _⟩ (fun u5 H locs hP hD hS h => ?_)
        refine lv_goto (tgt := 203) hx hb dX10_apply_41 (by decide) ?_
        exact retR_v E hr hlk hP hD hS h dX10_apply_203
      · have h := h.2 hc
        refine lv_lload_n hx hb dX10_apply_28 rfl (lv_at hl 0 rfl) ?_
        refine lv_ldc2 (v := (4294967297 : Int64)) hx hb hown (hW _ kcX10_284) dX10_apply_29 ?_
        refine lq_ne (tgt := 44) hx hb dX10_apply_32 dX10_apply_33 (by decide) (fun hc => ?_) (fun hc => ?_)
        · have h := h.2 hc
          refine lv_lload_n hx hb dX10_apply_44 rfl (lv_at hl 0 rfl) ?_
          refine c0_i (As := [.long (gJ u2 40)]) (rest := []) hx hb hml hown hW hP hS hA (t_X10_isName l (gJ u2 40) _ h) kmX10_289 mwyX10_isName ⟨⟨rfl, rfl⟩, Nat.le_of_ble_eq_true rfl, Nat.le_of_ble_eq_true rfl⟩ rfl hl.1 rfl (Nat.le_of_ble_eq_true rfl) dX10_apply_45 ⟨Nat.zero_le _, Nat.zero_le _⟩ (fun r6 H locs hP hS h => ?_)
          refine lv_if_eq (tgt := 90) hx hb dX10_apply_48 (by decide) (fun hc => ?_) (fun hc => ?_)
          · have h := h.1 hc
            refine lv_aload_n hx hb dX10_apply_90 rfl (lv_at hl 1 rfl) ?_
            refine lv_lload_n hx hb dX10_apply_91 rfl (lv_at hl 0 rfl) ?_
            refine cR_l (ci := 9) (q0 := 0) (As := [.long (gJ u2 40)]) (rest := []) E hml hP hD hS hA (t_X10_first l D G (gJ u2 40) u2 _ h) kmX10_209 mwyX10_first rfl rfl ⟨⟨rfl, rfl⟩, Nat.le_of_ble_eq_true rfl, Nat.le_of_ble_eq_true rfl⟩ rfl hl.1 rfl (Nat.le_of_ble_eq_true rfl) dX10_apply_92 ⟨Nat.zero_le _, Nat.zero_le _⟩ (fun r7 u8 H locs hP hD hS h => ?_)
            refine lv_ldc2 (v := (4294967301 : Int64)) hx hb hown (hW _ kcX10_319) dX10_apply_95 ?_
            refine lq_ne (tgt := 110) hx hb dX10_apply_98 dX10_apply_99 (by decide) (fun hc => ?_) (fun hc => ?_)
            · have h := h.2 hc
              refine lv_aload_n hx hb dX10_apply_110 rfl (lv_at hl 1 rfl) ?_
              refine lv_lload_n hx hb dX10_apply_111 rfl (lv_at hl 0 rfl) ?_
              refine cR_l (ci := 9) (q0 := 0) (As := [.long (gJ u2 40)]) (rest := []) E hml hP hD hS hA (t_X10_first l D G (gJ u2 40) u8 _ h) kmX10_209 mwyX10_first rfl rfl ⟨⟨rfl, rfl⟩, Nat.le_of_ble_eq_true rfl, Nat.le_of_ble_eq_true rfl⟩ rfl hl.1 rfl (Nat.le_of_ble_eq_true rfl) dX10_apply_112 ⟨Nat.zero_le _, Nat.zero_le _⟩ (fun r9 u10 H locs hP hD hS h => ?_)
              refine lv_ldc2 (v := (4294967302 : Int64)) hx hb hown (hW _ kcX10_324) dX10_apply_115 ?_
              refine lq_ne (tgt := 130) hx hb dX10_apply_118 dX10_apply_119 (by decide) (fun hc => ?_) (fun hc => ?_)
              · have h := h.2 hc
                refine lv_aload_n hx hb dX10_apply_130 rfl (lv_at hl 1 rfl) ?_
                refine lv_iconst (v := (2 : Int32)) hx hb dX10_apply_131 (by decide) ?_
                refine lv_ldc2 (v := (4294967296 : Int64)) hx hb hown (hW _ kcX10_199) dX10_apply_132 ?_
                refine lv_ldc2 (v := (4294967296 : Int64)) hx hb hown (hW _ kcX10_199) dX10_apply_135 ?_
                refine cR_i (ci := 9) (q0 := 0) (As := [.int (2 : Int32), .long (4294967296 : Int64), .long (4294967296 : Int64)]) (rest := []) E hml hP hD hS hA (t_X10_waits l D G (2 : Int32) (4294967296 : Int64) (4294967296 : Int64) u10 _ h) kmX10_273 mwyX10_waits rfl rfl ⟨⟨rfl, rfl⟩, Nat.le_of_ble_eq_true rfl, Nat.le_of_ble_eq_true rfl⟩ rfl hl.1 rfl (Nat.le_of_ble_eq_true rfl) dX10_apply_138 ⟨Nat.zero_le _, Nat.zero_le _⟩ (fun r11 u12 H locs hP hD hS h => ?_)
                refine lv_if_eq (tgt := 203) hx hb dX10_apply_141 (by decide) (fun hc => ?_) (fun hc => ?_)
                · have h := h.1 hc
                  exact retR_v E hr hlk hP hD hS h dX10_apply_203
                · have h := h.2 hc
                  refine lv_aload_n hx hb dX10_apply_144 rfl (lv_at hl 1 rfl) ?_
                  refine gR_37 E hP kfX10_126 dX10_apply_145 ?_
                  refine lv_aload_n hx hb dX10_apply_148 rfl (lv_at hl 1 rfl) ?_
                  refine gR_32 E hP kfX10_111 (v := (gI u12 32)) rfl dX10_apply_149 ?_
                  refine lv_iconst (v := (1 : Int32)) hx hb dX10_apply_152 (by decide) ?_
                  refine lv_isub hx hb dX10_apply_153 ?_
                  refine lv_aload_n hx hb dX10_apply_154 rfl (lv_at hl 1 rfl) ?_
                  refine gR_43 E hP kfX10_144 (v := (gI u12 43)) rfl dX10_apply_155 ?_
                  obtain ⟨h9, h⟩ := h
                  refine yR_37 E hP hD hS h9 (f := (gA u12 37)) rfl dX10_apply_158 (fun H locs hP hD hS => ?_)
                  refine lv_iconst (v := (0 : Int32)) hx hb dX10_apply_159 (by decide) ?_
                  refine lv_istore_n (lv' := [(3, .int (0 : Int32)), (1, .long (gJ u2 40)), (0, .ref (G.1 0))]) hx hb dX10_apply_160 rfl hl (by decide) rfl (fun ls hl => ?_)
                  obtain ⟨n, h⟩ := h
                  refine L_161  _ (fun u13 H locs ls h hP hD hS hl => ?_) n (0 : Int32) (sA u12 37 (upd (gA u12 37) (((gI u12 32) - (1 : Int32))).toNatClampNeg (gI u12 43))) _ _ _ h hP hD hS (lv_sub hl [2, 0] rfl)
                  refine lv_aload_n hx hb dX10_apply_198 rfl (lv_at hl 0 rfl) ?_
                  refine lv_iconst (v := (0 : Int32)) hx hb dX10_apply_199 (by decide) ?_
                  refine pR_39 E hP hD hS kfX10_132 dX10_apply_200 (fun H locs hP hD hS => ?_)
                  exact retR_v E hr hlk hP hD hS h dX10_apply_203
              · have h := h.1 hc
                refine lv_aload_n hx hb dX10_apply_122 rfl (lv_at hl 1 rfl) ?_
                refine lv_lload_n hx hb dX10_apply_123 rfl (lv_at hl 0 rfl) ?_
                refine cR_v (ci := 9) (q0 := 0) (As := [.long (gJ u2 40)]) (rest := []) E hml hP hD hS hA (t_X10_label l D G (gJ u2 40) u10 _ h) kmX10_326 mwyX10_label rfl rfl ⟨⟨rfl, rfl⟩, Nat.le_of_ble_eq_true rfl, Nat.le_of_ble_eq_true rfl⟩ rfl hl.1 rfl (Nat.le_of_ble_eq_true rfl) dX10_apply_124 ⟨Nat.zero_le _, Nat.zero_le _⟩ (fun u15 H locs hP hD hS h => ?_)
                refine lv_goto (tgt := 203) hx hb dX10_apply_127 (by decide) ?_
                exact retR_v E hr hlk hP hD hS h dX10_apply_203
            · have h := h.1 hc
              refine lv_aload_n hx hb dX10_apply_102 rfl (lv_at hl 1 rfl) ?_
              refine lv_lload_n hx hb dX10_apply_103 rfl (lv_at hl 0 rfl) ?_
              refine cR_v (ci := 9) (q0 := 0) (As := [.long (gJ u2 40)]) (rest := []) E hml hP hD hS hA (t_X10_lambda l D G (gJ u2 40) u8 _ h) kmX10_321 mwyX10_lambda rfl rfl ⟨⟨rfl, rfl⟩, Nat.le_of_ble_eq_true rfl, Nat.le_of_ble_eq_true rfl⟩ rfl hl.1 rfl (Nat.le_of_ble_eq_true rfl) dX10_apply_104 ⟨Nat.zero_le _, Nat.zero_le _⟩ (fun u16 H locs hP hD hS h => ?_)
              refine lv_goto (tgt := 203) hx hb dX10_apply_107 (by decide) ?_
              exact retR_v E hr hlk hP hD hS h dX10_apply_203
          · have h := h.2 hc
            refine lv_lload_n hx hb dX10_apply_51 rfl (lv_at hl 0 rfl) ?_
            refine lv_ldc2 (v := (4294967296 : Int64)) hx hb hown (hW _ kcX10_199) dX10_apply_52 ?_
            refine lv_lsub hx hb dX10_apply_55 ?_
            refine lv_l2i (v := (((gJ u2 40) - (4294967296 : Int64))).toInt32) hx hb dX10_apply_56 rfl ?_
            refine lv_istore_n (lv' := [(3, .int (((gJ u2 40) - (4294967296 : Int64))).toInt32), (1, .long (gJ u2 40)), (0, .ref (G.1 0))]) hx hb dX10_apply_57 rfl hl (by decide) rfl (fun ls hl => ?_)
            refine lv_iload_n hx hb dX10_apply_58 rfl (lv_at hl 0 rfl) ?_
            refine lv_bipush (v := (6 : Int32)) hx hb dX10_apply_59 (by decide) ?_
            refine lv_icmp_le (tgt := 78) hx hb dX10_apply_61 (by decide) (fun hc => ?_) (fun hc => ?_)
            · have h := h.1 hc
              refine lv_aload_n hx hb dX10_apply_78 rfl (lv_at hl 2 rfl) ?_
              refine lv_aload_n hx hb dX10_apply_79 rfl (lv_at hl 2 rfl) ?_
              refine lv_lload_n hx hb dX10_apply_80 rfl (lv_at hl 1 rfl) ?_
              refine cR_l (ci := 9) (q0 := 0) (As := [.long (gJ u2 40)]) (rest := [.ref (G.1 0)]) E hml hP hD hS hA (t_X10_lookUp l D G (gJ u2 40) u2 _ h) kmX10_292 mwyX10_lookUp rfl rfl ⟨⟨rfl, rfl⟩, Nat.le_of_ble_eq_true rfl, Nat.le_of_ble_eq_true rfl⟩ rfl hl.1 rfl (Nat.le_of_ble_eq_true rfl) dX10_apply_81 ⟨Nat.zero_le _, Nat.zero_le _⟩ (fun r17 u18 H locs hP hD hS h => ?_)
              refine pR_40 E hP hD hS kfX10_135 dX10_apply_84 (fun H locs hP hD hS => ?_)
              refine lv_goto (tgt := 203) hx hb dX10_apply_87 (by decide) ?_
              exact retR_v E hr hlk hP hD hS h dX10_apply_203
            · have h := h.2 hc
              refine lv_iload_n hx hb dX10_apply_64 rfl (lv_at hl 0 rfl) ?_
              refine lv_bipush (v := (18 : Int32)) hx hb dX10_apply_65 (by decide) ?_
              refine lv_icmp_ge (tgt := 78) hx hb dX10_apply_67 (by decide) (fun hc => ?_) (fun hc => ?_)
              · have h := h.1 hc
                refine lv_aload_n hx hb dX10_apply_78 rfl (lv_at hl 2 rfl) ?_
                refine lv_aload_n hx hb dX10_apply_79 rfl (lv_at hl 2 rfl) ?_
                refine lv_lload_n hx hb dX10_apply_80 rfl (lv_at hl 1 rfl) ?_
                refine cR_l (ci := 9) (q0 := 0) (As := [.long (gJ u2 40)]) (rest := [.ref (G.1 0)]) E hml hP hD hS hA (t_X10_lookUp l D G (gJ u2 40) u2 _ h) kmX10_292 mwyX10_lookUp rfl rfl ⟨⟨rfl, rfl⟩, Nat.le_of_ble_eq_true rfl, Nat.le_of_ble_eq_true rfl⟩ rfl hl.1 rfl (Nat.le_of_ble_eq_true rfl) dX10_apply_81 ⟨Nat.zero_le _, Nat.zero_le _⟩ (fun r19 u20 H locs hP hD hS h => ?_)
                refine pR_40 E hP hD hS kfX10_135 dX10_apply_84 (fun H locs hP hD hS => ?_)
                refine lv_goto (tgt := 203) hx hb dX10_apply_87 (by decide) ?_
                exact retR_v E hr hlk hP hD hS h dX10_apply_203
              · have h := h.2 hc
                refine lv_aload_n hx hb dX10_apply_70 rfl (lv_at hl 2 rfl) ?_
                refine lv_iload_n hx hb dX10_apply_71 rfl (lv_at hl 0 rfl) ?_
                refine cR_v (ci := 9) (q0 := 0) (As := [.int (((gJ u2 40) - (4294967296 : Int64))).toInt32]) (rest := []) E hml hP hD hS hA (t_X10_primitive l D G ((((gJ u2 40) - (4294967296 : Int64))).toInt32) u2 _ h) kmX10_316 mwyX10_primitive rfl rfl ⟨⟨rfl, rfl⟩, Nat.le_of_ble_eq_true rfl, Nat.le_of_ble_eq_true rfl⟩ rfl hl.1 rfl (Nat.le_of_ble_eq_true rfl) dX10_apply_72 ⟨Nat.zero_le _, Nat.zero_le _⟩ (fun u21 H locs hP hD hS h => ?_)
                refine lv_goto (tgt := 87) hx hb dX10_apply_75 (by decide) ?_
                refine lv_goto (tgt := 203) hx hb dX10_apply_87 (by decide) ?_
                exact retR_v E hr hlk hP hD hS h dX10_apply_203
        · have h := h.1 hc
          refine lv_aload_n hx hb dX10_apply_36 rfl (lv_at hl 1 rfl) ?_
          refine lv_iconst (v := (4 : Int32)) hx hb dX10_apply_37 (by decide) ?_
          refine cR_v (ci := 9) (q0 := 0) (As := [.int (4 : Int32)]) (rest := []) E hml hP hD hS hA (t_X10_fails l D G (4 : Int32) u2 _ h) kmX10_265 mwyX10_fails rfl rfl ⟨⟨rfl, rfl⟩, Nat.le_of_ble_eq_true rfl, Nat.le_of_ble_eq_true rfl⟩ rfl hl.1 rfl (Nat.le_of_ble_eq_true rfl) dX10_apply_38 ⟨Nat.zero_le _, Nat.zero_le _⟩ (fun u22 H locs hP hD hS h => ?_)
          refine lv_goto (tgt := 203) hx hb dX10_apply_41 (by decide) ?_
          exact retR_v E hr hlk hP hD hS h dX10_apply_203
  · have h := h.1 hc
    exact retR_v E hr hlk hP hD hS h dX10_apply_7
def wp_X10_evaluate  (u : St) (Q : St → Prop) : Prop := wp_X10_begins  u (fun (r1 : Int32) (u2 : St) => ((r1 = 0 → Q u2) ∧ (¬ r1 = 0 → wp_X10_isNumber (gJ u2 40) (fun (r3 : Int32) => ((r3 = 0 → (((gJ u2 40) = (4294967296 : Int64) → wp_X10_gives (gJ u2 40) u2 (fun (u5 : St) => Q u5)) ∧ (¬ (gJ u2 40) = (4294967296 : Int64) → (((gJ u2 40) = (4294967297 : Int64) → wp_X10_gives (gJ u2 40) u2 (fun (u51 : St) => Q u51)) ∧ (¬ (gJ u2 40) = (4294967297 : Int64) → wp_X10_isName (gJ u2 40) (fun (r6 : Int32) => ((r6 = 0 → wp_X10_first (gJ u2 40) u2 (fun (r7 : Int64) (u8 : St) => wp_X10_behind (gJ u2 40) u8 (fun (r9 : Int64) (u10 : St) => ((r7 = (4294967298 : Int64) → wp_X10_listOf r9 (1 : Int32) u10 (fun (r42 : Int32) (u43 : St) => ((r42 = 0 → wp_X10_fails (3 : Int32) u43 (fun (u44 : St) => Q u44)) ∧ (¬ r42 = 0 → wp_X10_first r9 u43 (fun (r45 : Int64) (u46 : St) => wp_X10_gives r45 u46 (fun (u47 : St) => Q u47)))))) ∧ (¬ r7 = (4294967298 : Int64) → ((r7 = (4294967299 : Int64) → wp_X10_condition r9 u10 (fun (u41 : St) => Q u41)) ∧ (¬ r7 = (4294967299 : Int64) → ((r7 = (4294967300 : Int64) → wp_X10_listOf r9 (2 : Int32) u10 (fun (r19 : Int32) (u20 : St) => ((r19 = 0 → wp_X10_fails (3 : Int32) u20 (fun (u21 : St) => Q u21)) ∧ (¬ r19 = 0 → wp_X10_first r9 u20 (fun (r22 : Int64) (u23 : St) => wp_X10_isName r22 (fun (r24 : Int32) => ((r24 = 0 → wp_X10_fails (3 : Int32) u23 (fun (u25 : St) => Q u25)) ∧ (¬ r24 = 0 → wp_X10_first r9 u23 (fun (r26 : Int64) (u27 : St) => ((r26 = (4294967296 : Int64) → wp_X10_fails (3 : Int32) u27 (fun (u28 : St) => Q u28)) ∧ (¬ r26 = (4294967296 : Int64) → wp_X10_first r9 u27 (fun (r29 : Int64) (u30 : St) => ((r29 = (4294967297 : Int64) → wp_X10_fails (3 : Int32) u30 (fun (u31 : St) => Q u31)) ∧ (¬ r29 = (4294967297 : Int64) → wp_X10_first r9 u30 (fun (r32 : Int64) (u33 : St) => wp_X10_behind r9 u33 (fun (r34 : Int64) (u35 : St) => wp_X10_first r34 u35 (fun (r36 : Int64) (u37 : St) => vp_in (((r32 - (4294967296 : Int64))).toInt32) 150 ∧ wp_X10_first r9 (sB u37 20 (vp_updL (gB u37 20) (((r32 - (4294967296 : Int64))).toInt32).toNatClampNeg r36)) (fun (r38 : Int64) (u39 : St) => wp_X10_gives r38 u39 (fun (u40 : St) => Q u40))))))))))))))))))) ∧ (¬ r7 = (4294967300 : Int64) → ((r9 = (4294967296 : Int64) → Q (sI (sJ (sI u10 39 (1 : Int32)) 40 r7) 43 (0 : Int32))) ∧ (¬ r9 = (4294967296 : Int64) → wp_X10_isPair r9 (fun (r11 : Int32) => ((r11 = 0 → wp_X10_fails (3 : Int32) u10 (fun (u18 : St) => Q u18)) ∧ (¬ r11 = 0 → wp_X10_behind r9 u10 (fun (r12 : Int64) (u13 : St) => wp_X10_waits (0 : Int32) r7 r12 u13 (fun (r14 : Int32) (u15 : St) => ((r14 = 0 → Q u15) ∧ (¬ r14 = 0 → wp_X10_first r9 (sI u15 39 (0 : Int32)) (fun (r16 : Int64) (u17 : St) => Q (sJ u17 40 r16)))))))))))))))))))) ∧ (¬ r6 = 0 → wp_X10_lookUp (gJ u2 40) u2 (fun (r48 : Int64) (u49 : St) => wp_X10_gives r48 u49 (fun (u50 : St) => Q u50)))))))))) ∧ (¬ r3 = 0 → wp_X10_gives (gJ u2 40) u2 (fun (u4 : St) => Q u4)))))))
abbrev rm_X10_evaluate : Room := { frames := 3, cells := 0, slots := 0, locals := 70 }
set_option maxHeartbeats 4000000 in
set_option maxRecDepth 100000 in
theorem t_X10_evaluate (l : Launch) (D : va_G) (G : Gd)  (u : St) (Q : St → Prop) (h : wp_X10_evaluate  u Q) : MRv l D G yX10_evaluate cX10_evaluate 8 none rm_X10_evaluate [.ref (G.1 0)] u Q := by
  refine startR_v (by decide) ?_
  intro p e s m args below meth c E hr hlk hml hP hD hS hA
  have hx := E.1
  have hb := E.2.1
  have hown := E.2.2.1
  have hW := E.2.2.2.1
  have hl := lv_entry ([.ref (G.1 0)]) (n := 8) (Nat.le_of_ble_eq_true rfl)
  rw [lg_entry_eq]
  generalize (lg_sl ([.ref (G.1 0)]) ++ List.replicate (8 - (lg_sl ([.ref (G.1 0)])).length) Slot.unset).toArray = ls at hl ⊢
  have hl : lv_has ls 8 [(0, .ref (G.1 0))] := hl
  unfold wp_X10_evaluate at h
  refine lv_aload_n hx hb dX10_evaluate_0 rfl (lv_at hl 0 rfl) ?_
  refine cR_i (ci := 9) (q0 := 0) (As := []) (rest := []) E hml hP hD hS hA (t_X10_begins l D G  u _ h) kmX10_277 mwyX10_begins rfl rfl ⟨⟨rfl, rfl⟩, Nat.le_of_ble_eq_true rfl, Nat.le_of_ble_eq_true rfl⟩ rfl hl.1 rfl (Nat.le_of_ble_eq_true rfl) dX10_evaluate_1 ⟨Nat.zero_le _, Nat.zero_le _⟩ (fun r1 u2 H locs hP hD hS h => ?_)
  refine lv_if_ne (tgt := 8) hx hb dX10_evaluate_4 (by decide) (fun hc => ?_) (fun hc => ?_)
  · have h := h.2 hc
    refine lv_aload_n hx hb dX10_evaluate_8 rfl (lv_at hl 0 rfl) ?_
    refine gR_40 E hP kfX10_135 (v := (gJ u2 40)) rfl dX10_evaluate_9 ?_
    refine lv_lstore_n (lv' := [(1, .long (gJ u2 40)), (0, .ref (G.1 0))]) hx hb dX10_evaluate_12 rfl hl (by decide) rfl (fun ls hl => ?_)
    refine lv_lload_n hx hb dX10_evaluate_13 rfl (lv_at hl 0 rfl) ?_
    refine c0_i (As := [.long (gJ u2 40)]) (rest := []) hx hb hml hown hW hP hS hA (t_X10_isNumber l (gJ u2 40) _ h) kmX10_281 mwyX10_isNumber ⟨⟨rfl, rfl⟩, Nat.le_of_ble_eq_true rfl, Nat.le_of_ble_eq_true rfl⟩ rfl hl.1 rfl (Nat.le_of_ble_eq_true rfl) dX10_evaluate_14 ⟨Nat.zero_le _, Nat.zero_le _⟩ (fun r3 H locs hP hS h => ?_)
    refine lv_if_ne (tgt := 36) hx hb dX10_evaluate_17 (by decide) (fun hc => ?_) (fun hc => ?_)
    · have h := h.2 hc
      refine lv_aload_n hx hb dX10_evaluate_36 rfl (lv_at hl 1 rfl) ?_
      refine lv_lload_n hx hb dX10_evaluate_37 rfl (lv_at hl 0 rfl) ?_
      refine cR_v (ci := 9) (q0 := 0) (As := [.long (gJ u2 40)]) (rest := []) E hml hP hD hS hA (t_X10_gives l D G (gJ u2 40) u2 _ h) kmX10_286 mwyX10_gives rfl rfl ⟨⟨rfl, rfl⟩, Nat.le_of_ble_eq_true rfl, Nat.le_of_ble_eq_true rfl⟩ rfl hl.1 rfl (Nat.le_of_ble_eq_true rfl) dX10_evaluate_38 ⟨Nat.zero_le _, Nat.zero_le _⟩ (fun u4 H locs hP hD hS h => ?_)
      exact retR_v E hr hlk hP hD hS h dX10_evaluate_41
    · have h := h.1 hc
      refine lv_lload_n hx hb dX10_evaluate_20 rfl (lv_at hl 0 rfl) ?_
      refine lv_ldc2 (v := (4294967296 : Int64)) hx hb hown (hW _ kcX10_199) dX10_evaluate_21 ?_
      refine lq_eq (tgt := 36) hx hb dX10_evaluate_24 dX10_evaluate_25 (by decide) (fun hc => ?_) (fun hc => ?_)
      · have h := h.1 hc
        refine lv_aload_n hx hb dX10_evaluate_36 rfl (lv_at hl 1 rfl) ?_
        refine lv_lload_n hx hb dX10_evaluate_37 rfl (lv_at hl 0 rfl) ?_
        refine cR_v (ci := 9) (q0 := 0) (As := [.long (gJ u2 40)]) (rest := []) E hml hP hD hS hA (t_X10_gives l D G (gJ u2 40) u2 _ h) kmX10_286 mwyX10_gives rfl rfl ⟨⟨rfl, rfl⟩, Nat.le_of_ble_eq_true rfl, Nat.le_of_ble_eq_true rfl⟩ rfl hl.1 rfl (Nat.le_of_ble_eq_true rfl) dX10_evaluate_38 ⟨Nat.zero_le _, Nat.zero_le _⟩ (fun u5 H locs hP hD hS h => ?_)
        exact retR_v E hr hlk hP hD hS h dX10_evaluate_41
      · have h := h.2 hc
        refine lv_lload_n hx hb dX10_evaluate_28 rfl (lv_at hl 0 rfl) ?_
        refine lv_ldc2 (v := (4294967297 : Int64)) hx hb hown (hW _ kcX10_284) dX10_evaluate_29 ?_
        refine lq_ne (tgt := 42) hx hb dX10_evaluate_32 dX10_evaluate_33 (by decide) (fun hc => ?_) (fun hc => ?_)
        · have h := h.2 hc
          refine lv_lload_n hx hb dX10_evaluate_42 rfl (lv_at hl 0 rfl) ?_
          refine c0_i (As := [.long (gJ u2 40)]) (rest := []) hx hb hml hown hW hP hS hA (t_X10_isName l (gJ u2 40) _ h) kmX10_289 mwyX10_isName ⟨⟨rfl, rfl⟩, Nat.le_of_ble_eq_true rfl, Nat.le_of_ble_eq_true rfl⟩ rfl hl.1 rfl (Nat.le_of_ble_eq_true rfl) dX10_evaluate_43 ⟨Nat.zero_le _, Nat.zero_le _⟩ (fun r6 H locs hP hS h => ?_)
          refine lv_if_eq (tgt := 59) hx hb dX10_evaluate_46 (by decide) (fun hc => ?_) (fun hc => ?_)
          · have h := h.1 hc
            refine lv_aload_n hx hb dX10_evaluate_59 rfl (lv_at hl 1 rfl) ?_
            refine lv_lload_n hx hb dX10_evaluate_60 rfl (lv_at hl 0 rfl) ?_
            refine cR_l (ci := 9) (q0 := 0) (As := [.long (gJ u2 40)]) (rest := []) E hml hP hD hS hA (t_X10_first l D G (gJ u2 40) u2 _ h) kmX10_209 mwyX10_first rfl rfl ⟨⟨rfl, rfl⟩, Nat.le_of_ble_eq_true rfl, Nat.le_of_ble_eq_true rfl⟩ rfl hl.1 rfl (Nat.le_of_ble_eq_true rfl) dX10_evaluate_61 ⟨Nat.zero_le _, Nat.zero_le _⟩ (fun r7 u8 H locs hP hD hS h => ?_)
            refine lv_lstore_n (lv' := [(3, .long r7), (1, .long (gJ u2 40)), (0, .ref (G.1 0))]) hx hb dX10_evaluate_64 rfl hl (by decide) rfl (fun ls hl => ?_)
            refine lv_aload_n hx hb dX10_evaluate_65 rfl (lv_at hl 2 rfl) ?_
            refine lv_lload_n hx hb dX10_evaluate_66 rfl (lv_at hl 1 rfl) ?_
            refine cR_l (ci := 9) (q0 := 0) (As := [.long (gJ u2 40)]) (rest := []) E hml hP hD hS hA (t_X10_behind l D G (gJ u2 40) u8 _ h) kmX10_216 mwyX10_behind rfl rfl ⟨⟨rfl, rfl⟩, Nat.le_of_ble_eq_true rfl, Nat.le_of_ble_eq_true rfl⟩ rfl hl.1 rfl (Nat.le_of_ble_eq_true rfl) dX10_evaluate_67 ⟨Nat.zero_le _, Nat.zero_le _⟩ (fun r9 u10 H locs hP hD hS h => ?_)
            refine lv_lstore (lv' := [(5, .long r9), (3, .long r7), (1, .long (gJ u2 40)), (0, .ref (G.1 0))]) hx hb dX10_evaluate_70 hl (by decide) rfl (fun ls hl => ?_)
            refine lv_lload_n hx hb dX10_evaluate_72 rfl (lv_at hl 1 rfl) ?_
            refine lv_ldc2 (v := (4294967298 : Int64)) hx hb hown (hW _ kcX10_295) dX10_evaluate_73 ?_
            refine lq_ne (tgt := 111) hx hb dX10_evaluate_76 dX10_evaluate_77 (by decide) (fun hc => ?_) (fun hc => ?_)
            · have h := h.2 hc
              refine lv_lload_n hx hb dX10_evaluate_111 rfl (lv_at hl 1 rfl) ?_
              refine lv_ldc2 (v := (4294967299 : Int64)) hx hb hown (hW _ kcX10_297) dX10_evaluate_112 ?_
              refine lq_ne (tgt := 128) hx hb dX10_evaluate_115 dX10_evaluate_116 (by decide) (fun hc => ?_) (fun hc => ?_)
              · have h := h.2 hc
                refine lv_lload_n hx hb dX10_evaluate_128 rfl (lv_at hl 1 rfl) ?_
                refine lv_ldc2 (v := (4294967300 : Int64)) hx hb hown (hW _ kcX10_302) dX10_evaluate_129 ?_
                refine lq_ne (tgt := 243) hx hb dX10_evaluate_132 dX10_evaluate_133 (by decide) (fun hc => ?_) (fun hc => ?_)
                · have h := h.2 hc
                  refine lv_lload hx hb dX10_evaluate_243 (lv_at hl 0 rfl) ?_
                  refine lv_ldc2 (v := (4294967296 : Int64)) hx hb hown (hW _ kcX10_199) dX10_evaluate_245 ?_
                  refine lq_ne (tgt := 270) hx hb dX10_evaluate_248 dX10_evaluate_249 (by decide) (fun hc => ?_) (fun hc => ?_)
                  · have h := h.2 hc
                    refine lv_lload hx hb dX10_evaluate_270 (lv_at hl 0 rfl) ?_
                    refine c0_i (As := [.long r9]) (rest := []) hx hb hml hown hW hP hS hA (t_X10_isPair l r9 _ h) kmX10_205 mwyX10_isPair ⟨⟨rfl, rfl⟩, Nat.le_of_ble_eq_true rfl, Nat.le_of_ble_eq_true rfl⟩ rfl hl.1 rfl (Nat.le_of_ble_eq_true rfl) dX10_evaluate_272 ⟨Nat.zero_le _, Nat.zero_le _⟩ (fun r11 H locs hP hS h => ?_)
                    refine lv_if_ne (tgt := 286) hx hb dX10_evaluate_275 (by decide) (fun hc => ?_) (fun hc => ?_)
                    · have h := h.2 hc
                      refine lv_aload_n hx hb dX10_evaluate_286 rfl (lv_at hl 3 rfl) ?_
                      refine lv_iconst (v := (0 : Int32)) hx hb dX10_evaluate_287 (by decide) ?_
                      refine lv_lload_n hx hb dX10_evaluate_288 rfl (lv_at hl 1 rfl) ?_
                      refine lv_aload_n hx hb dX10_evaluate_289 rfl (lv_at hl 3 rfl) ?_
                      refine lv_lload hx hb dX10_evaluate_290 (lv_at hl 0 rfl) ?_
                      refine cR_l (ci := 9) (q0 := 0) (As := [.long r9]) (rest := [.long r7, .int (0 : Int32), .ref (G.1 0)]) E hml hP hD hS hA (t_X10_behind l D G r9 u10 _ h) kmX10_216 mwyX10_behind rfl rfl ⟨⟨rfl, rfl⟩, Nat.le_of_ble_eq_true rfl, Nat.le_of_ble_eq_true rfl⟩ rfl hl.1 rfl (Nat.le_of_ble_eq_true rfl) dX10_evaluate_292 ⟨Nat.zero_le _, Nat.zero_le _⟩ (fun r12 u13 H locs hP hD hS h => ?_)
                      refine cR_i (ci := 9) (q0 := 0) (As := [.int (0 : Int32), .long r7, .long r12]) (rest := []) E hml hP hD hS hA (t_X10_waits l D G (0 : Int32) r7 r12 u13 _ h) kmX10_273 mwyX10_waits rfl rfl ⟨⟨rfl, rfl⟩, Nat.le_of_ble_eq_true rfl, Nat.le_of_ble_eq_true rfl⟩ rfl hl.1 rfl (Nat.le_of_ble_eq_true rfl) dX10_evaluate_295 ⟨Nat.zero_le _, Nat.zero_le _⟩ (fun r14 u15 H locs hP hD hS h => ?_)
                      refine lv_if_eq (tgt := 316) hx hb dX10_evaluate_298 (by decide) (fun hc => ?_) (fun hc => ?_)
                      · have h := h.1 hc
                        exact retR_v E hr hlk hP hD hS h dX10_evaluate_316
                      · have h := h.2 hc
                        refine lv_aload_n hx hb dX10_evaluate_301 rfl (lv_at hl 3 rfl) ?_
                        refine lv_iconst (v := (0 : Int32)) hx hb dX10_evaluate_302 (by decide) ?_
                        refine pR_39 E hP hD hS kfX10_132 dX10_evaluate_303 (fun H locs hP hD hS => ?_)
                        refine lv_aload_n hx hb dX10_evaluate_306 rfl (lv_at hl 3 rfl) ?_
                        refine lv_aload_n hx hb dX10_evaluate_307 rfl (lv_at hl 3 rfl) ?_
                        refine lv_lload hx hb dX10_evaluate_308 (lv_at hl 0 rfl) ?_
                        refine cR_l (ci := 9) (q0 := 0) (As := [.long r9]) (rest := [.ref (G.1 0)]) E hml hP hD hS hA (t_X10_first l D G r9 (sI u15 39 (0 : Int32)) _ h) kmX10_209 mwyX10_first rfl rfl ⟨⟨rfl, rfl⟩, Nat.le_of_ble_eq_true rfl, Nat.le_of_ble_eq_true rfl⟩ rfl hl.1 rfl (Nat.le_of_ble_eq_true rfl) dX10_evaluate_310 ⟨Nat.zero_le _, Nat.zero_le _⟩ (fun r16 u17 H locs hP hD hS h => ?_)
                        refine pR_40 E hP hD hS kfX10_135 dX10_evaluate_313 (fun H locs hP hD hS => ?_)
                        exact retR_v E hr hlk hP hD hS h dX10_evaluate_316
                    · have h := h.1 hc
                      refine lv_aload_n hx hb dX10_evaluate_278 rfl (lv_at hl 3 rfl) ?_
                      refine lv_iconst (v := (3 : Int32)) hx hb dX10_evaluate_279 (by decide) ?_
                      refine cR_v (ci := 9) (q0 := 0) (As := [.int (3 : Int32)]) (rest := []) E hml hP hD hS hA (t_X10_fails l D G (3 : Int32) u10 _ h) kmX10_265 mwyX10_fails rfl rfl ⟨⟨rfl, rfl⟩, Nat.le_of_ble_eq_true rfl, Nat.le_of_ble_eq_true rfl⟩ rfl hl.1 rfl (Nat.le_of_ble_eq_true rfl) dX10_evaluate_280 ⟨Nat.zero_le _, Nat.zero_le _⟩ (fun u18 H locs hP hD hS h => ?_)
                      refine lv_goto (tgt := 316) hx hb dX10_evaluate_283 (by decide) ?_
                      exact retR_v E hr hlk hP hD hS h dX10_evaluate_316
                  · have h := h.1 hc
                    refine lv_aload_n hx hb dX10_evaluate_252 rfl (lv_at hl 3 rfl) ?_
                    refine lv_iconst (v := (1 : Int32)) hx hb dX10_evaluate_253 (by decide) ?_
                    refine pR_39 E hP hD hS kfX10_132 dX10_evaluate_254 (fun H locs hP hD hS => ?_)
                    refine lv_aload_n hx hb dX10_evaluate_257 rfl (lv_at hl 3 rfl) ?_
                    refine lv_lload_n hx hb dX10_evaluate_258 rfl (lv_at hl 1 rfl) ?_
                    refine pR_40 E hP hD hS kfX10_135 dX10_evaluate_259 (fun H locs hP hD hS => ?_)
                    refine lv_aload_n hx hb dX10_evaluate_262 rfl (lv_at hl 3 rfl) ?_
                    refine lv_iconst (v := (0 : Int32)) hx hb dX10_evaluate_263 (by decide) ?_
                    refine pR_43 E hP hD hS kfX10_144 dX10_evaluate_264 (fun H locs hP hD hS => ?_)
                    refine lv_goto (tgt := 316) hx hb dX10_evaluate_267 (by decide) ?_
                    exact retR_v E hr hlk hP hD hS h dX10_evaluate_316
                · have h := h.1 hc
                  refine lv_aload_n hx hb dX10_evaluate_136 rfl (lv_at hl 3 rfl) ?_
                  refine lv_lload hx hb dX10_evaluate_137 (lv_at hl 0 rfl) ?_
                  refine lv_iconst (v := (2 : Int32)) hx hb dX10_evaluate_139 (by decide) ?_
                  refine cR_i (ci := 9) (q0 := 0) (As := [.long r9, .int (2 : Int32)]) (rest := []) E hml hP hD hS hA (t_X10_listOf l D G r9 (2 : Int32) u10 _ h) kmX10_269 mwyX10_listOf rfl rfl ⟨⟨rfl, rfl⟩, Nat.le_of_ble_eq_true rfl, Nat.le_of_ble_eq_true rfl⟩ rfl hl.1 rfl (Nat.le_of_ble_eq_true rfl) dX10_evaluate_140 ⟨Nat.zero_le _, Nat.zero_le _⟩ (fun r19 u20 H locs hP hD hS h => ?_)
                  refine lv_if_eq (tgt := 188) hx hb dX10_evaluate_143 (by decide) (fun hc => ?_) (fun hc => ?_)
                  · have h := h.1 hc
                    refine lv_iconst (v := (0 : Int32)) hx hb dX10_evaluate_188 (by decide) ?_
                    refine lv_istore (lv' := [(7, .int (0 : Int32)), (5, .long r9), (3, .long r7), (1, .long (gJ u2 40)), (0, .ref (G.1 0))]) hx hb dX10_evaluate_189 hl (by decide) rfl (fun ls hl => ?_)
                    refine lv_iload hx hb dX10_evaluate_191 (lv_at hl 0 rfl) ?_
                    refine lv_if_eq (tgt := 235) hx hb dX10_evaluate_193 (by decide) (fun _ => ?_) (fun hc => absurd (by decide) hc)
                    refine lv_aload_n hx hb dX10_evaluate_235 rfl (lv_at hl 4 rfl) ?_
                    refine lv_iconst (v := (3 : Int32)) hx hb dX10_evaluate_236 (by decide) ?_
                    refine cR_v (ci := 9) (q0 := 0) (As := [.int (3 : Int32)]) (rest := []) E hml hP hD hS hA (t_X10_fails l D G (3 : Int32) u20 _ h) kmX10_265 mwyX10_fails rfl rfl ⟨⟨rfl, rfl⟩, Nat.le_of_ble_eq_true rfl, Nat.le_of_ble_eq_true rfl⟩ rfl hl.1 rfl (Nat.le_of_ble_eq_true rfl) dX10_evaluate_237 ⟨Nat.zero_le _, Nat.zero_le _⟩ (fun u21 H locs hP hD hS h => ?_)
                    refine lv_goto (tgt := 316) hx hb dX10_evaluate_240 (by decide) ?_
                    exact retR_v E hr hlk hP hD hS h dX10_evaluate_316
                  · have h := h.2 hc
                    refine lv_aload_n hx hb dX10_evaluate_146 rfl (lv_at hl 3 rfl) ?_
                    refine lv_lload hx hb dX10_evaluate_147 (lv_at hl 0 rfl) ?_
                    refine cR_l (ci := 9) (q0 := 0) (As := [.long r9]) (rest := []) E hml hP hD hS hA (t_X10_first l D G r9 u20 _ h) kmX10_209 mwyX10_first rfl rfl ⟨⟨rfl, rfl⟩, Nat.le_of_ble_eq_true rfl, Nat.le_of_ble_eq_true rfl⟩ rfl hl.1 rfl (Nat.le_of_ble_eq_true rfl) dX10_evaluate_149 ⟨Nat.zero_le _, Nat.zero_le _⟩ (fun r22 u23 H locs hP hD hS h => ?_)
                    refine c0_i (As := [.long r22]) (rest := []) hx hb hml hown hW hP hS hA (t_X10_isName l r22 _ h) kmX10_289 mwyX10_isName ⟨⟨rfl, rfl⟩, Nat.le_of_ble_eq_true rfl, Nat.le_of_ble_eq_true rfl⟩ rfl hl.1 rfl (Nat.le_of_ble_eq_true rfl) dX10_evaluate_152 ⟨Nat.zero_le _, Nat.zero_le _⟩ (fun r24 H locs hP hS h => ?_)
                    refine lv_if_eq (tgt := 188) hx hb dX10_evaluate_155 (by decide) (fun hc => ?_) (fun hc => ?_)
                    · have h := h.1 hc
                      refine lv_iconst (v := (0 : Int32)) hx hb dX10_evaluate_188 (by decide) ?_
                      refine lv_istore (lv' := [(7, .int (0 : Int32)), (5, .long r9), (3, .long r7), (1, .long (gJ u2 40)), (0, .ref (G.1 0))]) hx hb dX10_evaluate_189 hl (by decide) rfl (fun ls hl => ?_)
                      refine lv_iload hx hb dX10_evaluate_191 (lv_at hl 0 rfl) ?_
                      refine lv_if_eq (tgt := 235) hx hb dX10_evaluate_193 (by decide) (fun _ => ?_) (fun hc => absurd (by decide) hc)
                      refine lv_aload_n hx hb dX10_evaluate_235 rfl (lv_at hl 4 rfl) ?_
                      refine lv_iconst (v := (3 : Int32)) hx hb dX10_evaluate_236 (by decide) ?_
                      refine cR_v (ci := 9) (q0 := 0) (As := [.int (3 : Int32)]) (rest := []) E hml hP hD hS hA (t_X10_fails l D G (3 : Int32) u23 _ h) kmX10_265 mwyX10_fails rfl rfl ⟨⟨rfl, rfl⟩, Nat.le_of_ble_eq_true rfl, Nat.le_of_ble_eq_true rfl⟩ rfl hl.1 rfl (Nat.le_of_ble_eq_true rfl) dX10_evaluate_237 ⟨Nat.zero_le _, Nat.zero_le _⟩ (fun u25 H locs hP hD hS h => ?_)
                      refine lv_goto (tgt := 316) hx hb dX10_evaluate_240 (by decide) ?_
                      exact retR_v E hr hlk hP hD hS h dX10_evaluate_316
                    · have h := h.2 hc
                      refine lv_aload_n hx hb dX10_evaluate_158 rfl (lv_at hl 3 rfl) ?_
                      refine lv_lload hx hb dX10_evaluate_159 (lv_at hl 0 rfl) ?_
                      refine cR_l (ci := 9) (q0 := 0) (As := [.long r9]) (rest := []) E hml hP hD hS hA (t_X10_first l D G r9 u23 _ h) kmX10_209 mwyX10_first rfl rfl ⟨⟨rfl, rfl⟩, Nat.le_of_ble_eq_true rfl, Nat.le_of_ble_eq_true rfl⟩ rfl hl.1 rfl (Nat.le_of_ble_eq_true rfl) dX10_evaluate_161 ⟨Nat.zero_le _, Nat.zero_le _⟩ (fun r26 u27 H locs hP hD hS h => ?_)
                      refine lv_ldc2 (v := (4294967296 : Int64)) hx hb hown (hW _ kcX10_199) dX10_evaluate_164 ?_
                      refine lq_eq (tgt := 188) hx hb dX10_evaluate_167 dX10_evaluate_168 (by decide) (fun hc => ?_) (fun hc => ?_)
                      · have h := h.1 hc
                        refine lv_iconst (v := (0 : Int32)) hx hb dX10_evaluate_188 (by decide) ?_
                        refine lv_istore (lv' := [(7, .int (0 : Int32)), (5, .long r9), (3, .long r7), (1, .long (gJ u2 40)), (0, .ref (G.1 0))]) hx hb dX10_evaluate_189 hl (by decide) rfl (fun ls hl => ?_)
                        refine lv_iload hx hb dX10_evaluate_191 (lv_at hl 0 rfl) ?_
                        refine lv_if_eq (tgt := 235) hx hb dX10_evaluate_193 (by decide) (fun _ => ?_) (fun hc => absurd (by decide) hc)
                        refine lv_aload_n hx hb dX10_evaluate_235 rfl (lv_at hl 4 rfl) ?_
                        refine lv_iconst (v := (3 : Int32)) hx hb dX10_evaluate_236 (by decide) ?_
                        refine cR_v (ci := 9) (q0 := 0) (As := [.int (3 : Int32)]) (rest := []) E hml hP hD hS hA (t_X10_fails l D G (3 : Int32) u27 _ h) kmX10_265 mwyX10_fails rfl rfl ⟨⟨rfl, rfl⟩, Nat.le_of_ble_eq_true rfl, Nat.le_of_ble_eq_true rfl⟩ rfl hl.1 rfl (Nat.le_of_ble_eq_true rfl) dX10_evaluate_237 ⟨Nat.zero_le _, Nat.zero_le _⟩ (fun u28 H locs hP hD hS h => ?_)
                        refine lv_goto (tgt := 316) hx hb dX10_evaluate_240 (by decide) ?_
                        exact retR_v E hr hlk hP hD hS h dX10_evaluate_316
                      · have h := h.2 hc
                        refine lv_aload_n hx hb dX10_evaluate_171 rfl (lv_at hl 3 rfl) ?_
                        refine lv_lload hx hb dX10_evaluate_172 (lv_at hl 0 rfl) ?_
                        refine cR_l (ci := 9) (q0 := 0) (As := [.long r9]) (rest := []) E hml hP hD hS hA (t_X10_first l D G r9 u27 _ h) kmX10_209 mwyX10_first rfl rfl ⟨⟨rfl, rfl⟩, Nat.le_of_ble_eq_true rfl, Nat.le_of_ble_eq_true rfl⟩ rfl hl.1 rfl (Nat.le_of_ble_eq_true rfl) dX10_evaluate_174 ⟨Nat.zero_le _, Nat.zero_le _⟩ (fun r29 u30 H locs hP hD hS h => ?_)
                        refine lv_ldc2 (v := (4294967297 : Int64)) hx hb hown (hW _ kcX10_284) dX10_evaluate_177 ?_
                        refine lq_eq (tgt := 188) hx hb dX10_evaluate_180 dX10_evaluate_181 (by decide) (fun hc => ?_) (fun hc => ?_)
                        · have h := h.1 hc
                          refine lv_iconst (v := (0 : Int32)) hx hb dX10_evaluate_188 (by decide) ?_
                          refine lv_istore (lv' := [(7, .int (0 : Int32)), (5, .long r9), (3, .long r7), (1, .long (gJ u2 40)), (0, .ref (G.1 0))]) hx hb dX10_evaluate_189 hl (by decide) rfl (fun ls hl => ?_)
                          refine lv_iload hx hb dX10_evaluate_191 (lv_at hl 0 rfl) ?_
                          refine lv_if_eq (tgt := 235) hx hb dX10_evaluate_193 (by decide) (fun _ => ?_) (fun hc => absurd (by decide) hc)
                          refine lv_aload_n hx hb dX10_evaluate_235 rfl (lv_at hl 4 rfl) ?_
                          refine lv_iconst (v := (3 : Int32)) hx hb dX10_evaluate_236 (by decide) ?_
                          refine cR_v (ci := 9) (q0 := 0) (As := [.int (3 : Int32)]) (rest := []) E hml hP hD hS hA (t_X10_fails l D G (3 : Int32) u30 _ h) kmX10_265 mwyX10_fails rfl rfl ⟨⟨rfl, rfl⟩, Nat.le_of_ble_eq_true rfl, Nat.le_of_ble_eq_true rfl⟩ rfl hl.1 rfl (Nat.le_of_ble_eq_true rfl) dX10_evaluate_237 ⟨Nat.zero_le _, Nat.zero_le _⟩ (fun u31 H locs hP hD hS h => ?_)
                          refine lv_goto (tgt := 316) hx hb dX10_evaluate_240 (by decide) ?_
                          exact retR_v E hr hlk hP hD hS h dX10_evaluate_316
                        · have h := h.2 hc
                          refine lv_iconst (v := (1 : Int32)) hx hb dX10_evaluate_184 (by decide) ?_
                          refine lv_goto (tgt := 189) hx hb dX10_evaluate_185 (by decide) ?_
                          refine lv_istore (lv' := [(7, .int (1 : Int32)), (5, .long r9), (3, .long r7), (1, .long (gJ u2 40)), (0, .ref (G.1 0))]) hx hb dX10_evaluate_189 hl (by decide) rfl (fun ls hl => ?_)
                          refine lv_iload hx hb dX10_evaluate_191 (lv_at hl 0 rfl) ?_
                          refine lv_if_eq (tgt := 235) hx hb dX10_evaluate_193 (by decide) (fun hc => absurd hc (by decide)) (fun _ => ?_)
                          refine lv_aload_n hx hb dX10_evaluate_196 rfl (lv_at hl 4 rfl) ?_
                          refine gR_20 E hP kfX10_73 dX10_evaluate_197 ?_
                          refine lv_aload_n hx hb dX10_evaluate_200 rfl (lv_at hl 4 rfl) ?_
                          refine lv_lload hx hb dX10_evaluate_201 (lv_at hl 1 rfl) ?_
                          refine cR_l (ci := 9) (q0 := 0) (As := [.long r9]) (rest := [.ref (G.1 8)]) E hml hP hD hS hA (t_X10_first l D G r9 u30 _ h) kmX10_209 mwyX10_first rfl rfl ⟨⟨rfl, rfl⟩, Nat.le_of_ble_eq_true rfl, Nat.le_of_ble_eq_true rfl⟩ rfl hl.1 rfl (Nat.le_of_ble_eq_true rfl) dX10_evaluate_203 ⟨Nat.zero_le _, Nat.zero_le _⟩ (fun r32 u33 H locs hP hD hS h => ?_)
                          refine lv_ldc2 (v := (4294967296 : Int64)) hx hb hown (hW _ kcX10_199) dX10_evaluate_206 ?_
                          refine lv_lsub hx hb dX10_evaluate_209 ?_
                          refine lv_l2i (v := ((r32 - (4294967296 : Int64))).toInt32) hx hb dX10_evaluate_210 rfl ?_
                          refine lv_aload_n hx hb dX10_evaluate_211 rfl (lv_at hl 4 rfl) ?_
                          refine lv_aload_n hx hb dX10_evaluate_212 rfl (lv_at hl 4 rfl) ?_
                          refine lv_lload hx hb dX10_evaluate_213 (lv_at hl 1 rfl) ?_
                          refine cR_l (ci := 9) (q0 := 0) (As := [.long r9]) (rest := [.ref (G.1 0), .int ((r32 - (4294967296 : Int64))).toInt32, .ref (G.1 8)]) E hml hP hD hS hA (t_X10_behind l D G r9 u33 _ h) kmX10_216 mwyX10_behind rfl rfl ⟨⟨rfl, rfl⟩, Nat.le_of_ble_eq_true rfl, Nat.le_of_ble_eq_true rfl⟩ rfl hl.1 rfl (Nat.le_of_ble_eq_true rfl) dX10_evaluate_215 ⟨Nat.zero_le _, Nat.zero_le _⟩ (fun r34 u35 H locs hP hD hS h => ?_)
                          refine cR_l (ci := 9) (q0 := 0) (As := [.long r34]) (rest := [.int ((r32 - (4294967296 : Int64))).toInt32, .ref (G.1 8)]) E hml hP hD hS hA (t_X10_first l D G r34 u35 _ h) kmX10_209 mwyX10_first rfl rfl ⟨⟨rfl, rfl⟩, Nat.le_of_ble_eq_true rfl, Nat.le_of_ble_eq_true rfl⟩ rfl hl.1 rfl (Nat.le_of_ble_eq_true rfl) dX10_evaluate_218 ⟨Nat.zero_le _, Nat.zero_le _⟩ (fun r36 u37 H locs hP hD hS h => ?_)
                          obtain ⟨h9, h⟩ := h
                          refine yR_20 E hP hD hS h9 (f := (gB u37 20)) rfl dX10_evaluate_221 (fun H locs hP hD hS => ?_)
                          refine lv_aload_n hx hb dX10_evaluate_222 rfl (lv_at hl 4 rfl) ?_
                          refine lv_aload_n hx hb dX10_evaluate_223 rfl (lv_at hl 4 rfl) ?_
                          refine lv_lload hx hb dX10_evaluate_224 (lv_at hl 1 rfl) ?_
                          refine cR_l (ci := 9) (q0 := 0) (As := [.long r9]) (rest := [.ref (G.1 0)]) E hml hP hD hS hA (t_X10_first l D G r9 (sB u37 20 (vp_updL (gB u37 20) (((r32 - (4294967296 : Int64))).toInt32).toNatClampNeg r36)) _ h) kmX10_209 mwyX10_first rfl rfl ⟨⟨rfl, rfl⟩, Nat.le_of_ble_eq_true rfl, Nat.le_of_ble_eq_true rfl⟩ rfl hl.1 rfl (Nat.le_of_ble_eq_true rfl) dX10_evaluate_226 ⟨Nat.zero_le _, Nat.zero_le _⟩ (fun r38 u39 H locs hP hD hS h => ?_)
                          refine cR_v (ci := 9) (q0 := 0) (As := [.long r38]) (rest := []) E hml hP hD hS hA (t_X10_gives l D G r38 u39 _ h) kmX10_286 mwyX10_gives rfl rfl ⟨⟨rfl, rfl⟩, Nat.le_of_ble_eq_true rfl, Nat.le_of_ble_eq_true rfl⟩ rfl hl.1 rfl (Nat.le_of_ble_eq_true rfl) dX10_evaluate_229 ⟨Nat.zero_le _, Nat.zero_le _⟩ (fun u40 H locs hP hD hS h => ?_)
                          refine lv_goto (tgt := 240) hx hb dX10_evaluate_232 (by decide) ?_
                          refine lv_goto (tgt := 316) hx hb dX10_evaluate_240 (by decide) ?_
                          exact retR_v E hr hlk hP hD hS h dX10_evaluate_316
              · have h := h.1 hc
                refine lv_aload_n hx hb dX10_evaluate_119 rfl (lv_at hl 3 rfl) ?_
                refine lv_lload hx hb dX10_evaluate_120 (lv_at hl 0 rfl) ?_
                refine cR_v (ci := 9) (q0 := 0) (As := [.long r9]) (rest := []) E hml hP hD hS hA (t_X10_condition l D G r9 u10 _ h) kmX10_299 mwyX10_condition rfl rfl ⟨⟨rfl, rfl⟩, Nat.le_of_ble_eq_true rfl, Nat.le_of_ble_eq_true rfl⟩ rfl hl.1 rfl (Nat.le_of_ble_eq_true rfl) dX10_evaluate_122 ⟨Nat.zero_le _, Nat.zero_le _⟩ (fun u41 H locs hP hD hS h => ?_)
                refine lv_goto (tgt := 316) hx hb dX10_evaluate_125 (by decide) ?_
                exact retR_v E hr hlk hP hD hS h dX10_evaluate_316
            · have h := h.1 hc
              refine lv_aload_n hx hb dX10_evaluate_80 rfl (lv_at hl 3 rfl) ?_
              refine lv_lload hx hb dX10_evaluate_81 (lv_at hl 0 rfl) ?_
              refine lv_iconst (v := (1 : Int32)) hx hb dX10_evaluate_83 (by decide) ?_
              refine cR_i (ci := 9) (q0 := 0) (As := [.long r9, .int (1 : Int32)]) (rest := []) E hml hP hD hS hA (t_X10_listOf l D G r9 (1 : Int32) u10 _ h) kmX10_269 mwyX10_listOf rfl rfl ⟨⟨rfl, rfl⟩, Nat.le_of_ble_eq_true rfl, Nat.le_of_ble_eq_true rfl⟩ rfl hl.1 rfl (Nat.le_of_ble_eq_true rfl) dX10_evaluate_84 ⟨Nat.zero_le _, Nat.zero_le _⟩ (fun r42 u43 H locs hP hD hS h => ?_)
              refine lv_if_eq (tgt := 103) hx hb dX10_evaluate_87 (by decide) (fun hc => ?_) (fun hc => ?_)
              · have h := h.1 hc
                refine lv_aload_n hx hb dX10_evaluate_103 rfl (lv_at hl 3 rfl) ?_
                refine lv_iconst (v := (3 : Int32)) hx hb dX10_evaluate_104 (by decide) ?_
                refine cR_v (ci := 9) (q0 := 0) (As := [.int (3 : Int32)]) (rest := []) E hml hP hD hS hA (t_X10_fails l D G (3 : Int32) u43 _ h) kmX10_265 mwyX10_fails rfl rfl ⟨⟨rfl, rfl⟩, Nat.le_of_ble_eq_true rfl, Nat.le_of_ble_eq_true rfl⟩ rfl hl.1 rfl (Nat.le_of_ble_eq_true rfl) dX10_evaluate_105 ⟨Nat.zero_le _, Nat.zero_le _⟩ (fun u44 H locs hP hD hS h => ?_)
                refine lv_goto (tgt := 316) hx hb dX10_evaluate_108 (by decide) ?_
                exact retR_v E hr hlk hP hD hS h dX10_evaluate_316
              · have h := h.2 hc
                refine lv_aload_n hx hb dX10_evaluate_90 rfl (lv_at hl 3 rfl) ?_
                refine lv_aload_n hx hb dX10_evaluate_91 rfl (lv_at hl 3 rfl) ?_
                refine lv_lload hx hb dX10_evaluate_92 (lv_at hl 0 rfl) ?_
                refine cR_l (ci := 9) (q0 := 0) (As := [.long r9]) (rest := [.ref (G.1 0)]) E hml hP hD hS hA (t_X10_first l D G r9 u43 _ h) kmX10_209 mwyX10_first rfl rfl ⟨⟨rfl, rfl⟩, Nat.le_of_ble_eq_true rfl, Nat.le_of_ble_eq_true rfl⟩ rfl hl.1 rfl (Nat.le_of_ble_eq_true rfl) dX10_evaluate_94 ⟨Nat.zero_le _, Nat.zero_le _⟩ (fun r45 u46 H locs hP hD hS h => ?_)
                refine cR_v (ci := 9) (q0 := 0) (As := [.long r45]) (rest := []) E hml hP hD hS hA (t_X10_gives l D G r45 u46 _ h) kmX10_286 mwyX10_gives rfl rfl ⟨⟨rfl, rfl⟩, Nat.le_of_ble_eq_true rfl, Nat.le_of_ble_eq_true rfl⟩ rfl hl.1 rfl (Nat.le_of_ble_eq_true rfl) dX10_evaluate_97 ⟨Nat.zero_le _, Nat.zero_le _⟩ (fun u47 H locs hP hD hS h => ?_)
                refine lv_goto (tgt := 316) hx hb dX10_evaluate_100 (by decide) ?_
                exact retR_v E hr hlk hP hD hS h dX10_evaluate_316
          · have h := h.2 hc
            refine lv_aload_n hx hb dX10_evaluate_49 rfl (lv_at hl 1 rfl) ?_
            refine lv_aload_n hx hb dX10_evaluate_50 rfl (lv_at hl 1 rfl) ?_
            refine lv_lload_n hx hb dX10_evaluate_51 rfl (lv_at hl 0 rfl) ?_
            refine cR_l (ci := 9) (q0 := 0) (As := [.long (gJ u2 40)]) (rest := [.ref (G.1 0)]) E hml hP hD hS hA (t_X10_lookUp l D G (gJ u2 40) u2 _ h) kmX10_292 mwyX10_lookUp rfl rfl ⟨⟨rfl, rfl⟩, Nat.le_of_ble_eq_true rfl, Nat.le_of_ble_eq_true rfl⟩ rfl hl.1 rfl (Nat.le_of_ble_eq_true rfl) dX10_evaluate_52 ⟨Nat.zero_le _, Nat.zero_le _⟩ (fun r48 u49 H locs hP hD hS h => ?_)
            refine cR_v (ci := 9) (q0 := 0) (As := [.long r48]) (rest := []) E hml hP hD hS hA (t_X10_gives l D G r48 u49 _ h) kmX10_286 mwyX10_gives rfl rfl ⟨⟨rfl, rfl⟩, Nat.le_of_ble_eq_true rfl, Nat.le_of_ble_eq_true rfl⟩ rfl hl.1 rfl (Nat.le_of_ble_eq_true rfl) dX10_evaluate_55 ⟨Nat.zero_le _, Nat.zero_le _⟩ (fun u50 H locs hP hD hS h => ?_)
            exact retR_v E hr hlk hP hD hS h dX10_evaluate_58
        · have h := h.1 hc
          refine lv_aload_n hx hb dX10_evaluate_36 rfl (lv_at hl 1 rfl) ?_
          refine lv_lload_n hx hb dX10_evaluate_37 rfl (lv_at hl 0 rfl) ?_
          refine cR_v (ci := 9) (q0 := 0) (As := [.long (gJ u2 40)]) (rest := []) E hml hP hD hS hA (t_X10_gives l D G (gJ u2 40) u2 _ h) kmX10_286 mwyX10_gives rfl rfl ⟨⟨rfl, rfl⟩, Nat.le_of_ble_eq_true rfl, Nat.le_of_ble_eq_true rfl⟩ rfl hl.1 rfl (Nat.le_of_ble_eq_true rfl) dX10_evaluate_38 ⟨Nat.zero_le _, Nat.zero_le _⟩ (fun u51 H locs hP hD hS h => ?_)
          exact retR_v E hr hlk hP hD hS h dX10_evaluate_41
  · have h := h.1 hc
    exact retR_v E hr hlk hP hD hS h dX10_evaluate_7
def l_X10_evaluateAll_22  (K : St → Prop) : Nat → St → Prop
  | 0, _ => False
  | n + 1, u => (((gI u 8) = 0 → (((gI u 39) = (2 : Int32) → (((gI u 32) ≤ 0 → K u) ∧ (¬ (gI u 32) ≤ 0 → (((gI u 39) = 0 → wp_X10_evaluate  u (fun (u6 : St) => l_X10_evaluateAll_22  K n u6)) ∧ (¬ (gI u 39) = 0 → (((gI u 39) = (1 : Int32) → wp_X10_apply  u (fun (u5 : St) => l_X10_evaluateAll_22  K n u5)) ∧ (¬ (gI u 39) = (1 : Int32) → wp_X10_back  u (fun (u4 : St) => l_X10_evaluateAll_22  K n u4)))))))) ∧ (¬ (gI u 39) = (2 : Int32) → (((gI u 39) = 0 → wp_X10_evaluate  u (fun (u3 : St) => l_X10_evaluateAll_22  K n u3)) ∧ (¬ (gI u 39) = 0 → (((gI u 39) = (1 : Int32) → wp_X10_apply  u (fun (u2 : St) => l_X10_evaluateAll_22  K n u2)) ∧ (¬ (gI u 39) = (1 : Int32) → wp_X10_back  u (fun (u1 : St) => l_X10_evaluateAll_22  K n u1)))))))) ∧ (¬ (gI u 8) = 0 → K u))
def wp_X10_evaluateAll (p0 : Int64) (u : St) (Q : St → Prop) : Prop := (∃ k8 : Nat, l_X10_evaluateAll_22   (fun (u7 : St) => Q u7) k8  (sJ (sJ (sI (sI u 32 (0 : Int32)) 39 (0 : Int32)) 40 p0) 41 (4294967296 : Int64)))
abbrev rm_X10_evaluateAll : Room := { frames := 8, cells := 0, slots := 0, locals := 185 }
set_option maxHeartbeats 4000000 in
set_option maxRecDepth 100000 in
theorem t_X10_evaluateAll (l : Launch) (D : va_G) (G : Gd) (p0 : Int64) (u : St) (Q : St → Prop) (h : wp_X10_evaluateAll p0 u Q) : MRv l D G yX10_evaluateAll cX10_evaluateAll 3 none rm_X10_evaluateAll [.ref (G.1 0), .long p0] u Q := by
  refine startR_v (by decide) ?_
  intro p e s m args below meth c E hr hlk hml hP hD hS hA
  have hx := E.1
  have hb := E.2.1
  have hown := E.2.2.1
  have hW := E.2.2.2.1
  have hl := lv_entry ([.ref (G.1 0), .long p0]) (n := 3) (Nat.le_of_ble_eq_true rfl)
  rw [lg_entry_eq]
  generalize (lg_sl ([.ref (G.1 0), .long p0]) ++ List.replicate (3 - (lg_sl ([.ref (G.1 0), .long p0])).length) Slot.unset).toArray = ls at hl ⊢
  have hl : lv_has ls 3 [(0, .ref (G.1 0)), (1, .long p0)] := hl
  have L_22 : ∀  (K : St → Prop), (∀  (u : St) (H : Heap) (locs : List Loc) (ls : Array Slot), K  u → va_P D vwCl (wR G u) H → va_D (AR G s.heap.size) (wR G u) → va_S (AR G s.heap.size) s.heap H locs → lv_has ls 3 [] → W p l e rm_X10_evaluateAll s m args below meth c H locs 0 0 (MQ below (va_Qv Q (BR D G s.heap.size) (AR G s.heap.size)) args s 0 0 (AR G s.heap.size)) (F0 m 80 ls [])) → ∀ (n : Nat)  (u : St) (H : Heap) (locs : List Loc) (ls : Array Slot), l_X10_evaluateAll_22  K n  u → va_P D vwCl (wR G u) H → va_D (AR G s.heap.size) (wR G u) → va_S (AR G s.heap.size) s.heap H locs → lv_has ls 3 [(0, .ref (G.1 0))] → W p l e rm_X10_evaluateAll s m args below meth c H locs 0 0 (MQ below (va_Qv Q (BR D G s.heap.size) (AR G s.heap.size)) args s 0 0 (AR G s.heap.size)) (F0 m 22 ls []) := by
    intro  K hK n
    induction n with
    | zero => intro  u H locs ls h; exact False.elim h
    | succ n ih =>
      intro  u H locs ls h hP hD hS hl
      unfold l_X10_evaluateAll_22 at h
      refine lv_aload_n hx hb dX10_evaluateAll_22 rfl (lv_at hl 0 rfl) ?_
      refine gR_8 E hP kfX10_35 (v := (gI u 8)) rfl dX10_evaluateAll_23 ?_
      refine lv_if_ne (tgt := 80) hx hb dX10_evaluateAll_26 (by decide) (fun hc => ?_) (fun hc => ?_)
      · have h := h.2 hc
        exact hK u _ _ _ h hP hD hS (lv_sub hl [] rfl)
      · have h := h.1 hc
        refine lv_aload_n hx hb dX10_evaluateAll_29 rfl (lv_at hl 0 rfl) ?_
        refine gR_39 E hP kfX10_132 (v := (gI u 39)) rfl dX10_evaluateAll_30 ?_
        refine lv_iconst (v := (2 : Int32)) hx hb dX10_evaluateAll_33 (by decide) ?_
        refine lv_icmp_ne (tgt := 44) hx hb dX10_evaluateAll_34 (by decide) (fun hc => ?_) (fun hc => ?_)
        · have h := h.2 hc
          refine lv_aload_n hx hb dX10_evaluateAll_44 rfl (lv_at hl 0 rfl) ?_
          refine gR_39 E hP kfX10_132 (v := (gI u 39)) rfl dX10_evaluateAll_45 ?_
          refine lv_if_ne (tgt := 58) hx hb dX10_evaluateAll_48 (by decide) (fun hc => ?_) (fun hc => ?_)
          · have h := h.2 hc
            refine lv_aload_n hx hb dX10_evaluateAll_58 rfl (lv_at hl 0 rfl) ?_
            refine gR_39 E hP kfX10_132 (v := (gI u 39)) rfl dX10_evaluateAll_59 ?_
            refine lv_iconst (v := (1 : Int32)) hx hb dX10_evaluateAll_62 (by decide) ?_
            refine lv_icmp_ne (tgt := 73) hx hb dX10_evaluateAll_63 (by decide) (fun hc => ?_) (fun hc => ?_)
            · have h := h.2 hc
              refine lv_aload_n hx hb dX10_evaluateAll_73 rfl (lv_at hl 0 rfl) ?_
              refine cR_v (ci := 9) (q0 := 0) (As := []) (rest := []) E hml hP hD hS hA (t_X10_back l D G  u _ h) kmX10_335 mwyX10_back rfl rfl ⟨⟨rfl, rfl⟩, Nat.le_of_ble_eq_true rfl, Nat.le_of_ble_eq_true rfl⟩ rfl hl.1 rfl (Nat.le_of_ble_eq_true rfl) dX10_evaluateAll_74 ⟨Nat.zero_le _, Nat.zero_le _⟩ (fun u1 H locs hP hD hS h => ?_)
              refine lv_goto (tgt := 22) hx hb dX10_evaluateAll_77 (by decide) ?_
              exact ih u1 _ _ _ h hP hD hS (lv_sub hl [0] rfl)
            · have h := h.1 hc
              refine lv_aload_n hx hb dX10_evaluateAll_66 rfl (lv_at hl 0 rfl) ?_
              refine cR_v (ci := 9) (q0 := 0) (As := []) (rest := []) E hml hP hD hS hA (t_X10_apply l D G  u _ h) kmX10_332 mwyX10_apply rfl rfl ⟨⟨rfl, rfl⟩, Nat.le_of_ble_eq_true rfl, Nat.le_of_ble_eq_true rfl⟩ rfl hl.1 rfl (Nat.le_of_ble_eq_true rfl) dX10_evaluateAll_67 ⟨Nat.zero_le _, Nat.zero_le _⟩ (fun u2 H locs hP hD hS h => ?_)
              refine lv_goto (tgt := 22) hx hb dX10_evaluateAll_70 (by decide) ?_
              exact ih u2 _ _ _ h hP hD hS (lv_sub hl [0] rfl)
          · have h := h.1 hc
            refine lv_aload_n hx hb dX10_evaluateAll_51 rfl (lv_at hl 0 rfl) ?_
            refine cR_v (ci := 9) (q0 := 0) (As := []) (rest := []) E hml hP hD hS hA (t_X10_evaluate l D G  u _ h) kmX10_329 mwyX10_evaluate rfl rfl ⟨⟨rfl, rfl⟩, Nat.le_of_ble_eq_true rfl, Nat.le_of_ble_eq_true rfl⟩ rfl hl.1 rfl (Nat.le_of_ble_eq_true rfl) dX10_evaluateAll_52 ⟨Nat.zero_le _, Nat.zero_le _⟩ (fun u3 H locs hP hD hS h => ?_)
            refine lv_goto (tgt := 22) hx hb dX10_evaluateAll_55 (by decide) ?_
            exact ih u3 _ _ _ h hP hD hS (lv_sub hl [0] rfl)
        · have h := h.1 hc
          refine lv_aload_n hx hb dX10_evaluateAll_37 rfl (lv_at hl 0 rfl) ?_
          refine gR_32 E hP kfX10_111 (v := (gI u 32)) rfl dX10_evaluateAll_38 ?_
          refine lv_if_le (tgt := 80) hx hb dX10_evaluateAll_41 (by decide) (fun hc => ?_) (fun hc => ?_)
          · have h := h.1 hc
            exact hK u _ _ _ h hP hD hS (lv_sub hl [] rfl)
          · have h := h.2 hc
            refine lv_aload_n hx hb dX10_evaluateAll_44 rfl (lv_at hl 0 rfl) ?_
            refine gR_39 E hP kfX10_132 (v := (gI u 39)) rfl dX10_evaluateAll_45 ?_
            refine lv_if_ne (tgt := 58) hx hb dX10_evaluateAll_48 (by decide) (fun hc => ?_) (fun hc => ?_)
            · have h := h.2 hc
              refine lv_aload_n hx hb dX10_evaluateAll_58 rfl (lv_at hl 0 rfl) ?_
              refine gR_39 E hP kfX10_132 (v := (gI u 39)) rfl dX10_evaluateAll_59 ?_
              refine lv_iconst (v := (1 : Int32)) hx hb dX10_evaluateAll_62 (by decide) ?_
              refine lv_icmp_ne (tgt := 73) hx hb dX10_evaluateAll_63 (by decide) (fun hc => ?_) (fun hc => ?_)
              · have h := h.2 hc
                refine lv_aload_n hx hb dX10_evaluateAll_73 rfl (lv_at hl 0 rfl) ?_
                refine cR_v (ci := 9) (q0 := 0) (As := []) (rest := []) E hml hP hD hS hA (t_X10_back l D G  u _ h) kmX10_335 mwyX10_back rfl rfl ⟨⟨rfl, rfl⟩, Nat.le_of_ble_eq_true rfl, Nat.le_of_ble_eq_true rfl⟩ rfl hl.1 rfl (Nat.le_of_ble_eq_true rfl) dX10_evaluateAll_74 ⟨Nat.zero_le _, Nat.zero_le _⟩ (fun u4 H locs hP hD hS h => ?_)
                refine lv_goto (tgt := 22) hx hb dX10_evaluateAll_77 (by decide) ?_
                exact ih u4 _ _ _ h hP hD hS (lv_sub hl [0] rfl)
              · have h := h.1 hc
                refine lv_aload_n hx hb dX10_evaluateAll_66 rfl (lv_at hl 0 rfl) ?_
                refine cR_v (ci := 9) (q0 := 0) (As := []) (rest := []) E hml hP hD hS hA (t_X10_apply l D G  u _ h) kmX10_332 mwyX10_apply rfl rfl ⟨⟨rfl, rfl⟩, Nat.le_of_ble_eq_true rfl, Nat.le_of_ble_eq_true rfl⟩ rfl hl.1 rfl (Nat.le_of_ble_eq_true rfl) dX10_evaluateAll_67 ⟨Nat.zero_le _, Nat.zero_le _⟩ (fun u5 H locs hP hD hS h => ?_)
                refine lv_goto (tgt := 22) hx hb dX10_evaluateAll_70 (by decide) ?_
                exact ih u5 _ _ _ h hP hD hS (lv_sub hl [0] rfl)
            · have h := h.1 hc
              refine lv_aload_n hx hb dX10_evaluateAll_51 rfl (lv_at hl 0 rfl) ?_
              refine cR_v (ci := 9) (q0 := 0) (As := []) (rest := []) E hml hP hD hS hA (t_X10_evaluate l D G  u _ h) kmX10_329 mwyX10_evaluate rfl rfl ⟨⟨rfl, rfl⟩, Nat.le_of_ble_eq_true rfl, Nat.le_of_ble_eq_true rfl⟩ rfl hl.1 rfl (Nat.le_of_ble_eq_true rfl) dX10_evaluateAll_52 ⟨Nat.zero_le _, Nat.zero_le _⟩ (fun u6 H locs hP hD hS h => ?_)
              refine lv_goto (tgt := 22) hx hb dX10_evaluateAll_55 (by decide) ?_
              exact ih u6 _ _ _ h hP hD hS (lv_sub hl [0] rfl)
  unfold wp_X10_evaluateAll at h
  refine lv_aload_n hx hb dX10_evaluateAll_0 rfl (lv_at hl 0 rfl) ?_
  refine lv_iconst (v := (0 : Int32)) hx hb dX10_evaluateAll_1 (by decide) ?_
  refine pR_32 E hP hD hS kfX10_111 dX10_evaluateAll_2 (fun H locs hP hD hS => ?_)
  refine lv_aload_n hx hb dX10_evaluateAll_5 rfl (lv_at hl 0 rfl) ?_
  refine lv_iconst (v := (0 : Int32)) hx hb dX10_evaluateAll_6 (by decide) ?_
  refine pR_39 E hP hD hS kfX10_132 dX10_evaluateAll_7 (fun H locs hP hD hS => ?_)
  refine lv_aload_n hx hb dX10_evaluateAll_10 rfl (lv_at hl 0 rfl) ?_
  refine lv_lload_n hx hb dX10_evaluateAll_11 rfl (lv_at hl 1 rfl) ?_
  refine pR_40 E hP hD hS kfX10_135 dX10_evaluateAll_12 (fun H locs hP hD hS => ?_)
  refine lv_aload_n hx hb dX10_evaluateAll_15 rfl (lv_at hl 0 rfl) ?_
  refine lv_ldc2 (v := (4294967296 : Int64)) hx hb hown (hW _ kcX10_199) dX10_evaluateAll_16 ?_
  refine pR_41 E hP hD hS kfX10_138 dX10_evaluateAll_19 (fun H locs hP hD hS => ?_)
  obtain ⟨n, h⟩ := h
  refine L_22  _ (fun u7 H locs ls h hP hD hS hl => ?_) n  (sJ (sJ (sI (sI u 32 (0 : Int32)) 39 (0 : Int32)) 40 p0) 41 (4294967296 : Int64)) _ _ _ h hP hD hS (lv_sub hl [0] rfl)
  exact retR_v E hr hlk hP hD hS h dX10_evaluateAll_80
def l_X10_next_25  (K : St → Prop) : Nat → St → Prop
  | 0, _ => False
  | n + 1, u => (((gI u 5) ≤ (gI u 6) → K u) ∧ (¬ (gI u 5) ≤ (gI u 6) → vp_in (gI u 6) 2000 ∧ wp_X10_blank ((gA u 4) ((gI u 6)).toNatClampNeg) (fun (r1 : Int32) => ((r1 = 0 → K u) ∧ (¬ r1 = 0 → l_X10_next_25  K n (sI u 6 ((gI u 6) + (1 : Int32))))))))
def l_X10_next_170 (c2 : Int32) (K : St → Prop) : Nat → Int32 → St → Prop
  | 0, _, _ => False
  | n + 1, x3, u => (((gI u 23) ≤ x3 → K u) ∧ (¬ (gI u 23) ≤ x3 → vp_in x3 150 ∧ vp_in (gI u 21) 150 ∧ vp_in (gI u 21) 150 ∧ l_X10_next_170  c2 K n (x3 + (1 : Int32)) (sI (sB (sB u 19 (vp_updL (gB u 19) ((gI u 21)).toNatClampNeg ((gB u 22) (x3).toNatClampNeg))) 20 (vp_updL (gB u 20) ((gI u 21)).toNatClampNeg (-1 : Int64))) 21 ((gI u 21) + (1 : Int32)))))
def wp_X10_next  (u : St) (Q : Int32 → St → Prop) : Prop := (∃ k20 : Nat, l_X10_next_25   (fun (u2 : St) => (((gI u2 6) = (gI u2 5) → Q (0 : Int32) (sI u2 7 (gI u2 6))) ∧ (¬ (gI u2 6) = (gI u2 5) → wp_X10_readAll (0 : Int32) (gI u2 6) (sI (sI (sI u2 7 (gI u2 6)) 23 (0 : Int32)) 24 (0 : Int32)) (fun (r3 : Int32) (u4 : St) => ((0 ≤ r3 → (((gI u4 24) = 0 → (∃ k16 : Nat, l_X10_next_170  (gI u4 6) (fun (u5 : St) => wp_X10_holdGlobals  u5 (fun (u6 : St) => wp_X10_room (gI u6 30) u6 (fun (r7 : Int32) (u8 : St) => ((r7 = 0 → (((gI u8 8) = 0 → (((gI u8 8) = 0 → wp_X10_printAll (gJ u8 40) (sI u8 0 (0 : Int32)) (fun (u10 : St) => Q (1 : Int32) u10)) ∧ (¬ (gI u8 8) = 0 → Q (0 : Int32) (sI u8 0 (0 : Int32))))) ∧ (¬ (gI u8 8) = 0 → (((gI u8 8) = 0 → wp_X10_printAll (gJ u8 40) (sI u8 0 (2 : Int32)) (fun (u9 : St) => Q (1 : Int32) u9)) ∧ (¬ (gI u8 8) = 0 → Q (0 : Int32) (sI u8 0 (2 : Int32))))))) ∧ (¬ r7 = 0 → wp_X10_readAll (1 : Int32) (gI u4 6) u8 (fun (r11 : Int32) (u12 : St) => wp_X10_evaluateAll (gJ u12 31) u12 (fun (u13 : St) => (((gI u13 8) = 0 → (((gI u13 8) = 0 → wp_X10_printAll (gJ u13 40) (sI u13 0 (0 : Int32)) (fun (u15 : St) => Q (1 : Int32) u15)) ∧ (¬ (gI u13 8) = 0 → Q (0 : Int32) (sI u13 0 (0 : Int32))))) ∧ (¬ (gI u13 8) = 0 → (((gI u13 8) = 0 → wp_X10_printAll (gJ u13 40) (sI u13 0 (2 : Int32)) (fun (u14 : St) => Q (1 : Int32) u14)) ∧ (¬ (gI u13 8) = 0 → Q (0 : Int32) (sI u13 0 (2 : Int32))))))))))))) k16 (0 : Int32) (sI (sI u4 6 r3) 7 r3))) ∧ (¬ (gI u4 24) = 0 → wp_X10_fails (9 : Int32) (sI (sI u4 6 r3) 7 r3) (fun (u17 : St) => (((gI u17 8) = 0 → (((gI u17 8) = 0 → wp_X10_printAll (gJ u17 40) (sI u17 0 (0 : Int32)) (fun (u19 : St) => Q (1 : Int32) u19)) ∧ (¬ (gI u17 8) = 0 → Q (0 : Int32) (sI u17 0 (0 : Int32))))) ∧ (¬ (gI u17 8) = 0 → (((gI u17 8) = 0 → wp_X10_printAll (gJ u17 40) (sI u17 0 (2 : Int32)) (fun (u18 : St) => Q (1 : Int32) u18)) ∧ (¬ (gI u17 8) = 0 → Q (0 : Int32) (sI u17 0 (2 : Int32)))))))))) ∧ (¬ 0 ≤ r3 → Q (0 : Int32) (sI (sI (sI (sI u4 8 (10 : Int32)) 0 (1 : Int32)) 7 ((-1 : Int32) - r3)) 6 (gI u4 5)))))))) k20  (sI (sI (sI (sI (sI u 0 (0 : Int32)) 12 (0 : Int32)) 8 (0 : Int32)) 9 (0 : Int32)) 10 (0 : Int32)))
abbrev rm_X10_next : Room := { frames := 9, cells := 0, slots := 0, locals := 207 }
set_option maxHeartbeats 4000000 in
set_option maxRecDepth 100000 in
theorem t_X10_next (l : Launch) (D : va_G) (G : Gd)  (u : St) (Q : Int32 → St → Prop) (h : wp_X10_next  u Q) : MRi l D G yX10_next cX10_next 4 (some .int) rm_X10_next [.ref (G.1 0)] u Q := by
  refine startR_i (by decide) ?_
  intro p e s m args below meth c E hr hlk hml hP hD hS hA
  have hx := E.1
  have hb := E.2.1
  have hown := E.2.2.1
  have hW := E.2.2.2.1
  have hl := lv_entry ([.ref (G.1 0)]) (n := 4) (Nat.le_of_ble_eq_true rfl)
  rw [lg_entry_eq]
  generalize (lg_sl ([.ref (G.1 0)]) ++ List.replicate (4 - (lg_sl ([.ref (G.1 0)])).length) Slot.unset).toArray = ls at hl ⊢
  have hl : lv_has ls 4 [(0, .ref (G.1 0))] := hl
  have L_25 : ∀  (K : St → Prop), (∀  (u : St) (H : Heap) (locs : List Loc) (ls : Array Slot), K  u → va_P D vwCl (wR G u) H → va_D (AR G s.heap.size) (wR G u) → va_S (AR G s.heap.size) s.heap H locs → lv_has ls 4 [(0, .ref (G.1 0))] → W p l e rm_X10_next s m args below meth c H locs 0 0 (MQ below (va_Qi Q (BR D G s.heap.size) (AR G s.heap.size)) args s 0 0 (AR G s.heap.size)) (F0 m 64 ls [])) → ∀ (n : Nat)  (u : St) (H : Heap) (locs : List Loc) (ls : Array Slot), l_X10_next_25  K n  u → va_P D vwCl (wR G u) H → va_D (AR G s.heap.size) (wR G u) → va_S (AR G s.heap.size) s.heap H locs → lv_has ls 4 [(0, .ref (G.1 0))] → W p l e rm_X10_next s m args below meth c H locs 0 0 (MQ below (va_Qi Q (BR D G s.heap.size) (AR G s.heap.size)) args s 0 0 (AR G s.heap.size)) (F0 m 25 ls []) := by
    intro  K hK n
    induction n with
    | zero => intro  u H locs ls h; exact False.elim h
    | succ n ih =>
      intro  u H locs ls h hP hD hS hl
      unfold l_X10_next_25 at h
      refine lv_aload_n hx hb dX10_next_25 rfl (lv_at hl 0 rfl) ?_
      refine gR_6 E hP kfX10_29 (v := (gI u 6)) rfl dX10_next_26 ?_
      refine lv_aload_n hx hb dX10_next_29 rfl (lv_at hl 0 rfl) ?_
      refine gR_5 E hP kfX10_26 (v := (gI u 5)) rfl dX10_next_30 ?_
      refine lv_icmp_ge (tgt := 64) hx hb dX10_next_33 (by decide) (fun hc => ?_) (fun hc => ?_)
      · have h := h.1 hc
        exact hK u _ _ _ h hP hD hS (lv_sub hl [0] rfl)
      · have h := h.2 hc
        refine lv_aload_n hx hb dX10_next_36 rfl (lv_at hl 0 rfl) ?_
        refine gR_4 E hP kfX10_22 dX10_next_37 ?_
        refine lv_aload_n hx hb dX10_next_40 rfl (lv_at hl 0 rfl) ?_
        refine gR_6 E hP kfX10_29 (v := (gI u 6)) rfl dX10_next_41 ?_
        obtain ⟨h9, h⟩ := h
        refine xR_4 E hP h9 (v := ((gA u 4) ((gI u 6)).toNatClampNeg)) rfl dX10_next_44 ?_
        refine c0_i (As := [.int ((gA u 4) ((gI u 6)).toNatClampNeg)]) (rest := []) hx hb hml hown hW hP hS hA (t_X10_blank l ((gA u 4) ((gI u 6)).toNatClampNeg) _ h) kmX10_248 mwyX10_blank ⟨⟨rfl, rfl⟩, Nat.le_of_ble_eq_true rfl, Nat.le_of_ble_eq_true rfl⟩ rfl hl.1 rfl (Nat.le_of_ble_eq_true rfl) dX10_next_45 ⟨Nat.zero_le _, Nat.zero_le _⟩ (fun r1 H locs hP hS h => ?_)
        refine lv_if_eq (tgt := 64) hx hb dX10_next_48 (by decide) (fun hc => ?_) (fun hc => ?_)
        · have h := h.1 hc
          exact hK u _ _ _ h hP hD hS (lv_sub hl [0] rfl)
        · have h := h.2 hc
          refine lv_aload_n hx hb dX10_next_51 rfl (lv_at hl 0 rfl) ?_
          refine lv_dup hx hb dX10_next_52 rfl ?_
          refine gR_6 E hP kfX10_29 (v := (gI u 6)) rfl dX10_next_53 ?_
          refine lv_iconst (v := (1 : Int32)) hx hb dX10_next_56 (by decide) ?_
          refine lv_iadd hx hb dX10_next_57 ?_
          refine pR_6 E hP hD hS kfX10_29 dX10_next_58 (fun H locs hP hD hS => ?_)
          refine lv_goto (tgt := 25) hx hb dX10_next_61 (by decide) ?_
          exact ih (sI u 6 ((gI u 6) + (1 : Int32))) _ _ _ h hP hD hS (lv_sub hl [0] rfl)
  have L_170 : ∀ (c2 : Int32) (K : St → Prop), (∀  (u : St) (H : Heap) (locs : List Loc) (ls : Array Slot), K  u → va_P D vwCl (wR G u) H → va_D (AR G s.heap.size) (wR G u) → va_S (AR G s.heap.size) s.heap H locs → lv_has ls 4 [(0, .ref (G.1 0)), (2, .int c2)] → W p l e rm_X10_next s m args below meth c H locs 0 0 (MQ below (va_Qi Q (BR D G s.heap.size) (AR G s.heap.size)) args s 0 0 (AR G s.heap.size)) (F0 m 221 ls [])) → ∀ (n : Nat) (x3 : Int32) (u : St) (H : Heap) (locs : List Loc) (ls : Array Slot), l_X10_next_170  c2 K n x3 u → va_P D vwCl (wR G u) H → va_D (AR G s.heap.size) (wR G u) → va_S (AR G s.heap.size) s.heap H locs → lv_has ls 4 [(0, .ref (G.1 0)), (2, .int c2), (3, .int x3)] → W p l e rm_X10_next s m args below meth c H locs 0 0 (MQ below (va_Qi Q (BR D G s.heap.size) (AR G s.heap.size)) args s 0 0 (AR G s.heap.size)) (F0 m 170 ls []) := by
    intro c2 K hK n
    induction n with
    | zero => intro x3 u H locs ls h; exact False.elim h
    | succ n ih =>
      intro x3 u H locs ls h hP hD hS hl
      unfold l_X10_next_170 at h
      refine lv_iload_n hx hb dX10_next_170 rfl (lv_at hl 2 rfl) ?_
      refine lv_aload_n hx hb dX10_next_171 rfl (lv_at hl 0 rfl) ?_
      refine gR_23 E hP kfX10_82 (v := (gI u 23)) rfl dX10_next_172 ?_
      refine lv_icmp_ge (tgt := 221) hx hb dX10_next_175 (by decide) (fun hc => ?_) (fun hc => ?_)
      · have h := h.1 hc
        exact hK u _ _ _ h hP hD hS (lv_sub hl [0, 1] rfl)
      · have h := h.2 hc
        refine lv_aload_n hx hb dX10_next_178 rfl (lv_at hl 0 rfl) ?_
        refine gR_19 E hP kfX10_70 dX10_next_179 ?_
        refine lv_aload_n hx hb dX10_next_182 rfl (lv_at hl 0 rfl) ?_
        refine gR_21 E hP kfX10_76 (v := (gI u 21)) rfl dX10_next_183 ?_
        refine lv_aload_n hx hb dX10_next_186 rfl (lv_at hl 0 rfl) ?_
        refine gR_22 E hP kfX10_79 dX10_next_187 ?_
        refine lv_iload_n hx hb dX10_next_190 rfl (lv_at hl 2 rfl) ?_
        obtain ⟨h9, h⟩ := h
        refine xR_22 E hP h9 (v := ((gB u 22) (x3).toNatClampNeg)) rfl dX10_next_191 ?_
        obtain ⟨h9, h⟩ := h
        refine yR_19 E hP hD hS h9 (f := (gB u 19)) rfl dX10_next_192 (fun H locs hP hD hS => ?_)
        refine lv_aload_n hx hb dX10_next_193 rfl (lv_at hl 0 rfl) ?_
        refine gR_20 E hP kfX10_73 dX10_next_194 ?_
        refine lv_aload_n hx hb dX10_next_197 rfl (lv_at hl 0 rfl) ?_
        refine gR_21 E hP kfX10_76 (v := (gI u 21)) rfl dX10_next_198 ?_
        refine lv_ldc2 (v := (-1 : Int64)) hx hb hown (hW _ kcX10_197) dX10_next_201 ?_
        obtain ⟨h9, h⟩ := h
        refine yR_20 E hP hD hS h9 (f := (gB u 20)) rfl dX10_next_204 (fun H locs hP hD hS => ?_)
        refine lv_aload_n hx hb dX10_next_205 rfl (lv_at hl 0 rfl) ?_
        refine lv_dup hx hb dX10_next_206 rfl ?_
        refine gR_21 E hP kfX10_76 (v := (gI u 21)) rfl dX10_next_207 ?_
        refine lv_iconst (v := (1 : Int32)) hx hb dX10_next_210 (by decide) ?_
        refine lv_iadd hx hb dX10_next_211 ?_
        refine pR_21 E hP hD hS kfX10_76 dX10_next_212 (fun H locs hP hD hS => ?_)
        refine lv_iinc (v := (x3 + (1 : Int32))) (lv' := [(3, .int (x3 + (1 : Int32))), (0, .ref (G.1 0)), (2, .int c2)]) hx hb dX10_next_215 hl (k := 2) rfl rfl (by decide) rfl (fun ls hl => ?_)
        refine lv_goto (tgt := 170) hx hb dX10_next_218 (by decide) ?_
        exact ih (x3 + (1 : Int32)) (sI (sB (sB u 19 (vp_updL (gB u 19) ((gI u 21)).toNatClampNeg ((gB u 22) (x3).toNatClampNeg))) 20 (vp_updL (gB u 20) ((gI u 21)).toNatClampNeg (-1 : Int64))) 21 ((gI u 21) + (1 : Int32))) _ _ _ h hP hD hS (lv_sub hl [1, 2, 0] rfl)
  unfold wp_X10_next at h
  refine lv_aload_n hx hb dX10_next_0 rfl (lv_at hl 0 rfl) ?_
  refine lv_iconst (v := (0 : Int32)) hx hb dX10_next_1 (by decide) ?_
  refine pR_0 E hP hD hS kfX10_7 dX10_next_2 (fun H locs hP hD hS => ?_)
  refine lv_aload_n hx hb dX10_next_5 rfl (lv_at hl 0 rfl) ?_
  refine lv_iconst (v := (0 : Int32)) hx hb dX10_next_6 (by decide) ?_
  refine pR_12 E hP hD hS kfX10_47 dX10_next_7 (fun H locs hP hD hS => ?_)
  refine lv_aload_n hx hb dX10_next_10 rfl (lv_at hl 0 rfl) ?_
  refine lv_iconst (v := (0 : Int32)) hx hb dX10_next_11 (by decide) ?_
  refine pR_8 E hP hD hS kfX10_35 dX10_next_12 (fun H locs hP hD hS => ?_)
  refine lv_aload_n hx hb dX10_next_15 rfl (lv_at hl 0 rfl) ?_
  refine lv_iconst (v := (0 : Int32)) hx hb dX10_next_16 (by decide) ?_
  refine pR_9 E hP hD hS kfX10_38 dX10_next_17 (fun H locs hP hD hS => ?_)
  refine lv_aload_n hx hb dX10_next_20 rfl (lv_at hl 0 rfl) ?_
  refine lv_iconst (v := (0 : Int32)) hx hb dX10_next_21 (by decide) ?_
  refine pR_10 E hP hD hS kfX10_41 dX10_next_22 (fun H locs hP hD hS => ?_)
  obtain ⟨n, h⟩ := h
  refine L_25  _ (fun u2 H locs ls h hP hD hS hl => ?_) n  (sI (sI (sI (sI (sI u 0 (0 : Int32)) 12 (0 : Int32)) 8 (0 : Int32)) 9 (0 : Int32)) 10 (0 : Int32)) _ _ _ h hP hD hS (lv_sub hl [0] rfl)
  refine lv_aload_n hx hb dX10_next_64 rfl (lv_at hl 0 rfl) ?_
  refine lv_aload_n hx hb dX10_next_65 rfl (lv_at hl 0 rfl) ?_
  refine gR_6 E hP kfX10_29 (v := (gI u2 6)) rfl dX10_next_66 ?_
  refine pR_7 E hP hD hS kfX10_32 dX10_next_69 (fun H locs hP hD hS => ?_)
  refine lv_aload_n hx hb dX10_next_72 rfl (lv_at hl 0 rfl) ?_
  refine gR_6 E hP kfX10_29 (v := (gI u2 6)) rfl dX10_next_73 ?_
  refine lv_aload_n hx hb dX10_next_76 rfl (lv_at hl 0 rfl) ?_
  refine gR_5 E hP kfX10_26 (v := (gI u2 5)) rfl dX10_next_77 ?_
  refine lv_icmp_ne (tgt := 85) hx hb dX10_next_80 (by decide) (fun hc => ?_) (fun hc => ?_)
  · have h := h.2 hc
    refine lv_aload_n hx hb dX10_next_85 rfl (lv_at hl 0 rfl) ?_
    refine lv_iconst (v := (0 : Int32)) hx hb dX10_next_86 (by decide) ?_
    refine pR_23 E hP hD hS kfX10_82 dX10_next_87 (fun H locs hP hD hS => ?_)
    refine lv_aload_n hx hb dX10_next_90 rfl (lv_at hl 0 rfl) ?_
    refine lv_iconst (v := (0 : Int32)) hx hb dX10_next_91 (by decide) ?_
    refine pR_24 E hP hD hS kfX10_85 vz_0 dX10_next_92 (fun H locs hP hD hS => ?_)
    refine lv_aload_n hx hb dX10_next_95 rfl (lv_at hl 0 rfl) ?_
    refine lv_iconst (v := (0 : Int32)) hx hb dX10_next_96 (by decide) ?_
    refine lv_aload_n hx hb dX10_next_97 rfl (lv_at hl 0 rfl) ?_
    refine gR_6 E hP kfX10_29 (v := (gI u2 6)) rfl dX10_next_98 ?_
    refine cR_i (ci := 9) (q0 := 0) (As := [.int (0 : Int32), .int (gI u2 6)]) (rest := []) E hml hP hD hS hA (t_X10_readAll l D G (0 : Int32) (gI u2 6) (sI (sI (sI u2 7 (gI u2 6)) 23 (0 : Int32)) 24 (0 : Int32)) _ h) kmX10_344 mwyX10_readAll rfl rfl ⟨⟨rfl, rfl⟩, Nat.le_of_ble_eq_true rfl, Nat.le_of_ble_eq_true rfl⟩ rfl hl.1 rfl (Nat.le_of_ble_eq_true rfl) dX10_next_101 ⟨Nat.zero_le _, Nat.zero_le _⟩ (fun r3 u4 H locs hP hD hS h => ?_)
    refine lv_istore_n (lv' := [(1, .int r3), (0, .ref (G.1 0))]) hx hb dX10_next_104 rfl hl (by decide) rfl (fun ls hl => ?_)
    refine lv_iload_n hx hb dX10_next_105 rfl (lv_at hl 0 rfl) ?_
    refine lv_if_ge (tgt := 137) hx hb dX10_next_106 (by decide) (fun hc => ?_) (fun hc => ?_)
    · have h := h.1 hc
      refine lv_aload_n hx hb dX10_next_137 rfl (lv_at hl 1 rfl) ?_
      refine gR_6 E hP kfX10_29 (v := (gI u4 6)) rfl dX10_next_138 ?_
      refine lv_istore_n (lv' := [(2, .int (gI u4 6)), (1, .int r3), (0, .ref (G.1 0))]) hx hb dX10_next_141 rfl hl (by decide) rfl (fun ls hl => ?_)
      refine lv_aload_n hx hb dX10_next_142 rfl (lv_at hl 2 rfl) ?_
      refine lv_iload_n hx hb dX10_next_143 rfl (lv_at hl 1 rfl) ?_
      refine pR_6 E hP hD hS kfX10_29 dX10_next_144 (fun H locs hP hD hS => ?_)
      refine lv_aload_n hx hb dX10_next_147 rfl (lv_at hl 2 rfl) ?_
      refine lv_iload_n hx hb dX10_next_148 rfl (lv_at hl 1 rfl) ?_
      refine pR_7 E hP hD hS kfX10_32 dX10_next_149 (fun H locs hP hD hS => ?_)
      refine lv_aload_n hx hb dX10_next_152 rfl (lv_at hl 2 rfl) ?_
      refine gR_24 E hP kfX10_85 (v := (gI u4 24)) rfl dX10_next_153 ?_
      refine lv_if_eq (tgt := 168) hx hb dX10_next_156 (by decide) (fun hc => ?_) (fun hc => ?_)
      · have h := h.1 hc
        refine lv_iconst (v := (0 : Int32)) hx hb dX10_next_168 (by decide) ?_
        refine lv_istore_n (lv' := [(3, .int (0 : Int32)), (2, .int (gI u4 6)), (1, .int r3), (0, .ref (G.1 0))]) hx hb dX10_next_169 rfl hl (by decide) rfl (fun ls hl => ?_)
        obtain ⟨n, h⟩ := h
        refine L_170 (gI u4 6) _ (fun u5 H locs ls h hP hD hS hl => ?_) n (0 : Int32) (sI (sI u4 6 r3) 7 r3) _ _ _ h hP hD hS (lv_sub hl [3, 1, 0] rfl)
        refine lv_aload_n hx hb dX10_next_221 rfl (lv_at hl 0 rfl) ?_
        refine cR_v (ci := 9) (q0 := 0) (As := []) (rest := []) E hml hP hD hS hA (t_X10_holdGlobals l D G  u5 _ h) kmX10_222 mwyX10_holdGlobals rfl rfl ⟨⟨rfl, rfl⟩, Nat.le_of_ble_eq_true rfl, Nat.le_of_ble_eq_true rfl⟩ rfl hl.1 rfl (Nat.le_of_ble_eq_true rfl) dX10_next_222 ⟨Nat.zero_le _, Nat.zero_le _⟩ (fun u6 H locs hP hD hS h => ?_)
        refine lv_aload_n hx hb dX10_next_225 rfl (lv_at hl 0 rfl) ?_
        refine lv_aload_n hx hb dX10_next_226 rfl (lv_at hl 0 rfl) ?_
        refine gR_30 E hP kfX10_104 (v := (gI u6 30)) rfl dX10_next_227 ?_
        refine cR_i (ci := 9) (q0 := 0) (As := [.int (gI u6 30)]) (rest := []) E hml hP hD hS hA (t_X10_room l D G (gI u6 30) u6 _ h) kmX10_307 mwyX10_room rfl rfl ⟨⟨rfl, rfl⟩, Nat.le_of_ble_eq_true rfl, Nat.le_of_ble_eq_true rfl⟩ rfl hl.1 rfl (Nat.le_of_ble_eq_true rfl) dX10_next_230 ⟨Nat.zero_le _, Nat.zero_le _⟩ (fun r7 u8 H locs hP hD hS h => ?_)
        refine lv_if_eq (tgt := 251) hx hb dX10_next_233 (by decide) (fun hc => ?_) (fun hc => ?_)
        · have h := h.1 hc
          refine lv_aload_n hx hb dX10_next_251 rfl (lv_at hl 0 rfl) ?_
          refine lv_aload_n hx hb dX10_next_252 rfl (lv_at hl 0 rfl) ?_
          refine gR_8 E hP kfX10_35 (v := (gI u8 8)) rfl dX10_next_253 ?_
          refine lv_if_ne (tgt := 263) hx hb dX10_next_256 (by decide) (fun hc => ?_) (fun hc => ?_)
          · have h := h.2 hc
            refine lv_iconst (v := (2 : Int32)) hx hb dX10_next_263 (by decide) ?_
            refine pR_0 E hP hD hS kfX10_7 dX10_next_264 (fun H locs hP hD hS => ?_)
            refine lv_aload_n hx hb dX10_next_267 rfl (lv_at hl 0 rfl) ?_
            refine gR_8 E hP kfX10_35 (v := (gI u8 8)) rfl dX10_next_268 ?_
            refine lv_if_eq (tgt := 276) hx hb dX10_next_271 (by decide) (fun hc => ?_) (fun hc => ?_)
            · have h := h.1 hc
              refine lv_aload_n hx hb dX10_next_276 rfl (lv_at hl 0 rfl) ?_
              refine lv_aload_n hx hb dX10_next_277 rfl (lv_at hl 0 rfl) ?_
              refine gR_40 E hP kfX10_135 (v := (gJ u8 40)) rfl dX10_next_278 ?_
              refine cR_v (ci := 9) (q0 := 0) (As := [.long (gJ u8 40)]) (rest := []) E hml hP hD hS hA (t_X10_printAll l D G (gJ u8 40) (sI u8 0 (2 : Int32)) _ h) kmX10_350 mwyX10_printAll rfl rfl ⟨⟨rfl, rfl⟩, Nat.le_of_ble_eq_true rfl, Nat.le_of_ble_eq_true rfl⟩ rfl hl.1 rfl (Nat.le_of_ble_eq_true rfl) dX10_next_281 ⟨Nat.zero_le _, Nat.zero_le _⟩ (fun u9 H locs hP hD hS h => ?_)
              refine lv_iconst (v := (1 : Int32)) hx hb dX10_next_284 (by decide) ?_
              exact retR_i E hr hlk hP hD hS h dX10_next_285
            · have h := h.2 hc
              refine lv_iconst (v := (0 : Int32)) hx hb dX10_next_274 (by decide) ?_
              exact retR_i E hr hlk hP hD hS h dX10_next_275
          · have h := h.1 hc
            refine lv_iconst (v := (0 : Int32)) hx hb dX10_next_259 (by decide) ?_
            refine lv_goto (tgt := 264) hx hb dX10_next_260 (by decide) ?_
            refine pR_0 E hP hD hS kfX10_7 dX10_next_264 (fun H locs hP hD hS => ?_)
            refine lv_aload_n hx hb dX10_next_267 rfl (lv_at hl 0 rfl) ?_
            refine gR_8 E hP kfX10_35 (v := (gI u8 8)) rfl dX10_next_268 ?_
            refine lv_if_eq (tgt := 276) hx hb dX10_next_271 (by decide) (fun hc => ?_) (fun hc => ?_)
            · have h := h.1 hc
              refine lv_aload_n hx hb dX10_next_276 rfl (lv_at hl 0 rfl) ?_
              refine lv_aload_n hx hb dX10_next_277 rfl (lv_at hl 0 rfl) ?_
              refine gR_40 E hP kfX10_135 (v := (gJ u8 40)) rfl dX10_next_278 ?_
              refine cR_v (ci := 9) (q0 := 0) (As := [.long (gJ u8 40)]) (rest := []) E hml hP hD hS hA (t_X10_printAll l D G (gJ u8 40) (sI u8 0 (0 : Int32)) _ h) kmX10_350 mwyX10_printAll rfl rfl ⟨⟨rfl, rfl⟩, Nat.le_of_ble_eq_true rfl, Nat.le_of_ble_eq_true rfl⟩ rfl hl.1 rfl (Nat.le_of_ble_eq_true rfl) dX10_next_281 ⟨Nat.zero_le _, Nat.zero_le _⟩ (fun u10 H locs hP hD hS h => ?_)
              refine lv_iconst (v := (1 : Int32)) hx hb dX10_next_284 (by decide) ?_
              exact retR_i E hr hlk hP hD hS h dX10_next_285
            · have h := h.2 hc
              refine lv_iconst (v := (0 : Int32)) hx hb dX10_next_274 (by decide) ?_
              exact retR_i E hr hlk hP hD hS h dX10_next_275
        · have h := h.2 hc
          refine lv_aload_n hx hb dX10_next_236 rfl (lv_at hl 0 rfl) ?_
          refine lv_iconst (v := (1 : Int32)) hx hb dX10_next_237 (by decide) ?_
          refine lv_iload_n hx hb dX10_next_238 rfl (lv_at hl 1 rfl) ?_
          refine cR_i (ci := 9) (q0 := 0) (As := [.int (1 : Int32), .int (gI u4 6)]) (rest := []) E hml hP hD hS hA (t_X10_readAll l D G (1 : Int32) (gI u4 6) u8 _ h) kmX10_344 mwyX10_readAll rfl rfl ⟨⟨rfl, rfl⟩, Nat.le_of_ble_eq_true rfl, Nat.le_of_ble_eq_true rfl⟩ rfl hl.1 rfl (Nat.le_of_ble_eq_true rfl) dX10_next_239 ⟨Nat.zero_le _, Nat.zero_le _⟩ (fun r11 u12 H locs hP hD hS h => ?_)
          refine lv_pop hx hb dX10_next_242 rfl ?_
          refine lv_aload_n hx hb dX10_next_243 rfl (lv_at hl 0 rfl) ?_
          refine lv_aload_n hx hb dX10_next_244 rfl (lv_at hl 0 rfl) ?_
          refine gR_31 E hP kfX10_107 (v := (gJ u12 31)) rfl dX10_next_245 ?_
          refine cR_v (ci := 9) (q0 := 0) (As := [.long (gJ u12 31)]) (rest := []) E hml hP hD hS hA (t_X10_evaluateAll l D G (gJ u12 31) u12 _ h) kmX10_347 mwyX10_evaluateAll rfl rfl ⟨⟨rfl, rfl⟩, Nat.le_of_ble_eq_true rfl, Nat.le_of_ble_eq_true rfl⟩ rfl hl.1 rfl (Nat.le_of_ble_eq_true rfl) dX10_next_248 ⟨Nat.zero_le _, Nat.zero_le _⟩ (fun u13 H locs hP hD hS h => ?_)
          refine lv_aload_n hx hb dX10_next_251 rfl (lv_at hl 0 rfl) ?_
          refine lv_aload_n hx hb dX10_next_252 rfl (lv_at hl 0 rfl) ?_
          refine gR_8 E hP kfX10_35 (v := (gI u13 8)) rfl dX10_next_253 ?_
          refine lv_if_ne (tgt := 263) hx hb dX10_next_256 (by decide) (fun hc => ?_) (fun hc => ?_)
          · have h := h.2 hc
            refine lv_iconst (v := (2 : Int32)) hx hb dX10_next_263 (by decide) ?_
            refine pR_0 E hP hD hS kfX10_7 dX10_next_264 (fun H locs hP hD hS => ?_)
            refine lv_aload_n hx hb dX10_next_267 rfl (lv_at hl 0 rfl) ?_
            refine gR_8 E hP kfX10_35 (v := (gI u13 8)) rfl dX10_next_268 ?_
            refine lv_if_eq (tgt := 276) hx hb dX10_next_271 (by decide) (fun hc => ?_) (fun hc => ?_)
            · have h := h.1 hc
              refine lv_aload_n hx hb dX10_next_276 rfl (lv_at hl 0 rfl) ?_
              refine lv_aload_n hx hb dX10_next_277 rfl (lv_at hl 0 rfl) ?_
              refine gR_40 E hP kfX10_135 (v := (gJ u13 40)) rfl dX10_next_278 ?_
              refine cR_v (ci := 9) (q0 := 0) (As := [.long (gJ u13 40)]) (rest := []) E hml hP hD hS hA (t_X10_printAll l D G (gJ u13 40) (sI u13 0 (2 : Int32)) _ h) kmX10_350 mwyX10_printAll rfl rfl ⟨⟨rfl, rfl⟩, Nat.le_of_ble_eq_true rfl, Nat.le_of_ble_eq_true rfl⟩ rfl hl.1 rfl (Nat.le_of_ble_eq_true rfl) dX10_next_281 ⟨Nat.zero_le _, Nat.zero_le _⟩ (fun u14 H locs hP hD hS h => ?_)
              refine lv_iconst (v := (1 : Int32)) hx hb dX10_next_284 (by decide) ?_
              exact retR_i E hr hlk hP hD hS h dX10_next_285
            · have h := h.2 hc
              refine lv_iconst (v := (0 : Int32)) hx hb dX10_next_274 (by decide) ?_
              exact retR_i E hr hlk hP hD hS h dX10_next_275
          · have h := h.1 hc
            refine lv_iconst (v := (0 : Int32)) hx hb dX10_next_259 (by decide) ?_
            refine lv_goto (tgt := 264) hx hb dX10_next_260 (by decide) ?_
            refine pR_0 E hP hD hS kfX10_7 dX10_next_264 (fun H locs hP hD hS => ?_)
            refine lv_aload_n hx hb dX10_next_267 rfl (lv_at hl 0 rfl) ?_
            refine gR_8 E hP kfX10_35 (v := (gI u13 8)) rfl dX10_next_268 ?_
            refine lv_if_eq (tgt := 276) hx hb dX10_next_271 (by decide) (fun hc => ?_) (fun hc => ?_)
            · have h := h.1 hc
              refine lv_aload_n hx hb dX10_next_276 rfl (lv_at hl 0 rfl) ?_
              refine lv_aload_n hx hb dX10_next_277 rfl (lv_at hl 0 rfl) ?_
              refine gR_40 E hP kfX10_135 (v := (gJ u13 40)) rfl dX10_next_278 ?_
              refine cR_v (ci := 9) (q0 := 0) (As := [.long (gJ u13 40)]) (rest := []) E hml hP hD hS hA (t_X10_printAll l D G (gJ u13 40) (sI u13 0 (0 : Int32)) _ h) kmX10_350 mwyX10_printAll rfl rfl ⟨⟨rfl, rfl⟩, Nat.le_of_ble_eq_true rfl, Nat.le_of_ble_eq_true rfl⟩ rfl hl.1 rfl (Nat.le_of_ble_eq_true rfl) dX10_next_281 ⟨Nat.zero_le _, Nat.zero_le _⟩ (fun u15 H locs hP hD hS h => ?_)
              refine lv_iconst (v := (1 : Int32)) hx hb dX10_next_284 (by decide) ?_
              exact retR_i E hr hlk hP hD hS h dX10_next_285
            · have h := h.2 hc
              refine lv_iconst (v := (0 : Int32)) hx hb dX10_next_274 (by decide) ?_
              exact retR_i E hr hlk hP hD hS h dX10_next_275
      · have h := h.2 hc
        refine lv_aload_n hx hb dX10_next_159 rfl (lv_at hl 2 rfl) ?_
        refine lv_bipush (v := (9 : Int32)) hx hb dX10_next_160 (by decide) ?_
        refine cR_v (ci := 9) (q0 := 0) (As := [.int (9 : Int32)]) (rest := []) E hml hP hD hS hA (t_X10_fails l D G (9 : Int32) (sI (sI u4 6 r3) 7 r3) _ h) kmX10_265 mwyX10_fails rfl rfl ⟨⟨rfl, rfl⟩, Nat.le_of_ble_eq_true rfl, Nat.le_of_ble_eq_true rfl⟩ rfl hl.1 rfl (Nat.le_of_ble_eq_true rfl) dX10_next_162 ⟨Nat.zero_le _, Nat.zero_le _⟩ (fun u17 H locs hP hD hS h => ?_)
        refine lv_goto (tgt := 251) hx hb dX10_next_165 (by decide) ?_
        refine lv_aload_n hx hb dX10_next_251 rfl (lv_at hl 2 rfl) ?_
        refine lv_aload_n hx hb dX10_next_252 rfl (lv_at hl 2 rfl) ?_
        refine gR_8 E hP kfX10_35 (v := (gI u17 8)) rfl dX10_next_253 ?_
        refine lv_if_ne (tgt := 263) hx hb dX10_next_256 (by decide) (fun hc => ?_) (fun hc => ?_)
        · have h := h.2 hc
          refine lv_iconst (v := (2 : Int32)) hx hb dX10_next_263 (by decide) ?_
          refine pR_0 E hP hD hS kfX10_7 dX10_next_264 (fun H locs hP hD hS => ?_)
          refine lv_aload_n hx hb dX10_next_267 rfl (lv_at hl 2 rfl) ?_
          refine gR_8 E hP kfX10_35 (v := (gI u17 8)) rfl dX10_next_268 ?_
          refine lv_if_eq (tgt := 276) hx hb dX10_next_271 (by decide) (fun hc => ?_) (fun hc => ?_)
          · have h := h.1 hc
            refine lv_aload_n hx hb dX10_next_276 rfl (lv_at hl 2 rfl) ?_
            refine lv_aload_n hx hb dX10_next_277 rfl (lv_at hl 2 rfl) ?_
            refine gR_40 E hP kfX10_135 (v := (gJ u17 40)) rfl dX10_next_278 ?_
            refine cR_v (ci := 9) (q0 := 0) (As := [.long (gJ u17 40)]) (rest := []) E hml hP hD hS hA (t_X10_printAll l D G (gJ u17 40) (sI u17 0 (2 : Int32)) _ h) kmX10_350 mwyX10_printAll rfl rfl ⟨⟨rfl, rfl⟩, Nat.le_of_ble_eq_true rfl, Nat.le_of_ble_eq_true rfl⟩ rfl hl.1 rfl (Nat.le_of_ble_eq_true rfl) dX10_next_281 ⟨Nat.zero_le _, Nat.zero_le _⟩ (fun u18 H locs hP hD hS h => ?_)
            refine lv_iconst (v := (1 : Int32)) hx hb dX10_next_284 (by decide) ?_
            exact retR_i E hr hlk hP hD hS h dX10_next_285
          · have h := h.2 hc
            refine lv_iconst (v := (0 : Int32)) hx hb dX10_next_274 (by decide) ?_
            exact retR_i E hr hlk hP hD hS h dX10_next_275
        · have h := h.1 hc
          refine lv_iconst (v := (0 : Int32)) hx hb dX10_next_259 (by decide) ?_
          refine lv_goto (tgt := 264) hx hb dX10_next_260 (by decide) ?_
          refine pR_0 E hP hD hS kfX10_7 dX10_next_264 (fun H locs hP hD hS => ?_)
          refine lv_aload_n hx hb dX10_next_267 rfl (lv_at hl 2 rfl) ?_
          refine gR_8 E hP kfX10_35 (v := (gI u17 8)) rfl dX10_next_268 ?_
          refine lv_if_eq (tgt := 276) hx hb dX10_next_271 (by decide) (fun hc => ?_) (fun hc => ?_)
          · have h := h.1 hc
            refine lv_aload_n hx hb dX10_next_276 rfl (lv_at hl 2 rfl) ?_
            refine lv_aload_n hx hb dX10_next_277 rfl (lv_at hl 2 rfl) ?_
            refine gR_40 E hP kfX10_135 (v := (gJ u17 40)) rfl dX10_next_278 ?_
            refine cR_v (ci := 9) (q0 := 0) (As := [.long (gJ u17 40)]) (rest := []) E hml hP hD hS hA (t_X10_printAll l D G (gJ u17 40) (sI u17 0 (0 : Int32)) _ h) kmX10_350 mwyX10_printAll rfl rfl ⟨⟨rfl, rfl⟩, Nat.le_of_ble_eq_true rfl, Nat.le_of_ble_eq_true rfl⟩ rfl hl.1 rfl (Nat.le_of_ble_eq_true rfl) dX10_next_281 ⟨Nat.zero_le _, Nat.zero_le _⟩ (fun u19 H locs hP hD hS h => ?_)
            refine lv_iconst (v := (1 : Int32)) hx hb dX10_next_284 (by decide) ?_
            exact retR_i E hr hlk hP hD hS h dX10_next_285
          · have h := h.2 hc
            refine lv_iconst (v := (0 : Int32)) hx hb dX10_next_274 (by decide) ?_
            exact retR_i E hr hlk hP hD hS h dX10_next_275
    · have h := h.2 hc
      refine lv_aload_n hx hb dX10_next_109 rfl (lv_at hl 1 rfl) ?_
      refine lv_bipush (v := (10 : Int32)) hx hb dX10_next_110 (by decide) ?_
      refine pR_8 E hP hD hS kfX10_35 dX10_next_112 (fun H locs hP hD hS => ?_)
      refine lv_aload_n hx hb dX10_next_115 rfl (lv_at hl 1 rfl) ?_
      refine lv_iconst (v := (1 : Int32)) hx hb dX10_next_116 (by decide) ?_
      refine pR_0 E hP hD hS kfX10_7 dX10_next_117 (fun H locs hP hD hS => ?_)
      refine lv_aload_n hx hb dX10_next_120 rfl (lv_at hl 1 rfl) ?_
      refine lv_iconst (v := (-1 : Int32)) hx hb dX10_next_121 (by decide) ?_
      refine lv_iload_n hx hb dX10_next_122 rfl (lv_at hl 0 rfl) ?_
      refine lv_isub hx hb dX10_next_123 ?_
      refine pR_7 E hP hD hS kfX10_32 dX10_next_124 (fun H locs hP hD hS => ?_)
      refine lv_aload_n hx hb dX10_next_127 rfl (lv_at hl 1 rfl) ?_
      refine lv_aload_n hx hb dX10_next_128 rfl (lv_at hl 1 rfl) ?_
      refine gR_5 E hP kfX10_26 (v := (gI u4 5)) rfl dX10_next_129 ?_
      refine pR_6 E hP hD hS kfX10_29 dX10_next_132 (fun H locs hP hD hS => ?_)
      refine lv_iconst (v := (0 : Int32)) hx hb dX10_next_135 (by decide) ?_
      exact retR_i E hr hlk hP hD hS h dX10_next_136
  · have h := h.1 hc
    refine lv_iconst (v := (0 : Int32)) hx hb dX10_next_83 (by decide) ?_
    exact retR_i E hr hlk hP hD hS h dX10_next_84
