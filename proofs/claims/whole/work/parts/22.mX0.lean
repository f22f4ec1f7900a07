def wp_X0_newPair (N : Nat → Nat) (p0 : Int64) (p1 : Int64) (u : St) (Q : Int64 → St → Prop) : Prop := ((0 < (gI u 805) → vp_in ((gI u 805) - (1 : Int32)) (N 804) ∧ vp_in ((gA u 804) (((gI u 805) - (1 : Int32))).toNatClampNeg) (N 800) ∧ vp_in ((gA u 804) (((gI u 805) - (1 : Int32))).toNatClampNeg) (N 801) ∧ Q ((2199023255552 : Int64) + (((gA u 804) (((gI u 805) - (1 : Int32))).toNatClampNeg)).toInt64) (sB (sB (sI u 805 ((gI u 805) - (1 : Int32))) 800 (vp_updL (gB u 800) (((gA u 804) (((gI u 805) - (1 : Int32))).toNatClampNeg)).toNatClampNeg p0)) 801 (vp_updL (gB u 801) (((gA u 804) (((gI u 805) - (1 : Int32))).toNatClampNeg)).toNatClampNeg p1))) ∧ (¬ 0 < (gI u 805) → Q (1099511627776 : Int64) u))
abbrev rm_X0_newPair : Room := { frames := 0, cells := 0, slots := 0, locals := 0 }
set_option maxHeartbeats 4000000 in
set_option maxRecDepth 100000 in
theorem t_X0_newPair (l : Launch) (D : va_G) (G : Gd) (p0 : Int64) (p1 : Int64) (u : St) (Q : Int64 → St → Prop) (h : wp_X0_newPair G.2.1 p0 p1 u Q) : MCl l D G yX0_newPair cX0_newPair 6 (some .long) rm_X0_newPair [.ref (G.1 8), .long p0, .long p1] u Q := by
  refine startC_l (by decide) ?_
  intro p e s m args below meth c E hr hlk hml hP hD hS hA
  have hx := E.1
  have hb := E.2.1
  have hown := E.2.2.1
  have hW := E.2.2.2.1
  have hl := lv_entry ([.ref (G.1 8), .long p0, .long p1]) (n := 6) (Nat.le_of_ble_eq_true rfl)
  rw [lg_entry_eq]
  generalize (lg_sl ([.ref (G.1 8), .long p0, .long p1]) ++ List.replicate (6 - (lg_sl ([.ref (G.1 8), .long p0, .long p1])).length) Slot.unset).toArray = ls at hl ⊢
  have hl : lv_has ls 6 [(0, .ref (G.1 8)), (1, .long p0), (3, .long p1)] := hl
  unfold wp_X0_newPair at h
  refine lv_aload_n hx hb dX0_newPair_0 rfl (lv_at hl 0 rfl) ?_
  refine gC_805 E hP kfX0_35 (v := (gI u 805)) rfl dX0_newPair_1 ?_
  refine lv_if_gt (tgt := 11) hx hb dX0_newPair_4 (by decide) (fun hc => ?_) (fun hc => ?_)
  · have h := h.1 hc
    refine lv_aload_n hx hb dX0_newPair_11 rfl (lv_at hl 0 rfl) ?_
    refine lv_dup hx hb dX0_newPair_12 rfl ?_
    refine gC_805 E hP kfX0_35 (v := (gI u 805)) rfl dX0_newPair_13 ?_
    refine lv_iconst (v := (1 : Int32)) hx hb dX0_newPair_16 (by decide) ?_
    refine lv_isub hx hb dX0_newPair_17 ?_
    refine pC_805 E hP hD hS kfX0_35 dX0_newPair_18 (fun H locs hP hD hS => ?_)
    refine lv_aload_n hx hb dX0_newPair_21 rfl (lv_at hl 0 rfl) ?_
    refine gC_804 E hP kfX0_32 dX0_newPair_22 ?_
    refine lv_aload_n hx hb dX0_newPair_25 rfl (lv_at hl 0 rfl) ?_
    refine gC_805 E hP kfX0_35 (v := ((gI u 805) - (1 : Int32))) rfl dX0_newPair_26 ?_
    obtain ⟨h9, h⟩ := h
    refine xC_804 E hP h9 (v := ((gA u 804) (((gI u 805) - (1 : Int32))).toNatClampNeg)) rfl dX0_newPair_29 ?_
    refine lv_istore (lv' := [(5, .int ((gA u 804) (((gI u 805) - (1 : Int32))).toNatClampNeg)), (0, .ref (G.1 8)), (1, .long p0), (3, .long p1)]) hx hb dX0_newPair_30 hl (by decide) rfl (fun ls hl => ?_)
    refine lv_aload_n hx hb dX0_newPair_32 rfl (lv_at hl 1 rfl) ?_
    refine gC_800 E hP kfX0_18 dX0_newPair_33 ?_
    refine lv_iload hx hb dX0_newPair_36 (lv_at hl 0 rfl) ?_
    refine lv_lload_n hx hb dX0_newPair_38 rfl (lv_at hl 2 rfl) ?_
    obtain ⟨h9, h⟩ := h
    refine yC_800 E hP hD hS h9 (f := (gB u 800)) rfl dX0_newPair_39 (fun H locs hP hD hS => ?_)
    refine lv_aload_n hx hb dX0_newPair_40 rfl (lv_at hl 1 rfl) ?_
    refine gC_801 E hP kfX0_22 dX0_newPair_41 ?_
    refine lv_iload hx hb dX0_newPair_44 (lv_at hl 0 rfl) ?_
    refine lv_lload_n hx hb dX0_newPair_46 rfl (lv_at hl 3 rfl) ?_
    obtain ⟨h9, h⟩ := h
    refine yC_801 E hP hD hS h9 (f := (gB u 801)) rfl dX0_newPair_47 (fun H locs hP hD hS => ?_)
    refine lv_ldc2 (v := (2199023255552 : Int64)) hx hb hown (hW _ kcX0_38) dX0_newPair_48 ?_
    refine lv_iload hx hb dX0_newPair_51 (lv_at hl 0 rfl) ?_
    refine lv_i2l (v := (((gA u 804) (((gI u 805) - (1 : Int32))).toNatClampNeg)).toInt64) hx hb dX0_newPair_53 rfl ?_
    refine lv_ladd hx hb dX0_newPair_54 ?_
    exact retC_l E hr hlk hP hD hS h dX0_newPair_55
  · have h := h.2 hc
    refine lv_ldc2 (v := (1099511627776 : Int64)) hx hb hown (hW _ kcX0_44) dX0_newPair_7 ?_
    exact retC_l E hr hlk hP hD hS h dX0_newPair_10
def wp_X0_cellOf (N : Nat → Nat) (p0 : Int64) (u : St) (Q : Int32 → St → Prop) : Prop := ((p0 < (2199023255552 : Int64) → Q (-1 : Int32) u) ∧ (¬ p0 < (2199023255552 : Int64) → ((((2199023255552 : Int64) + ((Int32.ofNat (N 800))).toInt64) ≤ p0 → Q (-1 : Int32) u) ∧ (¬ ((2199023255552 : Int64) + ((Int32.ofNat (N 800))).toInt64) ≤ p0 → Q (((p0 - (2199023255552 : Int64))).toInt32) u))))
abbrev rm_X0_cellOf : Room := { frames := 0, cells := 0, slots := 0, locals := 0 }
set_option maxHeartbeats 4000000 in
set_option maxRecDepth 100000 in
theorem t_X0_cellOf (l : Launch) (D : va_G) (G : Gd) (p0 : Int64) (u : St) (Q : Int32 → St → Prop) (h : wp_X0_cellOf G.2.1 p0 u Q) : MCi l D G yX0_cellOf cX0_cellOf 3 (some .int) rm_X0_cellOf [.ref (G.1 8), .long p0] u Q := by
  refine startC_i (by decide) ?_
  intro p e s m args below meth c E hr hlk hml hP hD hS hA
  have hx := E.1
  have hb := E.2.1
  have hown := E.2.2.1
  have hW := E.2.2.2.1
  have hl := lv_entry ([.ref (G.1 8), .long p0]) (n := 3) (Nat.le_of_ble_eq_true rfl)
  rw [lg_entry_eq]
  generalize (lg_sl ([.ref (G.1 8), .long p0]) ++ List.replicate (3 - (lg_sl ([.ref (G.1 8), .long p0])).length) Slot.unset).toArray = ls at hl ⊢
  have hl : lv_has ls 3 [(0, .ref (G.1 8)), (1, .long p0)] := hl
  unfold wp_X0_cellOf at h
  refine lv_lload_n hx hb dX0_cellOf_0 rfl (lv_at hl 1 rfl) ?_
  refine lv_ldc2 (v := (2199023255552 : Int64)) hx hb hown (hW _ kcX0_38) dX0_cellOf_1 ?_
  refine lq_lt (tgt := 32) hx hb dX0_cellOf_4 dX0_cellOf_5 (by decide) (fun hc => ?_) (fun hc => ?_)
  · have h := h.1 hc
    refine lv_iconst (v := (-1 : Int32)) hx hb dX0_cellOf_32 (by decide) ?_
    exact retC_i E hr hlk hP hD hS h dX0_cellOf_33
  · have h := h.2 hc
    refine lv_lload_n hx hb dX0_cellOf_8 rfl (lv_at hl 1 rfl) ?_
    refine lv_ldc2 (v := (2199023255552 : Int64)) hx hb hown (hW _ kcX0_38) dX0_cellOf_9 ?_
    refine lv_aload_n hx hb dX0_cellOf_12 rfl (lv_at hl 0 rfl) ?_
    refine gC_800 E hP kfX0_18 dX0_cellOf_13 ?_
    refine zC_800 E hP dX0_cellOf_16 ?_
    refine lv_i2l (v := ((Int32.ofNat (G.2.1 800))).toInt64) hx hb dX0_cellOf_17 rfl ?_
    refine lv_ladd hx hb dX0_cellOf_18 ?_
    refine lq_ge (tgt := 32) hx hb dX0_cellOf_19 dX0_cellOf_20 (by decide) (fun hc => ?_) (fun hc => ?_)
    · have h := h.1 hc
      refine lv_iconst (v := (-1 : Int32)) hx hb dX0_cellOf_32 (by decide) ?_
      exact retC_i E hr hlk hP hD hS h dX0_cellOf_33
    · have h := h.2 hc
      refine lv_lload_n hx hb dX0_cellOf_23 rfl (lv_at hl 1 rfl) ?_
      refine lv_ldc2 (v := (2199023255552 : Int64)) hx hb hown (hW _ kcX0_38) dX0_cellOf_24 ?_
      refine lv_lsub hx hb dX0_cellOf_27 ?_
      refine lv_l2i (v := ((p0 - (2199023255552 : Int64))).toInt32) hx hb dX0_cellOf_28 rfl ?_
      refine lv_goto (tgt := 33) hx hb dX0_cellOf_29 (by decide) ?_
      exact retC_i E hr hlk hP hD hS h dX0_cellOf_33
def wp_X0_setCdr (N : Nat → Nat) (p0 : Int64) (p1 : Int64) (u : St) (Q : St → Prop) : Prop := wp_X0_cellOf N p0 u (fun (r1 : Int32) (u2 : St) => ((r1 < 0 → Q u2) ∧ (¬ r1 < 0 → vp_in r1 (N 801) ∧ Q (sB u2 801 (vp_updL (gB u2 801) (r1).toNatClampNeg p1)))))
abbrev rm_X0_setCdr : Room := { frames := 1, cells := 0, slots := 0, locals := 22 }
set_option maxHeartbeats 4000000 in
set_option maxRecDepth 100000 in
theorem t_X0_setCdr (l : Launch) (D : va_G) (G : Gd) (p0 : Int64) (p1 : Int64) (u : St) (Q : St → Prop) (h : wp_X0_setCdr G.2.1 p0 p1 u Q) : MCv l D G yX0_setCdr cX0_setCdr 6 none rm_X0_setCdr [.ref (G.1 8), .long p0, .long p1] u Q := by
  refine startC_v (by decide) ?_
  intro p e s m args below meth c E hr hlk hml hP hD hS hA
  have hx := E.1
  have hb := E.2.1
  have hown := E.2.2.1
  have hW := E.2.2.2.1
  have hl := lv_entry ([.ref (G.1 8), .long p0, .long p1]) (n := 6) (Nat.le_of_ble_eq_true rfl)
  rw [lg_entry_eq]
  generalize (lg_sl ([.ref (G.1 8), .long p0, .long p1]) ++ List.replicate (6 - (lg_sl ([.ref (G.1 8), .long p0, .long p1])).length) Slot.unset).toArray = ls at hl ⊢
  have hl : lv_has ls 6 [(0, .ref (G.1 8)), (1, .long p0), (3, .long p1)] := hl
  unfold wp_X0_setCdr at h
  refine lv_aload_n hx hb dX0_setCdr_0 rfl (lv_at hl 0 rfl) ?_
  refine lv_lload_n hx hb dX0_setCdr_1 rfl (lv_at hl 1 rfl) ?_
  refine cC_i (ci := 0) (q0 := 8) (As := [.long p0]) (rest := []) E hml hP hD hS hA (t_X0_cellOf l D G p0 u _ h) kmX0_40 mwyX0_cellOf rfl rfl ⟨⟨rfl, rfl⟩, Nat.le_of_ble_eq_true rfl, Nat.le_of_ble_eq_true rfl⟩ rfl hl.1 rfl (Nat.le_of_ble_eq_true rfl) dX0_setCdr_2 ⟨Nat.zero_le _, Nat.zero_le _⟩ (fun r1 u2 H locs hP hD hS h => ?_)
  refine lv_istore (lv' := [(5, .int r1), (0, .ref (G.1 8)), (1, .long p0), (3, .long p1)]) hx hb dX0_setCdr_5 hl (by decide) rfl (fun ls hl => ?_)
  refine lv_iload hx hb dX0_setCdr_7 (lv_at hl 0 rfl) ?_
  refine lv_if_lt (tgt := 20) hx hb dX0_setCdr_9 (by decide) (fun hc => ?_) (fun hc => ?_)
  · have h := h.1 hc
    exact retC_v E hr hlk hP hD hS h dX0_setCdr_20
  · have h := h.2 hc
    refine lv_aload_n hx hb dX0_setCdr_12 rfl (lv_at hl 1 rfl) ?_
    refine gC_801 E hP kfX0_22 dX0_setCdr_13 ?_
    refine lv_iload hx hb dX0_setCdr_16 (lv_at hl 0 rfl) ?_
    refine lv_lload_n hx hb dX0_setCdr_18 rfl (lv_at hl 3 rfl) ?_
    obtain ⟨h9, h⟩ := h
    refine yC_801 E hP hD hS h9 (f := (gB u2 801)) rfl dX0_setCdr_19 (fun H locs hP hD hS => ?_)
    exact retC_v E hr hlk hP hD hS h dX0_setCdr_20
def wp_X5_attach (N : Nat → Nat) (p0 : Int64) (u : St) (Q : St → Prop) : Prop := (((gI u 510) = 0 → Q (sJ u 513 p0)) ∧ (¬ (gI u 510) = 0 → vp_in ((gI u 510) - (1 : Int32)) 60 ∧ ((((gA u 505) (((gI u 510) - (1 : Int32))).toNatClampNeg) = (2 : Int32) → vp_in ((gI u 510) - (1 : Int32)) 60 ∧ wp_X0_setCdr N ((gB u 507) (((gI u 510) - (1 : Int32))).toNatClampNeg) p0 u (fun (u4 : St) => Q u4)) ∧ (¬ ((gA u 505) (((gI u 510) - (1 : Int32))).toNatClampNeg) = (2 : Int32) → wp_X0_newPair N p0 (1099511627776 : Int64) u (fun (r1 : Int64) (u2 : St) => vp_in ((gI u 510) - (1 : Int32)) 60 ∧ ((((gA u2 505) (((gI u 510) - (1 : Int32))).toNatClampNeg) = 0 → vp_in ((gI u 510) - (1 : Int32)) 60 ∧ vp_in ((gI u 510) - (1 : Int32)) 60 ∧ vp_in ((gI u 510) - (1 : Int32)) 60 ∧ Q (sB (sA (sB u2 506 (vp_updL (gB u2 506) (((gI u 510) - (1 : Int32))).toNatClampNeg r1)) 505 (upd (gA u2 505) (((gI u 510) - (1 : Int32))).toNatClampNeg (1 : Int32))) 507 (vp_updL (gB u2 507) (((gI u 510) - (1 : Int32))).toNatClampNeg r1))) ∧ (¬ ((gA u2 505) (((gI u 510) - (1 : Int32))).toNatClampNeg) = 0 → vp_in ((gI u 510) - (1 : Int32)) 60 ∧ wp_X0_setCdr N ((gB u2 507) (((gI u 510) - (1 : Int32))).toNatClampNeg) r1 u2 (fun (u3 : St) => vp_in ((gI u 510) - (1 : Int32)) 60 ∧ Q (sB u3 507 (vp_updL (gB u3 507) (((gI u 510) - (1 : Int32))).toNatClampNeg r1))))))))))
abbrev rm_X5_attach : Room := { frames := 2, cells := 0, slots := 0, locals := 47 }
set_option maxHeartbeats 4000000 in
set_option maxRecDepth 100000 in
theorem t_X5_attach (l : Launch) (D : va_G) (G : Gd) (p0 : Int64) (u : St) (Q : St → Prop) (h : wp_X5_attach G.2.1 p0 u Q) : MCv l D G yX5_attach cX5_attach 6 none rm_X5_attach [.ref (G.1 5), .long p0] u Q := by
  refine startC_v (by decide) ?_
  intro p e s m args below meth c E hr hlk hml hP hD hS hA
  have hx := E.1
  have hb := E.2.1
  have hown := E.2.2.1
  have hW := E.2.2.2.1
  have hl := lv_entry ([.ref (G.1 5), .long p0]) (n := 6) (Nat.le_of_ble_eq_true rfl)
  rw [lg_entry_eq]
  generalize (lg_sl ([.ref (G.1 5), .long p0]) ++ List.replicate (6 - (lg_sl ([.ref (G.1 5), .long p0])).length) Slot.unset).toArray = ls at hl ⊢
  have hl : lv_has ls 6 [(0, .ref (G.1 5)), (1, .long p0)] := hl
  unfold wp_X5_attach at h
  refine lv_aload_n hx hb dX5_attach_0 rfl (lv_at hl 0 rfl) ?_
  refine gC_510 E hP kfX5_32 (v := (gI u 510)) rfl dX5_attach_1 ?_
  refine lv_if_ne (tgt := 13) hx hb dX5_attach_4 (by decide) (fun hc => ?_) (fun hc => ?_)
  · have h := h.2 hc
    refine lv_aload_n hx hb dX5_attach_13 rfl (lv_at hl 0 rfl) ?_
    refine gC_510 E hP kfX5_32 (v := (gI u 510)) rfl dX5_attach_14 ?_
    refine lv_iconst (v := (1 : Int32)) hx hb dX5_attach_17 (by decide) ?_
    refine lv_isub hx hb dX5_attach_18 ?_
    refine lv_istore_n (lv' := [(3, .int ((gI u 510) - (1 : Int32))), (0, .ref (G.1 5)), (1, .long p0)]) hx hb dX5_attach_19 rfl hl (by decide) rfl (fun ls hl => ?_)
    refine lv_aload_n hx hb dX5_attach_20 rfl (lv_at hl 1 rfl) ?_
    refine gC_505 E hP kfX5_15 dX5_attach_21 ?_
    refine lv_iload_n hx hb dX5_attach_24 rfl (lv_at hl 0 rfl) ?_
    obtain ⟨h9, h⟩ := h
    refine xC_505 E hP h9 (v := ((gA u 505) (((gI u 510) - (1 : Int32))).toNatClampNeg)) rfl dX5_attach_25 ?_
    refine lv_iconst (v := (2 : Int32)) hx hb dX5_attach_26 (by decide) ?_
    refine lv_icmp_ne (tgt := 45) hx hb dX5_attach_27 (by decide) (fun hc => ?_) (fun hc => ?_)
    · have h := h.2 hc
      refine lv_aload_n hx hb dX5_attach_45 rfl (lv_at hl 1 rfl) ?_
      refine gC_502 E hP kfX5_55 dX5_attach_46 ?_
      refine lv_lload_n hx hb dX5_attach_49 rfl (lv_at hl 2 rfl) ?_
      refine lv_ldc2 (v := (1099511627776 : Int64)) hx hb hown (hW _ kcX5_41) dX5_attach_50 ?_
      refine cC_l (ci := 0) (q0 := 8) (As := [.long p0, .long (1099511627776 : Int64)]) (rest := []) E hml hP hD hS hA (t_X0_newPair l D G p0 (1099511627776 : Int64) u _ h) kmX5_170 mwyX0_newPair rfl rfl ⟨⟨rfl, rfl⟩, Nat.le_of_ble_eq_true rfl, Nat.le_of_ble_eq_true rfl⟩ rfl hl.1 rfl (Nat.le_of_ble_eq_true rfl) dX5_attach_53 ⟨Nat.zero_le _, Nat.zero_le _⟩ (fun r1 u2 H locs hP hD hS h => ?_)
      refine lv_lstore (lv' := [(4, .long r1), (3, .int ((gI u 510) - (1 : Int32))), (0, .ref (G.1 5)), (1, .long p0)]) hx hb dX5_attach_56 hl (by decide) rfl (fun ls hl => ?_)
      refine lv_aload_n hx hb dX5_attach_58 rfl (lv_at hl 2 rfl) ?_
      refine gC_505 E hP kfX5_15 dX5_attach_59 ?_
      refine lv_iload_n hx hb dX5_attach_62 rfl (lv_at hl 1 rfl) ?_
      obtain ⟨h9, h⟩ := h
      refine xC_505 E hP h9 (v := ((gA u2 505) (((gI u 510) - (1 : Int32))).toNatClampNeg)) rfl dX5_attach_63 ?_
      refine lv_if_ne (tgt := 85) hx hb dX5_attach_64 (by decide) (fun hc => ?_) (fun hc => ?_)
      · have h := h.2 hc
        refine lv_aload_n hx hb dX5_attach_85 rfl (lv_at hl 2 rfl) ?_
        refine gC_502 E hP kfX5_55 dX5_attach_86 ?_
        refine lv_aload_n hx hb dX5_attach_89 rfl (lv_at hl 2 rfl) ?_
        refine gC_507 E hP kfX5_22 dX5_attach_90 ?_
        refine lv_iload_n hx hb dX5_attach_93 rfl (lv_at hl 1 rfl) ?_
        obtain ⟨h9, h⟩ := h
        refine xC_507 E hP h9 (v := ((gB u2 507) (((gI u 510) - (1 : Int32))).toNatClampNeg)) rfl dX5_attach_94 ?_
        refine lv_lload hx hb dX5_attach_95 (lv_at hl 0 rfl) ?_
        refine cC_v (ci := 0) (q0 := 8) (As := [.long ((gB u2 507) (((gI u 510) - (1 : Int32))).toNatClampNeg), .long r1]) (rest := []) E hml hP hD hS hA (t_X0_setCdr l D G ((gB u2 507) (((gI u 510) - (1 : Int32))).toNatClampNeg) r1 u2 _ h) kmX5_164 mwyX0_setCdr rfl rfl ⟨⟨rfl, rfl⟩, Nat.le_of_ble_eq_true rfl, Nat.le_of_ble_eq_true rfl⟩ rfl hl.1 rfl (Nat.le_of_ble_eq_true rfl) dX5_attach_97 ⟨Nat.zero_le _, Nat.zero_le _⟩ (fun u3 H locs hP hD hS h => ?_)
        refine lv_aload_n hx hb dX5_attach_100 rfl (lv_at hl 2 rfl) ?_
        refine gC_507 E hP kfX5_22 dX5_attach_101 ?_
        refine lv_iload_n hx hb dX5_attach_104 rfl (lv_at hl 1 rfl) ?_
        refine lv_lload hx hb dX5_attach_105 (lv_at hl 0 rfl) ?_
        obtain ⟨h9, h⟩ := h
        refine yC_507 E hP hD hS h9 (f := (gB u3 507)) rfl dX5_attach_107 (fun H locs hP hD hS => ?_)
        exact retC_v E hr hlk hP hD hS h dX5_attach_108
      · have h := h.1 hc
        refine lv_aload_n hx hb dX5_attach_67 rfl (lv_at hl 2 rfl) ?_
        refine gC_506 E hP kfX5_19 dX5_attach_68 ?_
        refine lv_iload_n hx hb dX5_attach_71 rfl (lv_at hl 1 rfl) ?_
        refine lv_lload hx hb dX5_attach_72 (lv_at hl 0 rfl) ?_
        obtain ⟨h9, h⟩ := h
        refine yC_506 E hP hD hS h9 (f := (gB u2 506)) rfl dX5_attach_74 (fun H locs hP hD hS => ?_)
        refine lv_aload_n hx hb dX5_attach_75 rfl (lv_at hl 2 rfl) ?_
        refine gC_505 E hP kfX5_15 dX5_attach_76 ?_
        refine lv_iload_n hx hb dX5_attach_79 rfl (lv_at hl 1 rfl) ?_
        refine lv_iconst (v := (1 : Int32)) hx hb dX5_attach_80 (by decide) ?_
        obtain ⟨h9, h⟩ := h
        refine yC_505 E hP hD hS h9 (f := (gA u2 505)) rfl dX5_attach_81 (fun H locs hP hD hS => ?_)
        refine lv_goto (tgt := 100) hx hb dX5_attach_82 (by decide) ?_
        refine lv_aload_n hx hb dX5_attach_100 rfl (lv_at hl 2 rfl) ?_
        refine gC_507 E hP kfX5_22 dX5_attach_101 ?_
        refine lv_iload_n hx hb dX5_attach_104 rfl (lv_at hl 1 rfl) ?_
        refine lv_lload hx hb dX5_attach_105 (lv_at hl 0 rfl) ?_
        obtain ⟨h9, h⟩ := h
        refine yC_507 E hP hD hS h9 (f := (gB u2 507)) rfl dX5_attach_107 (fun H locs hP hD hS => ?_)
        exact retC_v E hr hlk hP hD hS h dX5_attach_108
    · have h := h.1 hc
      refine lv_aload_n hx hb dX5_attach_30 rfl (lv_at hl 1 rfl) ?_
      refine gC_502 E hP kfX5_55 dX5_attach_31 ?_
      refine lv_aload_n hx hb dX5_attach_34 rfl (lv_at hl 1 rfl) ?_
      refine gC_507 E hP kfX5_22 dX5_attach_35 ?_
      refine lv_iload_n hx hb dX5_attach_38 rfl (lv_at hl 0 rfl) ?_
      obtain ⟨h9, h⟩ := h
      refine xC_507 E hP h9 (v := ((gB u 507) (((gI u 510) - (1 : Int32))).toNatClampNeg)) rfl dX5_attach_39 ?_
      refine lv_lload_n hx hb dX5_attach_40 rfl (lv_at hl 2 rfl) ?_
      refine cC_v (ci := 0) (q0 := 8) (As := [.long ((gB u 507) (((gI u 510) - (1 : Int32))).toNatClampNeg), .long p0]) (rest := []) E hml hP hD hS hA (t_X0_setCdr l D G ((gB u 507) (((gI u 510) - (1 : Int32))).toNatClampNeg) p0 u _ h) kmX5_164 mwyX0_setCdr rfl rfl ⟨⟨rfl, rfl⟩, Nat.le_of_ble_eq_true rfl, Nat.le_of_ble_eq_true rfl⟩ rfl hl.1 rfl (Nat.le_of_ble_eq_true rfl) dX5_attach_41 ⟨Nat.zero_le _, Nat.zero_le _⟩ (fun u4 H locs hP hD hS h => ?_)
      exact retC_v E hr hlk hP hD hS h dX5_attach_44
  · have h := h.1 hc
    refine lv_aload_n hx hb dX5_attach_7 rfl (lv_at hl 0 rfl) ?_
    refine lv_lload_n hx hb dX5_attach_8 rfl (lv_at hl 1 rfl) ?_
    refine pC_513 E hP hD hS kfX5_43 dX5_attach_9 (fun H locs hP hD hS => ?_)
    exact retC_v E hr hlk hP hD hS h dX5_attach_12
def wp_X5_closeList (N : Nat → Nat)  (u : St) (Q : St → Prop) : Prop := (((gI u 510) ≤ 0 → Q u) ∧ (¬ (gI u 510) ≤ 0 → vp_in ((gI u 510) - (1 : Int32)) 60 ∧ wp_X5_attach N ((gB u 506) (((gI u 510) - (1 : Int32))).toNatClampNeg) (sI u 510 ((gI u 510) - (1 : Int32))) (fun (u1 : St) => Q u1)))
abbrev rm_X5_closeList : Room := { frames := 3, cells := 0, slots := 0, locals := 72 }
set_option maxHeartbeats 4000000 in
set_option maxRecDepth 100000 in
theorem t_X5_closeList (l : Launch) (D : va_G) (G : Gd)  (u : St) (Q : St → Prop) (h : wp_X5_closeList G.2.1  u Q) : MCv l D G yX5_closeList cX5_closeList 1 none rm_X5_closeList [.ref (G.1 5)] u Q := by
  refine startC_v (by decide) ?_
  intro p e s m args below meth c E hr hlk hml hP hD hS hA
  have hx := E.1
  have hb := E.2.1
  have hown := E.2.2.1
  have hW := E.2.2.2.1
  have hl := lv_entry ([.ref (G.1 5)]) (n := 1) (Nat.le_of_ble_eq_true rfl)
  rw [lg_entry_eq]
  generalize (lg_sl ([.ref (G.1 5)]) ++ List.replicate (1 - (lg_sl ([.ref (G.1 5)])).length) Slot.unset).toArray = ls at hl ⊢
  have hl : lv_has ls 1 [(0, .ref (G.1 5))] := hl
  unfold wp_X5_closeList at h
  refine lv_aload_n hx hb dX5_closeList_0 rfl (lv_at hl 0 rfl) ?_
  refine gC_510 E hP kfX5_32 (v := (gI u 510)) rfl dX5_closeList_1 ?_
  refine lv_if_le (tgt := 30) hx hb dX5_closeList_4 (by decide) (fun hc => ?_) (fun hc => ?_)
  · have h := h.1 hc
    exact retC_v E hr hlk hP hD hS h dX5_closeList_30
  · have h := h.2 hc
    refine lv_aload_n hx hb dX5_closeList_7 rfl (lv_at hl 0 rfl) ?_
    refine lv_dup hx hb dX5_closeList_8 rfl ?_
    refine gC_510 E hP kfX5_32 (v := (gI u 510)) rfl dX5_closeList_9 ?_
    refine lv_iconst (v := (1 : Int32)) hx hb dX5_closeList_12 (by decide) ?_
    refine lv_isub hx hb dX5_closeList_13 ?_
    refine pC_510 E hP hD hS kfX5_32 dX5_closeList_14 (fun H locs hP hD hS => ?_)
    refine lv_aload_n hx hb dX5_closeList_17 rfl (lv_at hl 0 rfl) ?_
    refine lv_aload_n hx hb dX5_closeList_18 rfl (lv_at hl 0 rfl) ?_
    refine gC_506 E hP kfX5_19 dX5_closeList_19 ?_
    refine lv_aload_n hx hb dX5_closeList_22 rfl (lv_at hl 0 rfl) ?_
    refine gC_510 E hP kfX5_32 (v := ((gI u 510) - (1 : Int32))) rfl dX5_closeList_23 ?_
    obtain ⟨h9, h⟩ := h
    refine xC_506 E hP h9 (v := ((gB u 506) (((gI u 510) - (1 : Int32))).toNatClampNeg)) rfl dX5_closeList_26 ?_
    refine cC_v (ci := 5) (q0 := 5) (As := [.long ((gB u 506) (((gI u 510) - (1 : Int32))).toNatClampNeg)]) (rest := []) E hml hP hD hS hA (t_X5_attach l D G ((gB u 506) (((gI u 510) - (1 : Int32))).toNatClampNeg) (sI u 510 ((gI u 510) - (1 : Int32))) _ h) kmX5_160 mwyX5_attach rfl rfl ⟨⟨rfl, rfl⟩, Nat.le_of_ble_eq_true rfl, Nat.le_of_ble_eq_true rfl⟩ rfl hl.1 rfl (Nat.le_of_ble_eq_true rfl) dX5_closeList_27 ⟨Nat.zero_le _, Nat.zero_le _⟩ (fun u1 H locs hP hD hS h => ?_)
    exact retC_v E hr hlk hP hD hS h dX5_closeList_30
def wp_X5_markDot (N : Nat → Nat)  (u : St) (Q : St → Prop) : Prop := (((gI u 510) ≤ 0 → Q u) ∧ (¬ (gI u 510) ≤ 0 → vp_in ((gI u 510) - (1 : Int32)) 60 ∧ Q (sA u 505 (upd (gA u 505) (((gI u 510) - (1 : Int32))).toNatClampNeg (2 : Int32)))))
abbrev rm_X5_markDot : Room := { frames := 0, cells := 0, slots := 0, locals := 0 }
set_option maxHeartbeats 4000000 in
set_option maxRecDepth 100000 in
theorem t_X5_markDot (l : Launch) (D : va_G) (G : Gd)  (u : St) (Q : St → Prop) (h : wp_X5_markDot G.2.1  u Q) : MCv l D G yX5_markDot cX5_markDot 1 none rm_X5_markDot [.ref (G.1 5)] u Q := by
  refine startC_v (by decide) ?_
  intro p e s m args below meth c E hr hlk hml hP hD hS hA
  have hx := E.1
  have hb := E.2.1
  have hown := E.2.2.1
  have hW := E.2.2.2.1
  have hl := lv_entry ([.ref (G.1 5)]) (n := 1) (Nat.le_of_ble_eq_true rfl)
  rw [lg_entry_eq]
  generalize (lg_sl ([.ref (G.1 5)]) ++ List.replicate (1 - (lg_sl ([.ref (G.1 5)])).length) Slot.unset).toArray = ls at hl ⊢
  have hl : lv_has ls 1 [(0, .ref (G.1 5))] := hl
  unfold wp_X5_markDot at h
  refine lv_aload_n hx hb dX5_markDot_0 rfl (lv_at hl 0 rfl) ?_
  refine gC_510 E hP kfX5_32 (v := (gI u 510)) rfl dX5_markDot_1 ?_
  refine lv_if_le (tgt := 19) hx hb dX5_markDot_4 (by decide) (fun hc => ?_) (fun hc => ?_)
  · have h := h.1 hc
    exact retC_v E hr hlk hP hD hS h dX5_markDot_19
  · have h := h.2 hc
    refine lv_aload_n hx hb dX5_markDot_7 rfl (lv_at hl 0 rfl) ?_
    refine gC_505 E hP kfX5_15 dX5_markDot_8 ?_
    refine lv_aload_n hx hb dX5_markDot_11 rfl (lv_at hl 0 rfl) ?_
    refine gC_510 E hP kfX5_32 (v := (gI u 510)) rfl dX5_markDot_12 ?_
    refine lv_iconst (v := (1 : Int32)) hx hb dX5_markDot_15 (by decide) ?_
    refine lv_isub hx hb dX5_markDot_16 ?_
    refine lv_iconst (v := (2 : Int32)) hx hb dX5_markDot_17 (by decide) ?_
    obtain ⟨h9, h⟩ := h
    refine yC_505 E hP hD hS h9 (f := (gA u 505)) rfl dX5_markDot_18 (fun H locs hP hD hS => ?_)
    exact retC_v E hr hlk hP hD hS h dX5_markDot_19
def wp_X5_openList (N : Nat → Nat)  (u : St) (Q : St → Prop) : Prop := (((60 : Int32) ≤ (gI u 510) → Q u) ∧ (¬ (60 : Int32) ≤ (gI u 510) → vp_in (gI u 510) 60 ∧ vp_in (gI u 510) 60 ∧ vp_in (gI u 510) 60 ∧ Q (sI (sA (sB (sB u 506 (vp_updL (gB u 506) ((gI u 510)).toNatClampNeg (1099511627776 : Int64))) 507 (vp_updL (gB u 507) ((gI u 510)).toNatClampNeg (1099511627776 : Int64))) 505 (upd (gA u 505) ((gI u 510)).toNatClampNeg (0 : Int32))) 510 ((gI u 510) + (1 : Int32)))))
abbrev rm_X5_openList : Room := { frames := 0, cells := 0, slots := 0, locals := 0 }
set_option maxHeartbeats 4000000 in
set_option maxRecDepth 100000 in
theorem t_X5_openList (l : Launch) (D : va_G) (G : Gd)  (u : St) (Q : St → Prop) (h : wp_X5_openList G.2.1  u Q) : MCv l D G yX5_openList cX5_openList 1 none rm_X5_openList [.ref (G.1 5)] u Q := by
  refine startC_v (by decide) ?_
  intro p e s m args below meth c E hr hlk hml hP hD hS hA
  have hx := E.1
  have hb := E.2.1
  have hown := E.2.2.1
  have hW := E.2.2.2.1
  have hl := lv_entry ([.ref (G.1 5)]) (n := 1) (Nat.le_of_ble_eq_true rfl)
  rw [lg_entry_eq]
  generalize (lg_sl ([.ref (G.1 5)]) ++ List.replicate (1 - (lg_sl ([.ref (G.1 5)])).length) Slot.unset).toArray = ls at hl ⊢
  have hl : lv_has ls 1 [(0, .ref (G.1 5))] := hl
  unfold wp_X5_openList at h
  refine lv_aload_n hx hb dX5_openList_0 rfl (lv_at hl 0 rfl) ?_
  refine gC_510 E hP kfX5_32 (v := (gI u 510)) rfl dX5_openList_1 ?_
  refine lv_bipush (v := (60 : Int32)) hx hb dX5_openList_4 (by decide) ?_
  refine lv_icmp_ge (tgt := 53) hx hb dX5_openList_6 (by decide) (fun hc => ?_) (fun hc => ?_)
  · have h := h.1 hc
    exact retC_v E hr hlk hP hD hS h dX5_openList_53
  · have h := h.2 hc
    refine lv_aload_n hx hb dX5_openList_9 rfl (lv_at hl 0 rfl) ?_
    refine gC_506 E hP kfX5_19 dX5_openList_10 ?_
    refine lv_aload_n hx hb dX5_openList_13 rfl (lv_at hl 0 rfl) ?_
    refine gC_510 E hP kfX5_32 (v := (gI u 510)) rfl dX5_openList_14 ?_
    refine lv_ldc2 (v := (1099511627776 : Int64)) hx hb hown (hW _ kcX5_41) dX5_openList_17 ?_
    obtain ⟨h9, h⟩ := h
    refine yC_506 E hP hD hS h9 (f := (gB u 506)) rfl dX5_openList_20 (fun H locs hP hD hS => ?_)
    refine lv_aload_n hx hb dX5_openList_21 rfl (lv_at hl 0 rfl) ?_
    refine gC_507 E hP kfX5_22 dX5_openList_22 ?_
    refine lv_aload_n hx hb dX5_openList_25 rfl (lv_at hl 0 rfl) ?_
    refine gC_510 E hP kfX5_32 (v := (gI u 510)) rfl dX5_openList_26 ?_
    refine lv_ldc2 (v := (1099511627776 : Int64)) hx hb hown (hW _ kcX5_41) dX5_openList_29 ?_
    obtain ⟨h9, h⟩ := h
    refine yC_507 E hP hD hS h9 (f := (gB u 507)) rfl dX5_openList_32 (fun H locs hP hD hS => ?_)
    refine lv_aload_n hx hb dX5_openList_33 rfl (lv_at hl 0 rfl) ?_
    refine gC_505 E hP kfX5_15 dX5_openList_34 ?_
    refine lv_aload_n hx hb dX5_openList_37 rfl (lv_at hl 0 rfl) ?_
    refine gC_510 E hP kfX5_32 (v := (gI u 510)) rfl dX5_openList_38 ?_
    refine lv_iconst (v := (0 : Int32)) hx hb dX5_openList_41 (by decide) ?_
    obtain ⟨h9, h⟩ := h
    refine yC_505 E hP hD hS h9 (f := (gA u 505)) rfl dX5_openList_42 (fun H locs hP hD hS => ?_)
    refine lv_aload_n hx hb dX5_openList_43 rfl (lv_at hl 0 rfl) ?_
    refine lv_dup hx hb dX5_openList_44 rfl ?_
    refine gC_510 E hP kfX5_32 (v := (gI u 510)) rfl dX5_openList_45 ?_
    refine lv_iconst (v := (1 : Int32)) hx hb dX5_openList_48 (by decide) ?_
    refine lv_iadd hx hb dX5_openList_49 ?_
    refine pC_510 E hP hD hS kfX5_32 dX5_openList_50 (fun H locs hP hD hS => ?_)
    exact retC_v E hr hlk hP hD hS h dX5_openList_53
def l_X5_build_7 (N : Nat → Nat)  (K : St → Prop) : Nat → Int32 → St → Prop
  | 0, _, _ => False
  | n + 1, x1, u => (((gI u 509) ≤ x1 → K u) ∧ (¬ (gI u 509) ≤ x1 → vp_in x1 2000 ∧ ((((gB u 504) (x1).toNatClampNeg) = (3298534883328 : Int64) → wp_X5_openList N  u (fun (u4 : St) => l_X5_build_7 N  K n (x1 + (1 : Int32)) u4)) ∧ (¬ ((gB u 504) (x1).toNatClampNeg) = (3298534883328 : Int64) → ((((gB u 504) (x1).toNatClampNeg) = (3298534883330 : Int64) → wp_X5_markDot N  u (fun (u3 : St) => l_X5_build_7 N  K n (x1 + (1 : Int32)) u3)) ∧ (¬ ((gB u 504) (x1).toNatClampNeg) = (3298534883330 : Int64) → ((((gB u 504) (x1).toNatClampNeg) = (3298534883329 : Int64) → wp_X5_closeList N  u (fun (u2 : St) => l_X5_build_7 N  K n (x1 + (1 : Int32)) u2)) ∧ (¬ ((gB u 504) (x1).toNatClampNeg) = (3298534883329 : Int64) → wp_X5_attach N ((gB u 504) (x1).toNatClampNeg) u (fun (u1 : St) => l_X5_build_7 N  K n (x1 + (1 : Int32)) u1)))))))))
def wp_X5_build (N : Nat → Nat)  (u : St) (Q : St → Prop) : Prop := (∃ k6 : Nat, l_X5_build_7 N   (fun (u5 : St) => Q u5) k6 (0 : Int32) (sI u 510 (0 : Int32)))
abbrev rm_X5_build : Room := { frames := 4, cells := 0, slots := 0, locals := 92 }
set_option maxHeartbeats 4000000 in
set_option maxRecDepth 100000 in
theorem t_X5_build (l : Launch) (D : va_G) (G : Gd)  (u : St) (Q : St → Prop) (h : wp_X5_build G.2.1  u Q) : MCv l D G yX5_build cX5_build 4 none rm_X5_build [.ref (G.1 5)] u Q := by
  refine startC_v (by decide) ?_
  intro p e s m args below meth c E hr hlk hml hP hD hS hA
  have hx := E.1
  have hb := E.2.1
  have hown := E.2.2.1
  have hW := E.2.2.2.1
  have hl := lv_entry ([.ref (G.1 5)]) (n := 4) (Nat.le_of_ble_eq_true rfl)
  rw [lg_entry_eq]
  generalize (lg_sl ([.ref (G.1 5)]) ++ List.replicate (4 - (lg_sl ([.ref (G.1 5)])).length) Slot.unset).toArray = ls at hl ⊢
  have hl : lv_has ls 4 [(0, .ref (G.1 5))] := hl
  have L_7 : ∀  (K : St → Prop), (∀  (u : St) (H : Heap) (locs : List Loc) (ls : Array Slot), K  u → va_P D vwCl (wC G u) H → va_D (AC G s.heap.size) (wC G u) → va_S (AC G s.heap.size) s.heap H locs → lv_has ls 4 [] → W p l e rm_X5_build s m args below meth c H locs 0 0 (MQ below (va_Qv Q (BC D G s.heap.size) (AC G s.heap.size)) args s 0 0 (AC G s.heap.size)) (F0 m 78 ls [])) → ∀ (n : Nat) (x1 : Int32) (u : St) (H : Heap) (locs : List Loc) (ls : Array Slot), l_X5_build_7 G.2.1  K n x1 u → va_P D vwCl (wC G u) H → va_D (AC G s.heap.size) (wC G u) → va_S (AC G s.heap.size) s.heap H locs → lv_has ls 4 [(0, .ref (G.1 5)), (1, .int x1)] → W p l e rm_X5_build s m args below meth c H locs 0 0 (MQ below (va_Qv Q (BC D G s.heap.size) (AC G s.heap.size)) args s 0 0 (AC G s.heap.size)) (F0 m 7 ls []) := by
    intro  K hK n
    induction n with
    | zero => intro x1 u H locs ls h; exact False.elim h
    | succ n ih =>
      intro x1 u H locs ls h hP hD hS hl
      unfold l_X5_build_7 at h
      refine lv_iload_n hx hb dX5_build_7 rfl (lv_at hl 1 rfl) ?_
      refine lv_aload_n hx hb dX5_build_8 rfl (lv_at hl 0 rfl) ?_
      refine gC_509 E hP kfX5_28 (v := (gI u 509)) rfl dX5_build_9 ?_
      refine lv_icmp_ge (tgt := 78) hx hb dX5_build_12 (by decide) (fun hc => ?_) (fun hc => ?_)
      · have h := h.1 hc
        exact hK u _ _ _ h hP hD hS (lv_sub hl [] rfl)
      · have h := h.2 hc
        refine lv_aload_n hx hb dX5_build_15 rfl (lv_at hl 0 rfl) ?_
        refine gC_504 E hP kfX5_9 dX5_build_16 ?_
        refine lv_iload_n hx hb dX5_build_19 rfl (lv_at hl 1 rfl) ?_
        obtain ⟨h9, h⟩ := h
        refine xC_504 E hP h9 (v := ((gB u 504) (x1).toNatClampNeg)) rfl dX5_build_20 ?_
        refine lv_lstore_n (lv' := [(2, .long ((gB u 504) (x1).toNatClampNeg)), (0, .ref (G.1 5)), (1, .int x1)]) hx hb dX5_build_21 rfl hl (by decide) rfl (fun ls hl => ?_)
        refine lv_lload_n hx hb dX5_build_22 rfl (lv_at hl 0 rfl) ?_
        refine lv_ldc2 (v := (3298534883328 : Int64)) hx hb hown (hW _ kcX5_132) dX5_build_23 ?_
        refine lq_ne (tgt := 37) hx hb dX5_build_26 dX5_build_27 (by decide) (fun hc => ?_) (fun hc => ?_)
        · have h := h.2 hc
          refine lv_lload_n hx hb dX5_build_37 rfl (lv_at hl 0 rfl) ?_
          refine lv_ldc2 (v := (3298534883330 : Int64)) hx hb hown (hW _ kcX5_143) dX5_build_38 ?_
          refine lq_ne (tgt := 52) hx hb dX5_build_41 dX5_build_42 (by decide) (fun hc => ?_) (fun hc => ?_)
          · have h := h.2 hc
            refine lv_lload_n hx hb dX5_build_52 rfl (lv_at hl 0 rfl) ?_
            refine lv_ldc2 (v := (3298534883329 : Int64)) hx hb hown (hW _ kcX5_141) dX5_build_53 ?_
            refine lq_ne (tgt := 67) hx hb dX5_build_56 dX5_build_57 (by decide) (fun hc => ?_) (fun hc => ?_)
            · have h := h.2 hc
              refine lv_aload_n hx hb dX5_build_67 rfl (lv_at hl 1 rfl) ?_
              refine lv_lload_n hx hb dX5_build_68 rfl (lv_at hl 0 rfl) ?_
              refine cC_v (ci := 5) (q0 := 5) (As := [.long ((gB u 504) (x1).toNatClampNeg)]) (rest := []) E hml hP hD hS hA (t_X5_attach l D G ((gB u 504) (x1).toNatClampNeg) u _ h) kmX5_160 mwyX5_attach rfl rfl ⟨⟨rfl, rfl⟩, Nat.le_of_ble_eq_true rfl, Nat.le_of_ble_eq_true rfl⟩ rfl hl.1 rfl (Nat.le_of_ble_eq_true rfl) dX5_build_69 ⟨Nat.zero_le _, Nat.zero_le _⟩ (fun u1 H locs hP hD hS h => ?_)
              refine lv_iinc (v := (x1 + (1 : Int32))) (lv' := [(1, .int (x1 + (1 : Int32))), (2, .long ((gB u 504) (x1).toNatClampNeg)), (0, .ref (G.1 5))]) hx hb dX5_build_72 hl (k := 2) rfl rfl (by decide) rfl (fun ls hl => ?_)
              refine lv_goto (tgt := 7) hx hb dX5_build_75 (by decide) ?_
              exact ih (x1 + (1 : Int32)) u1 _ _ _ h hP hD hS (lv_sub hl [2, 0] rfl)
            · have h := h.1 hc
              refine lv_aload_n hx hb dX5_build_60 rfl (lv_at hl 1 rfl) ?_
              refine cC_v (ci := 5) (q0 := 5) (As := []) (rest := []) E hml hP hD hS hA (t_X5_closeList l D G  u _ h) kmX5_157 mwyX5_closeList rfl rfl ⟨⟨rfl, rfl⟩, Nat.le_of_ble_eq_true rfl, Nat.le_of_ble_eq_true rfl⟩ rfl hl.1 rfl (Nat.le_of_ble_eq_true rfl) dX5_build_61 ⟨Nat.zero_le _, Nat.zero_le _⟩ (fun u2 H locs hP hD hS h => ?_)
              refine lv_goto (tgt := 72) hx hb dX5_build_64 (by decide) ?_
              refine lv_iinc (v := (x1 + (1 : Int32))) (lv' := [(1, .int (x1 + (1 : Int32))), (2, .long ((gB u 504) (x1).toNatClampNeg)), (0, .ref (G.1 5))]) hx hb dX5_build_72 hl (k := 2) rfl rfl (by decide) rfl (fun ls hl => ?_)
              refine lv_goto (tgt := 7) hx hb dX5_build_75 (by decide) ?_
              exact ih (x1 + (1 : Int32)) u2 _ _ _ h hP hD hS (lv_sub hl [2, 0] rfl)
          · have h := h.1 hc
            refine lv_aload_n hx hb dX5_build_45 rfl (lv_at hl 1 rfl) ?_
            refine cC_v (ci := 5) (q0 := 5) (As := []) (rest := []) E hml hP hD hS hA (t_X5_markDot l D G  u _ h) kmX5_154 mwyX5_markDot rfl rfl ⟨⟨rfl, rfl⟩, Nat.le_of_ble_eq_true rfl, Nat.le_of_ble_eq_true rfl⟩ rfl hl.1 rfl (Nat.le_of_ble_eq_true rfl) dX5_build_46 ⟨Nat.zero_le _, Nat.zero_le _⟩ (fun u3 H locs hP hD hS h => ?_)
            refine lv_goto (tgt := 72) hx hb dX5_build_49 (by decide) ?_
            refine lv_iinc (v := (x1 + (1 : Int32))) (lv' := [(1, .int (x1 + (1 : Int32))), (2, .long ((gB u 504) (x1).toNatClampNeg)), (0, .ref (G.1 5))]) hx hb dX5_build_72 hl (k := 2) rfl rfl (by decide) rfl (fun ls hl => ?_)
            refine lv_goto (tgt := 7) hx hb dX5_build_75 (by decide) ?_
            exact ih (x1 + (1 : Int32)) u3 _ _ _ h hP hD hS (lv_sub hl [2, 0] rfl)
        · have h := h.1 hc
          refine lv_aload_n hx hb dX5_build_30 rfl (lv_at hl 1 rfl) ?_
          refine cC_v (ci := 5) (q0 := 5) (As := []) (rest := []) E hml hP hD hS hA (t_X5_openList l D G  u _ h) kmX5_151 mwyX5_openList rfl rfl ⟨⟨rfl, rfl⟩, Nat.le_of_ble_eq_true rfl, Nat.le_of_ble_eq_true rfl⟩ rfl hl.1 rfl (Nat.le_of_ble_eq_true rfl) dX5_build_31 ⟨Nat.zero_le _, Nat.zero_le _⟩ (fun u4 H locs hP hD hS h => ?_)
          refine lv_goto (tgt := 72) hx hb dX5_build_34 (by decide) ?_
          refine lv_iinc (v := (x1 + (1 : Int32))) (lv' := [(1, .int (x1 + (1 : Int32))), (2, .long ((gB u 504) (x1).toNatClampNeg)), (0, .ref (G.1 5))]) hx hb dX5_build_72 hl (k := 2) rfl rfl (by decide) rfl (fun ls hl => ?_)
          refine lv_goto (tgt := 7) hx hb dX5_build_75 (by decide) ?_
          exact ih (x1 + (1 : Int32)) u4 _ _ _ h hP hD hS (lv_sub hl [2, 0] rfl)
  unfold wp_X5_build at h
  refine lv_aload_n hx hb dX5_build_0 rfl (lv_at hl 0 rfl) ?_
  refine lv_iconst (v := (0 : Int32)) hx hb dX5_build_1 (by decide) ?_
  refine pC_510 E hP hD hS kfX5_32 dX5_build_2 (fun H locs hP hD hS => ?_)
  refine lv_iconst (v := (0 : Int32)) hx hb dX5_build_5 (by decide) ?_
  refine lv_istore_n (lv' := [(1, .int (0 : Int32)), (0, .ref (G.1 5))]) hx hb dX5_build_6 rfl hl (by decide) rfl (fun ls hl => ?_)
  obtain ⟨n, h⟩ := h
  refine L_7  _ (fun u5 H locs ls h hP hD hS hl => ?_) n (0 : Int32) (sI u 510 (0 : Int32)) _ _ _ h hP hD hS (lv_sub hl [1, 0] rfl)
  exact retC_v E hr hlk hP hD hS h dX5_build_78
def wp_X5_read (N : Nat → Nat)  (u : St) (Q : Int32 → St → Prop) : Prop := wp_X5_scan N  (sI u 203 (0 : Int32)) (fun (r1 : Int32) (u2 : St) => ((r1 = 0 → Q (10 : Int32) (sI (sI (sI u2 202 (gI u 202)) 103 (gI u2 512)) 102 (gI u2 101))) ∧ (¬ r1 = 0 → (((gI u2 203) = 0 → wp_X1_hasRoom_20 N (gI u2 511) (0 : Int32) (1099511627776 : Int64) (1099511627776 : Int64) (sI u2 102 (gI u2 512)) (fun (r3 : Int32) (u4 : St) => ((r3 = 0 → Q (6 : Int32) u4) ∧ (¬ r3 = 0 → wp_X5_build N  u4 (fun (u5 : St) => Q (0 : Int32) u5))))) ∧ (¬ (gI u2 203) = 0 → Q (9 : Int32) (sI (sI u2 102 (gI u2 512)) 202 (gI u 202)))))))
abbrev rm_X5_read : Room := { frames := 5, cells := 0, slots := 0, locals := 115 }
set_option maxHeartbeats 4000000 in
set_option maxRecDepth 100000 in
theorem t_X5_read (l : Launch) (D : va_G) (G : Gd)  (u : St) (Q : Int32 → St → Prop) (h : wp_X5_read G.2.1  u Q) : MCi l D G yX5_read cX5_read 2 (some .int) rm_X5_read [.ref (G.1 5)] u Q := by
  refine startC_i (by decide) ?_
  intro p e s m args below meth c E hr hlk hml hP hD hS hA
  have hx := E.1
  have hb := E.2.1
  have hown := E.2.2.1
  have hW := E.2.2.2.1
  have hl := lv_entry ([.ref (G.1 5)]) (n := 2) (Nat.le_of_ble_eq_true rfl)
  rw [lg_entry_eq]
  generalize (lg_sl ([.ref (G.1 5)]) ++ List.replicate (2 - (lg_sl ([.ref (G.1 5)])).length) Slot.unset).toArray = ls at hl ⊢
  have hl : lv_has ls 2 [(0, .ref (G.1 5))] := hl
  unfold wp_X5_read at h
  refine lv_aload_n hx hb dX5_read_0 rfl (lv_at hl 0 rfl) ?_
  refine gC_501 E hP kfX5_51 dX5_read_1 ?_
  refine gC_202 E hP kfX5_63 (v := (gI u 202)) rfl dX5_read_4 ?_
  refine lv_istore_n (lv' := [(1, .int (gI u 202)), (0, .ref (G.1 5))]) hx hb dX5_read_7 rfl hl (by decide) rfl (fun ls hl => ?_)
  refine lv_aload_n hx hb dX5_read_8 rfl (lv_at hl 1 rfl) ?_
  refine gC_501 E hP kfX5_51 dX5_read_9 ?_
  refine lv_iconst (v := (0 : Int32)) hx hb dX5_read_12 (by decide) ?_
  refine pC_203 E hP hD hS kfX5_68 vz_0 dX5_read_13 (fun H locs hP hD hS => ?_)
  refine lv_aload_n hx hb dX5_read_16 rfl (lv_at hl 1 rfl) ?_
  refine cC_i (ci := 5) (q0 := 5) (As := []) (rest := []) E hml hP hD hS hA (t_X5_scan l D G  (sI u 203 (0 : Int32)) _ h) kmX5_72 mwyX5_scan rfl rfl ⟨⟨rfl, rfl⟩, Nat.le_of_ble_eq_true rfl, Nat.le_of_ble_eq_true rfl⟩ rfl hl.1 rfl (Nat.le_of_ble_eq_true rfl) dX5_read_17 ⟨Nat.zero_le _, Nat.zero_le _⟩ (fun r1 u2 H locs hP hD hS h => ?_)
  refine lv_if_ne (tgt := 59) hx hb dX5_read_20 (by decide) (fun hc => ?_) (fun hc => ?_)
  · have h := h.2 hc
    refine lv_aload_n hx hb dX5_read_59 rfl (lv_at hl 1 rfl) ?_
    refine gC_500 E hP kfX5_47 dX5_read_60 ?_
    refine lv_aload_n hx hb dX5_read_63 rfl (lv_at hl 1 rfl) ?_
    refine gC_512 E hP kfX5_38 (v := (gI u2 512)) rfl dX5_read_64 ?_
    refine pC_102 E hP hD hS kfX5_84 dX5_read_67 (fun H locs hP hD hS => ?_)
    refine lv_aload_n hx hb dX5_read_70 rfl (lv_at hl 1 rfl) ?_
    refine gC_501 E hP kfX5_51 dX5_read_71 ?_
    refine gC_203 E hP kfX5_68 (v := (gI u2 203)) rfl dX5_read_74 ?_
    refine lv_if_eq (tgt := 91) hx hb dX5_read_77 (by decide) (fun hc => ?_) (fun hc => ?_)
    · have h := h.1 hc
      refine lv_aload_n hx hb dX5_read_91 rfl (lv_at hl 1 rfl) ?_
      refine gC_503 E hP kfX5_59 dX5_read_92 ?_
      refine lv_aload_n hx hb dX5_read_95 rfl (lv_at hl 1 rfl) ?_
      refine gC_511 E hP kfX5_35 (v := (gI u2 511)) rfl dX5_read_96 ?_
      refine lv_aload_n hx hb dX5_read_99 rfl (lv_at hl 1 rfl) ?_
      refine gC_508 E hP kfX5_25 dX5_read_100 ?_
      refine lv_iconst (v := (0 : Int32)) hx hb dX5_read_103 (by decide) ?_
      refine lv_ldc2 (v := (1099511627776 : Int64)) hx hb hown (hW _ kcX5_41) dX5_read_104 ?_
      refine lv_ldc2 (v := (1099511627776 : Int64)) hx hb hown (hW _ kcX5_41) dX5_read_107 ?_
      refine cC_i (ci := 1) (q0 := 4) (As := [.int (gI u2 511), .ref (G.1 20), .int (0 : Int32), .long (1099511627776 : Int64), .long (1099511627776 : Int64)]) (rest := []) E hml hP hD hS hA (t_X1_hasRoom_20 l D G (gI u2 511) (0 : Int32) (1099511627776 : Int64) (1099511627776 : Int64) (sI u2 102 (gI u2 512)) _ h) kmX5_87 mwyX1_hasRoom rfl rfl ⟨⟨rfl, rfl⟩, Nat.le_of_ble_eq_true rfl, Nat.le_of_ble_eq_true rfl⟩ rfl hl.1 rfl (Nat.le_of_ble_eq_true rfl) dX5_read_110 ⟨Nat.zero_le _, Nat.zero_le _⟩ (fun r3 u4 H locs hP hD hS h => ?_)
      refine lv_if_ne (tgt := 119) hx hb dX5_read_113 (by decide) (fun hc => ?_) (fun hc => ?_)
      · have h := h.2 hc
        refine lv_aload_n hx hb dX5_read_119 rfl (lv_at hl 1 rfl) ?_
        refine cC_v (ci := 5) (q0 := 5) (As := []) (rest := []) E hml hP hD hS hA (t_X5_build l D G  u4 _ h) kmX5_93 mwyX5_build rfl rfl ⟨⟨rfl, rfl⟩, Nat.le_of_ble_eq_true rfl, Nat.le_of_ble_eq_true rfl⟩ rfl hl.1 rfl (Nat.le_of_ble_eq_true rfl) dX5_read_120 ⟨Nat.zero_le _, Nat.zero_le _⟩ (fun u5 H locs hP hD hS h => ?_)
        refine lv_iconst (v := (0 : Int32)) hx hb dX5_read_123 (by decide) ?_
        exact retC_i E hr hlk hP hD hS h dX5_read_124
      · have h := h.1 hc
        refine lv_bipush (v := (6 : Int32)) hx hb dX5_read_116 (by decide) ?_
        exact retC_i E hr hlk hP hD hS h dX5_read_118
    · have h := h.2 hc
      refine lv_aload_n hx hb dX5_read_80 rfl (lv_at hl 1 rfl) ?_
      refine gC_501 E hP kfX5_51 dX5_read_81 ?_
      refine lv_iload_n hx hb dX5_read_84 rfl (lv_at hl 0 rfl) ?_
      refine pC_202 E hP hD hS kfX5_63 dX5_read_85 (fun H locs hP hD hS => ?_)
      refine lv_bipush (v := (9 : Int32)) hx hb dX5_read_88 (by decide) ?_
      exact retC_i E hr hlk hP hD hS h dX5_read_90
  · have h := h.1 hc
    refine lv_aload_n hx hb dX5_read_23 rfl (lv_at hl 1 rfl) ?_
    refine gC_501 E hP kfX5_51 dX5_read_24 ?_
    refine lv_iload_n hx hb dX5_read_27 rfl (lv_at hl 0 rfl) ?_
    refine pC_202 E hP hD hS kfX5_63 dX5_read_28 (fun H locs hP hD hS => ?_)
    refine lv_aload_n hx hb dX5_read_31 rfl (lv_at hl 1 rfl) ?_
    refine gC_500 E hP kfX5_47 dX5_read_32 ?_
    refine lv_aload_n hx hb dX5_read_35 rfl (lv_at hl 1 rfl) ?_
    refine gC_512 E hP kfX5_38 (v := (gI u2 512)) rfl dX5_read_36 ?_
    refine pC_103 E hP hD hS kfX5_76 dX5_read_39 (fun H locs hP hD hS => ?_)
    refine lv_aload_n hx hb dX5_read_42 rfl (lv_at hl 1 rfl) ?_
    refine gC_500 E hP kfX5_47 dX5_read_43 ?_
    refine lv_aload_n hx hb dX5_read_46 rfl (lv_at hl 1 rfl) ?_
    refine gC_500 E hP kfX5_47 dX5_read_47 ?_
    refine gC_101 E hP kfX5_81 (v := (gI u2 101)) rfl dX5_read_50 ?_
    refine pC_102 E hP hD hS kfX5_84 dX5_read_53 (fun H locs hP hD hS => ?_)
    refine lv_bipush (v := (10 : Int32)) hx hb dX5_read_56 (by decide) ?_
    exact retC_i E hr hlk hP hD hS h dX5_read_58
def wp_X2_beginEvaluating (N : Nat → Nat) (p0 : Int64) (p1 : Int64) (u : St) (Q : St → Prop) : Prop := Q (sI (sJ (sJ u 610 p0) 613 p1) 608 (0 : Int32))
abbrev rm_X2_beginEvaluating : Room := { frames := 0, cells := 0, slots := 0, locals := 0 }
set_option maxHeartbeats 4000000 in
set_option maxRecDepth 100000 in
theorem t_X2_beginEvaluating (l : Launch) (D : va_G) (G : Gd) (p0 : Int64) (p1 : Int64) (u : St) (Q : St → Prop) (h : wp_X2_beginEvaluating G.2.1 p0 p1 u Q) : MCv l D G yX2_beginEvaluating cX2_beginEvaluating 5 none rm_X2_beginEvaluating [.ref (G.1 6), .long p0, .long p1] u Q := by
  refine startC_v (by decide) ?_
  intro p e s m args below meth c E hr hlk hml hP hD hS hA
  have hx := E.1
  have hb := E.2.1
  have hown := E.2.2.1
  have hW := E.2.2.2.1
  have hl := lv_entry ([.ref (G.1 6), .long p0, .long p1]) (n := 5) (Nat.le_of_ble_eq_true rfl)
  rw [lg_entry_eq]
  generalize (lg_sl ([.ref (G.1 6), .long p0, .long p1]) ++ List.replicate (5 - (lg_sl ([.ref (G.1 6), .long p0, .long p1])).length) Slot.unset).toArray = ls at hl ⊢
  have hl : lv_has ls 5 [(0, .ref (G.1 6)), (1, .long p0), (3, .long p1)] := hl
  unfold wp_X2_beginEvaluating at h
  refine lv_aload_n hx hb dX2_beginEvaluating_0 rfl (lv_at hl 0 rfl) ?_
  refine lv_lload_n hx hb dX2_beginEvaluating_1 rfl (lv_at hl 1 rfl) ?_
  refine pC_610 E hP hD hS kfX2_30 dX2_beginEvaluating_2 (fun H locs hP hD hS => ?_)
  refine lv_aload_n hx hb dX2_beginEvaluating_5 rfl (lv_at hl 0 rfl) ?_
  refine lv_lload_n hx hb dX2_beginEvaluating_6 rfl (lv_at hl 2 rfl) ?_
  refine pC_613 E hP hD hS kfX2_40 dX2_beginEvaluating_7 (fun H locs hP hD hS => ?_)
  refine lv_aload_n hx hb dX2_beginEvaluating_10 rfl (lv_at hl 0 rfl) ?_
  refine lv_iconst (v := (0 : Int32)) hx hb dX2_beginEvaluating_11 (by decide) ?_
  refine pC_608 E hP hD hS kfX2_22 dX2_beginEvaluating_12 (fun H locs hP hD hS => ?_)
  exact retC_v E hr hlk hP hD hS h dX2_beginEvaluating_15
def wp_X8_isPair (p0 : Int64) (Q : Int32 → Prop) : Prop := ((p0 < (2199023255552 : Int64) → Q (0 : Int32)) ∧ (¬ p0 < (2199023255552 : Int64) → (((3298534883328 : Int64) ≤ p0 → Q (0 : Int32)) ∧ (¬ (3298534883328 : Int64) ≤ p0 → Q (1 : Int32)))))
abbrev rm_X8_isPair : Room := { frames := 0, cells := 0, slots := 0, locals := 0 }
set_option maxHeartbeats 4000000 in
set_option maxRecDepth 100000 in
theorem t_X8_isPair (l : Launch) (p0 : Int64) (Q : Int32 → Prop) (h : wp_X8_isPair p0 Q) : M0i l yX8_isPair cX8_isPair 2 (some .boolean) rm_X8_isPair [.long p0] Q := by
  refine start0_i (by decide) ?_
  intro p e s m args below meth c hx hb hown hW hr hlk hml hS
  have hP : va_P ((fun _ => 0), (fun _ _ => 0)) vwCl [] s.heap := fun k q h => by simp at h
  have hA : ∀ q, s.heap.size ≤ q → (fun q => s.heap.size ≤ q) q := fun _ h => h
  have hl := lv_entry ([.long p0]) (n := 2) (Nat.le_of_ble_eq_true rfl)
  rw [lg_entry_eq]
  generalize (lg_sl ([.long p0]) ++ List.replicate (2 - (lg_sl ([.long p0])).length) Slot.unset).toArray = ls at hl ⊢
  have hl : lv_has ls 2 [(0, .long p0)] := hl
  unfold wp_X8_isPair at h
  refine lv_lload_n hx hb dX8_isPair_0 rfl (lv_at hl 0 rfl) ?_
  refine lv_ldc2 (v := (2199023255552 : Int64)) hx hb hown (hW _ kcX8_11) dX8_isPair_1 ?_
  refine lq_lt (tgt := 20) hx hb dX8_isPair_4 dX8_isPair_5 (by decide) (fun hc => ?_) (fun hc => ?_)
  · have h := h.1 hc
    refine lv_iconst (v := (0 : Int32)) hx hb dX8_isPair_20 (by decide) ?_
    exact ret0_z hx hb hr hlk hS (vz_n vz_0) h dX8_isPair_21
  · have h := h.2 hc
    refine lv_lload_n hx hb dX8_isPair_8 rfl (lv_at hl 0 rfl) ?_
    refine lv_ldc2 (v := (3298534883328 : Int64)) hx hb hown (hW _ kcX8_13) dX8_isPair_9 ?_
    refine lq_ge (tgt := 20) hx hb dX8_isPair_12 dX8_isPair_13 (by decide) (fun hc => ?_) (fun hc => ?_)
    · have h := h.1 hc
      refine lv_iconst (v := (0 : Int32)) hx hb dX8_isPair_20 (by decide) ?_
      exact ret0_z hx hb hr hlk hS (vz_n vz_0) h dX8_isPair_21
    · have h := h.2 hc
      refine lv_iconst (v := (1 : Int32)) hx hb dX8_isPair_16 (by decide) ?_
      refine lv_goto (tgt := 21) hx hb dX8_isPair_17 (by decide) ?_
      exact ret0_z hx hb hr hlk hS (vz_n vz_1) h dX8_isPair_21
def wp_X8_isNumber (p0 : Int64) (Q : Int32 → Prop) : Prop := (((1099511627776 : Int64) ≤ p0 → Q (0 : Int32)) ∧ (¬ (1099511627776 : Int64) ≤ p0 → Q (1 : Int32)))
abbrev rm_X8_isNumber : Room := { frames := 0, cells := 0, slots := 0, locals := 0 }
set_option maxHeartbeats 4000000 in
set_option maxRecDepth 100000 in
theorem t_X8_isNumber (l : Launch) (p0 : Int64) (Q : Int32 → Prop) (h : wp_X8_isNumber p0 Q) : M0i l yX8_isNumber cX8_isNumber 2 (some .boolean) rm_X8_isNumber [.long p0] Q := by
  refine start0_i (by decide) ?_
  intro p e s m args below meth c hx hb hown hW hr hlk hml hS
  have hP : va_P ((fun _ => 0), (fun _ _ => 0)) vwCl [] s.heap := fun k q h => by simp at h
  have hA : ∀ q, s.heap.size ≤ q → (fun q => s.heap.size ≤ q) q := fun _ h => h
  have hl := lv_entry ([.long p0]) (n := 2) (Nat.le_of_ble_eq_true rfl)
  rw [lg_entry_eq]
  generalize (lg_sl ([.long p0]) ++ List.replicate (2 - (lg_sl ([.long p0])).length) Slot.unset).toArray = ls at hl ⊢
  have hl : lv_has ls 2 [(0, .long p0)] := hl
  unfold wp_X8_isNumber at h
  refine lv_lload_n hx hb dX8_isNumber_0 rfl (lv_at hl 0 rfl) ?_
  refine lv_ldc2 (v := (1099511627776 : Int64)) hx hb hown (hW _ kcX8_9) dX8_isNumber_1 ?_
  refine lq_ge (tgt := 12) hx hb dX8_isNumber_4 dX8_isNumber_5 (by decide) (fun hc => ?_) (fun hc => ?_)
  · have h := h.1 hc
    refine lv_iconst (v := (0 : Int32)) hx hb dX8_isNumber_12 (by decide) ?_
    exact ret0_z hx hb hr hlk hS (vz_n vz_0) h dX8_isNumber_13
  · have h := h.2 hc
    refine lv_iconst (v := (1 : Int32)) hx hb dX8_isNumber_8 (by decide) ?_
    refine lv_goto (tgt := 13) hx hb dX8_isNumber_9 (by decide) ?_
    exact ret0_z hx hb hr hlk hS (vz_n vz_1) h dX8_isNumber_13
def wp_X8_isFixed (p0 : Int64) (Q : Int32 → Prop) : Prop := wp_X8_isNumber p0 (fun (r1 : Int32) => ((r1 = 0 → ((p0 = (1099511627776 : Int64) → Q (1 : Int32)) ∧ (¬ p0 = (1099511627776 : Int64) → ((p0 = (1099511627777 : Int64) → Q (1 : Int32)) ∧ (¬ p0 = (1099511627777 : Int64) → Q (0 : Int32)))))) ∧ (¬ r1 = 0 → Q (1 : Int32))))
abbrev rm_X8_isFixed : Room := { frames := 1, cells := 0, slots := 0, locals := 21 }
set_option maxHeartbeats 4000000 in
set_option maxRecDepth 100000 in
theorem t_X8_isFixed (l : Launch) (p0 : Int64) (Q : Int32 → Prop) (h : wp_X8_isFixed p0 Q) : M0i l yX8_isFixed cX8_isFixed 2 (some .boolean) rm_X8_isFixed [.long p0] Q := by
  refine start0_i (by decide) ?_
  intro p e s m args below meth c hx hb hown hW hr hlk hml hS
  have hP : va_P ((fun _ => 0), (fun _ _ => 0)) vwCl [] s.heap := fun k q h => by simp at h
  have hA : ∀ q, s.heap.size ≤ q → (fun q => s.heap.size ≤ q) q := fun _ h => h
  have hl := lv_entry ([.long p0]) (n := 2) (Nat.le_of_ble_eq_true rfl)
  rw [lg_entry_eq]
  generalize (lg_sl ([.long p0]) ++ List.replicate (2 - (lg_sl ([.long p0])).length) Slot.unset).toArray = ls at hl ⊢
  have hl : lv_has ls 2 [(0, .long p0)] := hl
  unfold wp_X8_isFixed at h
  refine lv_lload_n hx hb dX8_isFixed_0 rfl (lv_at hl 0 rfl) ?_
  refine c0_i (As := [.long p0]) (rest := []) hx hb hml hown hW hP hS hA (t_X8_isNumber l p0 _ h) kmX8_15 mwyX8_isNumber ⟨⟨rfl, rfl⟩, Nat.le_of_ble_eq_true rfl, Nat.le_of_ble_eq_true rfl⟩ rfl hl.1 rfl (Nat.le_of_ble_eq_true rfl) dX8_isFixed_1 ⟨Nat.zero_le _, Nat.zero_le _⟩ (fun r1 H locs hP hS h => ?_)
  refine lv_if_ne (tgt := 23) hx hb dX8_isFixed_4 (by decide) (fun hc => ?_) (fun hc => ?_)
  · have h := h.2 hc
    refine lv_iconst (v := (1 : Int32)) hx hb dX8_isFixed_23 (by decide) ?_
    refine lv_goto (tgt := 28) hx hb dX8_isFixed_24 (by decide) ?_
    exact ret0_z hx hb hr hlk hS (vz_n vz_1) h dX8_isFixed_28
  · have h := h.1 hc
    refine lv_lload_n hx hb dX8_isFixed_7 rfl (lv_at hl 0 rfl) ?_
    refine lv_ldc2 (v := (1099511627776 : Int64)) hx hb hown (hW _ kcX8_9) dX8_isFixed_8 ?_
    refine lq_eq (tgt := 23) hx hb dX8_isFixed_11 dX8_isFixed_12 (by decide) (fun hc => ?_) (fun hc => ?_)
    · have h := h.1 hc
      refine lv_iconst (v := (1 : Int32)) hx hb dX8_isFixed_23 (by decide) ?_
      refine lv_goto (tgt := 28) hx hb dX8_isFixed_24 (by decide) ?_
      exact ret0_z hx hb hr hlk hS (vz_n vz_1) h dX8_isFixed_28
    · have h := h.2 hc
      refine lv_lload_n hx hb dX8_isFixed_15 rfl (lv_at hl 0 rfl) ?_
      refine lv_ldc2 (v := (1099511627777 : Int64)) hx hb hown (hW _ kcX8_21) dX8_isFixed_16 ?_
      refine lq_ne (tgt := 27) hx hb dX8_isFixed_19 dX8_isFixed_20 (by decide) (fun hc => ?_) (fun hc => ?_)
      · have h := h.2 hc
        refine lv_iconst (v := (0 : Int32)) hx hb dX8_isFixed_27 (by decide) ?_
        exact ret0_z hx hb hr hlk hS (vz_n vz_0) h dX8_isFixed_28
      · have h := h.1 hc
        refine lv_iconst (v := (1 : Int32)) hx hb dX8_isFixed_23 (by decide) ?_
        refine lv_goto (tgt := 28) hx hb dX8_isFixed_24 (by decide) ?_
        exact ret0_z hx hb hr hlk hS (vz_n vz_1) h dX8_isFixed_28
def wp_X0_car (N : Nat → Nat) (p0 : Int64) (u : St) (Q : Int64 → St → Prop) : Prop := wp_X0_cellOf N p0 u (fun (r1 : Int32) (u2 : St) => ((0 ≤ r1 → vp_in r1 (N 800) ∧ Q ((gB u2 800) (r1).toNatClampNeg) u2) ∧ (¬ 0 ≤ r1 → Q (1099511627776 : Int64) u2)))
abbrev rm_X0_car : Room := { frames := 1, cells := 0, slots := 0, locals := 22 }
set_option maxHeartbeats 4000000 in
set_option maxRecDepth 100000 in
theorem t_X0_car (l : Launch) (D : va_G) (G : Gd) (p0 : Int64) (u : St) (Q : Int64 → St → Prop) (h : wp_X0_car G.2.1 p0 u Q) : MCl l D G yX0_car cX0_car 4 (some .long) rm_X0_car [.ref (G.1 8), .long p0] u Q := by
  refine startC_l (by decide) ?_
  intro p e s m args below meth c E hr hlk hml hP hD hS hA
  have hx := E.1
  have hb := E.2.1
  have hown := E.2.2.1
  have hW := E.2.2.2.1
  have hl := lv_entry ([.ref (G.1 8), .long p0]) (n := 4) (Nat.le_of_ble_eq_true rfl)
  rw [lg_entry_eq]
  generalize (lg_sl ([.ref (G.1 8), .long p0]) ++ List.replicate (4 - (lg_sl ([.ref (G.1 8), .long p0])).length) Slot.unset).toArray = ls at hl ⊢
  have hl : lv_has ls 4 [(0, .ref (G.1 8)), (1, .long p0)] := hl
  unfold wp_X0_car at h
  refine lv_aload_n hx hb dX0_car_0 rfl (lv_at hl 0 rfl) ?_
  refine lv_lload_n hx hb dX0_car_1 rfl (lv_at hl 1 rfl) ?_
  refine cC_i (ci := 0) (q0 := 8) (As := [.long p0]) (rest := []) E hml hP hD hS hA (t_X0_cellOf l D G p0 u _ h) kmX0_40 mwyX0_cellOf rfl rfl ⟨⟨rfl, rfl⟩, Nat.le_of_ble_eq_true rfl, Nat.le_of_ble_eq_true rfl⟩ rfl hl.1 rfl (Nat.le_of_ble_eq_true rfl) dX0_car_2 ⟨Nat.zero_le _, Nat.zero_le _⟩ (fun r1 u2 H locs hP hD hS h => ?_)
  refine lv_istore_n (lv' := [(3, .int r1), (0, .ref (G.1 8)), (1, .long p0)]) hx hb dX0_car_5 rfl hl (by decide) rfl (fun ls hl => ?_)
  refine lv_iload_n hx hb dX0_car_6 rfl (lv_at hl 0 rfl) ?_
  refine lv_if_ge (tgt := 16) hx hb dX0_car_7 (by decide) (fun hc => ?_) (fun hc => ?_)
  · have h := h.1 hc
    refine lv_aload_n hx hb dX0_car_16 rfl (lv_at hl 1 rfl) ?_
    refine gC_800 E hP kfX0_18 dX0_car_17 ?_
    refine lv_iload_n hx hb dX0_car_20 rfl (lv_at hl 0 rfl) ?_
    obtain ⟨h9, h⟩ := h
    refine xC_800 E hP h9 (v := ((gB u2 800) (r1).toNatClampNeg)) rfl dX0_car_21 ?_
    exact retC_l E hr hlk hP hD hS h dX0_car_22
  · have h := h.2 hc
    refine lv_ldc2 (v := (1099511627776 : Int64)) hx hb hown (hW _ kcX0_44) dX0_car_10 ?_
    refine lv_goto (tgt := 22) hx hb dX0_car_13 (by decide) ?_
    exact retC_l E hr hlk hP hD hS h dX0_car_22
def wp_X0_cdr (N : Nat → Nat) (p0 : Int64) (u : St) (Q : Int64 → St → Prop) : Prop := wp_X0_cellOf N p0 u (fun (r1 : Int32) (u2 : St) => ((0 ≤ r1 → vp_in r1 (N 801) ∧ Q ((gB u2 801) (r1).toNatClampNeg) u2) ∧ (¬ 0 ≤ r1 → Q (1099511627776 : Int64) u2)))
abbrev rm_X0_cdr : Room := { frames := 1, cells := 0, slots := 0, locals := 22 }
set_option maxHeartbeats 4000000 in
set_option maxRecDepth 100000 in
theorem t_X0_cdr (l : Launch) (D : va_G) (G : Gd) (p0 : Int64) (u : St) (Q : Int64 → St → Prop) (h : wp_X0_cdr G.2.1 p0 u Q) : MCl l D G yX0_cdr cX0_cdr 4 (some .long) rm_X0_cdr [.ref (G.1 8), .long p0] u Q := by
  refine startC_l (by decide) ?_
  intro p e s m args below meth c E hr hlk hml hP hD hS hA
  have hx := E.1
  have hb := E.2.1
  have hown := E.2.2.1
  have hW := E.2.2.2.1
  have hl := lv_entry ([.ref (G.1 8), .long p0]) (n := 4) (Nat.le_of_ble_eq_true rfl)
  rw [lg_entry_eq]
  generalize (lg_sl ([.ref (G.1 8), .long p0]) ++ List.replicate (4 - (lg_sl ([.ref (G.1 8), .long p0])).length) Slot.unset).toArray = ls at hl ⊢
  have hl : lv_has ls 4 [(0, .ref (G.1 8)), (1, .long p0)] := hl
  unfold wp_X0_cdr at h
  refine lv_aload_n hx hb dX0_cdr_0 rfl (lv_at hl 0 rfl) ?_
  refine lv_lload_n hx hb dX0_cdr_1 rfl (lv_at hl 1 rfl) ?_
  refine cC_i (ci := 0) (q0 := 8) (As := [.long p0]) (rest := []) E hml hP hD hS hA (t_X0_cellOf l D G p0 u _ h) kmX0_40 mwyX0_cellOf rfl rfl ⟨⟨rfl, rfl⟩, Nat.le_of_ble_eq_true rfl, Nat.le_of_ble_eq_true rfl⟩ rfl hl.1 rfl (Nat.le_of_ble_eq_true rfl) dX0_cdr_2 ⟨Nat.zero_le _, Nat.zero_le _⟩ (fun r1 u2 H locs hP hD hS h => ?_)
  refine lv_istore_n (lv' := [(3, .int r1), (0, .ref (G.1 8)), (1, .long p0)]) hx hb dX0_cdr_5 rfl hl (by decide) rfl (fun ls hl => ?_)
  refine lv_iload_n hx hb dX0_cdr_6 rfl (lv_at hl 0 rfl) ?_
  refine lv_if_ge (tgt := 16) hx hb dX0_cdr_7 (by decide) (fun hc => ?_) (fun hc => ?_)
  · have h := h.1 hc
    refine lv_aload_n hx hb dX0_cdr_16 rfl (lv_at hl 1 rfl) ?_
    refine gC_801 E hP kfX0_22 dX0_cdr_17 ?_
    refine lv_iload_n hx hb dX0_cdr_20 rfl (lv_at hl 0 rfl) ?_
    obtain ⟨h9, h⟩ := h
    refine xC_801 E hP h9 (v := ((gB u2 801) (r1).toNatClampNeg)) rfl dX0_cdr_21 ?_
    exact retC_l E hr hlk hP hD hS h dX0_cdr_22
  · have h := h.2 hc
    refine lv_ldc2 (v := (1099511627776 : Int64)) hx hb hown (hW _ kcX0_44) dX0_cdr_10 ?_
    refine lv_goto (tgt := 22) hx hb dX0_cdr_13 (by decide) ?_
    exact retC_l E hr hlk hP hD hS h dX0_cdr_22
def wp_X3_isKnown (N : Nat → Nat) (p0 : Int64) (u : St) (Q : Int32 → St → Prop) : Prop := ((p0 < (1099511627776 : Int64) → Q (0 : Int32) u) ∧ (¬ p0 < (1099511627776 : Int64) → ((((1099511627776 : Int64) + ((gI u 202)).toInt64) ≤ p0 → Q (0 : Int32) u) ∧ (¬ ((1099511627776 : Int64) + ((gI u 202)).toInt64) ≤ p0 → Q (1 : Int32) u))))
abbrev rm_X3_isKnown : Room := { frames := 0, cells := 0, slots := 0, locals := 0 }
set_option maxHeartbeats 4000000 in
set_option maxRecDepth 100000 in
theorem t_X3_isKnown (l : Launch) (D : va_G) (G : Gd) (p0 : Int64) (u : St) (Q : Int32 → St → Prop) (h : wp_X3_isKnown G.2.1 p0 u Q) : MCi l D G yX3_isKnown cX3_isKnown 3 (some .boolean) rm_X3_isKnown [.ref (G.1 2), .long p0] u Q := by
  refine startC_i (by decide) ?_
  intro p e s m args below meth c E hr hlk hml hP hD hS hA
  have hx := E.1
  have hb := E.2.1
  have hown := E.2.2.1
  have hW := E.2.2.2.1
  have hl := lv_entry ([.ref (G.1 2), .long p0]) (n := 3) (Nat.le_of_ble_eq_true rfl)
  rw [lg_entry_eq]
  generalize (lg_sl ([.ref (G.1 2), .long p0]) ++ List.replicate (3 - (lg_sl ([.ref (G.1 2), .long p0])).length) Slot.unset).toArray = ls at hl ⊢
  have hl : lv_has ls 3 [(0, .ref (G.1 2)), (1, .long p0)] := hl
  unfold wp_X3_isKnown at h
  refine lv_lload_n hx hb dX3_isKnown_0 rfl (lv_at hl 1 rfl) ?_
  refine lv_ldc2 (v := (1099511627776 : Int64)) hx hb hown (hW _ kcX3_50) dX3_isKnown_1 ?_
  refine lq_lt (tgt := 26) hx hb dX3_isKnown_4 dX3_isKnown_5 (by decide) (fun hc => ?_) (fun hc => ?_)
  · have h := h.1 hc
    refine lv_iconst (v := (0 : Int32)) hx hb dX3_isKnown_26 (by decide) ?_
    exact retC_z E hr hlk hP hD hS (vz_n vz_0) h dX3_isKnown_27
  · have h := h.2 hc
    refine lv_lload_n hx hb dX3_isKnown_8 rfl (lv_at hl 1 rfl) ?_
    refine lv_ldc2 (v := (1099511627776 : Int64)) hx hb hown (hW _ kcX3_50) dX3_isKnown_9 ?_
    refine lv_aload_n hx hb dX3_isKnown_12 rfl (lv_at hl 0 rfl) ?_
    refine gC_202 E hP kfX3_18 (v := (gI u 202)) rfl dX3_isKnown_13 ?_
    refine lv_i2l (v := ((gI u 202)).toInt64) hx hb dX3_isKnown_16 rfl ?_
    refine lv_ladd hx hb dX3_isKnown_17 ?_
    refine lq_ge (tgt := 26) hx hb dX3_isKnown_18 dX3_isKnown_19 (by decide) (fun hc => ?_) (fun hc => ?_)
    · have h := h.1 hc
      refine lv_iconst (v := (0 : Int32)) hx hb dX3_isKnown_26 (by decide) ?_
      exact retC_z E hr hlk hP hD hS (vz_n vz_0) h dX3_isKnown_27
    · have h := h.2 hc
      refine lv_iconst (v := (1 : Int32)) hx hb dX3_isKnown_22 (by decide) ?_
      refine lv_goto (tgt := 27) hx hb dX3_isKnown_23 (by decide) ?_
      exact retC_z E hr hlk hP hD hS (vz_n vz_1) h dX3_isKnown_27
def wp_X3_globalOf (N : Nat → Nat) (p0 : Int64) (u : St) (Q : Int64 → St → Prop) : Prop := wp_X3_isKnown N p0 u (fun (r1 : Int32) (u2 : St) => ((r1 = 0 → Q (3298534883331 : Int64) u2) ∧ (¬ r1 = 0 → vp_in (((p0 - (1099511627776 : Int64))).toInt32) 150 ∧ Q ((gB u2 201) (((p0 - (1099511627776 : Int64))).toInt32).toNatClampNeg) u2)))
abbrev rm_X3_globalOf : Room := { frames := 1, cells := 0, slots := 0, locals := 22 }
set_option maxHeartbeats 4000000 in
set_option maxRecDepth 100000 in
theorem t_X3_globalOf (l : Launch) (D : va_G) (G : Gd) (p0 : Int64) (u : St) (Q : Int64 → St → Prop) (h : wp_X3_globalOf G.2.1 p0 u Q) : MCl l D G yX3_globalOf cX3_globalOf 3 (some .long) rm_X3_globalOf [.ref (G.1 2), .long p0] u Q := by
  refine startC_l (by decide) ?_
  intro p e s m args below meth c E hr hlk hml hP hD hS hA
  have hx := E.1
  have hb := E.2.1
  have hown := E.2.2.1
  have hW := E.2.2.2.1
  have hl := lv_entry ([.ref (G.1 2), .long p0]) (n := 3) (Nat.le_of_ble_eq_true rfl)
  rw [lg_entry_eq]
  generalize (lg_sl ([.ref (G.1 2), .long p0]) ++ List.replicate (3 - (lg_sl ([.ref (G.1 2), .long p0])).length) Slot.unset).toArray = ls at hl ⊢
  have hl : lv_has ls 3 [(0, .ref (G.1 2)), (1, .long p0)] := hl
  unfold wp_X3_globalOf at h
  refine lv_aload_n hx hb dX3_globalOf_0 rfl (lv_at hl 0 rfl) ?_
  refine lv_lload_n hx hb dX3_globalOf_1 rfl (lv_at hl 1 rfl) ?_
  refine cC_i (ci := 3) (q0 := 2) (As := [.long p0]) (rest := []) E hml hP hD hS hA (t_X3_isKnown l D G p0 u _ h) kmX3_52 mwyX3_isKnown rfl rfl ⟨⟨rfl, rfl⟩, Nat.le_of_ble_eq_true rfl, Nat.le_of_ble_eq_true rfl⟩ rfl hl.1 rfl (Nat.le_of_ble_eq_true rfl) dX3_globalOf_2 ⟨Nat.zero_le _, Nat.zero_le _⟩ (fun r1 u2 H locs hP hD hS h => ?_)
  refine lv_if_eq (tgt := 22) hx hb dX3_globalOf_5 (by decide) (fun hc => ?_) (fun hc => ?_)
  · have h := h.1 hc
    refine lv_ldc2 (v := (3298534883331 : Int64)) hx hb hown (hW _ kcX3_26) dX3_globalOf_22 ?_
    exact retC_l E hr hlk hP hD hS h dX3_globalOf_25
  · have h := h.2 hc
    refine lv_aload_n hx hb dX3_globalOf_8 rfl (lv_at hl 0 rfl) ?_
    refine gC_201 E hP kfX3_15 dX3_globalOf_9 ?_
    refine lv_lload_n hx hb dX3_globalOf_12 rfl (lv_at hl 1 rfl) ?_
    refine lv_ldc2 (v := (1099511627776 : Int64)) hx hb hown (hW _ kcX3_50) dX3_globalOf_13 ?_
    refine lv_lsub hx hb dX3_globalOf_16 ?_
    refine lv_l2i (v := ((p0 - (1099511627776 : Int64))).toInt32) hx hb dX3_globalOf_17 rfl ?_
    obtain ⟨h9, h⟩ := h
    refine xC_201 E hP h9 (v := ((gB u2 201) (((p0 - (1099511627776 : Int64))).toInt32).toNatClampNeg)) rfl dX3_globalOf_18 ?_
    refine lv_goto (tgt := 25) hx hb dX3_globalOf_19 (by decide) ?_
    exact retC_l E hr hlk hP hD hS h dX3_globalOf_25
def l_X2_boundTo_8 (N : Nat → Nat) (Q : Int64 → St → Prop) (c1 : Int64) (K : St → Prop) : Nat → Int64 → Int32 → St → Prop
  | 0, _, _, _ => False
  | n + 1, x3, x5, u => (((Int32.ofNat (N 800)) ≤ x5 → K u) ∧ (¬ (Int32.ofNat (N 800)) ≤ x5 → wp_X8_isPair x3 (fun (r1 : Int32) => ((r1 = 0 → K u) ∧ (¬ r1 = 0 → wp_X0_car N x3 u (fun (r2 : Int64) (u3 : St) => wp_X0_car N r2 u3 (fun (r4 : Int64) (u5 : St) => ((r4 = c1 → wp_X0_cdr N r2 u5 (fun (r8 : Int64) (u9 : St) => Q r8 u9)) ∧ (¬ r4 = c1 → wp_X0_cdr N x3 u5 (fun (r6 : Int64) (u7 : St) => l_X2_boundTo_8 N Q c1 K n r6 (x5 + (1 : Int32)) u7))))))))))
def wp_X2_boundTo (N : Nat → Nat) (p0 : Int64) (u : St) (Q : Int64 → St → Prop) : Prop := (∃ k13 : Nat, l_X2_boundTo_8 N Q p0 (fun (u10 : St) => wp_X3_globalOf N p0 u10 (fun (r11 : Int64) (u12 : St) => Q r11 u12)) k13 (gJ u 613) (0 : Int32) u)
abbrev rm_X2_boundTo : Room := { frames := 2, cells := 0, slots := 0, locals := 45 }
set_option maxHeartbeats 4000000 in
set_option maxRecDepth 100000 in
theorem t_X2_boundTo (l : Launch) (D : va_G) (G : Gd) (p0 : Int64) (u : St) (Q : Int64 → St → Prop) (h : wp_X2_boundTo G.2.1 p0 u Q) : MCl l D G yX2_boundTo cX2_boundTo 8 (some .long) rm_X2_boundTo [.ref (G.1 6), .long p0] u Q := by
  refine startC_l (by decide) ?_
  intro p e s m args below meth c E hr hlk hml hP hD hS hA
  have hx := E.1
  have hb := E.2.1
  have hown := E.2.2.1
  have hW := E.2.2.2.1
  have hl := lv_entry ([.ref (G.1 6), .long p0]) (n := 8) (Nat.le_of_ble_eq_true rfl)
  rw [lg_entry_eq]
  generalize (lg_sl ([.ref (G.1 6), .long p0]) ++ List.replicate (8 - (lg_sl ([.ref (G.1 6), .long p0])).length) Slot.unset).toArray = ls at hl ⊢
  have hl : lv_has ls 8 [(0, .ref (G.1 6)), (1, .long p0)] := hl
  have L_8 : ∀ (c1 : Int64) (K : St → Prop), (∀  (u : St) (H : Heap) (locs : List Loc) (ls : Array Slot), K  u → va_P D vwCl (wC G u) H → va_D (AC G s.heap.size) (wC G u) → va_S (AC G s.heap.size) s.heap H locs → lv_has ls 8 [(0, .ref (G.1 6)), (1, .long c1)] → W p l e rm_X2_boundTo s m args below meth c H locs 0 0 (MQ below (va_Ql Q (BC D G s.heap.size) (AC G s.heap.size)) args s 0 0 (AC G s.heap.size)) (F0 m 77 ls [])) → ∀ (n : Nat) (x3 : Int64) (x5 : Int32) (u : St) (H : Heap) (locs : List Loc) (ls : Array Slot), l_X2_boundTo_8 G.2.1 Q c1 K n x3 x5 u → va_P D vwCl (wC G u) H → va_D (AC G s.heap.size) (wC G u) → va_S (AC G s.heap.size) s.heap H locs → lv_has ls 8 [(0, .ref (G.1 6)), (1, .long c1), (3, .long x3), (5, .int x5)] → W p l e rm_X2_boundTo s m args below meth c H locs 0 0 (MQ below (va_Ql Q (BC D G s.heap.size) (AC G s.heap.size)) args s 0 0 (AC G s.heap.size)) (F0 m 8 ls []) := by
    intro c1 K hK n
    induction n with
    | zero => intro x3 x5 u H locs ls h; exact False.elim h
    | succ n ih =>
      intro x3 x5 u H locs ls h hP hD hS hl
      unfold l_X2_boundTo_8 at h
      refine lv_iload hx hb dX2_boundTo_8 (lv_at hl 3 rfl) ?_
      refine lv_aload_n hx hb dX2_boundTo_10 rfl (lv_at hl 0 rfl) ?_
      refine gC_600 E hP kfX2_46 dX2_boundTo_11 ?_
      refine gC_800 E hP kfX2_99 dX2_boundTo_14 ?_
      refine zC_800 E hP dX2_boundTo_17 ?_
      refine lv_icmp_ge (tgt := 77) hx hb dX2_boundTo_18 (by decide) (fun hc => ?_) (fun hc => ?_)
      · have h := h.1 hc
        exact hK u _ _ _ h hP hD hS (lv_sub hl [0, 1] rfl)
      · have h := h.2 hc
        refine lv_lload_n hx hb dX2_boundTo_21 rfl (lv_at hl 2 rfl) ?_
        refine c0_i (As := [.long x3]) (rest := []) hx hb hml hown hW hP hS hA (t_X8_isPair l x3 _ h) kmX2_75 mwyX8_isPair ⟨⟨rfl, rfl⟩, Nat.le_of_ble_eq_true rfl, Nat.le_of_ble_eq_true rfl⟩ rfl hl.1 rfl (Nat.le_of_ble_eq_true rfl) dX2_boundTo_22 ⟨Nat.zero_le _, Nat.zero_le _⟩ (fun r1 H locs hP hS h => ?_)
        refine lv_if_eq (tgt := 77) hx hb dX2_boundTo_25 (by decide) (fun hc => ?_) (fun hc => ?_)
        · have h := h.1 hc
          exact hK u _ _ _ h hP hD hS (lv_sub hl [0, 1] rfl)
        · have h := h.2 hc
          refine lv_aload_n hx hb dX2_boundTo_28 rfl (lv_at hl 0 rfl) ?_
          refine gC_600 E hP kfX2_46 dX2_boundTo_29 ?_
          refine lv_lload_n hx hb dX2_boundTo_32 rfl (lv_at hl 2 rfl) ?_
          refine cC_l (ci := 0) (q0 := 8) (As := [.long x3]) (rest := []) E hml hP hD hS hA (t_X0_car l D G x3 u _ h) kmX2_104 mwyX0_car rfl rfl ⟨⟨rfl, rfl⟩, Nat.le_of_ble_eq_true rfl, Nat.le_of_ble_eq_true rfl⟩ rfl hl.1 rfl (Nat.le_of_ble_eq_true rfl) dX2_boundTo_33 ⟨Nat.zero_le _, Nat.zero_le _⟩ (fun r2 u3 H locs hP hD hS h => ?_)
          refine lv_lstore (lv' := [(6, .long r2), (0, .ref (G.1 6)), (1, .long c1), (3, .long x3), (5, .int x5)]) hx hb dX2_boundTo_36 hl (by decide) rfl (fun ls hl => ?_)
          refine lv_aload_n hx hb dX2_boundTo_38 rfl (lv_at hl 1 rfl) ?_
          refine gC_600 E hP kfX2_46 dX2_boundTo_39 ?_
          refine lv_lload hx hb dX2_boundTo_42 (lv_at hl 0 rfl) ?_
          refine cC_l (ci := 0) (q0 := 8) (As := [.long r2]) (rest := []) E hml hP hD hS hA (t_X0_car l D G r2 u3 _ h) kmX2_104 mwyX0_car rfl rfl ⟨⟨rfl, rfl⟩, Nat.le_of_ble_eq_true rfl, Nat.le_of_ble_eq_true rfl⟩ rfl hl.1 rfl (Nat.le_of_ble_eq_true rfl) dX2_boundTo_44 ⟨Nat.zero_le _, Nat.zero_le _⟩ (fun r4 u5 H locs hP hD hS h => ?_)
          refine lv_lload_n hx hb dX2_boundTo_47 rfl (lv_at hl 2 rfl) ?_
          refine lq_ne (tgt := 62) hx hb dX2_boundTo_48 dX2_boundTo_49 (by decide) (fun hc => ?_) (fun hc => ?_)
          · have h := h.2 hc
            refine lv_aload_n hx hb dX2_boundTo_62 rfl (lv_at hl 1 rfl) ?_
            refine gC_600 E hP kfX2_46 dX2_boundTo_63 ?_
            refine lv_lload_n hx hb dX2_boundTo_66 rfl (lv_at hl 3 rfl) ?_
            refine cC_l (ci := 0) (q0 := 8) (As := [.long x3]) (rest := []) E hml hP hD hS hA (t_X0_cdr l D G x3 u5 _ h) kmX2_108 mwyX0_cdr rfl rfl ⟨⟨rfl, rfl⟩, Nat.le_of_ble_eq_true rfl, Nat.le_of_ble_eq_true rfl⟩ rfl hl.1 rfl (Nat.le_of_ble_eq_true rfl) dX2_boundTo_67 ⟨Nat.zero_le _, Nat.zero_le _⟩ (fun r6 u7 H locs hP hD hS h => ?_)
            refine lv_lstore_n (lv' := [(3, .long r6), (6, .long r2), (0, .ref (G.1 6)), (1, .long c1), (5, .int x5)]) hx hb dX2_boundTo_70 rfl hl (by decide) rfl (fun ls hl => ?_)
            refine lv_iinc (v := (x5 + (1 : Int32))) (lv' := [(5, .int (x5 + (1 : Int32))), (3, .long r6), (6, .long r2), (0, .ref (G.1 6)), (1, .long c1)]) hx hb dX2_boundTo_71 hl (k := 4) rfl rfl (by decide) rfl (fun ls hl => ?_)
            refine lv_goto (tgt := 8) hx hb dX2_boundTo_74 (by decide) ?_
            exact ih r6 (x5 + (1 : Int32)) u7 _ _ _ h hP hD hS (lv_sub hl [3, 4, 1, 0] rfl)
          · have h := h.1 hc
            refine lv_aload_n hx hb dX2_boundTo_52 rfl (lv_at hl 1 rfl) ?_
            refine gC_600 E hP kfX2_46 dX2_boundTo_53 ?_
            refine lv_lload hx hb dX2_boundTo_56 (lv_at hl 0 rfl) ?_
            refine cC_l (ci := 0) (q0 := 8) (As := [.long r2]) (rest := []) E hml hP hD hS hA (t_X0_cdr l D G r2 u5 _ h) kmX2_108 mwyX0_cdr rfl rfl ⟨⟨rfl, rfl⟩, Nat.le_of_ble_eq_true rfl, Nat.le_of_ble_eq_true rfl⟩ rfl hl.1 rfl (Nat.le_of_ble_eq_true rfl) dX2_boundTo_58 ⟨Nat.zero_le _, Nat.zero_le _⟩ (fun r8 u9 H locs hP hD hS h => ?_)
            exact retC_l E hr hlk hP hD hS h dX2_boundTo_61
  unfold wp_X2_boundTo at h
  refine lv_aload_n hx hb dX2_boundTo_0 rfl (lv_at hl 0 rfl) ?_
  refine gC_613 E hP kfX2_40 (v := (gJ u 613)) rfl dX2_boundTo_1 ?_
  refine lv_lstore_n (lv' := [(3, .long (gJ u 613)), (0, .ref (G.1 6)), (1, .long p0)]) hx hb dX2_boundTo_4 rfl hl (by decide) rfl (fun ls hl => ?_)
  refine lv_iconst (v := (0 : Int32)) hx hb dX2_boundTo_5 (by decide) ?_
  refine lv_istore (lv' := [(5, .int (0 : Int32)), (3, .long (gJ u 613)), (0, .ref (G.1 6)), (1, .long p0)]) hx hb dX2_boundTo_6 hl (by decide) rfl (fun ls hl => ?_)
  obtain ⟨n, h⟩ := h
  refine L_8 p0 _ (fun u10 H locs ls h hP hD hS hl => ?_) n (gJ u 613) (0 : Int32) u _ _ _ h hP hD hS (lv_sub hl [2, 3, 1, 0] rfl)
  refine lv_aload_n hx hb dX2_boundTo_77 rfl (lv_at hl 0 rfl) ?_
  refine gC_601 E hP kfX2_50 dX2_boundTo_78 ?_
  refine lv_lload_n hx hb dX2_boundTo_81 rfl (lv_at hl 1 rfl) ?_
  refine cC_l (ci := 3) (q0 := 2) (As := [.long p0]) (rest := []) E hml hP hD hS hA (t_X3_globalOf l D G p0 u10 _ h) kmX2_111 mwyX3_globalOf rfl rfl ⟨⟨rfl, rfl⟩, Nat.le_of_ble_eq_true rfl, Nat.le_of_ble_eq_true rfl⟩ rfl hl.1 rfl (Nat.le_of_ble_eq_true rfl) dX2_boundTo_82 ⟨Nat.zero_le _, Nat.zero_le _⟩ (fun r11 u12 H locs hP hD hS h => ?_)
  exact retC_l E hr hlk hP hD hS h dX2_boundTo_85
def wp_X2_beginApplying (N : Nat → Nat) (p0 : Int64) (u : St) (Q : St → Prop) : Prop := Q (sI (sJ u 612 p0) 608 (2 : Int32))
abbrev rm_X2_beginApplying : Room := { frames := 0, cells := 0, slots := 0, locals := 0 }
set_option maxHeartbeats 4000000 in
set_option maxRecDepth 100000 in
theorem t_X2_beginApplying (l : Launch) (D : va_G) (G : Gd) (p0 : Int64) (u : St) (Q : St → Prop) (h : wp_X2_beginApplying G.2.1 p0 u Q) : MCv l D G yX2_beginApplying cX2_beginApplying 3 none rm_X2_beginApplying [.ref (G.1 6), .long p0] u Q := by
  refine startC_v (by decide) ?_
  intro p e s m args below meth c E hr hlk hml hP hD hS hA
  have hx := E.1
  have hb := E.2.1
  have hown := E.2.2.1
  have hW := E.2.2.2.1
  have hl := lv_entry ([.ref (G.1 6), .long p0]) (n := 3) (Nat.le_of_ble_eq_true rfl)
  rw [lg_entry_eq]
  generalize (lg_sl ([.ref (G.1 6), .long p0]) ++ List.replicate (3 - (lg_sl ([.ref (G.1 6), .long p0])).length) Slot.unset).toArray = ls at hl ⊢
  have hl : lv_has ls 3 [(0, .ref (G.1 6)), (1, .long p0)] := hl
  unfold wp_X2_beginApplying at h
  refine lv_aload_n hx hb dX2_beginApplying_0 rfl (lv_at hl 0 rfl) ?_
  refine lv_lload_n hx hb dX2_beginApplying_1 rfl (lv_at hl 1 rfl) ?_
  refine pC_612 E hP hD hS kfX2_37 dX2_beginApplying_2 (fun H locs hP hD hS => ?_)
  refine lv_aload_n hx hb dX2_beginApplying_5 rfl (lv_at hl 0 rfl) ?_
  refine lv_iconst (v := (2 : Int32)) hx hb dX2_beginApplying_6 (by decide) ?_
  refine pC_608 E hP hD hS kfX2_22 dX2_beginApplying_7 (fun H locs hP hD hS => ?_)
  exact retC_v E hr hlk hP hD hS h dX2_beginApplying_10
def wp_X2_valuesOf (p0 : Int32) (Q : Int32 → Prop) : Prop := ((p0 = (7 : Int32) → Q (1 : Int32)) ∧ (¬ p0 = (7 : Int32) → ((p0 = (8 : Int32) → Q (1 : Int32)) ∧ (¬ p0 = (8 : Int32) → ((p0 = (9 : Int32) → Q (2 : Int32)) ∧ (¬ p0 = (9 : Int32) → ((p0 = (10 : Int32) → Q (1 : Int32)) ∧ (¬ p0 = (10 : Int32) → ((p0 = (11 : Int32) → Q (2 : Int32)) ∧ (¬ p0 = (11 : Int32) → ((p0 = (12 : Int32) → Q (1 : Int32)) ∧ (¬ p0 = (12 : Int32) → ((p0 = (13 : Int32) → Q (1 : Int32)) ∧ (¬ p0 = (13 : Int32) → Q (2 : Int32)))))))))))))))
abbrev rm_X2_valuesOf : Room := { frames := 0, cells := 0, slots := 0, locals := 0 }
set_option maxHeartbeats 4000000 in
set_option maxRecDepth 100000 in
theorem t_X2_valuesOf (l : Launch) (p0 : Int32) (Q : Int32 → Prop) (h : wp_X2_valuesOf p0 Q) : M0i l yX2_valuesOf cX2_valuesOf 1 (some .int) rm_X2_valuesOf [.int p0] Q := by
  refine start0_i (by decide) ?_
  intro p e s m args below meth c hx hb hown hW hr hlk hml hS
  have hP : va_P ((fun _ => 0), (fun _ _ => 0)) vwCl [] s.heap := fun k q h => by simp at h
  have hA : ∀ q, s.heap.size ≤ q → (fun q => s.heap.size ≤ q) q := fun _ h => h
  have hl := lv_entry ([.int p0]) (n := 1) (Nat.le_of_ble_eq_true rfl)
  rw [lg_entry_eq]
  generalize (lg_sl ([.int p0]) ++ List.replicate (1 - (lg_sl ([.int p0])).length) Slot.unset).toArray = ls at hl ⊢
  have hl : lv_has ls 1 [(0, .int p0)] := hl
  unfold wp_X2_valuesOf at h
  refine lv_iload_n hx hb dX2_valuesOf_0 rfl (lv_at hl 0 rfl) ?_
  rcases Decidable.em (p0 = (7 : Int32)) with hc7 | hc7
  · have h := h.1 hc7
    refine lv_tableIn (off := (43 : Int)) (tgt := 44) hx hb dX2_valuesOf_1 (by rw [hc7]; decide) (by rw [hc7]; decide) (by rw [hc7]; decide) (by decide) ?_
    refine lv_iconst (v := (1 : Int32)) hx hb dX2_valuesOf_44 (by decide) ?_
    exact ret0_i hx hb hr hlk hS h dX2_valuesOf_45
  · have h := h.2 hc7
    rcases Decidable.em (p0 = (8 : Int32)) with hc8 | hc8
    · have h := h.1 hc8
      refine lv_tableIn (off := (43 : Int)) (tgt := 44) hx hb dX2_valuesOf_1 (by rw [hc8]; decide) (by rw [hc8]; decide) (by rw [hc8]; decide) (by decide) ?_
      refine lv_iconst (v := (1 : Int32)) hx hb dX2_valuesOf_44 (by decide) ?_
      exact ret0_i hx hb hr hlk hS h dX2_valuesOf_45
    · have h := h.2 hc8
      rcases Decidable.em (p0 = (9 : Int32)) with hc9 | hc9
      · have h := h.1 hc9
        refine lv_tableIn (off := (45 : Int)) (tgt := 46) hx hb dX2_valuesOf_1 (by rw [hc9]; decide) (by rw [hc9]; decide) (by rw [hc9]; decide) (by decide) ?_
        refine lv_iconst (v := (2 : Int32)) hx hb dX2_valuesOf_46 (by decide) ?_
        exact ret0_i hx hb hr hlk hS h dX2_valuesOf_47
      · have h := h.2 hc9
        rcases Decidable.em (p0 = (10 : Int32)) with hc10 | hc10
        · have h := h.1 hc10
          refine lv_tableIn (off := (43 : Int)) (tgt := 44) hx hb dX2_valuesOf_1 (by rw [hc10]; decide) (by rw [hc10]; decide) (by rw [hc10]; decide) (by decide) ?_
          refine lv_iconst (v := (1 : Int32)) hx hb dX2_valuesOf_44 (by decide) ?_
          exact ret0_i hx hb hr hlk hS h dX2_valuesOf_45
        · have h := h.2 hc10
          rcases Decidable.em (p0 = (11 : Int32)) with hc11 | hc11
          · have h := h.1 hc11
            refine lv_tableIn (off := (45 : Int)) (tgt := 46) hx hb dX2_valuesOf_1 (by rw [hc11]; decide) (by rw [hc11]; decide) (by rw [hc11]; decide) (by decide) ?_
            refine lv_iconst (v := (2 : Int32)) hx hb dX2_valuesOf_46 (by decide) ?_
            exact ret0_i hx hb hr hlk hS h dX2_valuesOf_47
          · have h := h.2 hc11
            rcases Decidable.em (p0 = (12 : Int32)) with hc12 | hc12
            · have h := h.1 hc12
              refine lv_tableIn (off := (43 : Int)) (tgt := 44) hx hb dX2_valuesOf_1 (by rw [hc12]; decide) (by rw [hc12]; decide) (by rw [hc12]; decide) (by decide) ?_
              refine lv_iconst (v := (1 : Int32)) hx hb dX2_valuesOf_44 (by decide) ?_
              exact ret0_i hx hb hr hlk hS h dX2_valuesOf_45
            · have h := h.2 hc12
              rcases Decidable.em (p0 = (13 : Int32)) with hc13 | hc13
              · have h := h.1 hc13
                refine lv_tableIn (off := (43 : Int)) (tgt := 44) hx hb dX2_valuesOf_1 (by rw [hc13]; decide) (by rw [hc13]; decide) (by rw [hc13]; decide) (by decide) ?_
                refine lv_iconst (v := (1 : Int32)) hx hb dX2_valuesOf_44 (by decide) ?_
                exact ret0_i hx hb hr hlk hS h dX2_valuesOf_45
              · have h := h.2 hc13
                refine lv_tableOut (tgt := 46) hx hb dX2_valuesOf_1 (i32_out (lo := 7) (hi := 13) (fun z h1 h2 => by rcases (show z = 7 ∨ z = 8 ∨ z = 9 ∨ z = 10 ∨ z = 11 ∨ z = 12 ∨ z = 13 by omega) with rfl | rfl | rfl | rfl | rfl | rfl | rfl <;> first | exact i32_ne (by decide) hc7 | exact i32_ne (by decide) hc8 | exact i32_ne (by decide) hc9 | exact i32_ne (by decide) hc10 | exact i32_ne (by decide) hc11 | exact i32_ne (by decide) hc12 | exact i32_ne (by decide) hc13)) (by decide) ?_
                refine lv_iconst (v := (2 : Int32)) hx hb dX2_valuesOf_46 (by decide) ?_
                exact ret0_i hx hb hr hlk hS h dX2_valuesOf_47
def wp_X2_answer (N : Nat → Nat) (p0 : Int64) (u : St) (Q : St → Prop) : Prop := Q (sI (sJ u 614 p0) 608 (3 : Int32))
abbrev rm_X2_answer : Room := { frames := 0, cells := 0, slots := 0, locals := 0 }
set_option maxHeartbeats 4000000 in
set_option maxRecDepth 100000 in
theorem t_X2_answer (l : Launch) (D : va_G) (G : Gd) (p0 : Int64) (u : St) (Q : St → Prop) (h : wp_X2_answer G.2.1 p0 u Q) : MCv l D G yX2_answer cX2_answer 3 none rm_X2_answer [.ref (G.1 6), .long p0] u Q := by
  refine startC_v (by decide) ?_
  intro p e s m args below meth c E hr hlk hml hP hD hS hA
  have hx := E.1
  have hb := E.2.1
  have hown := E.2.2.1
  have hW := E.2.2.2.1
  have hl := lv_entry ([.ref (G.1 6), .long p0]) (n := 3) (Nat.le_of_ble_eq_true rfl)
  rw [lg_entry_eq]
  generalize (lg_sl ([.ref (G.1 6), .long p0]) ++ List.replicate (3 - (lg_sl ([.ref (G.1 6), .long p0])).length) Slot.unset).toArray = ls at hl ⊢
  have hl : lv_has ls 3 [(0, .ref (G.1 6)), (1, .long p0)] := hl
  unfold wp_X2_answer at h
  refine lv_aload_n hx hb dX2_answer_0 rfl (lv_at hl 0 rfl) ?_
  refine lv_lload_n hx hb dX2_answer_1 rfl (lv_at hl 1 rfl) ?_
  refine pC_614 E hP hD hS kfX2_43 dX2_answer_2 (fun H locs hP hD hS => ?_)
  refine lv_aload_n hx hb dX2_answer_5 rfl (lv_at hl 0 rfl) ?_
  refine lv_iconst (v := (3 : Int32)) hx hb dX2_answer_6 (by decide) ?_
  refine pC_608 E hP hD hS kfX2_22 dX2_answer_7 (fun H locs hP hD hS => ?_)
  exact retC_v E hr hlk hP hD hS h dX2_answer_10
def wp_X2_takePart (N : Nat → Nat) (p0 : Int32) (p1 : Int64) (u : St) (Q : St → Prop) : Prop := wp_X8_isPair p1 (fun (r1 : Int32) => ((r1 = 0 → Q (sI u 609 (2 : Int32))) ∧ (¬ r1 = 0 → ((p0 = (7 : Int32) → wp_X0_car N p1 u (fun (r5 : Int64) (u6 : St) => wp_X2_answer N r5 u6 (fun (u7 : St) => Q u7))) ∧ (¬ p0 = (7 : Int32) → wp_X0_cdr N p1 u (fun (r2 : Int64) (u3 : St) => wp_X2_answer N r2 u3 (fun (u4 : St) => Q u4)))))))
abbrev rm_X2_takePart : Room := { frames := 2, cells := 0, slots := 0, locals := 45 }
set_option maxHeartbeats 4000000 in
set_option maxRecDepth 100000 in
theorem t_X2_takePart (l : Launch) (D : va_G) (G : Gd) (p0 : Int32) (p1 : Int64) (u : St) (Q : St → Prop) (h : wp_X2_takePart G.2.1 p0 p1 u Q) : MCv l D G yX2_takePart cX2_takePart 4 none rm_X2_takePart [.ref (G.1 6), .int p0, .long p1] u Q := by
  refine startC_v (by decide) ?_
  intro p e s m args below meth c E hr hlk hml hP hD hS hA
  have hx := E.1
  have hb := E.2.1
  have hown := E.2.2.1
  have hW := E.2.2.2.1
  have hl := lv_entry ([.ref (G.1 6), .int p0, .long p1]) (n := 4) (Nat.le_of_ble_eq_true rfl)
  rw [lg_entry_eq]
  generalize (lg_sl ([.ref (G.1 6), .int p0, .long p1]) ++ List.replicate (4 - (lg_sl ([.ref (G.1 6), .int p0, .long p1])).length) Slot.unset).toArray = ls at hl ⊢
  have hl : lv_has ls 4 [(0, .ref (G.1 6)), (1, .int p0), (2, .long p1)] := hl
  unfold wp_X2_takePart at h
  refine lv_lload_n hx hb dX2_takePart_0 rfl (lv_at hl 2 rfl) ?_
  refine c0_i (As := [.long p1]) (rest := []) hx hb hml hown hW hP hS hA (t_X8_isPair l p1 _ h) kmX2_75 mwyX8_isPair ⟨⟨rfl, rfl⟩, Nat.le_of_ble_eq_true rfl, Nat.le_of_ble_eq_true rfl⟩ rfl hl.1 rfl (Nat.le_of_ble_eq_true rfl) dX2_takePart_1 ⟨Nat.zero_le _, Nat.zero_le _⟩ (fun r1 H locs hP hS h => ?_)
  refine lv_if_eq (tgt := 39) hx hb dX2_takePart_4 (by decide) (fun hc => ?_) (fun hc => ?_)
  · have h := h.1 hc
    refine lv_aload_n hx hb dX2_takePart_39 rfl (lv_at hl 0 rfl) ?_
    refine lv_iconst (v := (2 : Int32)) hx hb dX2_takePart_40 (by decide) ?_
    refine pC_609 E hP hD hS kfX2_25 dX2_takePart_41 (fun H locs hP hD hS => ?_)
    exact retC_v E hr hlk hP hD hS h dX2_takePart_44
  · have h := h.2 hc
    refine lv_aload_n hx hb dX2_takePart_7 rfl (lv_at hl 0 rfl) ?_
    refine lv_iload_n hx hb dX2_takePart_8 rfl (lv_at hl 1 rfl) ?_
    refine lv_bipush (v := (7 : Int32)) hx hb dX2_takePart_9 (by decide) ?_
    refine lv_icmp_ne (tgt := 25) hx hb dX2_takePart_11 (by decide) (fun hc => ?_) (fun hc => ?_)
    · have h := h.2 hc
      refine lv_aload_n hx hb dX2_takePart_25 rfl (lv_at hl 0 rfl) ?_
      refine gC_600 E hP kfX2_46 dX2_takePart_26 ?_
      refine lv_lload_n hx hb dX2_takePart_29 rfl (lv_at hl 2 rfl) ?_
      refine cC_l (ci := 0) (q0 := 8) (As := [.long p1]) (rest := [.ref (G.1 6)]) E hml hP hD hS hA (t_X0_cdr l D G p1 u _ h) kmX2_108 mwyX0_cdr rfl rfl ⟨⟨rfl, rfl⟩, Nat.le_of_ble_eq_true rfl, Nat.le_of_ble_eq_true rfl⟩ rfl hl.1 rfl (Nat.le_of_ble_eq_true rfl) dX2_takePart_30 ⟨Nat.zero_le _, Nat.zero_le _⟩ (fun r2 u3 H locs hP hD hS h => ?_)
      refine cC_v (ci := 2) (q0 := 6) (As := [.long r2]) (rest := []) E hml hP hD hS hA (t_X2_answer l D G r2 u3 _ h) kmX2_95 mwyX2_answer rfl rfl ⟨⟨rfl, rfl⟩, Nat.le_of_ble_eq_true rfl, Nat.le_of_ble_eq_true rfl⟩ rfl hl.1 rfl (Nat.le_of_ble_eq_true rfl) dX2_takePart_33 ⟨Nat.zero_le _, Nat.zero_le _⟩ (fun u4 H locs hP hD hS h => ?_)
      refine lv_goto (tgt := 44) hx hb dX2_takePart_36 (by decide) ?_
      exact retC_v E hr hlk hP hD hS h dX2_takePart_44
    · have h := h.1 hc
      refine lv_aload_n hx hb dX2_takePart_14 rfl (lv_at hl 0 rfl) ?_
      refine gC_600 E hP kfX2_46 dX2_takePart_15 ?_
      refine lv_lload_n hx hb dX2_takePart_18 rfl (lv_at hl 2 rfl) ?_
      refine cC_l (ci := 0) (q0 := 8) (As := [.long p1]) (rest := [.ref (G.1 6)]) E hml hP hD hS hA (t_X0_car l D G p1 u _ h) kmX2_104 mwyX0_car rfl rfl ⟨⟨rfl, rfl⟩, Nat.le_of_ble_eq_true rfl, Nat.le_of_ble_eq_true rfl⟩ rfl hl.1 rfl (Nat.le_of_ble_eq_true rfl) dX2_takePart_19 ⟨Nat.zero_le _, Nat.zero_le _⟩ (fun r5 u6 H locs hP hD hS h => ?_)
      refine lv_goto (tgt := 33) hx hb dX2_takePart_22 (by decide) ?_
      refine cC_v (ci := 2) (q0 := 6) (As := [.long r5]) (rest := []) E hml hP hD hS hA (t_X2_answer l D G r5 u6 _ h) kmX2_95 mwyX2_answer rfl rfl ⟨⟨rfl, rfl⟩, Nat.le_of_ble_eq_true rfl, Nat.le_of_ble_eq_true rfl⟩ rfl hl.1 rfl (Nat.le_of_ble_eq_true rfl) dX2_takePart_33 ⟨Nat.zero_le _, Nat.zero_le _⟩ (fun u7 H locs hP hD hS h => ?_)
      refine lv_goto (tgt := 44) hx hb dX2_takePart_36 (by decide) ?_
      exact retC_v E hr hlk hP hD hS h dX2_takePart_44
def l_X0_mark_21_28 (N : Nat → Nat) (c2 : Int32) (c3 : Int32) (K : St → Prop) : Nat → Int32 → Int32 → St → Prop
  | 0, _, _, _ => False
  | n + 1, x4, x5, u => ((((2 : Int32) * (Int32.ofNat (N 800))) < x5 → K u) ∧ (¬ ((2 : Int32) * (Int32.ofNat (N 800))) < x5 → ((x4 ≤ 0 → K u) ∧ (¬ x4 ≤ 0 → vp_in (x4 + (-1 : Int32)) (N 803) ∧ ((((gB u 803) ((x4 + (-1 : Int32))).toNatClampNeg) < (2199023255552 : Int64) → l_X0_mark_21_28 N  c2 c3 K n (x4 + (-1 : Int32)) (x5 + (1 : Int32)) u) ∧ (¬ ((gB u 803) ((x4 + (-1 : Int32))).toNatClampNeg) < (2199023255552 : Int64) → ((((2199023255552 : Int64) + ((Int32.ofNat (N 800))).toInt64) ≤ ((gB u 803) ((x4 + (-1 : Int32))).toNatClampNeg) → l_X0_mark_21_28 N  c2 c3 K n (x4 + (-1 : Int32)) (x5 + (1 : Int32)) u) ∧ (¬ ((2199023255552 : Int64) + ((Int32.ofNat (N 800))).toInt64) ≤ ((gB u 803) ((x4 + (-1 : Int32))).toNatClampNeg) → vp_in (((((gB u 803) ((x4 + (-1 : Int32))).toNatClampNeg) - (2199023255552 : Int64))).toInt32) (N 802) ∧ ((((gA u 802) (((((gB u 803) ((x4 + (-1 : Int32))).toNatClampNeg) - (2199023255552 : Int64))).toInt32).toNatClampNeg) = (gI u 806) → l_X0_mark_21_28 N  c2 c3 K n (x4 + (-1 : Int32)) (x5 + (1 : Int32)) u) ∧ (¬ ((gA u 802) (((((gB u 803) ((x4 + (-1 : Int32))).toNatClampNeg) - (2199023255552 : Int64))).toInt32).toNatClampNeg) = (gI u 806) → (((Int32.ofNat (N 803)) ≤ ((x4 + (-1 : Int32)) + (1 : Int32)) → l_X0_mark_21_28 N  c2 c3 K n (x4 + (-1 : Int32)) (x5 + (1 : Int32)) u) ∧ (¬ (Int32.ofNat (N 803)) ≤ ((x4 + (-1 : Int32)) + (1 : Int32)) → vp_in (((((gB u 803) ((x4 + (-1 : Int32))).toNatClampNeg) - (2199023255552 : Int64))).toInt32) (N 802) ∧ vp_in (((((gB u 803) ((x4 + (-1 : Int32))).toNatClampNeg) - (2199023255552 : Int64))).toInt32) (N 801) ∧ vp_in (x4 + (-1 : Int32)) (N 803) ∧ vp_in (((((gB u 803) ((x4 + (-1 : Int32))).toNatClampNeg) - (2199023255552 : Int64))).toInt32) (N 800) ∧ vp_in ((x4 + (-1 : Int32)) + (1 : Int32)) (N 803) ∧ l_X0_mark_21_28 N  c2 c3 K n ((x4 + (-1 : Int32)) + (2 : Int32)) (x5 + (1 : Int32)) (sB (sB (sI (sA u 802 (upd (gA u 802) (((((gB u 803) ((x4 + (-1 : Int32))).toNatClampNeg) - (2199023255552 : Int64))).toInt32).toNatClampNeg (gI u 806))) 807 ((gI u 807) + (1 : Int32))) 803 (vp_updL (gB u 803) ((x4 + (-1 : Int32))).toNatClampNeg ((gB u 801) (((((gB u 803) ((x4 + (-1 : Int32))).toNatClampNeg) - (2199023255552 : Int64))).toInt32).toNatClampNeg))) 803 (vp_updL (vp_updL (gB u 803) ((x4 + (-1 : Int32))).toNatClampNeg ((gB u 801) (((((gB u 803) ((x4 + (-1 : Int32))).toNatClampNeg) - (2199023255552 : Int64))).toInt32).toNatClampNeg)) (((x4 + (-1 : Int32)) + (1 : Int32))).toNatClampNeg ((gB u 800) (((((gB u 803) ((x4 + (-1 : Int32))).toNatClampNeg) - (2199023255552 : Int64))).toInt32).toNatClampNeg)))))))))))))))
def l_X0_mark_21_2 (N : Nat → Nat) (c2 : Int32) (K : St → Prop) : Nat → Int32 → St → Prop
  | 0, _, _ => False
  | n + 1, x3, u => ((c2 ≤ x3 → K u) ∧ (¬ c2 ≤ x3 → (((Int32.ofNat 8) ≤ x3 → K u) ∧ (¬ (Int32.ofNat 8) ≤ x3 → vp_in x3 8 ∧ vp_in (0 : Int32) (N 803) ∧ (∃ k2 : Nat, l_X0_mark_21_28 N  c2 x3 (fun (u1 : St) => l_X0_mark_21_2 N  c2 K n (x3 + (1 : Int32)) u1) k2 (1 : Int32) (0 : Int32) (sB u 803 (vp_updL (gB u 803) ((0 : Int32)).toNatClampNeg ((gB u 605) (x3).toNatClampNeg))))))))
def wp_X0_mark_21 (N : Nat → Nat) (p1 : Int32) (u : St) (Q : St → Prop) : Prop := (∃ k4 : Nat, l_X0_mark_21_2 N  p1 (fun (u3 : St) => Q u3) k4 (0 : Int32) u)
abbrev rm_X0_mark_21 : Room := { frames := 0, cells := 0, slots := 0, locals := 0 }
set_option maxHeartbeats 4000000 in
set_option maxRecDepth 100000 in
theorem t_X0_mark_21 (l : Launch) (D : va_G) (G : Gd) (p1 : Int32) (u : St) (Q : St → Prop) (h : wp_X0_mark_21 G.2.1 p1 u Q) : MCv l D G yX0_mark cX0_mark 10 none rm_X0_mark_21 [.ref (G.1 8), .ref (G.1 21), .int p1] u Q := by
  refine startC_v (by decide) ?_
  intro p e s m args below meth c E hr hlk hml hP hD hS hA
  have hx := E.1
  have hb := E.2.1
  have hown := E.2.2.1
  have hW := E.2.2.2.1
  have hl := lv_entry ([.ref (G.1 8), .ref (G.1 21), .int p1]) (n := 10) (Nat.le_of_ble_eq_true rfl)
  rw [lg_entry_eq]
  generalize (lg_sl ([.ref (G.1 8), .ref (G.1 21), .int p1]) ++ List.replicate (10 - (lg_sl ([.ref (G.1 8), .ref (G.1 21), .int p1])).length) Slot.unset).toArray = ls at hl ⊢
  have hl : lv_has ls 10 [(0, .ref (G.1 8)), (1, .ref (G.1 21)), (2, .int p1)] := hl
  have L_28 : ∀ (c2 : Int32) (c3 : Int32) (K : St → Prop), (∀  (u : St) (H : Heap) (locs : List Loc) (ls : Array Slot), K  u → va_P D vwCl (wC G u) H → va_D (AC G s.heap.size) (wC G u) → va_S (AC G s.heap.size) s.heap H locs → lv_has ls 10 [(0, .ref (G.1 8)), (1, .ref (G.1 21)), (2, .int c2), (3, .int c3)] → W p l e rm_X0_mark_21 s m args below meth c H locs 0 0 (MQ below (va_Qv Q (BC D G s.heap.size) (AC G s.heap.size)) args s 0 0 (AC G s.heap.size)) (F0 m 198 ls [])) → ∀ (n : Nat) (x4 : Int32) (x5 : Int32) (u : St) (H : Heap) (locs : List Loc) (ls : Array Slot), l_X0_mark_21_28 G.2.1  c2 c3 K n x4 x5 u → va_P D vwCl (wC G u) H → va_D (AC G s.heap.size) (wC G u) → va_S (AC G s.heap.size) s.heap H locs → lv_has ls 10 [(0, .ref (G.1 8)), (1, .ref (G.1 21)), (2, .int c2), (3, .int c3), (4, .int x4), (5, .int x5)] → W p l e rm_X0_mark_21 s m args below meth c H locs 0 0 (MQ below (va_Qv Q (BC D G s.heap.size) (AC G s.heap.size)) args s 0 0 (AC G s.heap.size)) (F0 m 28 ls []) := by
    intro c2 c3 K hK n
    induction n with
    | zero => intro x4 x5 u H locs ls h; exact False.elim h
    | succ n ih =>
      intro x4 x5 u H locs ls h hP hD hS hl
      unfold l_X0_mark_21_28 at h
      refine lv_iload hx hb dX0_mark_28 (lv_at hl 5 rfl) ?_
      refine lv_iconst (v := (2 : Int32)) hx hb dX0_mark_30 (by decide) ?_
      refine lv_aload_n hx hb dX0_mark_31 rfl (lv_at hl 0 rfl) ?_
      refine gC_800 E hP kfX0_18 dX0_mark_32 ?_
      refine zC_800 E hP dX0_mark_35 ?_
      refine lv_imul hx hb dX0_mark_36 ?_
      refine lv_icmp_gt (tgt := 198) hx hb dX0_mark_37 (by decide) (fun hc => ?_) (fun hc => ?_)
      · have h := h.1 hc
        exact hK u _ _ _ h hP hD hS (lv_sub hl [0, 1, 2, 3] rfl)
      · have h := h.2 hc
        refine lv_iload hx hb dX0_mark_40 (lv_at hl 4 rfl) ?_
        refine lv_if_le (tgt := 198) hx hb dX0_mark_42 (by decide) (fun hc => ?_) (fun hc => ?_)
        · have h := h.1 hc
          exact hK u _ _ _ h hP hD hS (lv_sub hl [0, 1, 2, 3] rfl)
        · have h := h.2 hc
          refine lv_iinc (v := (x4 + (-1 : Int32))) (lv' := [(4, .int (x4 + (-1 : Int32))), (0, .ref (G.1 8)), (1, .ref (G.1 21)), (2, .int c2), (3, .int c3), (5, .int x5)]) hx hb dX0_mark_45 hl (k := 4) rfl rfl (by decide) rfl (fun ls hl => ?_)
          refine lv_aload_n hx hb dX0_mark_48 rfl (lv_at hl 1 rfl) ?_
          refine gC_803 E hP kfX0_29 dX0_mark_49 ?_
          refine lv_iload hx hb dX0_mark_52 (lv_at hl 0 rfl) ?_
          obtain ⟨h9, h⟩ := h
          refine xC_803 E hP h9 (v := ((gB u 803) ((x4 + (-1 : Int32))).toNatClampNeg)) rfl dX0_mark_54 ?_
          refine lv_lstore (lv' := [(6, .long ((gB u 803) ((x4 + (-1 : Int32))).toNatClampNeg)), (4, .int (x4 + (-1 : Int32))), (0, .ref (G.1 8)), (1, .ref (G.1 21)), (2, .int c2), (3, .int c3), (5, .int x5)]) hx hb dX0_mark_55 hl (by decide) rfl (fun ls hl => ?_)
          refine lv_lload hx hb dX0_mark_57 (lv_at hl 0 rfl) ?_
          refine lv_ldc2 (v := (2199023255552 : Int64)) hx hb hown (hW _ kcX0_38) dX0_mark_59 ?_
          refine lq_lt (tgt := 86) hx hb dX0_mark_62 dX0_mark_63 (by decide) (fun hc => ?_) (fun hc => ?_)
          · have h := h.1 hc
            refine lv_iconst (v := (0 : Int32)) hx hb dX0_mark_86 (by decide) ?_
            refine lv_istore (lv' := [(8, .int (0 : Int32)), (6, .long ((gB u 803) ((x4 + (-1 : Int32))).toNatClampNeg)), (4, .int (x4 + (-1 : Int32))), (0, .ref (G.1 8)), (1, .ref (G.1 21)), (2, .int c2), (3, .int c3), (5, .int x5)]) hx hb dX0_mark_87 hl (by decide) rfl (fun ls hl => ?_)
            refine lv_iload hx hb dX0_mark_89 (lv_at hl 0 rfl) ?_
            refine lv_if_eq (tgt := 104) hx hb dX0_mark_91 (by decide) (fun _ => ?_) (fun hc => absurd (by decide) hc)
            refine lv_iconst (v := (0 : Int32)) hx hb dX0_mark_104 (by decide) ?_
            refine lv_istore (lv' := [(9, .int (0 : Int32)), (8, .int (0 : Int32)), (6, .long ((gB u 803) ((x4 + (-1 : Int32))).toNatClampNeg)), (4, .int (x4 + (-1 : Int32))), (0, .ref (G.1 8)), (1, .ref (G.1 21)), (2, .int c2), (3, .int c3), (5, .int x5)]) hx hb dX0_mark_105 hl (by decide) rfl (fun ls hl => ?_)
            refine lv_iload hx hb dX0_mark_107 (lv_at hl 1 rfl) ?_
            refine lv_if_eq (tgt := 192) hx hb dX0_mark_109 (by decide) (fun _ => ?_) (fun hc => absurd (by decide) hc)
            refine lv_iinc (v := (x5 + (1 : Int32))) (lv' := [(5, .int (x5 + (1 : Int32))), (9, .int (0 : Int32)), (8, .int (0 : Int32)), (6, .long ((gB u 803) ((x4 + (-1 : Int32))).toNatClampNeg)), (4, .int (x4 + (-1 : Int32))), (0, .ref (G.1 8)), (1, .ref (G.1 21)), (2, .int c2), (3, .int c3)]) hx hb dX0_mark_192 hl (k := 8) rfl rfl (by decide) rfl (fun ls hl => ?_)
            refine lv_goto (tgt := 28) hx hb dX0_mark_195 (by decide) ?_
            exact ih (x4 + (-1 : Int32)) (x5 + (1 : Int32)) u _ _ _ h hP hD hS (lv_sub hl [5, 6, 7, 8, 4, 0] rfl)
          · have h := h.2 hc
            refine lv_lload hx hb dX0_mark_66 (lv_at hl 0 rfl) ?_
            refine lv_ldc2 (v := (2199023255552 : Int64)) hx hb hown (hW _ kcX0_38) dX0_mark_68 ?_
            refine lv_aload_n hx hb dX0_mark_71 rfl (lv_at hl 2 rfl) ?_
            refine gC_800 E hP kfX0_18 dX0_mark_72 ?_
            refine zC_800 E hP dX0_mark_75 ?_
            refine lv_i2l (v := ((Int32.ofNat (G.2.1 800))).toInt64) hx hb dX0_mark_76 rfl ?_
            refine lv_ladd hx hb dX0_mark_77 ?_
            refine lq_ge (tgt := 86) hx hb dX0_mark_78 dX0_mark_79 (by decide) (fun hc => ?_) (fun hc => ?_)
            · have h := h.1 hc
              refine lv_iconst (v := (0 : Int32)) hx hb dX0_mark_86 (by decide) ?_
              refine lv_istore (lv' := [(8, .int (0 : Int32)), (6, .long ((gB u 803) ((x4 + (-1 : Int32))).toNatClampNeg)), (4, .int (x4 + (-1 : Int32))), (0, .ref (G.1 8)), (1, .ref (G.1 21)), (2, .int c2), (3, .int c3), (5, .int x5)]) hx hb dX0_mark_87 hl (by decide) rfl (fun ls hl => ?_)
              refine lv_iload hx hb dX0_mark_89 (lv_at hl 0 rfl) ?_
              refine lv_if_eq (tgt := 104) hx hb dX0_mark_91 (by decide) (fun _ => ?_) (fun hc => absurd (by decide) hc)
              refine lv_iconst (v := (0 : Int32)) hx hb dX0_mark_104 (by decide) ?_
              refine lv_istore (lv' := [(9, .int (0 : Int32)), (8, .int (0 : Int32)), (6, .long ((gB u 803) ((x4 + (-1 : Int32))).toNatClampNeg)), (4, .int (x4 + (-1 : Int32))), (0, .ref (G.1 8)), (1, .ref (G.1 21)), (2, .int c2), (3, .int c3), (5, .int x5)]) hx hb dX0_mark_105 hl (by decide) rfl (fun ls hl => ?_)
              refine lv_iload hx hb dX0_mark_107 (lv_at hl 1 rfl) ?_
              refine lv_if_eq (tgt := 192) hx hb dX0_mark_109 (by decide) (fun _ => ?_) (fun hc => absurd (by decide) hc)
              refine lv_iinc (v := (x5 + (1 : Int32))) (lv' := [(5, .int (x5 + (1 : Int32))), (9, .int (0 : Int32)), (8, .int (0 : Int32)), (6, .long ((gB u 803) ((x4 + (-1 : Int32))).toNatClampNeg)), (4, .int (x4 + (-1 : Int32))), (0, .ref (G.1 8)), (1, .ref (G.1 21)), (2, .int c2), (3, .int c3)]) hx hb dX0_mark_192 hl (k := 8) rfl rfl (by decide) rfl (fun ls hl => ?_)
              refine lv_goto (tgt := 28) hx hb dX0_mark_195 (by decide) ?_
              exact ih (x4 + (-1 : Int32)) (x5 + (1 : Int32)) u _ _ _ h hP hD hS (lv_sub hl [5, 6, 7, 8, 4, 0] rfl)
            · have h := h.2 hc
              refine lv_iconst (v := (1 : Int32)) hx hb dX0_mark_82 (by decide) ?_
              refine lv_goto (tgt := 87) hx hb dX0_mark_83 (by decide) ?_
              refine lv_istore (lv' := [(8, .int (1 : Int32)), (6, .long ((gB u 803) ((x4 + (-1 : Int32))).toNatClampNeg)), (4, .int (x4 + (-1 : Int32))), (0, .ref (G.1 8)), (1, .ref (G.1 21)), (2, .int c2), (3, .int c3), (5, .int x5)]) hx hb dX0_mark_87 hl (by decide) rfl (fun ls hl => ?_)
              refine lv_iload hx hb dX0_mark_89 (lv_at hl 0 rfl) ?_
              refine lv_if_eq (tgt := 104) hx hb dX0_mark_91 (by decide) (fun hc => absurd hc (by decide)) (fun _ => ?_)
              refine lv_lload hx hb dX0_mark_94 (lv_at hl 1 rfl) ?_
              refine lv_ldc2 (v := (2199023255552 : Int64)) hx hb hown (hW _ kcX0_38) dX0_mark_96 ?_
              refine lv_lsub hx hb dX0_mark_99 ?_
              refine lv_l2i (v := ((((gB u 803) ((x4 + (-1 : Int32))).toNatClampNeg) - (2199023255552 : Int64))).toInt32) hx hb dX0_mark_100 rfl ?_
              refine lv_goto (tgt := 105) hx hb dX0_mark_101 (by decide) ?_
              refine lv_istore (lv' := [(9, .int ((((gB u 803) ((x4 + (-1 : Int32))).toNatClampNeg) - (2199023255552 : Int64))).toInt32), (8, .int (1 : Int32)), (6, .long ((gB u 803) ((x4 + (-1 : Int32))).toNatClampNeg)), (4, .int (x4 + (-1 : Int32))), (0, .ref (G.1 8)), (1, .ref (G.1 21)), (2, .int c2), (3, .int c3), (5, .int x5)]) hx hb dX0_mark_105 hl (by decide) rfl (fun ls hl => ?_)
              refine lv_iload hx hb dX0_mark_107 (lv_at hl 1 rfl) ?_
              refine lv_if_eq (tgt := 192) hx hb dX0_mark_109 (by decide) (fun hc => absurd hc (by decide)) (fun _ => ?_)
              refine lv_aload_n hx hb dX0_mark_112 rfl (lv_at hl 4 rfl) ?_
              refine gC_802 E hP kfX0_25 dX0_mark_113 ?_
              refine lv_iload hx hb dX0_mark_116 (lv_at hl 0 rfl) ?_
              obtain ⟨h9, h⟩ := h
              refine xC_802 E hP h9 (v := ((gA u 802) (((((gB u 803) ((x4 + (-1 : Int32))).toNatClampNeg) - (2199023255552 : Int64))).toInt32).toNatClampNeg)) rfl dX0_mark_118 ?_
              refine lv_aload_n hx hb dX0_mark_119 rfl (lv_at hl 4 rfl) ?_
              refine gC_806 E hP kfX0_9 (v := (gI u 806)) rfl dX0_mark_120 ?_
              refine lv_icmp_eq (tgt := 192) hx hb dX0_mark_123 (by decide) (fun hc => ?_) (fun hc => ?_)
              · have h := h.1 hc
                refine lv_iinc (v := (x5 + (1 : Int32))) (lv' := [(5, .int (x5 + (1 : Int32))), (9, .int ((((gB u 803) ((x4 + (-1 : Int32))).toNatClampNeg) - (2199023255552 : Int64))).toInt32), (8, .int (1 : Int32)), (6, .long ((gB u 803) ((x4 + (-1 : Int32))).toNatClampNeg)), (4, .int (x4 + (-1 : Int32))), (0, .ref (G.1 8)), (1, .ref (G.1 21)), (2, .int c2), (3, .int c3)]) hx hb dX0_mark_192 hl (k := 8) rfl rfl (by decide) rfl (fun ls hl => ?_)
                refine lv_goto (tgt := 28) hx hb dX0_mark_195 (by decide) ?_
                exact ih (x4 + (-1 : Int32)) (x5 + (1 : Int32)) u _ _ _ h hP hD hS (lv_sub hl [5, 6, 7, 8, 4, 0] rfl)
              · have h := h.2 hc
                refine lv_iload hx hb dX0_mark_126 (lv_at hl 3 rfl) ?_
                refine lv_iconst (v := (1 : Int32)) hx hb dX0_mark_128 (by decide) ?_
                refine lv_iadd hx hb dX0_mark_129 ?_
                refine lv_aload_n hx hb dX0_mark_130 rfl (lv_at hl 4 rfl) ?_
                refine gC_803 E hP kfX0_29 dX0_mark_131 ?_
                refine zC_803 E hP dX0_mark_134 ?_
                refine lv_icmp_ge (tgt := 192) hx hb dX0_mark_135 (by decide) (fun hc => ?_) (fun hc => ?_)
                · have h := h.1 hc
                  refine lv_iinc (v := (x5 + (1 : Int32))) (lv' := [(5, .int (x5 + (1 : Int32))), (9, .int ((((gB u 803) ((x4 + (-1 : Int32))).toNatClampNeg) - (2199023255552 : Int64))).toInt32), (8, .int (1 : Int32)), (6, .long ((gB u 803) ((x4 + (-1 : Int32))).toNatClampNeg)), (4, .int (x4 + (-1 : Int32))), (0, .ref (G.1 8)), (1, .ref (G.1 21)), (2, .int c2), (3, .int c3)]) hx hb dX0_mark_192 hl (k := 8) rfl rfl (by decide) rfl (fun ls hl => ?_)
                  refine lv_goto (tgt := 28) hx hb dX0_mark_195 (by decide) ?_
                  exact ih (x4 + (-1 : Int32)) (x5 + (1 : Int32)) u _ _ _ h hP hD hS (lv_sub hl [5, 6, 7, 8, 4, 0] rfl)
                · have h := h.2 hc
                  refine lv_aload_n hx hb dX0_mark_138 rfl (lv_at hl 4 rfl) ?_
                  refine gC_802 E hP kfX0_25 dX0_mark_139 ?_
                  refine lv_iload hx hb dX0_mark_142 (lv_at hl 0 rfl) ?_
                  refine lv_aload_n hx hb dX0_mark_144 rfl (lv_at hl 4 rfl) ?_
                  refine gC_806 E hP kfX0_9 (v := (gI u 806)) rfl dX0_mark_145 ?_
                  obtain ⟨h9, h⟩ := h
                  refine yC_802 E hP hD hS h9 (f := (gA u 802)) rfl dX0_mark_148 (fun H locs hP hD hS => ?_)
                  refine lv_aload_n hx hb dX0_mark_149 rfl (lv_at hl 4 rfl) ?_
                  refine lv_dup hx hb dX0_mark_150 rfl ?_
                  refine gC_807 E hP kfX0_15 (v := (gI u 807)) rfl dX0_mark_151 ?_
                  refine lv_iconst (v := (1 : Int32)) hx hb dX0_mark_154 (by decide) ?_
                  refine lv_iadd hx hb dX0_mark_155 ?_
                  refine pC_807 E hP hD hS kfX0_15 dX0_mark_156 (fun H locs hP hD hS => ?_)
                  refine lv_aload_n hx hb dX0_mark_159 rfl (lv_at hl 4 rfl) ?_
                  refine gC_803 E hP kfX0_29 dX0_mark_160 ?_
                  refine lv_iload hx hb dX0_mark_163 (lv_at hl 3 rfl) ?_
                  refine lv_aload_n hx hb dX0_mark_165 rfl (lv_at hl 4 rfl) ?_
                  refine gC_801 E hP kfX0_22 dX0_mark_166 ?_
                  refine lv_iload hx hb dX0_mark_169 (lv_at hl 0 rfl) ?_
                  obtain ⟨h9, h⟩ := h
                  refine xC_801 E hP h9 (v := ((gB u 801) (((((gB u 803) ((x4 + (-1 : Int32))).toNatClampNeg) - (2199023255552 : Int64))).toInt32).toNatClampNeg)) rfl dX0_mark_171 ?_
                  obtain ⟨h9, h⟩ := h
                  refine yC_803 E hP hD hS h9 (f := (gB u 803)) rfl dX0_mark_172 (fun H locs hP hD hS => ?_)
                  refine lv_aload_n hx hb dX0_mark_173 rfl (lv_at hl 4 rfl) ?_
                  refine gC_803 E hP kfX0_29 dX0_mark_174 ?_
                  refine lv_iload hx hb dX0_mark_177 (lv_at hl 3 rfl) ?_
                  refine lv_iconst (v := (1 : Int32)) hx hb dX0_mark_179 (by decide) ?_
                  refine lv_iadd hx hb dX0_mark_180 ?_
                  refine lv_aload_n hx hb dX0_mark_181 rfl (lv_at hl 4 rfl) ?_
                  refine gC_800 E hP kfX0_18 dX0_mark_182 ?_
                  refine lv_iload hx hb dX0_mark_185 (lv_at hl 0 rfl) ?_
                  obtain ⟨h9, h⟩ := h
                  refine xC_800 E hP h9 (v := ((gB u 800) (((((gB u 803) ((x4 + (-1 : Int32))).toNatClampNeg) - (2199023255552 : Int64))).toInt32).toNatClampNeg)) rfl dX0_mark_187 ?_
                  obtain ⟨h9, h⟩ := h
                  refine yC_803 E hP hD hS h9 (f := (vp_updL (gB u 803) ((x4 + (-1 : Int32))).toNatClampNeg ((gB u 801) (((((gB u 803) ((x4 + (-1 : Int32))).toNatClampNeg) - (2199023255552 : Int64))).toInt32).toNatClampNeg))) rfl dX0_mark_188 (fun H locs hP hD hS => ?_)
                  refine lv_iinc (v := ((x4 + (-1 : Int32)) + (2 : Int32))) (lv' := [(4, .int ((x4 + (-1 : Int32)) + (2 : Int32))), (9, .int ((((gB u 803) ((x4 + (-1 : Int32))).toNatClampNeg) - (2199023255552 : Int64))).toInt32), (8, .int (1 : Int32)), (6, .long ((gB u 803) ((x4 + (-1 : Int32))).toNatClampNeg)), (0, .ref (G.1 8)), (1, .ref (G.1 21)), (2, .int c2), (3, .int c3), (5, .int x5)]) hx hb dX0_mark_189 hl (k := 3) rfl rfl (by decide) rfl (fun ls hl => ?_)
                  refine lv_iinc (v := (x5 + (1 : Int32))) (lv' := [(5, .int (x5 + (1 : Int32))), (4, .int ((x4 + (-1 : Int32)) + (2 : Int32))), (9, .int ((((gB u 803) ((x4 + (-1 : Int32))).toNatClampNeg) - (2199023255552 : Int64))).toInt32), (8, .int (1 : Int32)), (6, .long ((gB u 803) ((x4 + (-1 : Int32))).toNatClampNeg)), (0, .ref (G.1 8)), (1, .ref (G.1 21)), (2, .int c2), (3, .int c3)]) hx hb dX0_mark_192 hl (k := 8) rfl rfl (by decide) rfl (fun ls hl => ?_)
                  refine lv_goto (tgt := 28) hx hb dX0_mark_195 (by decide) ?_
                  exact ih ((x4 + (-1 : Int32)) + (2 : Int32)) (x5 + (1 : Int32)) (sB (sB (sI (sA u 802 (upd (gA u 802) (((((gB u 803) ((x4 + (-1 : Int32))).toNatClampNeg) - (2199023255552 : Int64))).toInt32).toNatClampNeg (gI u 806))) 807 ((gI u 807) + (1 : Int32))) 803 (vp_updL (gB u 803) ((x4 + (-1 : Int32))).toNatClampNeg ((gB u 801) (((((gB u 803) ((x4 + (-1 : Int32))).toNatClampNeg) - (2199023255552 : Int64))).toInt32).toNatClampNeg))) 803 (vp_updL (vp_updL (gB u 803) ((x4 + (-1 : Int32))).toNatClampNeg ((gB u 801) (((((gB u 803) ((x4 + (-1 : Int32))).toNatClampNeg) - (2199023255552 : Int64))).toInt32).toNatClampNeg)) (((x4 + (-1 : Int32)) + (1 : Int32))).toNatClampNeg ((gB u 800) (((((gB u 803) ((x4 + (-1 : Int32))).toNatClampNeg) - (2199023255552 : Int64))).toInt32).toNatClampNeg))) _ _ _ h hP hD hS (lv_sub hl [5, 6, 7, 8, 1, 0] rfl)
  have L_2 : ∀ (c2 : Int32) (K : St → Prop), (∀  (u : St) (H : Heap) (locs : List Loc) (ls : Array Slot), K  u → va_P D vwCl (wC G u) H → va_D (AC G s.heap.size) (wC G u) → va_S (AC G s.heap.size) s.heap H locs → lv_has ls 10 [] → W p l e rm_X0_mark_21 s m args below meth c H locs 0 0 (MQ below (va_Qv Q (BC D G s.heap.size) (AC G s.heap.size)) args s 0 0 (AC G s.heap.size)) (F0 m 204 ls [])) → ∀ (n : Nat) (x3 : Int32) (u : St) (H : Heap) (locs : List Loc) (ls : Array Slot), l_X0_mark_21_2 G.2.1  c2 K n x3 u → va_P D vwCl (wC G u) H → va_D (AC G s.heap.size) (wC G u) → va_S (AC G s.heap.size) s.heap H locs → lv_has ls 10 [(0, .ref (G.1 8)), (1, .ref (G.1 21)), (2, .int c2), (3, .int x3)] → W p l e rm_X0_mark_21 s m args below meth c H locs 0 0 (MQ below (va_Qv Q (BC D G s.heap.size) (AC G s.heap.size)) args s 0 0 (AC G s.heap.size)) (F0 m 2 ls []) := by
    intro c2 K hK n
    induction n with
    | zero => intro x3 u H locs ls h; exact False.elim h
    | succ n ih =>
      intro x3 u H locs ls h hP hD hS hl
      unfold l_X0_mark_21_2 at h
      refine lv_iload_n hx hb dX0_mark_2 rfl (lv_at hl 3 rfl) ?_
      refine lv_iload_n hx hb dX0_mark_3 rfl (lv_at hl 2 rfl) ?_
      refine lv_icmp_ge (tgt := 204) hx hb dX0_mark_4 (by decide) (fun hc => ?_) (fun hc => ?_)
      · have h := h.1 hc
        exact hK u _ _ _ h hP hD hS (lv_sub hl [] rfl)
      · have h := h.2 hc
        refine lv_iload_n hx hb dX0_mark_7 rfl (lv_at hl 3 rfl) ?_
        refine lv_aload_n hx hb dX0_mark_8 rfl (lv_at hl 1 rfl) ?_
        refine zC_605 E hP dX0_mark_9 ?_
        refine lv_icmp_ge (tgt := 204) hx hb dX0_mark_10 (by decide) (fun hc => ?_) (fun hc => ?_)
        · have h := h.1 hc
          exact hK u _ _ _ h hP hD hS (lv_sub hl [] rfl)
        · have h := h.2 hc
          refine lv_aload_n hx hb dX0_mark_13 rfl (lv_at hl 0 rfl) ?_
          refine gC_803 E hP kfX0_29 dX0_mark_14 ?_
          refine lv_iconst (v := (0 : Int32)) hx hb dX0_mark_17 (by decide) ?_
          refine lv_aload_n hx hb dX0_mark_18 rfl (lv_at hl 1 rfl) ?_
          refine lv_iload_n hx hb dX0_mark_19 rfl (lv_at hl 3 rfl) ?_
          obtain ⟨h9, h⟩ := h
          refine xC_605 E hP h9 (v := ((gB u 605) (x3).toNatClampNeg)) rfl dX0_mark_20 ?_
          obtain ⟨h9, h⟩ := h
          refine yC_803 E hP hD hS h9 (f := (gB u 803)) rfl dX0_mark_21 (fun H locs hP hD hS => ?_)
          refine lv_iconst (v := (1 : Int32)) hx hb dX0_mark_22 (by decide) ?_
          refine lv_istore (lv' := [(4, .int (1 : Int32)), (0, .ref (G.1 8)), (1, .ref (G.1 21)), (2, .int c2), (3, .int x3)]) hx hb dX0_mark_23 hl (by decide) rfl (fun ls hl => ?_)
          refine lv_iconst (v := (0 : Int32)) hx hb dX0_mark_25 (by decide) ?_
          refine lv_istore (lv' := [(5, .int (0 : Int32)), (4, .int (1 : Int32)), (0, .ref (G.1 8)), (1, .ref (G.1 21)), (2, .int c2), (3, .int x3)]) hx hb dX0_mark_26 hl (by decide) rfl (fun ls hl => ?_)
          obtain ⟨n, h⟩ := h
          refine L_28 c2 x3 _ (fun u1 H locs ls h hP hD hS hl => ?_) n (1 : Int32) (0 : Int32) (sB u 803 (vp_updL (gB u 803) ((0 : Int32)).toNatClampNeg ((gB u 605) (x3).toNatClampNeg))) _ _ _ h hP hD hS (lv_sub hl [2, 3, 4, 5, 1, 0] rfl)
          refine lv_iinc (v := (x3 + (1 : Int32))) (lv' := [(3, .int (x3 + (1 : Int32))), (0, .ref (G.1 8)), (1, .ref (G.1 21)), (2, .int c2)]) hx hb dX0_mark_198 hl (k := 3) rfl rfl (by decide) rfl (fun ls hl => ?_)
          refine lv_goto (tgt := 2) hx hb dX0_mark_201 (by decide) ?_
          exact ih (x3 + (1 : Int32)) u1 _ _ _ h hP hD hS (lv_sub hl [1, 2, 3, 0] rfl)
  unfold wp_X0_mark_21 at h
  refine lv_iconst (v := (0 : Int32)) hx hb dX0_mark_0 (by decide) ?_
  refine lv_istore_n (lv' := [(3, .int (0 : Int32)), (0, .ref (G.1 8)), (1, .ref (G.1 21)), (2, .int p1)]) hx hb dX0_mark_1 rfl hl (by decide) rfl (fun ls hl => ?_)
  obtain ⟨n, h⟩ := h
  refine L_2 p1 _ (fun u3 H locs ls h hP hD hS hl => ?_) n (0 : Int32) u _ _ _ h hP hD hS (lv_sub hl [1, 2, 3, 0] rfl)
  exact retC_v E hr hlk hP hD hS h dX0_mark_204
def wp_X1_hasRoom_21 (N : Nat → Nat) (p0 : Int32) (p2 : Int32) (p3 : Int64) (p4 : Int64) (u : St) (Q : Int32 → St → Prop) : Prop := (((gI u 805) < p0 → wp_X0_beginMarking N  (sB (sB u 403 (vp_updL (gB u 403) ((0 : Int32)).toNatClampNeg p3)) 403 (vp_updL (vp_updL (gB u 403) ((0 : Int32)).toNatClampNeg p3) ((1 : Int32)).toNatClampNeg p4)) (fun (u1 : St) => wp_X0_mark_11 N (gI u1 202) u1 (fun (u2 : St) => wp_X0_mark_14 N ((gI u2 303) * (11 : Int32)) u2 (fun (u3 : St) => wp_X0_mark_21 N p2 u3 (fun (u4 : St) => wp_X0_mark_15 N (2 : Int32) u4 (fun (u5 : St) => wp_X0_sweep N  u5 (fun (u6 : St) => (((gI u6 805) < p0 → Q (0 : Int32) u6) ∧ (¬ (gI u6 805) < p0 → Q (1 : Int32) u6))))))))) ∧ (¬ (gI u 805) < p0 → Q (1 : Int32) u))
abbrev rm_X1_hasRoom_21 : Room := { frames := 1, cells := 0, slots := 0, locals := 29 }
set_option maxHeartbeats 4000000 in
set_option maxRecDepth 100000 in
theorem t_X1_hasRoom_21 (l : Launch) (D : va_G) (G : Gd) (p0 : Int32) (p2 : Int32) (p3 : Int64) (p4 : Int64) (u : St) (Q : Int32 → St → Prop) (h : wp_X1_hasRoom_21 G.2.1 p0 p2 p3 p4 u Q) : MCi l D G yX1_hasRoom cX1_hasRoom 8 (some .boolean) rm_X1_hasRoom_21 [.ref (G.1 4), .int p0, .ref (G.1 21), .int p2, .long p3, .long p4] u Q := by
  refine startC_i (by decide) ?_
  intro p e s m args below meth c E hr hlk hml hP hD hS hA
  have hx := E.1
  have hb := E.2.1
  have hown := E.2.2.1
  have hW := E.2.2.2.1
  have hl := lv_entry ([.ref (G.1 4), .int p0, .ref (G.1 21), .int p2, .long p3, .long p4]) (n := 8) (Nat.le_of_ble_eq_true rfl)
  rw [lg_entry_eq]
  generalize (lg_sl ([.ref (G.1 4), .int p0, .ref (G.1 21), .int p2, .long p3, .long p4]) ++ List.replicate (8 - (lg_sl ([.ref (G.1 4), .int p0, .ref (G.1 21), .int p2, .long p3, .long p4])).length) Slot.unset).toArray = ls at hl ⊢
  have hl : lv_has ls 8 [(0, .ref (G.1 4)), (1, .int p0), (2, .ref (G.1 21)), (3, .int p2), (4, .long p3), (6, .long p4)] := hl
  unfold wp_X1_hasRoom_21 at h
  refine lv_aload_n hx hb dX1_hasRoom_0 rfl (lv_at hl 0 rfl) ?_
  refine gC_400 E hP kfX1_13 dX1_hasRoom_1 ?_
  refine gC_805 E hP kfX1_46 (v := (gI u 805)) rfl dX1_hasRoom_4 ?_
  refine lv_iload_n hx hb dX1_hasRoom_7 rfl (lv_at hl 1 rfl) ?_
  refine lv_icmp_lt (tgt := 13) hx hb dX1_hasRoom_8 (by decide) (fun hc => ?_) (fun hc => ?_)
  · have h := h.1 hc
    refine lv_aload_n hx hb dX1_hasRoom_13 rfl (lv_at hl 0 rfl) ?_
    refine gC_403 E hP kfX1_7 dX1_hasRoom_14 ?_
    refine lv_iconst (v := (0 : Int32)) hx hb dX1_hasRoom_17 (by decide) ?_
    refine lv_lload hx hb dX1_hasRoom_18 (lv_at hl 4 rfl) ?_
    refine yC_403 E hP hD hS (by unfold vp_in; decide) (f := (gB u 403)) rfl dX1_hasRoom_20 (fun H locs hP hD hS => ?_)
    refine lv_aload_n hx hb dX1_hasRoom_21 rfl (lv_at hl 0 rfl) ?_
    refine gC_403 E hP kfX1_7 dX1_hasRoom_22 ?_
    refine lv_iconst (v := (1 : Int32)) hx hb dX1_hasRoom_25 (by decide) ?_
    refine lv_lload hx hb dX1_hasRoom_26 (lv_at hl 5 rfl) ?_
    refine yC_403 E hP hD hS (by unfold vp_in; decide) (f := (vp_updL (gB u 403) ((0 : Int32)).toNatClampNeg p3)) rfl dX1_hasRoom_28 (fun H locs hP hD hS => ?_)
    refine lv_aload_n hx hb dX1_hasRoom_29 rfl (lv_at hl 0 rfl) ?_
    refine gC_400 E hP kfX1_13 dX1_hasRoom_30 ?_
    refine cC_v (ci := 0) (q0 := 8) (As := []) (rest := []) E hml hP hD hS hA (t_X0_beginMarking l D G  (sB (sB u 403 (vp_updL (gB u 403) ((0 : Int32)).toNatClampNeg p3)) 403 (vp_updL (vp_updL (gB u 403) ((0 : Int32)).toNatClampNeg p3) ((1 : Int32)).toNatClampNeg p4)) _ h) kmX1_25 mwyX0_beginMarking rfl rfl ⟨⟨rfl, rfl⟩, Nat.le_of_ble_eq_true rfl, Nat.le_of_ble_eq_true rfl⟩ rfl hl.1 rfl (Nat.le_of_ble_eq_true rfl) dX1_hasRoom_33 ⟨Nat.zero_le _, Nat.zero_le _⟩ (fun u1 H locs hP hD hS h => ?_)
    refine lv_aload_n hx hb dX1_hasRoom_36 rfl (lv_at hl 0 rfl) ?_
    refine gC_400 E hP kfX1_13 dX1_hasRoom_37 ?_
    refine lv_aload_n hx hb dX1_hasRoom_40 rfl (lv_at hl 0 rfl) ?_
    refine gC_401 E hP kfX1_17 dX1_hasRoom_41 ?_
    refine gC_201 E hP kfX1_30 dX1_hasRoom_44 ?_
    refine lv_aload_n hx hb dX1_hasRoom_47 rfl (lv_at hl 0 rfl) ?_
    refine gC_401 E hP kfX1_17 dX1_hasRoom_48 ?_
    refine gC_202 E hP kfX1_35 (v := (gI u1 202)) rfl dX1_hasRoom_51 ?_
    refine cC_v (ci := 0) (q0 := 8) (As := [.ref (G.1 11), .int (gI u1 202)]) (rest := []) E hml hP hD hS hA (t_X0_mark_11 l D G (gI u1 202) u1 _ h) kmX1_39 mwyX0_mark rfl rfl ⟨⟨rfl, rfl⟩, Nat.le_of_ble_eq_true rfl, Nat.le_of_ble_eq_true rfl⟩ rfl hl.1 rfl (Nat.le_of_ble_eq_true rfl) dX1_hasRoom_54 ⟨Nat.zero_le _, Nat.zero_le _⟩ (fun u2 H locs hP hD hS h => ?_)
    refine lv_aload_n hx hb dX1_hasRoom_57 rfl (lv_at hl 0 rfl) ?_
    refine gC_400 E hP kfX1_13 dX1_hasRoom_58 ?_
    refine lv_aload_n hx hb dX1_hasRoom_61 rfl (lv_at hl 0 rfl) ?_
    refine gC_402 E hP kfX1_21 dX1_hasRoom_62 ?_
    refine gC_302 E hP kfX1_49 dX1_hasRoom_65 ?_
    refine lv_aload_n hx hb dX1_hasRoom_68 rfl (lv_at hl 0 rfl) ?_
    refine gC_402 E hP kfX1_21 dX1_hasRoom_69 ?_
    refine gC_303 E hP kfX1_54 (v := (gI u2 303)) rfl dX1_hasRoom_72 ?_
    refine lv_bipush (v := (11 : Int32)) hx hb dX1_hasRoom_75 (by decide) ?_
    refine lv_imul hx hb dX1_hasRoom_77 ?_
    refine cC_v (ci := 0) (q0 := 8) (As := [.ref (G.1 14), .int ((gI u2 303) * (11 : Int32))]) (rest := []) E hml hP hD hS hA (t_X0_mark_14 l D G ((gI u2 303) * (11 : Int32)) u2 _ h) kmX1_39 mwyX0_mark rfl rfl ⟨⟨rfl, rfl⟩, Nat.le_of_ble_eq_true rfl, Nat.le_of_ble_eq_true rfl⟩ rfl hl.1 rfl (Nat.le_of_ble_eq_true rfl) dX1_hasRoom_78 ⟨Nat.zero_le _, Nat.zero_le _⟩ (fun u3 H locs hP hD hS h => ?_)
    refine lv_aload_n hx hb dX1_hasRoom_81 rfl (lv_at hl 0 rfl) ?_
    refine gC_400 E hP kfX1_13 dX1_hasRoom_82 ?_
    refine lv_aload_n hx hb dX1_hasRoom_85 rfl (lv_at hl 2 rfl) ?_
    refine lv_iload_n hx hb dX1_hasRoom_86 rfl (lv_at hl 3 rfl) ?_
    refine cC_v (ci := 0) (q0 := 8) (As := [.ref (G.1 21), .int p2]) (rest := []) E hml hP hD hS hA (t_X0_mark_21 l D G p2 u3 _ h) kmX1_39 mwyX0_mark rfl rfl ⟨⟨rfl, rfl⟩, Nat.le_of_ble_eq_true rfl, Nat.le_of_ble_eq_true rfl⟩ rfl hl.1 rfl (Nat.le_of_ble_eq_true rfl) dX1_hasRoom_87 ⟨Nat.zero_le _, Nat.zero_le _⟩ (fun u4 H locs hP hD hS h => ?_)
    refine lv_aload_n hx hb dX1_hasRoom_90 rfl (lv_at hl 0 rfl) ?_
    refine gC_400 E hP kfX1_13 dX1_hasRoom_91 ?_
    refine lv_aload_n hx hb dX1_hasRoom_94 rfl (lv_at hl 0 rfl) ?_
    refine gC_403 E hP kfX1_7 dX1_hasRoom_95 ?_
    refine lv_iconst (v := (2 : Int32)) hx hb dX1_hasRoom_98 (by decide) ?_
    refine cC_v (ci := 0) (q0 := 8) (As := [.ref (G.1 15), .int (2 : Int32)]) (rest := []) E hml hP hD hS hA (t_X0_mark_15 l D G (2 : Int32) u4 _ h) kmX1_39 mwyX0_mark rfl rfl ⟨⟨rfl, rfl⟩, Nat.le_of_ble_eq_true rfl, Nat.le_of_ble_eq_true rfl⟩ rfl hl.1 rfl (Nat.le_of_ble_eq_true rfl) dX1_hasRoom_99 ⟨Nat.zero_le _, Nat.zero_le _⟩ (fun u5 H locs hP hD hS h => ?_)
    refine lv_aload_n hx hb dX1_hasRoom_102 rfl (lv_at hl 0 rfl) ?_
    refine gC_400 E hP kfX1_13 dX1_hasRoom_103 ?_
    refine cC_v (ci := 0) (q0 := 8) (As := []) (rest := []) E hml hP hD hS hA (t_X0_sweep l D G  u5 _ h) kmX1_57 mwyX0_sweep rfl rfl ⟨⟨rfl, rfl⟩, Nat.le_of_ble_eq_true rfl, Nat.le_of_ble_eq_true rfl⟩ rfl hl.1 rfl (Nat.le_of_ble_eq_true rfl) dX1_hasRoom_106 ⟨Nat.zero_le _, Nat.zero_le _⟩ (fun u6 H locs hP hD hS h => ?_)
    refine lv_aload_n hx hb dX1_hasRoom_109 rfl (lv_at hl 0 rfl) ?_
    refine gC_400 E hP kfX1_13 dX1_hasRoom_110 ?_
    refine gC_805 E hP kfX1_46 (v := (gI u6 805)) rfl dX1_hasRoom_113 ?_
    refine lv_iload_n hx hb dX1_hasRoom_116 rfl (lv_at hl 1 rfl) ?_
    refine lv_icmp_lt (tgt := 124) hx hb dX1_hasRoom_117 (by decide) (fun hc => ?_) (fun hc => ?_)
    · have h := h.1 hc
      refine lv_iconst (v := (0 : Int32)) hx hb dX1_hasRoom_124 (by decide) ?_
      exact retC_z E hr hlk hP hD hS (vz_n vz_0) h dX1_hasRoom_125
    · have h := h.2 hc
      refine lv_iconst (v := (1 : Int32)) hx hb dX1_hasRoom_120 (by decide) ?_
      refine lv_goto (tgt := 125) hx hb dX1_hasRoom_121 (by decide) ?_
      exact retC_z E hr hlk hP hD hS (vz_n vz_1) h dX1_hasRoom_125
  · have h := h.2 hc
    refine lv_iconst (v := (1 : Int32)) hx hb dX1_hasRoom_11 (by decide) ?_
    exact retC_z E hr hlk hP hD hS (vz_n vz_1) h dX1_hasRoom_12
def wp_X2_makePair (N : Nat → Nat)  (u : St) (Q : St → Prop) : Prop := wp_X1_hasRoom_21 N (1 : Int32) (2 : Int32) (1099511627776 : Int64) (1099511627776 : Int64) u (fun (r1 : Int32) (u2 : St) => ((r1 = 0 → Q (sI u2 609 (6 : Int32))) ∧ (¬ r1 = 0 → wp_X0_newPair N ((gB u2 605) ((0 : Int32)).toNatClampNeg) ((gB u2 605) ((1 : Int32)).toNatClampNeg) u2 (fun (r3 : Int64) (u4 : St) => wp_X2_answer N r3 u4 (fun (u5 : St) => Q u5)))))
abbrev rm_X2_makePair : Room := { frames := 2, cells := 0, slots := 0, locals := 56 }
set_option maxHeartbeats 4000000 in
set_option maxRecDepth 100000 in
theorem t_X2_makePair (l : Launch) (D : va_G) (G : Gd)  (u : St) (Q : St → Prop) (h : wp_X2_makePair G.2.1  u Q) : MCv l D G yX2_makePair cX2_makePair 1 none rm_X2_makePair [.ref (G.1 6)] u Q := by
  refine startC_v (by decide) ?_
  intro p e s m args below meth c E hr hlk hml hP hD hS hA
  have hx := E.1
  have hb := E.2.1
  have hown := E.2.2.1
  have hW := E.2.2.2.1
  have hl := lv_entry ([.ref (G.1 6)]) (n := 1) (Nat.le_of_ble_eq_true rfl)
  rw [lg_entry_eq]
  generalize (lg_sl ([.ref (G.1 6)]) ++ List.replicate (1 - (lg_sl ([.ref (G.1 6)])).length) Slot.unset).toArray = ls at hl ⊢
  have hl : lv_has ls 1 [(0, .ref (G.1 6))] := hl
  unfold wp_X2_makePair at h
  refine lv_aload_n hx hb dX2_makePair_0 rfl (lv_at hl 0 rfl) ?_
  refine gC_603 E hP kfX2_58 dX2_makePair_1 ?_
  refine lv_iconst (v := (1 : Int32)) hx hb dX2_makePair_4 (by decide) ?_
  refine lv_aload_n hx hb dX2_makePair_5 rfl (lv_at hl 0 rfl) ?_
  refine gC_605 E hP kfX2_9 dX2_makePair_6 ?_
  refine lv_iconst (v := (2 : Int32)) hx hb dX2_makePair_9 (by decide) ?_
  refine lv_ldc2 (v := (1099511627776 : Int64)) hx hb hown (hW _ kcX2_28) dX2_makePair_10 ?_
  refine lv_ldc2 (v := (1099511627776 : Int64)) hx hb hown (hW _ kcX2_28) dX2_makePair_13 ?_
  refine cC_i (ci := 1) (q0 := 4) (As := [.int (1 : Int32), .ref (G.1 21), .int (2 : Int32), .long (1099511627776 : Int64), .long (1099511627776 : Int64)]) (rest := []) E hml hP hD hS hA (t_X1_hasRoom_21 l D G (1 : Int32) (2 : Int32) (1099511627776 : Int64) (1099511627776 : Int64) u _ h) kmX2_216 mwyX1_hasRoom rfl rfl ⟨⟨rfl, rfl⟩, Nat.le_of_ble_eq_true rfl, Nat.le_of_ble_eq_true rfl⟩ rfl hl.1 rfl (Nat.le_of_ble_eq_true rfl) dX2_makePair_16 ⟨Nat.zero_le _, Nat.zero_le _⟩ (fun r1 u2 H locs hP hD hS h => ?_)
  refine lv_if_eq (tgt := 48) hx hb dX2_makePair_19 (by decide) (fun hc => ?_) (fun hc => ?_)
  · have h := h.1 hc
    refine lv_aload_n hx hb dX2_makePair_48 rfl (lv_at hl 0 rfl) ?_
    refine lv_bipush (v := (6 : Int32)) hx hb dX2_makePair_49 (by decide) ?_
    refine pC_609 E hP hD hS kfX2_25 dX2_makePair_51 (fun H locs hP hD hS => ?_)
    exact retC_v E hr hlk hP hD hS h dX2_makePair_54
  · have h := h.2 hc
    refine lv_aload_n hx hb dX2_makePair_22 rfl (lv_at hl 0 rfl) ?_
    refine lv_aload_n hx hb dX2_makePair_23 rfl (lv_at hl 0 rfl) ?_
    refine gC_600 E hP kfX2_46 dX2_makePair_24 ?_
    refine lv_aload_n hx hb dX2_makePair_27 rfl (lv_at hl 0 rfl) ?_
    refine gC_605 E hP kfX2_9 dX2_makePair_28 ?_
    refine lv_iconst (v := (0 : Int32)) hx hb dX2_makePair_31 (by decide) ?_
    refine xC_605 E hP (by unfold vp_in; decide) (v := ((gB u2 605) ((0 : Int32)).toNatClampNeg)) rfl dX2_makePair_32 ?_
    refine lv_aload_n hx hb dX2_makePair_33 rfl (lv_at hl 0 rfl) ?_
    refine gC_605 E hP kfX2_9 dX2_makePair_34 ?_
    refine lv_iconst (v := (1 : Int32)) hx hb dX2_makePair_37 (by decide) ?_
    refine xC_605 E hP (by unfold vp_in; decide) (v := ((gB u2 605) ((1 : Int32)).toNatClampNeg)) rfl dX2_makePair_38 ?_
    refine cC_l (ci := 0) (q0 := 8) (As := [.long ((gB u2 605) ((0 : Int32)).toNatClampNeg), .long ((gB u2 605) ((1 : Int32)).toNatClampNeg)]) (rest := [.ref (G.1 6)]) E hml hP hD hS hA (t_X0_newPair l D G ((gB u2 605) ((0 : Int32)).toNatClampNeg) ((gB u2 605) ((1 : Int32)).toNatClampNeg) u2 _ h) kmX2_225 mwyX0_newPair rfl rfl ⟨⟨rfl, rfl⟩, Nat.le_of_ble_eq_true rfl, Nat.le_of_ble_eq_true rfl⟩ rfl hl.1 rfl (Nat.le_of_ble_eq_true rfl) dX2_makePair_39 ⟨Nat.zero_le _, Nat.zero_le _⟩ (fun r3 u4 H locs hP hD hS h => ?_)
    refine cC_v (ci := 2) (q0 := 6) (As := [.long r3]) (rest := []) E hml hP hD hS hA (t_X2_answer l D G r3 u4 _ h) kmX2_95 mwyX2_answer rfl rfl ⟨⟨rfl, rfl⟩, Nat.le_of_ble_eq_true rfl, Nat.le_of_ble_eq_true rfl⟩ rfl hl.1 rfl (Nat.le_of_ble_eq_true rfl) dX2_makePair_42 ⟨Nat.zero_le _, Nat.zero_le _⟩ (fun u5 H locs hP hD hS h => ?_)
    refine lv_goto (tgt := 54) hx hb dX2_makePair_45 (by decide) ?_
    exact retC_v E hr hlk hP hD hS h dX2_makePair_54
def wp_X2_answerTruth (N : Nat → Nat) (p0 : Int32) (u : St) (Q : St → Prop) : Prop := ((p0 = 0 → wp_X2_answer N (1099511627776 : Int64) u (fun (u1 : St) => Q u1)) ∧ (¬ p0 = 0 → wp_X2_answer N (1099511627777 : Int64) u (fun (u2 : St) => Q u2)))
abbrev rm_X2_answerTruth : Room := { frames := 1, cells := 0, slots := 0, locals := 22 }
set_option maxHeartbeats 4000000 in
set_option maxRecDepth 100000 in
theorem t_X2_answerTruth (l : Launch) (D : va_G) (G : Gd) (p0 : Int32) (u : St) (Q : St → Prop) (h : wp_X2_answerTruth G.2.1 p0 u Q) : MCv l D G yX2_answerTruth cX2_answerTruth 2 none rm_X2_answerTruth [.ref (G.1 6), .int p0] u Q := by
  refine startC_v (by decide) ?_
  intro p e s m args below meth c E hr hlk hml hP hD hS hA
  have hx := E.1
  have hb := E.2.1
  have hown := E.2.2.1
  have hW := E.2.2.2.1
  have hl := lv_entry ([.ref (G.1 6), .int p0]) (n := 2) (Nat.le_of_ble_eq_true rfl)
  rw [lg_entry_eq]
  generalize (lg_sl ([.ref (G.1 6), .int p0]) ++ List.replicate (2 - (lg_sl ([.ref (G.1 6), .int p0])).length) Slot.unset).toArray = ls at hl ⊢
  have hl : lv_has ls 2 [(0, .ref (G.1 6)), (1, .int p0)] := hl
  unfold wp_X2_answerTruth at h
  refine lv_aload_n hx hb dX2_answerTruth_0 rfl (lv_at hl 0 rfl) ?_
  refine lv_iload_n hx hb dX2_answerTruth_1 rfl (lv_at hl 1 rfl) ?_
  refine lv_if_eq (tgt := 11) hx hb dX2_answerTruth_2 (by decide) (fun hc => ?_) (fun hc => ?_)
  · have h := h.1 hc
    refine lv_ldc2 (v := (1099511627776 : Int64)) hx hb hown (hW _ kcX2_28) dX2_answerTruth_11 ?_
    refine cC_v (ci := 2) (q0 := 6) (As := [.long (1099511627776 : Int64)]) (rest := []) E hml hP hD hS hA (t_X2_answer l D G (1099511627776 : Int64) u _ h) kmX2_95 mwyX2_answer rfl rfl ⟨⟨rfl, rfl⟩, Nat.le_of_ble_eq_true rfl, Nat.le_of_ble_eq_true rfl⟩ rfl hl.1 rfl (Nat.le_of_ble_eq_true rfl) dX2_answerTruth_14 ⟨Nat.zero_le _, Nat.zero_le _⟩ (fun u1 H locs hP hD hS h => ?_)
    exact retC_v E hr hlk hP hD hS h dX2_answerTruth_17
  · have h := h.2 hc
    refine lv_ldc2 (v := (1099511627777 : Int64)) hx hb hown (hW _ kcX2_93) dX2_answerTruth_5 ?_
    refine lv_goto (tgt := 14) hx hb dX2_answerTruth_8 (by decide) ?_
    refine cC_v (ci := 2) (q0 := 6) (As := [.long (1099511627777 : Int64)]) (rest := []) E hml hP hD hS hA (t_X2_answer l D G (1099511627777 : Int64) u _ h) kmX2_95 mwyX2_answer rfl rfl ⟨⟨rfl, rfl⟩, Nat.le_of_ble_eq_true rfl, Nat.le_of_ble_eq_true rfl⟩ rfl hl.1 rfl (Nat.le_of_ble_eq_true rfl) dX2_answerTruth_14 ⟨Nat.zero_le _, Nat.zero_le _⟩ (fun u2 H locs hP hD hS h => ?_)
    exact retC_v E hr hlk hP hD hS h dX2_answerTruth_17
def wp_X2_compareAtoms (N : Nat → Nat) (p0 : Int64) (p1 : Int64) (u : St) (Q : St → Prop) : Prop := wp_X8_isPair p0 (fun (r1 : Int32) => ((r1 = 0 → wp_X8_isPair p1 (fun (r2 : Int32) => ((r2 = 0 → ((p0 = p1 → wp_X2_answerTruth N (1 : Int32) u (fun (u4 : St) => Q u4)) ∧ (¬ p0 = p1 → wp_X2_answerTruth N (0 : Int32) u (fun (u3 : St) => Q u3)))) ∧ (¬ r2 = 0 → Q (sI u 609 (2 : Int32)))))) ∧ (¬ r1 = 0 → Q (sI u 609 (2 : Int32)))))
abbrev rm_X2_compareAtoms : Room := { frames := 2, cells := 0, slots := 0, locals := 43 }
set_option maxHeartbeats 4000000 in
set_option maxRecDepth 100000 in
theorem t_X2_compareAtoms (l : Launch) (D : va_G) (G : Gd) (p0 : Int64) (p1 : Int64) (u : St) (Q : St → Prop) (h : wp_X2_compareAtoms G.2.1 p0 p1 u Q) : MCv l D G yX2_compareAtoms cX2_compareAtoms 5 none rm_X2_compareAtoms [.ref (G.1 6), .long p0, .long p1] u Q := by
  refine startC_v (by decide) ?_
  intro p e s m args below meth c E hr hlk hml hP hD hS hA
  have hx := E.1
  have hb := E.2.1
  have hown := E.2.2.1
  have hW := E.2.2.2.1
  have hl := lv_entry ([.ref (G.1 6), .long p0, .long p1]) (n := 5) (Nat.le_of_ble_eq_true rfl)
  rw [lg_entry_eq]
  generalize (lg_sl ([.ref (G.1 6), .long p0, .long p1]) ++ List.replicate (5 - (lg_sl ([.ref (G.1 6), .long p0, .long p1])).length) Slot.unset).toArray = ls at hl ⊢
  have hl : lv_has ls 5 [(0, .ref (G.1 6)), (1, .long p0), (3, .long p1)] := hl
  unfold wp_X2_compareAtoms at h
  refine lv_lload_n hx hb dX2_compareAtoms_0 rfl (lv_at hl 1 rfl) ?_
  refine c0_i (As := [.long p0]) (rest := []) hx hb hml hown hW hP hS hA (t_X8_isPair l p0 _ h) kmX2_75 mwyX8_isPair ⟨⟨rfl, rfl⟩, Nat.le_of_ble_eq_true rfl, Nat.le_of_ble_eq_true rfl⟩ rfl hl.1 rfl (Nat.le_of_ble_eq_true rfl) dX2_compareAtoms_1 ⟨Nat.zero_le _, Nat.zero_le _⟩ (fun r1 H locs hP hS h => ?_)
  refine lv_if_ne (tgt := 14) hx hb dX2_compareAtoms_4 (by decide) (fun hc => ?_) (fun hc => ?_)
  · have h := h.2 hc
    refine lv_aload_n hx hb dX2_compareAtoms_14 rfl (lv_at hl 0 rfl) ?_
    refine lv_iconst (v := (2 : Int32)) hx hb dX2_compareAtoms_15 (by decide) ?_
    refine pC_609 E hP hD hS kfX2_25 dX2_compareAtoms_16 (fun H locs hP hD hS => ?_)
    refine lv_goto (tgt := 37) hx hb dX2_compareAtoms_19 (by decide) ?_
    exact retC_v E hr hlk hP hD hS h dX2_compareAtoms_37
  · have h := h.1 hc
    refine lv_lload_n hx hb dX2_compareAtoms_7 rfl (lv_at hl 2 rfl) ?_
    refine c0_i (As := [.long p1]) (rest := []) hx hb hml hown hW hP hS hA (t_X8_isPair l p1 _ h) kmX2_75 mwyX8_isPair ⟨⟨rfl, rfl⟩, Nat.le_of_ble_eq_true rfl, Nat.le_of_ble_eq_true rfl⟩ rfl hl.1 rfl (Nat.le_of_ble_eq_true rfl) dX2_compareAtoms_8 ⟨Nat.zero_le _, Nat.zero_le _⟩ (fun r2 H locs hP hS h => ?_)
    refine lv_if_eq (tgt := 22) hx hb dX2_compareAtoms_11 (by decide) (fun hc => ?_) (fun hc => ?_)
    · have h := h.1 hc
      refine lv_aload_n hx hb dX2_compareAtoms_22 rfl (lv_at hl 0 rfl) ?_
      refine lv_lload_n hx hb dX2_compareAtoms_23 rfl (lv_at hl 1 rfl) ?_
      refine lv_lload_n hx hb dX2_compareAtoms_24 rfl (lv_at hl 2 rfl) ?_
      refine lq_ne (tgt := 33) hx hb dX2_compareAtoms_25 dX2_compareAtoms_26 (by decide) (fun hc => ?_) (fun hc => ?_)
      · have h := h.2 hc
        refine lv_iconst (v := (0 : Int32)) hx hb dX2_compareAtoms_33 (by decide) ?_
        refine cC_v (ci := 2) (q0 := 6) (As := [.int (0 : Int32)]) (rest := []) E hml hP hD hS hA (t_X2_answerTruth l D G (0 : Int32) u _ h) kmX2_243 mwyX2_answerTruth rfl rfl ⟨⟨rfl, rfl⟩, Nat.le_of_ble_eq_true rfl, Nat.le_of_ble_eq_true rfl⟩ rfl hl.1 rfl (Nat.le_of_ble_eq_true rfl) dX2_compareAtoms_34 ⟨Nat.zero_le _, Nat.zero_le _⟩ (fun u3 H locs hP hD hS h => ?_)
        exact retC_v E hr hlk hP hD hS h dX2_compareAtoms_37
      · have h := h.1 hc
        refine lv_iconst (v := (1 : Int32)) hx hb dX2_compareAtoms_29 (by decide) ?_
        refine lv_goto (tgt := 34) hx hb dX2_compareAtoms_30 (by decide) ?_
        refine cC_v (ci := 2) (q0 := 6) (As := [.int (1 : Int32)]) (rest := []) E hml hP hD hS hA (t_X2_answerTruth l D G (1 : Int32) u _ h) kmX2_243 mwyX2_answerTruth rfl rfl ⟨⟨rfl, rfl⟩, Nat.le_of_ble_eq_true rfl, Nat.le_of_ble_eq_true rfl⟩ rfl hl.1 rfl (Nat.le_of_ble_eq_true rfl) dX2_compareAtoms_34 ⟨Nat.zero_le _, Nat.zero_le _⟩ (fun u4 H locs hP hD hS h => ?_)
        exact retC_v E hr hlk hP hD hS h dX2_compareAtoms_37
    · have h := h.2 hc
      refine lv_aload_n hx hb dX2_compareAtoms_14 rfl (lv_at hl 0 rfl) ?_
      refine lv_iconst (v := (2 : Int32)) hx hb dX2_compareAtoms_15 (by decide) ?_
      refine pC_609 E hP hD hS kfX2_25 dX2_compareAtoms_16 (fun H locs hP hD hS => ?_)
      refine lv_goto (tgt := 37) hx hb dX2_compareAtoms_19 (by decide) ?_
      exact retC_v E hr hlk hP hD hS h dX2_compareAtoms_37
def wp_X2_reckon (N : Nat → Nat) (p0 : Int32) (p1 : Int64) (p2 : Int64) (u : St) (Q : St → Prop) : Prop := wp_X8_isNumber p1 (fun (r1 : Int32) => ((r1 = 0 → Q (sI u 609 (2 : Int32))) ∧ (¬ r1 = 0 → wp_X8_isNumber p2 (fun (r2 : Int32) => ((r2 = 0 → Q (sI u 609 (2 : Int32))) ∧ (¬ r2 = 0 → ((p0 = (14 : Int32) → wp_X2_answer N ((((p1).toInt32 + (p2).toInt32)).toInt64) u (fun (u3 : St) => Q u3)) ∧ (¬ p0 = (14 : Int32) → ((p0 = (15 : Int32) → wp_X2_answer N ((((p1).toInt32 - (p2).toInt32)).toInt64) u (fun (u4 : St) => Q u4)) ∧ (¬ p0 = (15 : Int32) → ((p0 = (16 : Int32) → wp_X2_answer N ((((p1).toInt32 * (p2).toInt32)).toInt64) u (fun (u5 : St) => Q u5)) ∧ (¬ p0 = (16 : Int32) → (((p2).toInt32 ≤ (p1).toInt32 → wp_X2_answerTruth N (0 : Int32) u (fun (u6 : St) => Q u6)) ∧ (¬ (p2).toInt32 ≤ (p1).toInt32 → wp_X2_answerTruth N (1 : Int32) u (fun (u7 : St) => Q u7)))))))))))))))
abbrev rm_X2_reckon : Room := { frames := 2, cells := 0, slots := 0, locals := 43 }
set_option maxHeartbeats 4000000 in
set_option maxRecDepth 100000 in
theorem t_X2_reckon (l : Launch) (D : va_G) (G : Gd) (p0 : Int32) (p1 : Int64) (p2 : Int64) (u : St) (Q : St → Prop) (h : wp_X2_reckon G.2.1 p0 p1 p2 u Q) : MCv l D G yX2_reckon cX2_reckon 8 none rm_X2_reckon [.ref (G.1 6), .int p0, .long p1, .long p2] u Q := by
  refine startC_v (by decide) ?_
  intro p e s m args below meth c E hr hlk hml hP hD hS hA
  have hx := E.1
  have hb := E.2.1
  have hown := E.2.2.1
  have hW := E.2.2.2.1
  have hl := lv_entry ([.ref (G.1 6), .int p0, .long p1, .long p2]) (n := 8) (Nat.le_of_ble_eq_true rfl)
  rw [lg_entry_eq]
  generalize (lg_sl ([.ref (G.1 6), .int p0, .long p1, .long p2]) ++ List.replicate (8 - (lg_sl ([.ref (G.1 6), .int p0, .long p1, .long p2])).length) Slot.unset).toArray = ls at hl ⊢
  have hl : lv_has ls 8 [(0, .ref (G.1 6)), (1, .int p0), (2, .long p1), (4, .long p2)] := hl
  unfold wp_X2_reckon at h
  refine lv_lload_n hx hb dX2_reckon_0 rfl (lv_at hl 2 rfl) ?_
  refine c0_i (As := [.long p1]) (rest := []) hx hb hml hown hW hP hS hA (t_X8_isNumber l p1 _ h) kmX2_250 mwyX8_isNumber ⟨⟨rfl, rfl⟩, Nat.le_of_ble_eq_true rfl, Nat.le_of_ble_eq_true rfl⟩ rfl hl.1 rfl (Nat.le_of_ble_eq_true rfl) dX2_reckon_1 ⟨Nat.zero_le _, Nat.zero_le _⟩ (fun r1 H locs hP hS h => ?_)
  refine lv_if_eq (tgt := 15) hx hb dX2_reckon_4 (by decide) (fun hc => ?_) (fun hc => ?_)
  · have h := h.1 hc
    refine lv_aload_n hx hb dX2_reckon_15 rfl (lv_at hl 0 rfl) ?_
    refine lv_iconst (v := (2 : Int32)) hx hb dX2_reckon_16 (by decide) ?_
    refine pC_609 E hP hD hS kfX2_25 dX2_reckon_17 (fun H locs hP hD hS => ?_)
    exact retC_v E hr hlk hP hD hS h dX2_reckon_20
  · have h := h.2 hc
    refine lv_lload hx hb dX2_reckon_7 (lv_at hl 3 rfl) ?_
    refine c0_i (As := [.long p2]) (rest := []) hx hb hml hown hW hP hS hA (t_X8_isNumber l p2 _ h) kmX2_250 mwyX8_isNumber ⟨⟨rfl, rfl⟩, Nat.le_of_ble_eq_true rfl, Nat.le_of_ble_eq_true rfl⟩ rfl hl.1 rfl (Nat.le_of_ble_eq_true rfl) dX2_reckon_9 ⟨Nat.zero_le _, Nat.zero_le _⟩ (fun r2 H locs hP hS h => ?_)
    refine lv_if_ne (tgt := 21) hx hb dX2_reckon_12 (by decide) (fun hc => ?_) (fun hc => ?_)
    · have h := h.2 hc
      refine lv_lload_n hx hb dX2_reckon_21 rfl (lv_at hl 2 rfl) ?_
      refine lv_l2i (v := (p1).toInt32) hx hb dX2_reckon_22 rfl ?_
      refine lv_istore (lv' := [(6, .int (p1).toInt32), (0, .ref (G.1 6)), (1, .int p0), (2, .long p1), (4, .long p2)]) hx hb dX2_reckon_23 hl (by decide) rfl (fun ls hl => ?_)
      refine lv_lload hx hb dX2_reckon_25 (lv_at hl 4 rfl) ?_
      refine lv_l2i (v := (p2).toInt32) hx hb dX2_reckon_27 rfl ?_
      refine lv_istore (lv' := [(7, .int (p2).toInt32), (6, .int (p1).toInt32), (0, .ref (G.1 6)), (1, .int p0), (2, .long p1), (4, .long p2)]) hx hb dX2_reckon_28 hl (by decide) rfl (fun ls hl => ?_)
      refine lv_iload_n hx hb dX2_reckon_30 rfl (lv_at hl 3 rfl) ?_
      rcases Decidable.em (p0 = (14 : Int32)) with hc14 | hc14
      · have h := h.1 hc14
        refine lv_tableIn (off := (25 : Int)) (tgt := 56) hx hb dX2_reckon_31 (by rw [hc14]; decide) (by rw [hc14]; decide) (by rw [hc14]; decide) (by decide) ?_
        refine lv_aload_n hx hb dX2_reckon_56 rfl (lv_at hl 2 rfl) ?_
        refine lv_iload hx hb dX2_reckon_57 (lv_at hl 1 rfl) ?_
        refine lv_iload hx hb dX2_reckon_59 (lv_at hl 0 rfl) ?_
        refine lv_iadd hx hb dX2_reckon_61 ?_
        refine lv_i2l (v := (((p1).toInt32 + (p2).toInt32)).toInt64) hx hb dX2_reckon_62 rfl ?_
        refine cC_v (ci := 2) (q0 := 6) (As := [.long (((p1).toInt32 + (p2).toInt32)).toInt64]) (rest := []) E hml hP hD hS hA (t_X2_answer l D G ((((p1).toInt32 + (p2).toInt32)).toInt64) u _ h) kmX2_95 mwyX2_answer rfl rfl ⟨⟨rfl, rfl⟩, Nat.le_of_ble_eq_true rfl, Nat.le_of_ble_eq_true rfl⟩ rfl hl.1 rfl (Nat.le_of_ble_eq_true rfl) dX2_reckon_63 ⟨Nat.zero_le _, Nat.zero_le _⟩ (fun u3 H locs hP hD hS h => ?_)
        refine lv_goto (tgt := 111) hx hb dX2_reckon_66 (by decide) ?_
        exact retC_v E hr hlk hP hD hS h dX2_reckon_111
      · have h := h.2 hc14
        rcases Decidable.em (p0 = (15 : Int32)) with hc15 | hc15
        · have h := h.1 hc15
          refine lv_tableIn (off := (38 : Int)) (tgt := 69) hx hb dX2_reckon_31 (by rw [hc15]; decide) (by rw [hc15]; decide) (by rw [hc15]; decide) (by decide) ?_
          refine lv_aload_n hx hb dX2_reckon_69 rfl (lv_at hl 2 rfl) ?_
          refine lv_iload hx hb dX2_reckon_70 (lv_at hl 1 rfl) ?_
          refine lv_iload hx hb dX2_reckon_72 (lv_at hl 0 rfl) ?_
          refine lv_isub hx hb dX2_reckon_74 ?_
          refine lv_i2l (v := (((p1).toInt32 - (p2).toInt32)).toInt64) hx hb dX2_reckon_75 rfl ?_
          refine cC_v (ci := 2) (q0 := 6) (As := [.long (((p1).toInt32 - (p2).toInt32)).toInt64]) (rest := []) E hml hP hD hS hA (t_X2_answer l D G ((((p1).toInt32 - (p2).toInt32)).toInt64) u _ h) kmX2_95 mwyX2_answer rfl rfl ⟨⟨rfl, rfl⟩, Nat.le_of_ble_eq_true rfl, Nat.le_of_ble_eq_true rfl⟩ rfl hl.1 rfl (Nat.le_of_ble_eq_true rfl) dX2_reckon_76 ⟨Nat.zero_le _, Nat.zero_le _⟩ (fun u4 H locs hP hD hS h => ?_)
          refine lv_goto (tgt := 111) hx hb dX2_reckon_79 (by decide) ?_
          exact retC_v E hr hlk hP hD hS h dX2_reckon_111
        · have h := h.2 hc15
          rcases Decidable.em (p0 = (16 : Int32)) with hc16 | hc16
          · have h := h.1 hc16
            refine lv_tableIn (off := (51 : Int)) (tgt := 82) hx hb dX2_reckon_31 (by rw [hc16]; decide) (by rw [hc16]; decide) (by rw [hc16]; decide) (by decide) ?_
            refine lv_aload_n hx hb dX2_reckon_82 rfl (lv_at hl 2 rfl) ?_
            refine lv_iload hx hb dX2_reckon_83 (lv_at hl 1 rfl) ?_
            refine lv_iload hx hb dX2_reckon_85 (lv_at hl 0 rfl) ?_
            refine lv_imul hx hb dX2_reckon_87 ?_
            refine lv_i2l (v := (((p1).toInt32 * (p2).toInt32)).toInt64) hx hb dX2_reckon_88 rfl ?_
            refine cC_v (ci := 2) (q0 := 6) (As := [.long (((p1).toInt32 * (p2).toInt32)).toInt64]) (rest := []) E hml hP hD hS hA (t_X2_answer l D G ((((p1).toInt32 * (p2).toInt32)).toInt64) u _ h) kmX2_95 mwyX2_answer rfl rfl ⟨⟨rfl, rfl⟩, Nat.le_of_ble_eq_true rfl, Nat.le_of_ble_eq_true rfl⟩ rfl hl.1 rfl (Nat.le_of_ble_eq_true rfl) dX2_reckon_89 ⟨Nat.zero_le _, Nat.zero_le _⟩ (fun u5 H locs hP hD hS h => ?_)
            refine lv_goto (tgt := 111) hx hb dX2_reckon_92 (by decide) ?_
            exact retC_v E hr hlk hP hD hS h dX2_reckon_111
          · have h := h.2 hc16
            refine lv_tableOut (tgt := 95) hx hb dX2_reckon_31 (i32_out (lo := 14) (hi := 16) (fun z h1 h2 => by rcases (show z = 14 ∨ z = 15 ∨ z = 16 by omega) with rfl | rfl | rfl <;> first | exact i32_ne (by decide) hc14 | exact i32_ne (by decide) hc15 | exact i32_ne (by decide) hc16)) (by decide) ?_
            refine lv_aload_n hx hb dX2_reckon_95 rfl (lv_at hl 2 rfl) ?_
            refine lv_iload hx hb dX2_reckon_96 (lv_at hl 1 rfl) ?_
            refine lv_iload hx hb dX2_reckon_98 (lv_at hl 0 rfl) ?_
            refine lv_icmp_ge (tgt := 107) hx hb dX2_reckon_100 (by decide) (fun hc => ?_) (fun hc => ?_)
            · have h := h.1 hc
              refine lv_iconst (v := (0 : Int32)) hx hb dX2_reckon_107 (by decide) ?_
              refine cC_v (ci := 2) (q0 := 6) (As := [.int (0 : Int32)]) (rest := []) E hml hP hD hS hA (t_X2_answerTruth l D G (0 : Int32) u _ h) kmX2_243 mwyX2_answerTruth rfl rfl ⟨⟨rfl, rfl⟩, Nat.le_of_ble_eq_true rfl, Nat.le_of_ble_eq_true rfl⟩ rfl hl.1 rfl (Nat.le_of_ble_eq_true rfl) dX2_reckon_108 ⟨Nat.zero_le _, Nat.zero_le _⟩ (fun u6 H locs hP hD hS h => ?_)
              exact retC_v E hr hlk hP hD hS h dX2_reckon_111
            · have h := h.2 hc
              refine lv_iconst (v := (1 : Int32)) hx hb dX2_reckon_103 (by decide) ?_
              refine lv_goto (tgt := 108) hx hb dX2_reckon_104 (by decide) ?_
              refine cC_v (ci := 2) (q0 := 6) (As := [.int (1 : Int32)]) (rest := []) E hml hP hD hS hA (t_X2_answerTruth l D G (1 : Int32) u _ h) kmX2_243 mwyX2_answerTruth rfl rfl ⟨⟨rfl, rfl⟩, Nat.le_of_ble_eq_true rfl, Nat.le_of_ble_eq_true rfl⟩ rfl hl.1 rfl (Nat.le_of_ble_eq_true rfl) dX2_reckon_108 ⟨Nat.zero_le _, Nat.zero_le _⟩ (fun u7 H locs hP hD hS h => ?_)
              exact retC_v E hr hlk hP hD hS h dX2_reckon_111
    · have h := h.1 hc
      refine lv_aload_n hx hb dX2_reckon_15 rfl (lv_at hl 0 rfl) ?_
      refine lv_iconst (v := (2 : Int32)) hx hb dX2_reckon_16 (by decide) ?_
      refine pC_609 E hP hD hS kfX2_25 dX2_reckon_17 (fun H locs hP hD hS => ?_)
      exact retC_v E hr hlk hP hD hS h dX2_reckon_20
def wp_X2_applyBuiltIn (N : Nat → Nat) (p0 : Int32) (u : St) (Q : St → Prop) : Prop := wp_X2_valuesOf p0 (fun (r1 : Int32) => (((gI u 606) = r1 → ((p0 = (7 : Int32) → wp_X2_takePart N p0 ((gB u 605) ((0 : Int32)).toNatClampNeg) u (fun (u2 : St) => Q u2)) ∧ (¬ p0 = (7 : Int32) → ((p0 = (8 : Int32) → wp_X2_takePart N p0 ((gB u 605) ((0 : Int32)).toNatClampNeg) u (fun (u3 : St) => Q u3)) ∧ (¬ p0 = (8 : Int32) → ((p0 = (9 : Int32) → wp_X2_makePair N  u (fun (u4 : St) => Q u4)) ∧ (¬ p0 = (9 : Int32) → ((p0 = (10 : Int32) → wp_X8_isPair ((gB u 605) ((0 : Int32)).toNatClampNeg) (fun (r5 : Int32) => ((r5 = 0 → wp_X2_answerTruth N (1 : Int32) u (fun (u7 : St) => Q u7)) ∧ (¬ r5 = 0 → wp_X2_answerTruth N (0 : Int32) u (fun (u6 : St) => Q u6))))) ∧ (¬ p0 = (10 : Int32) → ((p0 = (11 : Int32) → wp_X2_compareAtoms N ((gB u 605) ((0 : Int32)).toNatClampNeg) ((gB u 605) ((1 : Int32)).toNatClampNeg) u (fun (u8 : St) => Q u8)) ∧ (¬ p0 = (11 : Int32) → ((p0 = (12 : Int32) → ((((gB u 605) ((0 : Int32)).toNatClampNeg) = (1099511627776 : Int64) → wp_X2_answerTruth N (1 : Int32) u (fun (u10 : St) => Q u10)) ∧ (¬ ((gB u 605) ((0 : Int32)).toNatClampNeg) = (1099511627776 : Int64) → wp_X2_answerTruth N (0 : Int32) u (fun (u9 : St) => Q u9)))) ∧ (¬ p0 = (12 : Int32) → ((p0 = (13 : Int32) → wp_X8_isNumber ((gB u 605) ((0 : Int32)).toNatClampNeg) (fun (r11 : Int32) => wp_X2_answerTruth N r11 u (fun (u12 : St) => Q u12))) ∧ (¬ p0 = (13 : Int32) → wp_X2_reckon N p0 ((gB u 605) ((0 : Int32)).toNatClampNeg) ((gB u 605) ((1 : Int32)).toNatClampNeg) u (fun (u13 : St) => Q u13)))))))))))))))) ∧ (¬ (gI u 606) = r1 → Q (sI u 609 (3 : Int32)))))
abbrev rm_X2_applyBuiltIn : Room := { frames := 3, cells := 0, slots := 0, locals := 76 }
set_option maxHeartbeats 4000000 in
set_option maxRecDepth 100000 in
theorem t_X2_applyBuiltIn (l : Launch) (D : va_G) (G : Gd) (p0 : Int32) (u : St) (Q : St → Prop) (h : wp_X2_applyBuiltIn G.2.1 p0 u Q) : MCv l D G yX2_applyBuiltIn cX2_applyBuiltIn 2 none rm_X2_applyBuiltIn [.ref (G.1 6), .int p0] u Q := by
  refine startC_v (by decide) ?_
  intro p e s m args below meth c E hr hlk hml hP hD hS hA
  have hx := E.1
  have hb := E.2.1
  have hown := E.2.2.1
  have hW := E.2.2.2.1
  have hl := lv_entry ([.ref (G.1 6), .int p0]) (n := 2) (Nat.le_of_ble_eq_true rfl)
  rw [lg_entry_eq]
  generalize (lg_sl ([.ref (G.1 6), .int p0]) ++ List.replicate (2 - (lg_sl ([.ref (G.1 6), .int p0])).length) Slot.unset).toArray = ls at hl ⊢
  have hl : lv_has ls 2 [(0, .ref (G.1 6)), (1, .int p0)] := hl
  unfold wp_X2_applyBuiltIn at h
  refine lv_aload_n hx hb dX2_applyBuiltIn_0 rfl (lv_at hl 0 rfl) ?_
  refine gC_606 E hP kfX2_15 (v := (gI u 606)) rfl dX2_applyBuiltIn_1 ?_
  refine lv_iload_n hx hb dX2_applyBuiltIn_4 rfl (lv_at hl 1 rfl) ?_
  refine c0_i (As := [.int p0]) (rest := [.int (gI u 606)]) hx hb hml hown hW hP hS hA (t_X2_valuesOf l p0 _ h) kmX2_232 mwyX2_valuesOf ⟨⟨rfl, rfl⟩, Nat.le_of_ble_eq_true rfl, Nat.le_of_ble_eq_true rfl⟩ rfl hl.1 rfl (Nat.le_of_ble_eq_true rfl) dX2_applyBuiltIn_5 ⟨Nat.zero_le _, Nat.zero_le _⟩ (fun r1 H locs hP hS h => ?_)
  refine lv_icmp_eq (tgt := 17) hx hb dX2_applyBuiltIn_8 (by decide) (fun hc => ?_) (fun hc => ?_)
  · have h := h.1 hc
    refine lv_iload_n hx hb dX2_applyBuiltIn_17 rfl (lv_at hl 1 rfl) ?_
    rcases Decidable.em (p0 = (7 : Int32)) with hc7 | hc7
    · have h := h.1 hc7
      refine lv_tableIn (off := (42 : Int)) (tgt := 60) hx hb dX2_applyBuiltIn_18 (by rw [hc7]; decide) (by rw [hc7]; decide) (by rw [hc7]; decide) (by decide) ?_
      refine lv_aload_n hx hb dX2_applyBuiltIn_60 rfl (lv_at hl 0 rfl) ?_
      refine lv_iload_n hx hb dX2_applyBuiltIn_61 rfl (lv_at hl 1 rfl) ?_
      refine lv_aload_n hx hb dX2_applyBuiltIn_62 rfl (lv_at hl 0 rfl) ?_
      refine gC_605 E hP kfX2_9 dX2_applyBuiltIn_63 ?_
      refine lv_iconst (v := (0 : Int32)) hx hb dX2_applyBuiltIn_66 (by decide) ?_
      refine xC_605 E hP (by unfold vp_in; decide) (v := ((gB u 605) ((0 : Int32)).toNatClampNeg)) rfl dX2_applyBuiltIn_67 ?_
      refine cC_v (ci := 2) (q0 := 6) (As := [.int p0, .long ((gB u 605) ((0 : Int32)).toNatClampNeg)]) (rest := []) E hml hP hD hS hA (t_X2_takePart l D G p0 ((gB u 605) ((0 : Int32)).toNatClampNeg) u _ h) kmX2_236 mwyX2_takePart rfl rfl ⟨⟨rfl, rfl⟩, Nat.le_of_ble_eq_true rfl, Nat.le_of_ble_eq_true rfl⟩ rfl hl.1 rfl (Nat.le_of_ble_eq_true rfl) dX2_applyBuiltIn_68 ⟨Nat.zero_le _, Nat.zero_le _⟩ (fun u2 H locs hP hD hS h => ?_)
      refine lv_goto (tgt := 182) hx hb dX2_applyBuiltIn_71 (by decide) ?_
      exact retC_v E hr hlk hP hD hS h dX2_applyBuiltIn_182
    · have h := h.2 hc7
      rcases Decidable.em (p0 = (8 : Int32)) with hc8 | hc8
      · have h := h.1 hc8
        refine lv_tableIn (off := (42 : Int)) (tgt := 60) hx hb dX2_applyBuiltIn_18 (by rw [hc8]; decide) (by rw [hc8]; decide) (by rw [hc8]; decide) (by decide) ?_
        refine lv_aload_n hx hb dX2_applyBuiltIn_60 rfl (lv_at hl 0 rfl) ?_
        refine lv_iload_n hx hb dX2_applyBuiltIn_61 rfl (lv_at hl 1 rfl) ?_
        refine lv_aload_n hx hb dX2_applyBuiltIn_62 rfl (lv_at hl 0 rfl) ?_
        refine gC_605 E hP kfX2_9 dX2_applyBuiltIn_63 ?_
        refine lv_iconst (v := (0 : Int32)) hx hb dX2_applyBuiltIn_66 (by decide) ?_
        refine xC_605 E hP (by unfold vp_in; decide) (v := ((gB u 605) ((0 : Int32)).toNatClampNeg)) rfl dX2_applyBuiltIn_67 ?_
        refine cC_v (ci := 2) (q0 := 6) (As := [.int p0, .long ((gB u 605) ((0 : Int32)).toNatClampNeg)]) (rest := []) E hml hP hD hS hA (t_X2_takePart l D G p0 ((gB u 605) ((0 : Int32)).toNatClampNeg) u _ h) kmX2_236 mwyX2_takePart rfl rfl ⟨⟨rfl, rfl⟩, Nat.le_of_ble_eq_true rfl, Nat.le_of_ble_eq_true rfl⟩ rfl hl.1 rfl (Nat.le_of_ble_eq_true rfl) dX2_applyBuiltIn_68 ⟨Nat.zero_le _, Nat.zero_le _⟩ (fun u3 H locs hP hD hS h => ?_)
        refine lv_goto (tgt := 182) hx hb dX2_applyBuiltIn_71 (by decide) ?_
        exact retC_v E hr hlk hP hD hS h dX2_applyBuiltIn_182
      · have h := h.2 hc8
        rcases Decidable.em (p0 = (9 : Int32)) with hc9 | hc9
        · have h := h.1 hc9
          refine lv_tableIn (off := (56 : Int)) (tgt := 74) hx hb dX2_applyBuiltIn_18 (by rw [hc9]; decide) (by rw [hc9]; decide) (by rw [hc9]; decide) (by decide) ?_
          refine lv_aload_n hx hb dX2_applyBuiltIn_74 rfl (lv_at hl 0 rfl) ?_
          refine cC_v (ci := 2) (q0 := 6) (As := []) (rest := []) E hml hP hD hS hA (t_X2_makePair l D G  u _ h) kmX2_240 mwyX2_makePair rfl rfl ⟨⟨rfl, rfl⟩, Nat.le_of_ble_eq_true rfl, Nat.le_of_ble_eq_true rfl⟩ rfl hl.1 rfl (Nat.le_of_ble_eq_true rfl) dX2_applyBuiltIn_75 ⟨Nat.zero_le _, Nat.zero_le _⟩ (fun u4 H locs hP hD hS h => ?_)
          refine lv_goto (tgt := 182) hx hb dX2_applyBuiltIn_78 (by decide) ?_
          exact retC_v E hr hlk hP hD hS h dX2_applyBuiltIn_182
        · have h := h.2 hc9
          rcases Decidable.em (p0 = (10 : Int32)) with hc10 | hc10
          · have h := h.1 hc10
            refine lv_tableIn (off := (63 : Int)) (tgt := 81) hx hb dX2_applyBuiltIn_18 (by rw [hc10]; decide) (by rw [hc10]; decide) (by rw [hc10]; decide) (by decide) ?_
            refine lv_aload_n hx hb dX2_applyBuiltIn_81 rfl (lv_at hl 0 rfl) ?_
            refine lv_aload_n hx hb dX2_applyBuiltIn_82 rfl (lv_at hl 0 rfl) ?_
            refine gC_605 E hP kfX2_9 dX2_applyBuiltIn_83 ?_
            refine lv_iconst (v := (0 : Int32)) hx hb dX2_applyBuiltIn_86 (by decide) ?_
            refine xC_605 E hP (by unfold vp_in; decide) (v := ((gB u 605) ((0 : Int32)).toNatClampNeg)) rfl dX2_applyBuiltIn_87 ?_
            refine c0_i (As := [.long ((gB u 605) ((0 : Int32)).toNatClampNeg)]) (rest := [.ref (G.1 6)]) hx hb hml hown hW hP hS hA (t_X8_isPair l ((gB u 605) ((0 : Int32)).toNatClampNeg) _ h) kmX2_75 mwyX8_isPair ⟨⟨rfl, rfl⟩, Nat.le_of_ble_eq_true rfl, Nat.le_of_ble_eq_true rfl⟩ rfl hl.1 rfl (Nat.le_of_ble_eq_true rfl) dX2_applyBuiltIn_88 ⟨Nat.zero_le _, Nat.zero_le _⟩ (fun r5 H locs hP hS h => ?_)
            refine lv_if_ne (tgt := 98) hx hb dX2_applyBuiltIn_91 (by decide) (fun hc => ?_) (fun hc => ?_)
            · have h := h.2 hc
              refine lv_iconst (v := (0 : Int32)) hx hb dX2_applyBuiltIn_98 (by decide) ?_
              refine cC_v (ci := 2) (q0 := 6) (As := [.int (0 : Int32)]) (rest := []) E hml hP hD hS hA (t_X2_answerTruth l D G (0 : Int32) u _ h) kmX2_243 mwyX2_answerTruth rfl rfl ⟨⟨rfl, rfl⟩, Nat.le_of_ble_eq_true rfl, Nat.le_of_ble_eq_true rfl⟩ rfl hl.1 rfl (Nat.le_of_ble_eq_true rfl) dX2_applyBuiltIn_99 ⟨Nat.zero_le _, Nat.zero_le _⟩ (fun u6 H locs hP hD hS h => ?_)
              refine lv_goto (tgt := 182) hx hb dX2_applyBuiltIn_102 (by decide) ?_
              exact retC_v E hr hlk hP hD hS h dX2_applyBuiltIn_182
            · have h := h.1 hc
              refine lv_iconst (v := (1 : Int32)) hx hb dX2_applyBuiltIn_94 (by decide) ?_
              refine lv_goto (tgt := 99) hx hb dX2_applyBuiltIn_95 (by decide) ?_
              refine cC_v (ci := 2) (q0 := 6) (As := [.int (1 : Int32)]) (rest := []) E hml hP hD hS hA (t_X2_answerTruth l D G (1 : Int32) u _ h) kmX2_243 mwyX2_answerTruth rfl rfl ⟨⟨rfl, rfl⟩, Nat.le_of_ble_eq_true rfl, Nat.le_of_ble_eq_true rfl⟩ rfl hl.1 rfl (Nat.le_of_ble_eq_true rfl) dX2_applyBuiltIn_99 ⟨Nat.zero_le _, Nat.zero_le _⟩ (fun u7 H locs hP hD hS h => ?_)
              refine lv_goto (tgt := 182) hx hb dX2_applyBuiltIn_102 (by decide) ?_
              exact retC_v E hr hlk hP hD hS h dX2_applyBuiltIn_182
          · have h := h.2 hc10
            rcases Decidable.em (p0 = (11 : Int32)) with hc11 | hc11
            · have h := h.1 hc11
              refine lv_tableIn (off := (87 : Int)) (tgt := 105) hx hb dX2_applyBuiltIn_18 (by rw [hc11]; decide) (by rw [hc11]; decide) (by rw [hc11]; decide) (by decide) ?_
              refine lv_aload_n hx hb dX2_applyBuiltIn_105 rfl (lv_at hl 0 rfl) ?_
              refine lv_aload_n hx hb dX2_applyBuiltIn_106 rfl (lv_at hl 0 rfl) ?_
              refine gC_605 E hP kfX2_9 dX2_applyBuiltIn_107 ?_
              refine lv_iconst (v := (0 : Int32)) hx hb dX2_applyBuiltIn_110 (by decide) ?_
              refine xC_605 E hP (by unfold vp_in; decide) (v := ((gB u 605) ((0 : Int32)).toNatClampNeg)) rfl dX2_applyBuiltIn_111 ?_
              refine lv_aload_n hx hb dX2_applyBuiltIn_112 rfl (lv_at hl 0 rfl) ?_
              refine gC_605 E hP kfX2_9 dX2_applyBuiltIn_113 ?_
              refine lv_iconst (v := (1 : Int32)) hx hb dX2_applyBuiltIn_116 (by decide) ?_
              refine xC_605 E hP (by unfold vp_in; decide) (v := ((gB u 605) ((1 : Int32)).toNatClampNeg)) rfl dX2_applyBuiltIn_117 ?_
              refine cC_v (ci := 2) (q0 := 6) (As := [.long ((gB u 605) ((0 : Int32)).toNatClampNeg), .long ((gB u 605) ((1 : Int32)).toNatClampNeg)]) (rest := []) E hml hP hD hS hA (t_X2_compareAtoms l D G ((gB u 605) ((0 : Int32)).toNatClampNeg) ((gB u 605) ((1 : Int32)).toNatClampNeg) u _ h) kmX2_247 mwyX2_compareAtoms rfl rfl ⟨⟨rfl, rfl⟩, Nat.le_of_ble_eq_true rfl, Nat.le_of_ble_eq_true rfl⟩ rfl hl.1 rfl (Nat.le_of_ble_eq_true rfl) dX2_applyBuiltIn_118 ⟨Nat.zero_le _, Nat.zero_le _⟩ (fun u8 H locs hP hD hS h => ?_)
              refine lv_goto (tgt := 182) hx hb dX2_applyBuiltIn_121 (by decide) ?_
              exact retC_v E hr hlk hP hD hS h dX2_applyBuiltIn_182
            · have h := h.2 hc11
              rcases Decidable.em (p0 = (12 : Int32)) with hc12 | hc12
              · have h := h.1 hc12
                refine lv_tableIn (off := (106 : Int)) (tgt := 124) hx hb dX2_applyBuiltIn_18 (by rw [hc12]; decide) (by rw [hc12]; decide) (by rw [hc12]; decide) (by decide) ?_
                refine lv_aload_n hx hb dX2_applyBuiltIn_124 rfl (lv_at hl 0 rfl) ?_
                refine lv_aload_n hx hb dX2_applyBuiltIn_125 rfl (lv_at hl 0 rfl) ?_
                refine gC_605 E hP kfX2_9 dX2_applyBuiltIn_126 ?_
                refine lv_iconst (v := (0 : Int32)) hx hb dX2_applyBuiltIn_129 (by decide) ?_
                refine xC_605 E hP (by unfold vp_in; decide) (v := ((gB u 605) ((0 : Int32)).toNatClampNeg)) rfl dX2_applyBuiltIn_130 ?_
                refine lv_ldc2 (v := (1099511627776 : Int64)) hx hb hown (hW _ kcX2_28) dX2_applyBuiltIn_131 ?_
                refine lq_ne (tgt := 142) hx hb dX2_applyBuiltIn_134 dX2_applyBuiltIn_135 (by decide) (fun hc => ?_) (fun hc => ?_)
                · have h := h.2 hc
                  refine lv_iconst (v := (0 : Int32)) hx hb dX2_applyBuiltIn_142 (by decide) ?_
                  refine cC_v (ci := 2) (q0 := 6) (As := [.int (0 : Int32)]) (rest := []) E hml hP hD hS hA (t_X2_answerTruth l D G (0 : Int32) u _ h) kmX2_243 mwyX2_answerTruth rfl rfl ⟨⟨rfl, rfl⟩, Nat.le_of_ble_eq_true rfl, Nat.le_of_ble_eq_true rfl⟩ rfl hl.1 rfl (Nat.le_of_ble_eq_true rfl) dX2_applyBuiltIn_143 ⟨Nat.zero_le _, Nat.zero_le _⟩ (fun u9 H locs hP hD hS h => ?_)
                  refine lv_goto (tgt := 182) hx hb dX2_applyBuiltIn_146 (by decide) ?_
                  exact retC_v E hr hlk hP hD hS h dX2_applyBuiltIn_182
                · have h := h.1 hc
                  refine lv_iconst (v := (1 : Int32)) hx hb dX2_applyBuiltIn_138 (by decide) ?_
                  refine lv_goto (tgt := 143) hx hb dX2_applyBuiltIn_139 (by decide) ?_
                  refine cC_v (ci := 2) (q0 := 6) (As := [.int (1 : Int32)]) (rest := []) E hml hP hD hS hA (t_X2_answerTruth l D G (1 : Int32) u _ h) kmX2_243 mwyX2_answerTruth rfl rfl ⟨⟨rfl, rfl⟩, Nat.le_of_ble_eq_true rfl, Nat.le_of_ble_eq_true rfl⟩ rfl hl.1 rfl (Nat.le_of_ble_eq_true rfl) dX2_applyBuiltIn_143 ⟨Nat.zero_le _, Nat.zero_le _⟩ (fun u10 H locs hP hD hS h => ?_)
                  refine lv_goto (tgt := 182) hx hb dX2_applyBuiltIn_146 (by decide) ?_
                  exact retC_v E hr hlk hP hD hS h dX2_applyBuiltIn_182
              · have h := h.2 hc12
                rcases Decidable.em (p0 = (13 : Int32)) with hc13 | hc13
                · have h := h.1 hc13
                  refine lv_tableIn (off := (131 : Int)) (tgt := 149) hx hb dX2_applyBuiltIn_18 (by rw [hc13]; decide) (by rw [hc13]; decide) (by rw [hc13]; decide) (by decide) ?_
                  refine lv_aload_n hx hb dX2_applyBuiltIn_149 rfl (lv_at hl 0 rfl) ?_
                  refine lv_aload_n hx hb dX2_applyBuiltIn_150 rfl (lv_at hl 0 rfl) ?_
                  refine gC_605 E hP kfX2_9 dX2_applyBuiltIn_151 ?_
                  refine lv_iconst (v := (0 : Int32)) hx hb dX2_applyBuiltIn_154 (by decide) ?_
                  refine xC_605 E hP (by unfold vp_in; decide) (v := ((gB u 605) ((0 : Int32)).toNatClampNeg)) rfl dX2_applyBuiltIn_155 ?_
                  refine c0_i (As := [.long ((gB u 605) ((0 : Int32)).toNatClampNeg)]) (rest := [.ref (G.1 6)]) hx hb hml hown hW hP hS hA (t_X8_isNumber l ((gB u 605) ((0 : Int32)).toNatClampNeg) _ h) kmX2_250 mwyX8_isNumber ⟨⟨rfl, rfl⟩, Nat.le_of_ble_eq_true rfl, Nat.le_of_ble_eq_true rfl⟩ rfl hl.1 rfl (Nat.le_of_ble_eq_true rfl) dX2_applyBuiltIn_156 ⟨Nat.zero_le _, Nat.zero_le _⟩ (fun r11 H locs hP hS h => ?_)
                  refine cC_v (ci := 2) (q0 := 6) (As := [.int r11]) (rest := []) E hml hP hD hS hA (t_X2_answerTruth l D G r11 u _ h) kmX2_243 mwyX2_answerTruth rfl rfl ⟨⟨rfl, rfl⟩, Nat.le_of_ble_eq_true rfl, Nat.le_of_ble_eq_true rfl⟩ rfl hl.1 rfl (Nat.le_of_ble_eq_true rfl) dX2_applyBuiltIn_159 ⟨Nat.zero_le _, Nat.zero_le _⟩ (fun u12 H locs hP hD hS h => ?_)
                  refine lv_goto (tgt := 182) hx hb dX2_applyBuiltIn_162 (by decide) ?_
                  exact retC_v E hr hlk hP hD hS h dX2_applyBuiltIn_182
                · have h := h.2 hc13
                  refine lv_tableOut (tgt := 165) hx hb dX2_applyBuiltIn_18 (i32_out (lo := 7) (hi := 13) (fun z h1 h2 => by rcases (show z = 7 ∨ z = 8 ∨ z = 9 ∨ z = 10 ∨ z = 11 ∨ z = 12 ∨ z = 13 by omega) with rfl | rfl | rfl | rfl | rfl | rfl | rfl <;> first | exact i32_ne (by decide) hc7 | exact i32_ne (by decide) hc8 | exact i32_ne (by decide) hc9 | exact i32_ne (by decide) hc10 | exact i32_ne (by decide) hc11 | exact i32_ne (by decide) hc12 | exact i32_ne (by decide) hc13)) (by decide) ?_
                  refine lv_aload_n hx hb dX2_applyBuiltIn_165 rfl (lv_at hl 0 rfl) ?_
                  refine lv_iload_n hx hb dX2_applyBuiltIn_166 rfl (lv_at hl 1 rfl) ?_
                  refine lv_aload_n hx hb dX2_applyBuiltIn_167 rfl (lv_at hl 0 rfl) ?_
                  refine gC_605 E hP kfX2_9 dX2_applyBuiltIn_168 ?_
                  refine lv_iconst (v := (0 : Int32)) hx hb dX2_applyBuiltIn_171 (by decide) ?_
                  refine xC_605 E hP (by unfold vp_in; decide) (v := ((gB u 605) ((0 : Int32)).toNatClampNeg)) rfl dX2_applyBuiltIn_172 ?_
                  refine lv_aload_n hx hb dX2_applyBuiltIn_173 rfl (lv_at hl 0 rfl) ?_
                  refine gC_605 E hP kfX2_9 dX2_applyBuiltIn_174 ?_
                  refine lv_iconst (v := (1 : Int32)) hx hb dX2_applyBuiltIn_177 (by decide) ?_
                  refine xC_605 E hP (by unfold vp_in; decide) (v := ((gB u 605) ((1 : Int32)).toNatClampNeg)) rfl dX2_applyBuiltIn_178 ?_
                  refine cC_v (ci := 2) (q0 := 6) (As := [.int p0, .long ((gB u 605) ((0 : Int32)).toNatClampNeg), .long ((gB u 605) ((1 : Int32)).toNatClampNeg)]) (rest := []) E hml hP hD hS hA (t_X2_reckon l D G p0 ((gB u 605) ((0 : Int32)).toNatClampNeg) ((gB u 605) ((1 : Int32)).toNatClampNeg) u _ h) kmX2_253 mwyX2_reckon rfl rfl ⟨⟨rfl, rfl⟩, Nat.le_of_ble_eq_true rfl, Nat.le_of_ble_eq_true rfl⟩ rfl hl.1 rfl (Nat.le_of_ble_eq_true rfl) dX2_applyBuiltIn_179 ⟨Nat.zero_le _, Nat.zero_le _⟩ (fun u13 H locs hP hD hS h => ?_)
                  exact retC_v E hr hlk hP hD hS h dX2_applyBuiltIn_182
  · have h := h.2 hc
    refine lv_aload_n hx hb dX2_applyBuiltIn_11 rfl (lv_at hl 0 rfl) ?_
    refine lv_iconst (v := (3 : Int32)) hx hb dX2_applyBuiltIn_12 (by decide) ?_
    refine pC_609 E hP hD hS kfX2_25 dX2_applyBuiltIn_13 (fun H locs hP hD hS => ?_)
    exact retC_v E hr hlk hP hD hS h dX2_applyBuiltIn_16
def wp_X2_applyAtom (N : Nat → Nat)  (u : St) (Q : St → Prop) : Prop := wp_X8_isFixed (gJ u 612) (fun (r1 : Int32) => ((r1 = 0 → ((((gJ u 612) - (1099511627776 : Int64)) < (7 : Int64) → wp_X2_boundTo N (gJ u 612) u (fun (r2 : Int64) (u3 : St) => ((r2 = (3298534883331 : Int64) → Q (sI u3 609 (1 : Int32))) ∧ (¬ r2 = (3298534883331 : Int64) → wp_X2_beginApplying N r2 u3 (fun (u4 : St) => Q u4))))) ∧ (¬ ((gJ u 612) - (1099511627776 : Int64)) < (7 : Int64) → (((17 : Int64) < ((gJ u 612) - (1099511627776 : Int64)) → wp_X2_boundTo N (gJ u 612) u (fun (r5 : Int64) (u6 : St) => ((r5 = (3298534883331 : Int64) → Q (sI u6 609 (1 : Int32))) ∧ (¬ r5 = (3298534883331 : Int64) → wp_X2_beginApplying N r5 u6 (fun (u7 : St) => Q u7))))) ∧ (¬ (17 : Int64) < ((gJ u 612) - (1099511627776 : Int64)) → wp_X2_applyBuiltIn N ((((gJ u 612) - (1099511627776 : Int64))).toInt32) u (fun (u8 : St) => Q u8)))))) ∧ (¬ r1 = 0 → Q (sI u 609 (4 : Int32)))))
abbrev rm_X2_applyAtom : Room := { frames := 4, cells := 0, slots := 0, locals := 97 }
set_option maxHeartbeats 4000000 in
set_option maxRecDepth 100000 in
theorem t_X2_applyAtom (l : Launch) (D : va_G) (G : Gd)  (u : St) (Q : St → Prop) (h : wp_X2_applyAtom G.2.1  u Q) : MCv l D G yX2_applyAtom cX2_applyAtom 5 none rm_X2_applyAtom [.ref (G.1 6)] u Q := by
  refine startC_v (by decide) ?_
  intro p e s m args below meth c E hr hlk hml hP hD hS hA
  have hx := E.1
  have hb := E.2.1
  have hown := E.2.2.1
  have hW := E.2.2.2.1
  have hl := lv_entry ([.ref (G.1 6)]) (n := 5) (Nat.le_of_ble_eq_true rfl)
  rw [lg_entry_eq]
  generalize (lg_sl ([.ref (G.1 6)]) ++ List.replicate (5 - (lg_sl ([.ref (G.1 6)])).length) Slot.unset).toArray = ls at hl ⊢
  have hl : lv_has ls 5 [(0, .ref (G.1 6))] := hl
  unfold wp_X2_applyAtom at h
  refine lv_aload_n hx hb dX2_applyAtom_0 rfl (lv_at hl 0 rfl) ?_
  refine gC_612 E hP kfX2_37 (v := (gJ u 612)) rfl dX2_applyAtom_1 ?_
  refine c0_i (As := [.long (gJ u 612)]) (rest := []) hx hb hml hown hW hP hS hA (t_X8_isFixed l (gJ u 612) _ h) kmX2_116 mwyX8_isFixed ⟨⟨rfl, rfl⟩, Nat.le_of_ble_eq_true rfl, Nat.le_of_ble_eq_true rfl⟩ rfl hl.1 rfl (Nat.le_of_ble_eq_true rfl) dX2_applyAtom_4 ⟨Nat.zero_le _, Nat.zero_le _⟩ (fun r1 H locs hP hS h => ?_)
  refine lv_if_eq (tgt := 16) hx hb dX2_applyAtom_7 (by decide) (fun hc => ?_) (fun hc => ?_)
  · have h := h.1 hc
    refine lv_aload_n hx hb dX2_applyAtom_16 rfl (lv_at hl 0 rfl) ?_
    refine gC_612 E hP kfX2_37 (v := (gJ u 612)) rfl dX2_applyAtom_17 ?_
    refine lv_ldc2 (v := (1099511627776 : Int64)) hx hb hown (hW _ kcX2_28) dX2_applyAtom_20 ?_
    refine lv_lsub hx hb dX2_applyAtom_23 ?_
    refine lv_lstore_n (lv' := [(1, .long ((gJ u 612) - (1099511627776 : Int64))), (0, .ref (G.1 6))]) hx hb dX2_applyAtom_24 rfl hl (by decide) rfl (fun ls hl => ?_)
    refine lv_lload_n hx hb dX2_applyAtom_25 rfl (lv_at hl 0 rfl) ?_
    refine lv_ldc2 (v := (7 : Int64)) hx hb hown (hW _ kcX2_205) dX2_applyAtom_26 ?_
    refine lq_lt (tgt := 48) hx hb dX2_applyAtom_29 dX2_applyAtom_30 (by decide) (fun hc => ?_) (fun hc => ?_)
    · have h := h.1 hc
      refine lv_aload_n hx hb dX2_applyAtom_48 rfl (lv_at hl 1 rfl) ?_
      refine lv_aload_n hx hb dX2_applyAtom_49 rfl (lv_at hl 1 rfl) ?_
      refine gC_612 E hP kfX2_37 (v := (gJ u 612)) rfl dX2_applyAtom_50 ?_
      refine cC_l (ci := 2) (q0 := 6) (As := [.long (gJ u 612)]) (rest := []) E hml hP hD hS hA (t_X2_boundTo l D G (gJ u 612) u _ h) kmX2_119 mwyX2_boundTo rfl rfl ⟨⟨rfl, rfl⟩, Nat.le_of_ble_eq_true rfl, Nat.le_of_ble_eq_true rfl⟩ rfl hl.1 rfl (Nat.le_of_ble_eq_true rfl) dX2_applyAtom_53 ⟨Nat.zero_le _, Nat.zero_le _⟩ (fun r2 u3 H locs hP hD hS h => ?_)
      refine lv_lstore_n (lv' := [(3, .long r2), (1, .long ((gJ u 612) - (1099511627776 : Int64))), (0, .ref (G.1 6))]) hx hb dX2_applyAtom_56 rfl hl (by decide) rfl (fun ls hl => ?_)
      refine lv_lload_n hx hb dX2_applyAtom_57 rfl (lv_at hl 0 rfl) ?_
      refine lv_ldc2 (v := (3298534883331 : Int64)) hx hb hown (hW _ kcX2_122) dX2_applyAtom_58 ?_
      refine lq_ne (tgt := 73) hx hb dX2_applyAtom_61 dX2_applyAtom_62 (by decide) (fun hc => ?_) (fun hc => ?_)
      · have h := h.2 hc
        refine lv_aload_n hx hb dX2_applyAtom_73 rfl (lv_at hl 2 rfl) ?_
        refine lv_lload_n hx hb dX2_applyAtom_74 rfl (lv_at hl 0 rfl) ?_
        refine cC_v (ci := 2) (q0 := 6) (As := [.long r2]) (rest := []) E hml hP hD hS hA (t_X2_beginApplying l D G r2 u3 _ h) kmX2_155 mwyX2_beginApplying rfl rfl ⟨⟨rfl, rfl⟩, Nat.le_of_ble_eq_true rfl, Nat.le_of_ble_eq_true rfl⟩ rfl hl.1 rfl (Nat.le_of_ble_eq_true rfl) dX2_applyAtom_75 ⟨Nat.zero_le _, Nat.zero_le _⟩ (fun u4 H locs hP hD hS h => ?_)
        exact retC_v E hr hlk hP hD hS h dX2_applyAtom_78
      · have h := h.1 hc
        refine lv_aload_n hx hb dX2_applyAtom_65 rfl (lv_at hl 2 rfl) ?_
        refine lv_iconst (v := (1 : Int32)) hx hb dX2_applyAtom_66 (by decide) ?_
        refine pC_609 E hP hD hS kfX2_25 dX2_applyAtom_67 (fun H locs hP hD hS => ?_)
        refine lv_goto (tgt := 78) hx hb dX2_applyAtom_70 (by decide) ?_
        exact retC_v E hr hlk hP hD hS h dX2_applyAtom_78
    · have h := h.2 hc
      refine lv_lload_n hx hb dX2_applyAtom_33 rfl (lv_at hl 0 rfl) ?_
      refine lv_ldc2 (v := (17 : Int64)) hx hb hown (hW _ kcX2_207) dX2_applyAtom_34 ?_
      refine lq_gt (tgt := 48) hx hb dX2_applyAtom_37 dX2_applyAtom_38 (by decide) (fun hc => ?_) (fun hc => ?_)
      · have h := h.1 hc
        refine lv_aload_n hx hb dX2_applyAtom_48 rfl (lv_at hl 1 rfl) ?_
        refine lv_aload_n hx hb dX2_applyAtom_49 rfl (lv_at hl 1 rfl) ?_
        refine gC_612 E hP kfX2_37 (v := (gJ u 612)) rfl dX2_applyAtom_50 ?_
        refine cC_l (ci := 2) (q0 := 6) (As := [.long (gJ u 612)]) (rest := []) E hml hP hD hS hA (t_X2_boundTo l D G (gJ u 612) u _ h) kmX2_119 mwyX2_boundTo rfl rfl ⟨⟨rfl, rfl⟩, Nat.le_of_ble_eq_true rfl, Nat.le_of_ble_eq_true rfl⟩ rfl hl.1 rfl (Nat.le_of_ble_eq_true rfl) dX2_applyAtom_53 ⟨Nat.zero_le _, Nat.zero_le _⟩ (fun r5 u6 H locs hP hD hS h => ?_)
        refine lv_lstore_n (lv' := [(3, .long r5), (1, .long ((gJ u 612) - (1099511627776 : Int64))), (0, .ref (G.1 6))]) hx hb dX2_applyAtom_56 rfl hl (by decide) rfl (fun ls hl => ?_)
        refine lv_lload_n hx hb dX2_applyAtom_57 rfl (lv_at hl 0 rfl) ?_
        refine lv_ldc2 (v := (3298534883331 : Int64)) hx hb hown (hW _ kcX2_122) dX2_applyAtom_58 ?_
        refine lq_ne (tgt := 73) hx hb dX2_applyAtom_61 dX2_applyAtom_62 (by decide) (fun hc => ?_) (fun hc => ?_)
        · have h := h.2 hc
          refine lv_aload_n hx hb dX2_applyAtom_73 rfl (lv_at hl 2 rfl) ?_
          refine lv_lload_n hx hb dX2_applyAtom_74 rfl (lv_at hl 0 rfl) ?_
          refine cC_v (ci := 2) (q0 := 6) (As := [.long r5]) (rest := []) E hml hP hD hS hA (t_X2_beginApplying l D G r5 u6 _ h) kmX2_155 mwyX2_beginApplying rfl rfl ⟨⟨rfl, rfl⟩, Nat.le_of_ble_eq_true rfl, Nat.le_of_ble_eq_true rfl⟩ rfl hl.1 rfl (Nat.le_of_ble_eq_true rfl) dX2_applyAtom_75 ⟨Nat.zero_le _, Nat.zero_le _⟩ (fun u7 H locs hP hD hS h => ?_)
          exact retC_v E hr hlk hP hD hS h dX2_applyAtom_78
        · have h := h.1 hc
          refine lv_aload_n hx hb dX2_applyAtom_65 rfl (lv_at hl 2 rfl) ?_
          refine lv_iconst (v := (1 : Int32)) hx hb dX2_applyAtom_66 (by decide) ?_
          refine pC_609 E hP hD hS kfX2_25 dX2_applyAtom_67 (fun H locs hP hD hS => ?_)
          refine lv_goto (tgt := 78) hx hb dX2_applyAtom_70 (by decide) ?_
          exact retC_v E hr hlk hP hD hS h dX2_applyAtom_78
      · have h := h.2 hc
        refine lv_aload_n hx hb dX2_applyAtom_41 rfl (lv_at hl 1 rfl) ?_
        refine lv_lload_n hx hb dX2_applyAtom_42 rfl (lv_at hl 0 rfl) ?_
        refine lv_l2i (v := (((gJ u 612) - (1099511627776 : Int64))).toInt32) hx hb dX2_applyAtom_43 rfl ?_
        refine cC_v (ci := 2) (q0 := 6) (As := [.int (((gJ u 612) - (1099511627776 : Int64))).toInt32]) (rest := []) E hml hP hD hS hA (t_X2_applyBuiltIn l D G ((((gJ u 612) - (1099511627776 : Int64))).toInt32) u _ h) kmX2_209 mwyX2_applyBuiltIn rfl rfl ⟨⟨rfl, rfl⟩, Nat.le_of_ble_eq_true rfl, Nat.le_of_ble_eq_true rfl⟩ rfl hl.1 rfl (Nat.le_of_ble_eq_true rfl) dX2_applyAtom_44 ⟨Nat.zero_le _, Nat.zero_le _⟩ (fun u8 H locs hP hD hS h => ?_)
        exact retC_v E hr hlk hP hD hS h dX2_applyAtom_47
  · have h := h.2 hc
    refine lv_aload_n hx hb dX2_applyAtom_10 rfl (lv_at hl 0 rfl) ?_
    refine lv_iconst (v := (4 : Int32)) hx hb dX2_applyAtom_11 (by decide) ?_
    refine pC_609 E hP hD hS kfX2_25 dX2_applyAtom_12 (fun H locs hP hD hS => ?_)
    exact retC_v E hr hlk hP hD hS h dX2_applyAtom_15
def l_X7_push_29 (N : Nat → Nat) (c1 : Int32) (c2 : Int64) (c4 : Int64) (c6 : Int64) (c8 : Int32) (K : St → Prop) : Nat → Int32 → St → Prop
  | 0, _, _ => False
  | n + 1, x9, u => (((c8 + (11 : Int32)) ≤ x9 → K u) ∧ (¬ (c8 + (11 : Int32)) ≤ x9 → vp_in x9 (N 302) ∧ l_X7_push_29 N  c1 c2 c4 c6 c8 K n (x9 + (1 : Int32)) (sB u 302 (vp_updL (gB u 302) (x9).toNatClampNeg (1099511627776 : Int64)))))
def wp_X7_push (N : Nat → Nat) (p0 : Int32) (p1 : Int64) (p2 : Int64) (p3 : Int64) (u : St) (Q : Int32 → St → Prop) : Prop := (((gI u 303) < (Int32.ofNat (N 300)) → (∃ k2 : Nat, l_X7_push_29 N  p0 p1 p2 p3 ((gI u 303) * (11 : Int32)) (fun (u1 : St) => vp_in (((gI u 303) * (11 : Int32)) + (0 : Int32)) (N 302) ∧ vp_in (((gI u 303) * (11 : Int32)) + (1 : Int32)) (N 302) ∧ vp_in (((gI u 303) * (11 : Int32)) + (2 : Int32)) (N 302) ∧ vp_in (gI u1 303) (N 300) ∧ vp_in (gI u1 303) (N 301) ∧ Q (1 : Int32) (sI (sI (sA (sA (sB (sB (sB u1 302 (vp_updL (gB u1 302) ((((gI u 303) * (11 : Int32)) + (0 : Int32))).toNatClampNeg p1)) 302 (vp_updL (vp_updL (gB u1 302) ((((gI u 303) * (11 : Int32)) + (0 : Int32))).toNatClampNeg p1) ((((gI u 303) * (11 : Int32)) + (1 : Int32))).toNatClampNeg p2)) 302 (vp_updL (vp_updL (vp_updL (gB u1 302) ((((gI u 303) * (11 : Int32)) + (0 : Int32))).toNatClampNeg p1) ((((gI u 303) * (11 : Int32)) + (1 : Int32))).toNatClampNeg p2) ((((gI u 303) * (11 : Int32)) + (2 : Int32))).toNatClampNeg p3)) 300 (upd (gA u1 300) ((gI u1 303)).toNatClampNeg p0)) 301 (upd (gA u1 301) ((gI u1 303)).toNatClampNeg (0 : Int32))) 303 ((gI u1 303) + (1 : Int32))) 304 (if (gI u1 304) < ((gI u1 303) + (1 : Int32)) then ((gI u1 303) + (1 : Int32)) else (gI u1 304)))) k2 (((gI u 303) * (11 : Int32)) + (3 : Int32)) u)) ∧ (¬ (gI u 303) < (Int32.ofNat (N 300)) → Q (0 : Int32) u))
abbrev rm_X7_push : Room := { frames := 1, cells := 0, slots := 0, locals := 40 }
set_option maxHeartbeats 4000000 in
set_option maxRecDepth 100000 in
theorem t_X7_push (l : Launch) (D : va_G) (G : Gd) (p0 : Int32) (p1 : Int64) (p2 : Int64) (p3 : Int64) (u : St) (Q : Int32 → St → Prop) (h : wp_X7_push G.2.1 p0 p1 p2 p3 u Q) : MCi l D G yX7_push cX7_push 10 (some .boolean) rm_X7_push [.ref (G.1 3), .int p0, .long p1, .long p2, .long p3] u Q := by
  refine startC_i (by decide) ?_
  intro p e s m args below meth c E hr hlk hml hP hD hS hA
  have hx := E.1
  have hb := E.2.1
  have hown := E.2.2.1
  have hW := E.2.2.2.1
  have hl := lv_entry ([.ref (G.1 3), .int p0, .long p1, .long p2, .long p3]) (n := 10) (Nat.le_of_ble_eq_true rfl)
  rw [lg_entry_eq]
  generalize (lg_sl ([.ref (G.1 3), .int p0, .long p1, .long p2, .long p3]) ++ List.replicate (10 - (lg_sl ([.ref (G.1 3), .int p0, .long p1, .long p2, .long p3])).length) Slot.unset).toArray = ls at hl ⊢
  have hl : lv_has ls 10 [(0, .ref (G.1 3)), (1, .int p0), (2, .long p1), (4, .long p2), (6, .long p3)] := hl
  have L_29 : ∀ (c1 : Int32) (c2 : Int64) (c4 : Int64) (c6 : Int64) (c8 : Int32) (K : St → Prop), (∀  (u : St) (H : Heap) (locs : List Loc) (ls : Array Slot), K  u → va_P D vwCl (wC G u) H → va_D (AC G s.heap.size) (wC G u) → va_S (AC G s.heap.size) s.heap H locs → lv_has ls 10 [(0, .ref (G.1 3)), (1, .int c1), (2, .long c2), (4, .long c4), (6, .long c6), (8, .int c8)] → W p l e rm_X7_push s m args below meth c H locs 0 0 (MQ below (va_Qi Q (BC D G s.heap.size) (AC G s.heap.size)) args s 0 0 (AC G s.heap.size)) (F0 m 55 ls [])) → ∀ (n : Nat) (x9 : Int32) (u : St) (H : Heap) (locs : List Loc) (ls : Array Slot), l_X7_push_29 G.2.1  c1 c2 c4 c6 c8 K n x9 u → va_P D vwCl (wC G u) H → va_D (AC G s.heap.size) (wC G u) → va_S (AC G s.heap.size) s.heap H locs → lv_has ls 10 [(0, .ref (G.1 3)), (1, .int c1), (2, .long c2), (4, .long c4), (6, .long c6), (8, .int c8), (9, .int x9)] → W p l e rm_X7_push s m args below meth c H locs 0 0 (MQ below (va_Qi Q (BC D G s.heap.size) (AC G s.heap.size)) args s 0 0 (AC G s.heap.size)) (F0 m 29 ls []) := by
    intro c1 c2 c4 c6 c8 K hK n
    induction n with
    | zero => intro x9 u H locs ls h; exact False.elim h
    | succ n ih =>
      intro x9 u H locs ls h hP hD hS hl
      unfold l_X7_push_29 at h
      refine lv_iload hx hb dX7_push_29 (lv_at hl 6 rfl) ?_
      refine lv_iload hx hb dX7_push_31 (lv_at hl 5 rfl) ?_
      refine lv_bipush (v := (11 : Int32)) hx hb dX7_push_33 (by decide) ?_
      refine lv_iadd hx hb dX7_push_35 ?_
      refine lv_icmp_ge (tgt := 55) hx hb dX7_push_36 (by decide) (fun hc => ?_) (fun hc => ?_)
      · have h := h.1 hc
        exact hK u _ _ _ h hP hD hS (lv_sub hl [0, 1, 2, 3, 4, 5] rfl)
      · have h := h.2 hc
        refine lv_aload_n hx hb dX7_push_39 rfl (lv_at hl 0 rfl) ?_
        refine gC_302 E hP kfX7_25 dX7_push_40 ?_
        refine lv_iload hx hb dX7_push_43 (lv_at hl 6 rfl) ?_
        refine lv_ldc2 (v := (1099511627776 : Int64)) hx hb hown (hW _ kcX7_29) dX7_push_45 ?_
        obtain ⟨h9, h⟩ := h
        refine yC_302 E hP hD hS h9 (f := (gB u 302)) rfl dX7_push_48 (fun H locs hP hD hS => ?_)
        refine lv_iinc (v := (x9 + (1 : Int32))) (lv' := [(9, .int (x9 + (1 : Int32))), (0, .ref (G.1 3)), (1, .int c1), (2, .long c2), (4, .long c4), (6, .long c6), (8, .int c8)]) hx hb dX7_push_49 hl (k := 6) rfl rfl (by decide) rfl (fun ls hl => ?_)
        refine lv_goto (tgt := 29) hx hb dX7_push_52 (by decide) ?_
        exact ih (x9 + (1 : Int32)) (sB u 302 (vp_updL (gB u 302) (x9).toNatClampNeg (1099511627776 : Int64))) _ _ _ h hP hD hS (lv_sub hl [1, 2, 3, 4, 5, 6, 0] rfl)
  unfold wp_X7_push at h
  refine lv_aload_n hx hb dX7_push_0 rfl (lv_at hl 0 rfl) ?_
  refine gC_303 E hP kfX7_11 (v := (gI u 303)) rfl dX7_push_1 ?_
  refine lv_aload_n hx hb dX7_push_4 rfl (lv_at hl 0 rfl) ?_
  refine gC_300 E hP kfX7_18 dX7_push_5 ?_
  refine zC_300 E hP dX7_push_8 ?_
  refine lv_icmp_lt (tgt := 14) hx hb dX7_push_9 (by decide) (fun hc => ?_) (fun hc => ?_)
  · have h := h.1 hc
    refine lv_aload_n hx hb dX7_push_14 rfl (lv_at hl 0 rfl) ?_
    refine gC_303 E hP kfX7_11 (v := (gI u 303)) rfl dX7_push_15 ?_
    refine lv_bipush (v := (11 : Int32)) hx hb dX7_push_18 (by decide) ?_
    refine lv_imul hx hb dX7_push_20 ?_
    refine lv_istore (lv' := [(8, .int ((gI u 303) * (11 : Int32))), (0, .ref (G.1 3)), (1, .int p0), (2, .long p1), (4, .long p2), (6, .long p3)]) hx hb dX7_push_21 hl (by decide) rfl (fun ls hl => ?_)
    refine lv_iload hx hb dX7_push_23 (lv_at hl 0 rfl) ?_
    refine lv_iconst (v := (3 : Int32)) hx hb dX7_push_25 (by decide) ?_
    refine lv_iadd hx hb dX7_push_26 ?_
    refine lv_istore (lv' := [(9, .int (((gI u 303) * (11 : Int32)) + (3 : Int32))), (8, .int ((gI u 303) * (11 : Int32))), (0, .ref (G.1 3)), (1, .int p0), (2, .long p1), (4, .long p2), (6, .long p3)]) hx hb dX7_push_27 hl (by decide) rfl (fun ls hl => ?_)
    obtain ⟨n, h⟩ := h
    refine L_29 p0 p1 p2 p3 ((gI u 303) * (11 : Int32)) _ (fun u1 H locs ls h hP hD hS hl => ?_) n (((gI u 303) * (11 : Int32)) + (3 : Int32)) u _ _ _ h hP hD hS (lv_sub hl [2, 3, 4, 5, 6, 1, 0] rfl)
    refine lv_aload_n hx hb dX7_push_55 rfl (lv_at hl 0 rfl) ?_
    refine gC_302 E hP kfX7_25 dX7_push_56 ?_
    refine lv_iload hx hb dX7_push_59 (lv_at hl 5 rfl) ?_
    refine lv_iconst (v := (0 : Int32)) hx hb dX7_push_61 (by decide) ?_
    refine lv_iadd hx hb dX7_push_62 ?_
    refine lv_lload_n hx hb dX7_push_63 rfl (lv_at hl 2 rfl) ?_
    obtain ⟨h9, h⟩ := h
    refine yC_302 E hP hD hS h9 (f := (gB u1 302)) rfl dX7_push_64 (fun H locs hP hD hS => ?_)
    refine lv_aload_n hx hb dX7_push_65 rfl (lv_at hl 0 rfl) ?_
    refine gC_302 E hP kfX7_25 dX7_push_66 ?_
    refine lv_iload hx hb dX7_push_69 (lv_at hl 5 rfl) ?_
    refine lv_iconst (v := (1 : Int32)) hx hb dX7_push_71 (by decide) ?_
    refine lv_iadd hx hb dX7_push_72 ?_
    refine lv_lload hx hb dX7_push_73 (lv_at hl 3 rfl) ?_
    obtain ⟨h9, h⟩ := h
    refine yC_302 E hP hD hS h9 (f := (vp_updL (gB u1 302) ((((gI u 303) * (11 : Int32)) + (0 : Int32))).toNatClampNeg p1)) rfl dX7_push_75 (fun H locs hP hD hS => ?_)
    refine lv_aload_n hx hb dX7_push_76 rfl (lv_at hl 0 rfl) ?_
    refine gC_302 E hP kfX7_25 dX7_push_77 ?_
    refine lv_iload hx hb dX7_push_80 (lv_at hl 5 rfl) ?_
    refine lv_iconst (v := (2 : Int32)) hx hb dX7_push_82 (by decide) ?_
    refine lv_iadd hx hb dX7_push_83 ?_
    refine lv_lload hx hb dX7_push_84 (lv_at hl 4 rfl) ?_
    obtain ⟨h9, h⟩ := h
    refine yC_302 E hP hD hS h9 (f := (vp_updL (vp_updL (gB u1 302) ((((gI u 303) * (11 : Int32)) + (0 : Int32))).toNatClampNeg p1) ((((gI u 303) * (11 : Int32)) + (1 : Int32))).toNatClampNeg p2)) rfl dX7_push_86 (fun H locs hP hD hS => ?_)
    refine lv_aload_n hx hb dX7_push_87 rfl (lv_at hl 0 rfl) ?_
    refine gC_300 E hP kfX7_18 dX7_push_88 ?_
    refine lv_aload_n hx hb dX7_push_91 rfl (lv_at hl 0 rfl) ?_
    refine gC_303 E hP kfX7_11 (v := (gI u1 303)) rfl dX7_push_92 ?_
    refine lv_iload_n hx hb dX7_push_95 rfl (lv_at hl 1 rfl) ?_
    obtain ⟨h9, h⟩ := h
    refine yC_300 E hP hD hS h9 (f := (gA u1 300)) rfl dX7_push_96 (fun H locs hP hD hS => ?_)
    refine lv_aload_n hx hb dX7_push_97 rfl (lv_at hl 0 rfl) ?_
    refine gC_301 E hP kfX7_22 dX7_push_98 ?_
    refine lv_aload_n hx hb dX7_push_101 rfl (lv_at hl 0 rfl) ?_
    refine gC_303 E hP kfX7_11 (v := (gI u1 303)) rfl dX7_push_102 ?_
    refine lv_iconst (v := (0 : Int32)) hx hb dX7_push_105 (by decide) ?_
    obtain ⟨h9, h⟩ := h
    refine yC_301 E hP hD hS h9 (f := (gA u1 301)) rfl dX7_push_106 (fun H locs hP hD hS => ?_)
    refine lv_aload_n hx hb dX7_push_107 rfl (lv_at hl 0 rfl) ?_
    refine lv_dup hx hb dX7_push_108 rfl ?_
    refine gC_303 E hP kfX7_11 (v := (gI u1 303)) rfl dX7_push_109 ?_
    refine lv_iconst (v := (1 : Int32)) hx hb dX7_push_112 (by decide) ?_
    refine lv_iadd hx hb dX7_push_113 ?_
    refine pC_303 E hP hD hS kfX7_11 dX7_push_114 (fun H locs hP hD hS => ?_)
    refine lv_aload_n hx hb dX7_push_117 rfl (lv_at hl 0 rfl) ?_
    refine lv_aload_n hx hb dX7_push_118 rfl (lv_at hl 0 rfl) ?_
    refine gC_304 E hP kfX7_15 (v := (gI u1 304)) rfl dX7_push_119 ?_
    refine lv_aload_n hx hb dX7_push_122 rfl (lv_at hl 0 rfl) ?_
    refine gC_303 E hP kfX7_11 (v := ((gI u1 303) + (1 : Int32))) rfl dX7_push_123 ?_
    refine va_mmax hx hb (hml.trans hl.1.symm) hown (hW _ kmX7_31) (hW _ ks_max) (hW _ kz_Math) (hW _ kk_max) (Nat.le_of_ble_eq_true rfl) (Nat.le_of_ble_eq_true rfl) (Nat.zero_le _) (Nat.zero_le _) dX7_push_126 ?_
    refine pC_304 E hP hD hS kfX7_15 dX7_push_129 (fun H locs hP hD hS => ?_)
    refine lv_iconst (v := (1 : Int32)) hx hb dX7_push_132 (by decide) ?_
    exact retC_z E hr hlk hP hD hS (vz_n vz_1) h dX7_push_133
  · have h := h.2 hc
    refine lv_iconst (v := (0 : Int32)) hx hb dX7_push_12 (by decide) ?_
    exact retC_z E hr hlk hP hD hS (vz_n vz_0) h dX7_push_13
def wp_X7_valuesOnTop (N : Nat → Nat)  (u : St) (Q : Int32 → St → Prop) : Prop := (((gI u 303) ≤ 0 → Q (0 : Int32) u) ∧ (¬ (gI u 303) ≤ 0 → vp_in ((gI u 303) - (1 : Int32)) (N 301) ∧ Q ((gA u 301) (((gI u 303) - (1 : Int32))).toNatClampNeg) u))
abbrev rm_X7_valuesOnTop : Room := { frames := 0, cells := 0, slots := 0, locals := 0 }
set_option maxHeartbeats 4000000 in
set_option maxRecDepth 100000 in
theorem t_X7_valuesOnTop (l : Launch) (D : va_G) (G : Gd)  (u : St) (Q : Int32 → St → Prop) (h : wp_X7_valuesOnTop G.2.1  u Q) : MCi l D G yX7_valuesOnTop cX7_valuesOnTop 1 (some .int) rm_X7_valuesOnTop [.ref (G.1 3)] u Q := by
  refine startC_i (by decide) ?_
  intro p e s m args below meth c E hr hlk hml hP hD hS hA
  have hx := E.1
  have hb := E.2.1
  have hown := E.2.2.1
  have hW := E.2.2.2.1
  have hl := lv_entry ([.ref (G.1 3)]) (n := 1) (Nat.le_of_ble_eq_true rfl)
  rw [lg_entry_eq]
  generalize (lg_sl ([.ref (G.1 3)]) ++ List.replicate (1 - (lg_sl ([.ref (G.1 3)])).length) Slot.unset).toArray = ls at hl ⊢
  have hl : lv_has ls 1 [(0, .ref (G.1 3))] := hl
  unfold wp_X7_valuesOnTop at h
  refine lv_aload_n hx hb dX7_valuesOnTop_0 rfl (lv_at hl 0 rfl) ?_
  refine gC_303 E hP kfX7_11 (v := (gI u 303)) rfl dX7_valuesOnTop_1 ?_
  refine lv_if_le (tgt := 21) hx hb dX7_valuesOnTop_4 (by decide) (fun hc => ?_) (fun hc => ?_)
  · have h := h.1 hc
    refine lv_iconst (v := (0 : Int32)) hx hb dX7_valuesOnTop_21 (by decide) ?_
    exact retC_i E hr hlk hP hD hS h dX7_valuesOnTop_22
  · have h := h.2 hc
    refine lv_aload_n hx hb dX7_valuesOnTop_7 rfl (lv_at hl 0 rfl) ?_
    refine gC_301 E hP kfX7_22 dX7_valuesOnTop_8 ?_
    refine lv_aload_n hx hb dX7_valuesOnTop_11 rfl (lv_at hl 0 rfl) ?_
    refine gC_303 E hP kfX7_11 (v := (gI u 303)) rfl dX7_valuesOnTop_12 ?_
    refine lv_iconst (v := (1 : Int32)) hx hb dX7_valuesOnTop_15 (by decide) ?_
    refine lv_isub hx hb dX7_valuesOnTop_16 ?_
    obtain ⟨h9, h⟩ := h
    refine xC_301 E hP h9 (v := ((gA u 301) (((gI u 303) - (1 : Int32))).toNatClampNeg)) rfl dX7_valuesOnTop_17 ?_
    refine lv_goto (tgt := 22) hx hb dX7_valuesOnTop_18 (by decide) ?_
    exact retC_i E hr hlk hP hD hS h dX7_valuesOnTop_22
def wp_X7_addValue (N : Nat → Nat) (p0 : Int64) (u : St) (Q : St → Prop) : Prop := wp_X7_valuesOnTop N  u (fun (r1 : Int32) (u2 : St) => (((gI u2 303) ≤ 0 → Q u2) ∧ (¬ (gI u2 303) ≤ 0 → (((8 : Int32) ≤ r1 → Q u2) ∧ (¬ (8 : Int32) ≤ r1 → vp_in (((((gI u2 303) - (1 : Int32)) * (11 : Int32)) + (3 : Int32)) + r1) (N 302) ∧ vp_in ((gI u2 303) - (1 : Int32)) (N 301) ∧ Q (sA (sB u2 302 (vp_updL (gB u2 302) ((((((gI u2 303) - (1 : Int32)) * (11 : Int32)) + (3 : Int32)) + r1)).toNatClampNeg p0)) 301 (upd (gA u2 301) (((gI u2 303) - (1 : Int32))).toNatClampNeg (r1 + (1 : Int32)))))))))
abbrev rm_X7_addValue : Room := { frames := 1, cells := 0, slots := 0, locals := 20 }
set_option maxHeartbeats 4000000 in
set_option maxRecDepth 100000 in
theorem t_X7_addValue (l : Launch) (D : va_G) (G : Gd) (p0 : Int64) (u : St) (Q : St → Prop) (h : wp_X7_addValue G.2.1 p0 u Q) : MCv l D G yX7_addValue cX7_addValue 4 none rm_X7_addValue [.ref (G.1 3), .long p0] u Q := by
  refine startC_v (by decide) ?_
  intro p e s m args below meth c E hr hlk hml hP hD hS hA
  have hx := E.1
  have hb := E.2.1
  have hown := E.2.2.1
  have hW := E.2.2.2.1
  have hl := lv_entry ([.ref (G.1 3), .long p0]) (n := 4) (Nat.le_of_ble_eq_true rfl)
  rw [lg_entry_eq]
  generalize (lg_sl ([.ref (G.1 3), .long p0]) ++ List.replicate (4 - (lg_sl ([.ref (G.1 3), .long p0])).length) Slot.unset).toArray = ls at hl ⊢
  have hl : lv_has ls 4 [(0, .ref (G.1 3)), (1, .long p0)] := hl
  unfold wp_X7_addValue at h
  refine lv_aload_n hx hb dX7_addValue_0 rfl (lv_at hl 0 rfl) ?_
  refine cC_i (ci := 7) (q0 := 3) (As := []) (rest := []) E hml hP hD hS hA (t_X7_valuesOnTop l D G  u _ h) kmX7_37 mwyX7_valuesOnTop rfl rfl ⟨⟨rfl, rfl⟩, Nat.le_of_ble_eq_true rfl, Nat.le_of_ble_eq_true rfl⟩ rfl hl.1 rfl (Nat.le_of_ble_eq_true rfl) dX7_addValue_1 ⟨Nat.zero_le _, Nat.zero_le _⟩ (fun r1 u2 H locs hP hD hS h => ?_)
  refine lv_istore_n (lv' := [(3, .int r1), (0, .ref (G.1 3)), (1, .long p0)]) hx hb dX7_addValue_4 rfl hl (by decide) rfl (fun ls hl => ?_)
  refine lv_aload_n hx hb dX7_addValue_5 rfl (lv_at hl 1 rfl) ?_
  refine gC_303 E hP kfX7_11 (v := (gI u2 303)) rfl dX7_addValue_6 ?_
  refine lv_if_le (tgt := 51) hx hb dX7_addValue_9 (by decide) (fun hc => ?_) (fun hc => ?_)
  · have h := h.1 hc
    exact retC_v E hr hlk hP hD hS h dX7_addValue_51
  · have h := h.2 hc
    refine lv_iload_n hx hb dX7_addValue_12 rfl (lv_at hl 0 rfl) ?_
    refine lv_bipush (v := (8 : Int32)) hx hb dX7_addValue_13 (by decide) ?_
    refine lv_icmp_ge (tgt := 51) hx hb dX7_addValue_15 (by decide) (fun hc => ?_) (fun hc => ?_)
    · have h := h.1 hc
      exact retC_v E hr hlk hP hD hS h dX7_addValue_51
    · have h := h.2 hc
      refine lv_aload_n hx hb dX7_addValue_18 rfl (lv_at hl 1 rfl) ?_
      refine gC_302 E hP kfX7_25 dX7_addValue_19 ?_
      refine lv_aload_n hx hb dX7_addValue_22 rfl (lv_at hl 1 rfl) ?_
      refine gC_303 E hP kfX7_11 (v := (gI u2 303)) rfl dX7_addValue_23 ?_
      refine lv_iconst (v := (1 : Int32)) hx hb dX7_addValue_26 (by decide) ?_
      refine lv_isub hx hb dX7_addValue_27 ?_
      refine lv_bipush (v := (11 : Int32)) hx hb dX7_addValue_28 (by decide) ?_
      refine lv_imul hx hb dX7_addValue_30 ?_
      refine lv_iconst (v := (3 : Int32)) hx hb dX7_addValue_31 (by decide) ?_
      refine lv_iadd hx hb dX7_addValue_32 ?_
      refine lv_iload_n hx hb dX7_addValue_33 rfl (lv_at hl 0 rfl) ?_
      refine lv_iadd hx hb dX7_addValue_34 ?_
      refine lv_lload_n hx hb dX7_addValue_35 rfl (lv_at hl 2 rfl) ?_
      obtain ⟨h9, h⟩ := h
      refine yC_302 E hP hD hS h9 (f := (gB u2 302)) rfl dX7_addValue_36 (fun H locs hP hD hS => ?_)
      refine lv_aload_n hx hb dX7_addValue_37 rfl (lv_at hl 1 rfl) ?_
      refine gC_301 E hP kfX7_22 dX7_addValue_38 ?_
      refine lv_aload_n hx hb dX7_addValue_41 rfl (lv_at hl 1 rfl) ?_
      refine gC_303 E hP kfX7_11 (v := (gI u2 303)) rfl dX7_addValue_42 ?_
      refine lv_iconst (v := (1 : Int32)) hx hb dX7_addValue_45 (by decide) ?_
      refine lv_isub hx hb dX7_addValue_46 ?_
      refine lv_iload_n hx hb dX7_addValue_47 rfl (lv_at hl 0 rfl) ?_
      refine lv_iconst (v := (1 : Int32)) hx hb dX7_addValue_48 (by decide) ?_
      refine lv_iadd hx hb dX7_addValue_49 ?_
      obtain ⟨h9, h⟩ := h
      refine yC_301 E hP hD hS h9 (f := (gA u2 301)) rfl dX7_addValue_50 (fun H locs hP hD hS => ?_)
      exact retC_v E hr hlk hP hD hS h dX7_addValue_51
def l_X7_putValues_21_2 (N : Nat → Nat) (c2 : Int32) (K : St → Prop) : Nat → Int32 → St → Prop
  | 0, _, _ => False
  | n + 1, x3, u => ((c2 ≤ x3 → K u) ∧ (¬ c2 ≤ x3 → (((8 : Int32) ≤ x3 → K u) ∧ (¬ (8 : Int32) ≤ x3 → vp_in x3 8 ∧ wp_X7_addValue N ((gB u 605) (x3).toNatClampNeg) u (fun (u1 : St) => l_X7_putValues_21_2 N  c2 K n (x3 + (1 : Int32)) u1)))))
def wp_X7_putValues_21 (N : Nat → Nat) (p1 : Int32) (u : St) (Q : St → Prop) : Prop := (∃ k3 : Nat, l_X7_putValues_21_2 N  p1 (fun (u2 : St) => Q u2) k3 (0 : Int32) u)
abbrev rm_X7_putValues_21 : Room := { frames := 2, cells := 0, slots := 0, locals := 43 }
set_option maxHeartbeats 4000000 in
set_option maxRecDepth 100000 in
theorem t_X7_putValues_21 (l : Launch) (D : va_G) (G : Gd) (p1 : Int32) (u : St) (Q : St → Prop) (h : wp_X7_putValues_21 G.2.1 p1 u Q) : MCv l D G yX7_putValues cX7_putValues 4 none rm_X7_putValues_21 [.ref (G.1 3), .ref (G.1 21), .int p1] u Q := by
  refine startC_v (by decide) ?_
  intro p e s m args below meth c E hr hlk hml hP hD hS hA
  have hx := E.1
  have hb := E.2.1
  have hown := E.2.2.1
  have hW := E.2.2.2.1
  have hl := lv_entry ([.ref (G.1 3), .ref (G.1 21), .int p1]) (n := 4) (Nat.le_of_ble_eq_true rfl)
  rw [lg_entry_eq]
  generalize (lg_sl ([.ref (G.1 3), .ref (G.1 21), .int p1]) ++ List.replicate (4 - (lg_sl ([.ref (G.1 3), .ref (G.1 21), .int p1])).length) Slot.unset).toArray = ls at hl ⊢
  have hl : lv_has ls 4 [(0, .ref (G.1 3)), (1, .ref (G.1 21)), (2, .int p1)] := hl
  have L_2 : ∀ (c2 : Int32) (K : St → Prop), (∀  (u : St) (H : Heap) (locs : List Loc) (ls : Array Slot), K  u → va_P D vwCl (wC G u) H → va_D (AC G s.heap.size) (wC G u) → va_S (AC G s.heap.size) s.heap H locs → lv_has ls 4 [] → W p l e rm_X7_putValues_21 s m args below meth c H locs 0 0 (MQ below (va_Qv Q (BC D G s.heap.size) (AC G s.heap.size)) args s 0 0 (AC G s.heap.size)) (F0 m 26 ls [])) → ∀ (n : Nat) (x3 : Int32) (u : St) (H : Heap) (locs : List Loc) (ls : Array Slot), l_X7_putValues_21_2 G.2.1  c2 K n x3 u → va_P D vwCl (wC G u) H → va_D (AC G s.heap.size) (wC G u) → va_S (AC G s.heap.size) s.heap H locs → lv_has ls 4 [(0, .ref (G.1 3)), (1, .ref (G.1 21)), (2, .int c2), (3, .int x3)] → W p l e rm_X7_putValues_21 s m args below meth c H locs 0 0 (MQ below (va_Qv Q (BC D G s.heap.size) (AC G s.heap.size)) args s 0 0 (AC G s.heap.size)) (F0 m 2 ls []) := by
    intro c2 K hK n
    induction n with
    | zero => intro x3 u H locs ls h; exact False.elim h
    | succ n ih =>
      intro x3 u H locs ls h hP hD hS hl
      unfold l_X7_putValues_21_2 at h
      refine lv_iload_n hx hb dX7_putValues_2 rfl (lv_at hl 3 rfl) ?_
      refine lv_iload_n hx hb dX7_putValues_3 rfl (lv_at hl 2 rfl) ?_
      refine lv_icmp_ge (tgt := 26) hx hb dX7_putValues_4 (by decide) (fun hc => ?_) (fun hc => ?_)
      · have h := h.1 hc
        exact hK u _ _ _ h hP hD hS (lv_sub hl [] rfl)
      · have h := h.2 hc
        refine lv_iload_n hx hb dX7_putValues_7 rfl (lv_at hl 3 rfl) ?_
        refine lv_bipush (v := (8 : Int32)) hx hb dX7_putValues_8 (by decide) ?_
        refine lv_icmp_ge (tgt := 26) hx hb dX7_putValues_10 (by decide) (fun hc => ?_) (fun hc => ?_)
        · have h := h.1 hc
          exact hK u _ _ _ h hP hD hS (lv_sub hl [] rfl)
        · have h := h.2 hc
          refine lv_aload_n hx hb dX7_putValues_13 rfl (lv_at hl 0 rfl) ?_
          refine lv_aload_n hx hb dX7_putValues_14 rfl (lv_at hl 1 rfl) ?_
          refine lv_iload_n hx hb dX7_putValues_15 rfl (lv_at hl 3 rfl) ?_
          obtain ⟨h9, h⟩ := h
          refine xC_605 E hP h9 (v := ((gB u 605) (x3).toNatClampNeg)) rfl dX7_putValues_16 ?_
          refine cC_v (ci := 7) (q0 := 3) (As := [.long ((gB u 605) (x3).toNatClampNeg)]) (rest := []) E hml hP hD hS hA (t_X7_addValue l D G ((gB u 605) (x3).toNatClampNeg) u _ h) kmX7_41 mwyX7_addValue rfl rfl ⟨⟨rfl, rfl⟩, Nat.le_of_ble_eq_true rfl, Nat.le_of_ble_eq_true rfl⟩ rfl hl.1 rfl (Nat.le_of_ble_eq_true rfl) dX7_putValues_17 ⟨Nat.zero_le _, Nat.zero_le _⟩ (fun u1 H locs hP hD hS h => ?_)
          refine lv_iinc (v := (x3 + (1 : Int32))) (lv' := [(3, .int (x3 + (1 : Int32))), (0, .ref (G.1 3)), (1, .ref (G.1 21)), (2, .int c2)]) hx hb dX7_putValues_20 hl (k := 3) rfl rfl (by decide) rfl (fun ls hl => ?_)
          refine lv_goto (tgt := 2) hx hb dX7_putValues_23 (by decide) ?_
          exact ih (x3 + (1 : Int32)) u1 _ _ _ h hP hD hS (lv_sub hl [1, 2, 3, 0] rfl)
  unfold wp_X7_putValues_21 at h
  refine lv_iconst (v := (0 : Int32)) hx hb dX7_putValues_0 (by decide) ?_
  refine lv_istore_n (lv' := [(3, .int (0 : Int32)), (0, .ref (G.1 3)), (1, .ref (G.1 21)), (2, .int p1)]) hx hb dX7_putValues_1 rfl hl (by decide) rfl (fun ls hl => ?_)
  obtain ⟨n, h⟩ := h
  refine L_2 p1 _ (fun u2 H locs ls h hP hD hS hl => ?_) n (0 : Int32) u _ _ _ h hP hD hS (lv_sub hl [1, 2, 3, 0] rfl)
  exact retC_v E hr hlk hP hD hS h dX7_putValues_26
def l_X0_isListOf_6 (N : Nat → Nat) (Q : Int32 → St → Prop) (c3 : Int32) (K : Int64 → St → Prop) : Nat → Int64 → Int32 → St → Prop
  | 0, _, _, _ => False
  | n + 1, x4, x6, u => ((c3 ≤ x6 → K x4 u) ∧ (¬ c3 ≤ x6 → wp_X8_isPair x4 (fun (r1 : Int32) => ((r1 = 0 → Q (0 : Int32) u) ∧ (¬ r1 = 0 → wp_X0_cdr N x4 u (fun (r2 : Int64) (u3 : St) => l_X0_isListOf_6 N Q c3 K n r2 (x6 + (1 : Int32)) u3))))))
def wp_X0_isListOf (N : Nat → Nat) (p0 : Int64) (p1 : Int32) (u : St) (Q : Int32 → St → Prop) : Prop := (∃ k6 : Nat, l_X0_isListOf_6 N Q p1 (fun (y4 : Int64) (u5 : St) => ((y4 = (1099511627776 : Int64) → Q (1 : Int32) u5) ∧ (¬ y4 = (1099511627776 : Int64) → Q (0 : Int32) u5))) k6 p0 (0 : Int32) u)
abbrev rm_X0_isListOf : Room := { frames := 2, cells := 0, slots := 0, locals := 45 }
set_option maxHeartbeats 4000000 in
set_option maxRecDepth 100000 in
theorem t_X0_isListOf (l : Launch) (D : va_G) (G : Gd) (p0 : Int64) (p1 : Int32) (u : St) (Q : Int32 → St → Prop) (h : wp_X0_isListOf G.2.1 p0 p1 u Q) : MCi l D G yX0_isListOf cX0_isListOf 7 (some .boolean) rm_X0_isListOf [.ref (G.1 8), .long p0, .int p1] u Q := by
  refine startC_i (by decide) ?_
  intro p e s m args below meth c E hr hlk hml hP hD hS hA
  have hx := E.1
  have hb := E.2.1
  have hown := E.2.2.1
  have hW := E.2.2.2.1
  have hl := lv_entry ([.ref (G.1 8), .long p0, .int p1]) (n := 7) (Nat.le_of_ble_eq_true rfl)
  rw [lg_entry_eq]
  generalize (lg_sl ([.ref (G.1 8), .long p0, .int p1]) ++ List.replicate (7 - (lg_sl ([.ref (G.1 8), .long p0, .int p1])).length) Slot.unset).toArray = ls at hl ⊢
  have hl : lv_has ls 7 [(0, .ref (G.1 8)), (1, .long p0), (3, .int p1)] := hl
  have L_6 : ∀ (c3 : Int32) (K : Int64 → St → Prop), (∀ (x4 : Int64) (u : St) (H : Heap) (locs : List Loc) (ls : Array Slot), K x4 u → va_P D vwCl (wC G u) H → va_D (AC G s.heap.size) (wC G u) → va_S (AC G s.heap.size) s.heap H locs → lv_has ls 7 [(4, .long x4)] → W p l e rm_X0_isListOf s m args below meth c H locs 0 0 (MQ below (va_Qi Q (BC D G s.heap.size) (AC G s.heap.size)) args s 0 0 (AC G s.heap.size)) (F0 m 36 ls [])) → ∀ (n : Nat) (x4 : Int64) (x6 : Int32) (u : St) (H : Heap) (locs : List Loc) (ls : Array Slot), l_X0_isListOf_6 G.2.1 Q c3 K n x4 x6 u → va_P D vwCl (wC G u) H → va_D (AC G s.heap.size) (wC G u) → va_S (AC G s.heap.size) s.heap H locs → lv_has ls 7 [(0, .ref (G.1 8)), (3, .int c3), (4, .long x4), (6, .int x6)] → W p l e rm_X0_isListOf s m args below meth c H locs 0 0 (MQ below (va_Qi Q (BC D G s.heap.size) (AC G s.heap.size)) args s 0 0 (AC G s.heap.size)) (F0 m 6 ls []) := by
    intro c3 K hK n
    induction n with
    | zero => intro x4 x6 u H locs ls h; exact False.elim h
    | succ n ih =>
      intro x4 x6 u H locs ls h hP hD hS hl
      unfold l_X0_isListOf_6 at h
      refine lv_iload hx hb dX0_isListOf_6 (lv_at hl 3 rfl) ?_
      refine lv_iload_n hx hb dX0_isListOf_8 rfl (lv_at hl 1 rfl) ?_
      refine lv_icmp_ge (tgt := 36) hx hb dX0_isListOf_9 (by decide) (fun hc => ?_) (fun hc => ?_)
      · have h := h.1 hc
        exact hK x4 u _ _ _ h hP hD hS (lv_sub hl [2] rfl)
      · have h := h.2 hc
        refine lv_lload hx hb dX0_isListOf_12 (lv_at hl 2 rfl) ?_
        refine c0_i (As := [.long x4]) (rest := []) hx hb hml hown hW hP hS hA (t_X8_isPair l x4 _ h) kmX0_46 mwyX8_isPair ⟨⟨rfl, rfl⟩, Nat.le_of_ble_eq_true rfl, Nat.le_of_ble_eq_true rfl⟩ rfl hl.1 rfl (Nat.le_of_ble_eq_true rfl) dX0_isListOf_14 ⟨Nat.zero_le _, Nat.zero_le _⟩ (fun r1 H locs hP hS h => ?_)
        refine lv_if_ne (tgt := 22) hx hb dX0_isListOf_17 (by decide) (fun hc => ?_) (fun hc => ?_)
        · have h := h.2 hc
          refine lv_aload_n hx hb dX0_isListOf_22 rfl (lv_at hl 0 rfl) ?_
          refine lv_lload hx hb dX0_isListOf_23 (lv_at hl 2 rfl) ?_
          refine cC_l (ci := 0) (q0 := 8) (As := [.long x4]) (rest := []) E hml hP hD hS hA (t_X0_cdr l D G x4 u _ h) kmX0_52 mwyX0_cdr rfl rfl ⟨⟨rfl, rfl⟩, Nat.le_of_ble_eq_true rfl, Nat.le_of_ble_eq_true rfl⟩ rfl hl.1 rfl (Nat.le_of_ble_eq_true rfl) dX0_isListOf_25 ⟨Nat.zero_le _, Nat.zero_le _⟩ (fun r2 u3 H locs hP hD hS h => ?_)
          refine lv_lstore (lv' := [(4, .long r2), (0, .ref (G.1 8)), (3, .int c3), (6, .int x6)]) hx hb dX0_isListOf_28 hl (by decide) rfl (fun ls hl => ?_)
          refine lv_iinc (v := (x6 + (1 : Int32))) (lv' := [(6, .int (x6 + (1 : Int32))), (4, .long r2), (0, .ref (G.1 8)), (3, .int c3)]) hx hb dX0_isListOf_30 hl (k := 3) rfl rfl (by decide) rfl (fun ls hl => ?_)
          refine lv_goto (tgt := 6) hx hb dX0_isListOf_33 (by decide) ?_
          exact ih r2 (x6 + (1 : Int32)) u3 _ _ _ h hP hD hS (lv_sub hl [2, 3, 1, 0] rfl)
        · have h := h.1 hc
          refine lv_iconst (v := (0 : Int32)) hx hb dX0_isListOf_20 (by decide) ?_
          exact retC_z E hr hlk hP hD hS (vz_n vz_0) h dX0_isListOf_21
  unfold wp_X0_isListOf at h
  refine lv_lload_n hx hb dX0_isListOf_0 rfl (lv_at hl 1 rfl) ?_
  refine lv_lstore (lv' := [(4, .long p0), (0, .ref (G.1 8)), (1, .long p0), (3, .int p1)]) hx hb dX0_isListOf_1 hl (by decide) rfl (fun ls hl => ?_)
  refine lv_iconst (v := (0 : Int32)) hx hb dX0_isListOf_3 (by decide) ?_
  refine lv_istore (lv' := [(6, .int (0 : Int32)), (4, .long p0), (0, .ref (G.1 8)), (1, .long p0), (3, .int p1)]) hx hb dX0_isListOf_4 hl (by decide) rfl (fun ls hl => ?_)
  obtain ⟨n, h⟩ := h
  refine L_6 p1 _ (fun y4 u5 H locs ls h hP hD hS hl => ?_) n p0 (0 : Int32) u _ _ _ h hP hD hS (lv_sub hl [2, 4, 1, 0] rfl)
  refine lv_lload hx hb dX0_isListOf_36 (lv_at hl 0 rfl) ?_
  refine lv_ldc2 (v := (1099511627776 : Int64)) hx hb hown (hW _ kcX0_44) dX0_isListOf_38 ?_
  refine lq_ne (tgt := 49) hx hb dX0_isListOf_41 dX0_isListOf_42 (by decide) (fun hc => ?_) (fun hc => ?_)
  · have h := h.2 hc
    refine lv_iconst (v := (0 : Int32)) hx hb dX0_isListOf_49 (by decide) ?_
    exact retC_z E hr hlk hP hD hS (vz_n vz_0) h dX0_isListOf_50
  · have h := h.1 hc
    refine lv_iconst (v := (1 : Int32)) hx hb dX0_isListOf_45 (by decide) ?_
    refine lv_goto (tgt := 50) hx hb dX0_isListOf_46 (by decide) ?_
    exact retC_z E hr hlk hP hD hS (vz_n vz_1) h dX0_isListOf_50
def wp_X8_isName (p0 : Int64) (Q : Int32 → Prop) : Prop := ((p0 < (1099511627776 : Int64) → Q (0 : Int32)) ∧ (¬ p0 < (1099511627776 : Int64) → (((2199023255552 : Int64) ≤ p0 → Q (0 : Int32)) ∧ (¬ (2199023255552 : Int64) ≤ p0 → Q (1 : Int32)))))
abbrev rm_X8_isName : Room := { frames := 0, cells := 0, slots := 0, locals := 0 }
set_option maxHeartbeats 4000000 in
set_option maxRecDepth 100000 in
theorem t_X8_isName (l : Launch) (p0 : Int64) (Q : Int32 → Prop) (h : wp_X8_isName p0 Q) : M0i l yX8_isName cX8_isName 2 (some .boolean) rm_X8_isName [.long p0] Q := by
  refine start0_i (by decide) ?_
  intro p e s m args below meth c hx hb hown hW hr hlk hml hS
  have hP : va_P ((fun _ => 0), (fun _ _ => 0)) vwCl [] s.heap := fun k q h => by simp at h
  have hA : ∀ q, s.heap.size ≤ q → (fun q => s.heap.size ≤ q) q := fun _ h => h
  have hl := lv_entry ([.long p0]) (n := 2) (Nat.le_of_ble_eq_true rfl)
  rw [lg_entry_eq]
  generalize (lg_sl ([.long p0]) ++ List.replicate (2 - (lg_sl ([.long p0])).length) Slot.unset).toArray = ls at hl ⊢
  have hl : lv_has ls 2 [(0, .long p0)] := hl
  unfold wp_X8_isName at h
  refine lv_lload_n hx hb dX8_isName_0 rfl (lv_at hl 0 rfl) ?_
  refine lv_ldc2 (v := (1099511627776 : Int64)) hx hb hown (hW _ kcX8_9) dX8_isName_1 ?_
  refine lq_lt (tgt := 20) hx hb dX8_isName_4 dX8_isName_5 (by decide) (fun hc => ?_) (fun hc => ?_)
  · have h := h.1 hc
    refine lv_iconst (v := (0 : Int32)) hx hb dX8_isName_20 (by decide) ?_
    exact ret0_z hx hb hr hlk hS (vz_n vz_0) h dX8_isName_21
  · have h := h.2 hc
    refine lv_lload_n hx hb dX8_isName_8 rfl (lv_at hl 0 rfl) ?_
    refine lv_ldc2 (v := (2199023255552 : Int64)) hx hb hown (hW _ kcX8_11) dX8_isName_9 ?_
    refine lq_ge (tgt := 20) hx hb dX8_isName_12 dX8_isName_13 (by decide) (fun hc => ?_) (fun hc => ?_)
    · have h := h.1 hc
      refine lv_iconst (v := (0 : Int32)) hx hb dX8_isName_20 (by decide) ?_
      exact ret0_z hx hb hr hlk hS (vz_n vz_0) h dX8_isName_21
    · have h := h.2 hc
      refine lv_iconst (v := (1 : Int32)) hx hb dX8_isName_16 (by decide) ?_
      refine lv_goto (tgt := 21) hx hb dX8_isName_17 (by decide) ?_
      exact ret0_z hx hb hr hlk hS (vz_n vz_1) h dX8_isName_21
def wp_X2_applyLabel (N : Nat → Nat)  (u : St) (Q : St → Prop) : Prop := wp_X0_cdr N (gJ u 612) u (fun (r1 : Int64) (u2 : St) => wp_X0_car N r1 u2 (fun (r3 : Int64) (u4 : St) => wp_X0_isListOf N (gJ u4 612) (3 : Int32) u4 (fun (r5 : Int32) (u6 : St) => ((r5 = 0 → Q (sI u6 609 (3 : Int32))) ∧ (¬ r5 = 0 → wp_X8_isName r3 (fun (r7 : Int32) => ((r7 = 0 → Q (sI u6 609 (3 : Int32))) ∧ (¬ r7 = 0 → wp_X1_hasRoom_21 N (2 : Int32) (gI u6 606) (gJ u6 612) (gJ u6 613) u6 (fun (r8 : Int32) (u9 : St) => ((r8 = 0 → Q (sI u9 609 (6 : Int32))) ∧ (¬ r8 = 0 → wp_X0_cdr N (gJ u9 612) u9 (fun (r10 : Int64) (u11 : St) => wp_X0_cdr N r10 u11 (fun (r12 : Int64) (u13 : St) => wp_X0_car N r12 u13 (fun (r14 : Int64) (u15 : St) => wp_X0_newPair N r3 r14 u15 (fun (r16 : Int64) (u17 : St) => wp_X0_newPair N r16 (gJ u17 613) u17 (fun (r18 : Int64) (u19 : St) => wp_X2_beginApplying N r14 (sJ u19 613 r18) (fun (u20 : St) => Q u20)))))))))))))))))
abbrev rm_X2_applyLabel : Room := { frames := 3, cells := 0, slots := 0, locals := 71 }
set_option maxHeartbeats 4000000 in
set_option maxRecDepth 100000 in
theorem t_X2_applyLabel (l : Launch) (D : va_G) (G : Gd)  (u : St) (Q : St → Prop) (h : wp_X2_applyLabel G.2.1  u Q) : MCv l D G yX2_applyLabel cX2_applyLabel 5 none rm_X2_applyLabel [.ref (G.1 6)] u Q := by
  refine startC_v (by decide) ?_
  intro p e s m args below meth c E hr hlk hml hP hD hS hA
  have hx := E.1
  have hb := E.2.1
  have hown := E.2.2.1
  have hW := E.2.2.2.1
  have hl := lv_entry ([.ref (G.1 6)]) (n := 5) (Nat.le_of_ble_eq_true rfl)
  rw [lg_entry_eq]
  generalize (lg_sl ([.ref (G.1 6)]) ++ List.replicate (5 - (lg_sl ([.ref (G.1 6)])).length) Slot.unset).toArray = ls at hl ⊢
  have hl : lv_has ls 5 [(0, .ref (G.1 6))] := hl
  unfold wp_X2_applyLabel at h
  refine lv_aload_n hx hb dX2_applyLabel_0 rfl (lv_at hl 0 rfl) ?_
  refine gC_600 E hP kfX2_46 dX2_applyLabel_1 ?_
  refine lv_aload_n hx hb dX2_applyLabel_4 rfl (lv_at hl 0 rfl) ?_
  refine gC_600 E hP kfX2_46 dX2_applyLabel_5 ?_
  refine lv_aload_n hx hb dX2_applyLabel_8 rfl (lv_at hl 0 rfl) ?_
  refine gC_612 E hP kfX2_37 (v := (gJ u 612)) rfl dX2_applyLabel_9 ?_
  refine cC_l (ci := 0) (q0 := 8) (As := [.long (gJ u 612)]) (rest := [.ref (G.1 8)]) E hml hP hD hS hA (t_X0_cdr l D G (gJ u 612) u _ h) kmX2_108 mwyX0_cdr rfl rfl ⟨⟨rfl, rfl⟩, Nat.le_of_ble_eq_true rfl, Nat.le_of_ble_eq_true rfl⟩ rfl hl.1 rfl (Nat.le_of_ble_eq_true rfl) dX2_applyLabel_12 ⟨Nat.zero_le _, Nat.zero_le _⟩ (fun r1 u2 H locs hP hD hS h => ?_)
  refine cC_l (ci := 0) (q0 := 8) (As := [.long r1]) (rest := []) E hml hP hD hS hA (t_X0_car l D G r1 u2 _ h) kmX2_104 mwyX0_car rfl rfl ⟨⟨rfl, rfl⟩, Nat.le_of_ble_eq_true rfl, Nat.le_of_ble_eq_true rfl⟩ rfl hl.1 rfl (Nat.le_of_ble_eq_true rfl) dX2_applyLabel_15 ⟨Nat.zero_le _, Nat.zero_le _⟩ (fun r3 u4 H locs hP hD hS h => ?_)
  refine lv_lstore_n (lv' := [(1, .long r3), (0, .ref (G.1 6))]) hx hb dX2_applyLabel_18 rfl hl (by decide) rfl (fun ls hl => ?_)
  refine lv_aload_n hx hb dX2_applyLabel_19 rfl (lv_at hl 1 rfl) ?_
  refine gC_600 E hP kfX2_46 dX2_applyLabel_20 ?_
  refine lv_aload_n hx hb dX2_applyLabel_23 rfl (lv_at hl 1 rfl) ?_
  refine gC_612 E hP kfX2_37 (v := (gJ u4 612)) rfl dX2_applyLabel_24 ?_
  refine lv_iconst (v := (3 : Int32)) hx hb dX2_applyLabel_27 (by decide) ?_
  refine cC_i (ci := 0) (q0 := 8) (As := [.long (gJ u4 612), .int (3 : Int32)]) (rest := []) E hml hP hD hS hA (t_X0_isListOf l D G (gJ u4 612) (3 : Int32) u4 _ h) kmX2_139 mwyX0_isListOf rfl rfl ⟨⟨rfl, rfl⟩, Nat.le_of_ble_eq_true rfl, Nat.le_of_ble_eq_true rfl⟩ rfl hl.1 rfl (Nat.le_of_ble_eq_true rfl) dX2_applyLabel_28 ⟨Nat.zero_le _, Nat.zero_le _⟩ (fun r5 u6 H locs hP hD hS h => ?_)
  refine lv_if_eq (tgt := 41) hx hb dX2_applyLabel_31 (by decide) (fun hc => ?_) (fun hc => ?_)
  · have h := h.1 hc
    refine lv_aload_n hx hb dX2_applyLabel_41 rfl (lv_at hl 1 rfl) ?_
    refine lv_iconst (v := (3 : Int32)) hx hb dX2_applyLabel_42 (by decide) ?_
    refine pC_609 E hP hD hS kfX2_25 dX2_applyLabel_43 (fun H locs hP hD hS => ?_)
    refine lv_goto (tgt := 140) hx hb dX2_applyLabel_46 (by decide) ?_
    exact retC_v E hr hlk hP hD hS h dX2_applyLabel_140
  · have h := h.2 hc
    refine lv_lload_n hx hb dX2_applyLabel_34 rfl (lv_at hl 0 rfl) ?_
    refine c0_i (As := [.long r3]) (rest := []) hx hb hml hown hW hP hS hA (t_X8_isName l r3 _ h) kmX2_143 mwyX8_isName ⟨⟨rfl, rfl⟩, Nat.le_of_ble_eq_true rfl, Nat.le_of_ble_eq_true rfl⟩ rfl hl.1 rfl (Nat.le_of_ble_eq_true rfl) dX2_applyLabel_35 ⟨Nat.zero_le _, Nat.zero_le _⟩ (fun r7 H locs hP hS h => ?_)
    refine lv_if_ne (tgt := 49) hx hb dX2_applyLabel_38 (by decide) (fun hc => ?_) (fun hc => ?_)
    · have h := h.2 hc
      refine lv_aload_n hx hb dX2_applyLabel_49 rfl (lv_at hl 1 rfl) ?_
      refine gC_603 E hP kfX2_58 dX2_applyLabel_50 ?_
      refine lv_iconst (v := (2 : Int32)) hx hb dX2_applyLabel_53 (by decide) ?_
      refine lv_aload_n hx hb dX2_applyLabel_54 rfl (lv_at hl 1 rfl) ?_
      refine gC_605 E hP kfX2_9 dX2_applyLabel_55 ?_
      refine lv_aload_n hx hb dX2_applyLabel_58 rfl (lv_at hl 1 rfl) ?_
      refine gC_606 E hP kfX2_15 (v := (gI u6 606)) rfl dX2_applyLabel_59 ?_
      refine lv_aload_n hx hb dX2_applyLabel_62 rfl (lv_at hl 1 rfl) ?_
      refine gC_612 E hP kfX2_37 (v := (gJ u6 612)) rfl dX2_applyLabel_63 ?_
      refine lv_aload_n hx hb dX2_applyLabel_66 rfl (lv_at hl 1 rfl) ?_
      refine gC_613 E hP kfX2_40 (v := (gJ u6 613)) rfl dX2_applyLabel_67 ?_
      refine cC_i (ci := 1) (q0 := 4) (As := [.int (2 : Int32), .ref (G.1 21), .int (gI u6 606), .long (gJ u6 612), .long (gJ u6 613)]) (rest := []) E hml hP hD hS hA (t_X1_hasRoom_21 l D G (2 : Int32) (gI u6 606) (gJ u6 612) (gJ u6 613) u6 _ h) kmX2_216 mwyX1_hasRoom rfl rfl ⟨⟨rfl, rfl⟩, Nat.le_of_ble_eq_true rfl, Nat.le_of_ble_eq_true rfl⟩ rfl hl.1 rfl (Nat.le_of_ble_eq_true rfl) dX2_applyLabel_70 ⟨Nat.zero_le _, Nat.zero_le _⟩ (fun r8 u9 H locs hP hD hS h => ?_)
      refine lv_if_ne (tgt := 85) hx hb dX2_applyLabel_73 (by decide) (fun hc => ?_) (fun hc => ?_)
      · have h := h.2 hc
        refine lv_aload_n hx hb dX2_applyLabel_85 rfl (lv_at hl 1 rfl) ?_
        refine gC_600 E hP kfX2_46 dX2_applyLabel_86 ?_
        refine lv_aload_n hx hb dX2_applyLabel_89 rfl (lv_at hl 1 rfl) ?_
        refine gC_600 E hP kfX2_46 dX2_applyLabel_90 ?_
        refine lv_aload_n hx hb dX2_applyLabel_93 rfl (lv_at hl 1 rfl) ?_
        refine gC_600 E hP kfX2_46 dX2_applyLabel_94 ?_
        refine lv_aload_n hx hb dX2_applyLabel_97 rfl (lv_at hl 1 rfl) ?_
        refine gC_612 E hP kfX2_37 (v := (gJ u9 612)) rfl dX2_applyLabel_98 ?_
        refine cC_l (ci := 0) (q0 := 8) (As := [.long (gJ u9 612)]) (rest := [.ref (G.1 8), .ref (G.1 8)]) E hml hP hD hS hA (t_X0_cdr l D G (gJ u9 612) u9 _ h) kmX2_108 mwyX0_cdr rfl rfl ⟨⟨rfl, rfl⟩, Nat.le_of_ble_eq_true rfl, Nat.le_of_ble_eq_true rfl⟩ rfl hl.1 rfl (Nat.le_of_ble_eq_true rfl) dX2_applyLabel_101 ⟨Nat.zero_le _, Nat.zero_le _⟩ (fun r10 u11 H locs hP hD hS h => ?_)
        refine cC_l (ci := 0) (q0 := 8) (As := [.long r10]) (rest := [.ref (G.1 8)]) E hml hP hD hS hA (t_X0_cdr l D G r10 u11 _ h) kmX2_108 mwyX0_cdr rfl rfl ⟨⟨rfl, rfl⟩, Nat.le_of_ble_eq_true rfl, Nat.le_of_ble_eq_true rfl⟩ rfl hl.1 rfl (Nat.le_of_ble_eq_true rfl) dX2_applyLabel_104 ⟨Nat.zero_le _, Nat.zero_le _⟩ (fun r12 u13 H locs hP hD hS h => ?_)
        refine cC_l (ci := 0) (q0 := 8) (As := [.long r12]) (rest := []) E hml hP hD hS hA (t_X0_car l D G r12 u13 _ h) kmX2_104 mwyX0_car rfl rfl ⟨⟨rfl, rfl⟩, Nat.le_of_ble_eq_true rfl, Nat.le_of_ble_eq_true rfl⟩ rfl hl.1 rfl (Nat.le_of_ble_eq_true rfl) dX2_applyLabel_107 ⟨Nat.zero_le _, Nat.zero_le _⟩ (fun r14 u15 H locs hP hD hS h => ?_)
        refine lv_lstore_n (lv' := [(3, .long r14), (1, .long r3), (0, .ref (G.1 6))]) hx hb dX2_applyLabel_110 rfl hl (by decide) rfl (fun ls hl => ?_)
        refine lv_aload_n hx hb dX2_applyLabel_111 rfl (lv_at hl 2 rfl) ?_
        refine lv_aload_n hx hb dX2_applyLabel_112 rfl (lv_at hl 2 rfl) ?_
        refine gC_600 E hP kfX2_46 dX2_applyLabel_113 ?_
        refine lv_aload_n hx hb dX2_applyLabel_116 rfl (lv_at hl 2 rfl) ?_
        refine gC_600 E hP kfX2_46 dX2_applyLabel_117 ?_
        refine lv_lload_n hx hb dX2_applyLabel_120 rfl (lv_at hl 1 rfl) ?_
        refine lv_lload_n hx hb dX2_applyLabel_121 rfl (lv_at hl 0 rfl) ?_
        refine cC_l (ci := 0) (q0 := 8) (As := [.long r3, .long r14]) (rest := [.ref (G.1 8), .ref (G.1 6)]) E hml hP hD hS hA (t_X0_newPair l D G r3 r14 u15 _ h) kmX2_225 mwyX0_newPair rfl rfl ⟨⟨rfl, rfl⟩, Nat.le_of_ble_eq_true rfl, Nat.le_of_ble_eq_true rfl⟩ rfl hl.1 rfl (Nat.le_of_ble_eq_true rfl) dX2_applyLabel_122 ⟨Nat.zero_le _, Nat.zero_le _⟩ (fun r16 u17 H locs hP hD hS h => ?_)
        refine lv_aload_n hx hb dX2_applyLabel_125 rfl (lv_at hl 2 rfl) ?_
        refine gC_613 E hP kfX2_40 (v := (gJ u17 613)) rfl dX2_applyLabel_126 ?_
        refine cC_l (ci := 0) (q0 := 8) (As := [.long r16, .long (gJ u17 613)]) (rest := [.ref (G.1 6)]) E hml hP hD hS hA (t_X0_newPair l D G r16 (gJ u17 613) u17 _ h) kmX2_225 mwyX0_newPair rfl rfl ⟨⟨rfl, rfl⟩, Nat.le_of_ble_eq_true rfl, Nat.le_of_ble_eq_true rfl⟩ rfl hl.1 rfl (Nat.le_of_ble_eq_true rfl) dX2_applyLabel_129 ⟨Nat.zero_le _, Nat.zero_le _⟩ (fun r18 u19 H locs hP hD hS h => ?_)
        refine pC_613 E hP hD hS kfX2_40 dX2_applyLabel_132 (fun H locs hP hD hS => ?_)
        refine lv_aload_n hx hb dX2_applyLabel_135 rfl (lv_at hl 2 rfl) ?_
        refine lv_lload_n hx hb dX2_applyLabel_136 rfl (lv_at hl 0 rfl) ?_
        refine cC_v (ci := 2) (q0 := 6) (As := [.long r14]) (rest := []) E hml hP hD hS hA (t_X2_beginApplying l D G r14 (sJ u19 613 r18) _ h) kmX2_155 mwyX2_beginApplying rfl rfl ⟨⟨rfl, rfl⟩, Nat.le_of_ble_eq_true rfl, Nat.le_of_ble_eq_true rfl⟩ rfl hl.1 rfl (Nat.le_of_ble_eq_true rfl) dX2_applyLabel_137 ⟨Nat.zero_le _, Nat.zero_le _⟩ (fun u20 H locs hP hD hS h => ?_)
        exact retC_v E hr hlk hP hD hS h dX2_applyLabel_140
      · have h := h.1 hc
        refine lv_aload_n hx hb dX2_applyLabel_76 rfl (lv_at hl 1 rfl) ?_
        refine lv_bipush (v := (6 : Int32)) hx hb dX2_applyLabel_77 (by decide) ?_
        refine pC_609 E hP hD hS kfX2_25 dX2_applyLabel_79 (fun H locs hP hD hS => ?_)
        refine lv_goto (tgt := 140) hx hb dX2_applyLabel_82 (by decide) ?_
        exact retC_v E hr hlk hP hD hS h dX2_applyLabel_140
    · have h := h.1 hc
      refine lv_aload_n hx hb dX2_applyLabel_41 rfl (lv_at hl 1 rfl) ?_
      refine lv_iconst (v := (3 : Int32)) hx hb dX2_applyLabel_42 (by decide) ?_
      refine pC_609 E hP hD hS kfX2_25 dX2_applyLabel_43 (fun H locs hP hD hS => ?_)
      refine lv_goto (tgt := 140) hx hb dX2_applyLabel_46 (by decide) ?_
      exact retC_v E hr hlk hP hD hS h dX2_applyLabel_140
def l_X0_isListOfNames_6 (N : Nat → Nat) (Q : Int32 → St → Prop) (c3 : Int32) (K : Int64 → St → Prop) : Nat → Int64 → Int32 → St → Prop
  | 0, _, _, _ => False
  | n + 1, x4, x6, u => ((c3 ≤ x6 → K x4 u) ∧ (¬ c3 ≤ x6 → wp_X8_isPair x4 (fun (r1 : Int32) => ((r1 = 0 → Q (0 : Int32) u) ∧ (¬ r1 = 0 → wp_X0_car N x4 u (fun (r2 : Int64) (u3 : St) => wp_X8_isName r2 (fun (r4 : Int32) => ((r4 = 0 → Q (0 : Int32) u3) ∧ (¬ r4 = 0 → wp_X0_cdr N x4 u3 (fun (r5 : Int64) (u6 : St) => l_X0_isListOfNames_6 N Q c3 K n r5 (x6 + (1 : Int32)) u6))))))))))
def wp_X0_isListOfNames (N : Nat → Nat) (p0 : Int64) (p1 : Int32) (u : St) (Q : Int32 → St → Prop) : Prop := (∃ k9 : Nat, l_X0_isListOfNames_6 N Q p1 (fun (y7 : Int64) (u8 : St) => ((y7 = (1099511627776 : Int64) → Q (1 : Int32) u8) ∧ (¬ y7 = (1099511627776 : Int64) → Q (0 : Int32) u8))) k9 p0 (0 : Int32) u)
abbrev rm_X0_isListOfNames : Room := { frames := 2, cells := 0, slots := 0, locals := 45 }
set_option maxHeartbeats 4000000 in
set_option maxRecDepth 100000 in
theorem t_X0_isListOfNames (l : Launch) (D : va_G) (G : Gd) (p0 : Int64) (p1 : Int32) (u : St) (Q : Int32 → St → Prop) (h : wp_X0_isListOfNames G.2.1 p0 p1 u Q) : MCi l D G yX0_isListOfNames cX0_isListOfNames 7 (some .boolean) rm_X0_isListOfNames [.ref (G.1 8), .long p0, .int p1] u Q := by
  refine startC_i (by decide) ?_
  intro p e s m args below meth c E hr hlk hml hP hD hS hA
  have hx := E.1
  have hb := E.2.1
  have hown := E.2.2.1
  have hW := E.2.2.2.1
  have hl := lv_entry ([.ref (G.1 8), .long p0, .int p1]) (n := 7) (Nat.le_of_ble_eq_true rfl)
  rw [lg_entry_eq]
  generalize (lg_sl ([.ref (G.1 8), .long p0, .int p1]) ++ List.replicate (7 - (lg_sl ([.ref (G.1 8), .long p0, .int p1])).length) Slot.unset).toArray = ls at hl ⊢
  have hl : lv_has ls 7 [(0, .ref (G.1 8)), (1, .long p0), (3, .int p1)] := hl
  have L_6 : ∀ (c3 : Int32) (K : Int64 → St → Prop), (∀ (x4 : Int64) (u : St) (H : Heap) (locs : List Loc) (ls : Array Slot), K x4 u → va_P D vwCl (wC G u) H → va_D (AC G s.heap.size) (wC G u) → va_S (AC G s.heap.size) s.heap H locs → lv_has ls 7 [(4, .long x4)] → W p l e rm_X0_isListOfNames s m args below meth c H locs 0 0 (MQ below (va_Qi Q (BC D G s.heap.size) (AC G s.heap.size)) args s 0 0 (AC G s.heap.size)) (F0 m 48 ls [])) → ∀ (n : Nat) (x4 : Int64) (x6 : Int32) (u : St) (H : Heap) (locs : List Loc) (ls : Array Slot), l_X0_isListOfNames_6 G.2.1 Q c3 K n x4 x6 u → va_P D vwCl (wC G u) H → va_D (AC G s.heap.size) (wC G u) → va_S (AC G s.heap.size) s.heap H locs → lv_has ls 7 [(0, .ref (G.1 8)), (3, .int c3), (4, .long x4), (6, .int x6)] → W p l e rm_X0_isListOfNames s m args below meth c H locs 0 0 (MQ below (va_Qi Q (BC D G s.heap.size) (AC G s.heap.size)) args s 0 0 (AC G s.heap.size)) (F0 m 6 ls []) := by
    intro c3 K hK n
    induction n with
    | zero => intro x4 x6 u H locs ls h; exact False.elim h
    | succ n ih =>
      intro x4 x6 u H locs ls h hP hD hS hl
      unfold l_X0_isListOfNames_6 at h
      refine lv_iload hx hb dX0_isListOfNames_6 (lv_at hl 3 rfl) ?_
      refine lv_iload_n hx hb dX0_isListOfNames_8 rfl (lv_at hl 1 rfl) ?_
      refine lv_icmp_ge (tgt := 48) hx hb dX0_isListOfNames_9 (by decide) (fun hc => ?_) (fun hc => ?_)
      · have h := h.1 hc
        exact hK x4 u _ _ _ h hP hD hS (lv_sub hl [2] rfl)
      · have h := h.2 hc
        refine lv_lload hx hb dX0_isListOfNames_12 (lv_at hl 2 rfl) ?_
        refine c0_i (As := [.long x4]) (rest := []) hx hb hml hown hW hP hS hA (t_X8_isPair l x4 _ h) kmX0_46 mwyX8_isPair ⟨⟨rfl, rfl⟩, Nat.le_of_ble_eq_true rfl, Nat.le_of_ble_eq_true rfl⟩ rfl hl.1 rfl (Nat.le_of_ble_eq_true rfl) dX0_isListOfNames_14 ⟨Nat.zero_le _, Nat.zero_le _⟩ (fun r1 H locs hP hS h => ?_)
        refine lv_if_eq (tgt := 32) hx hb dX0_isListOfNames_17 (by decide) (fun hc => ?_) (fun hc => ?_)
        · have h := h.1 hc
          refine lv_iconst (v := (0 : Int32)) hx hb dX0_isListOfNames_32 (by decide) ?_
          exact retC_z E hr hlk hP hD hS (vz_n vz_0) h dX0_isListOfNames_33
        · have h := h.2 hc
          refine lv_aload_n hx hb dX0_isListOfNames_20 rfl (lv_at hl 0 rfl) ?_
          refine lv_lload hx hb dX0_isListOfNames_21 (lv_at hl 2 rfl) ?_
          refine cC_l (ci := 0) (q0 := 8) (As := [.long x4]) (rest := []) E hml hP hD hS hA (t_X0_car l D G x4 u _ h) kmX0_56 mwyX0_car rfl rfl ⟨⟨rfl, rfl⟩, Nat.le_of_ble_eq_true rfl, Nat.le_of_ble_eq_true rfl⟩ rfl hl.1 rfl (Nat.le_of_ble_eq_true rfl) dX0_isListOfNames_23 ⟨Nat.zero_le _, Nat.zero_le _⟩ (fun r2 u3 H locs hP hD hS h => ?_)
          refine c0_i (As := [.long r2]) (rest := []) hx hb hml hown hW hP hS hA (t_X8_isName l r2 _ h) kmX0_59 mwyX8_isName ⟨⟨rfl, rfl⟩, Nat.le_of_ble_eq_true rfl, Nat.le_of_ble_eq_true rfl⟩ rfl hl.1 rfl (Nat.le_of_ble_eq_true rfl) dX0_isListOfNames_26 ⟨Nat.zero_le _, Nat.zero_le _⟩ (fun r4 H locs hP hS h => ?_)
          refine lv_if_ne (tgt := 34) hx hb dX0_isListOfNames_29 (by decide) (fun hc => ?_) (fun hc => ?_)
          · have h := h.2 hc
            refine lv_aload_n hx hb dX0_isListOfNames_34 rfl (lv_at hl 0 rfl) ?_
            refine lv_lload hx hb dX0_isListOfNames_35 (lv_at hl 2 rfl) ?_
            refine cC_l (ci := 0) (q0 := 8) (As := [.long x4]) (rest := []) E hml hP hD hS hA (t_X0_cdr l D G x4 u3 _ h) kmX0_52 mwyX0_cdr rfl rfl ⟨⟨rfl, rfl⟩, Nat.le_of_ble_eq_true rfl, Nat.le_of_ble_eq_true rfl⟩ rfl hl.1 rfl (Nat.le_of_ble_eq_true rfl) dX0_isListOfNames_37 ⟨Nat.zero_le _, Nat.zero_le _⟩ (fun r5 u6 H locs hP hD hS h => ?_)
            refine lv_lstore (lv' := [(4, .long r5), (0, .ref (G.1 8)), (3, .int c3), (6, .int x6)]) hx hb dX0_isListOfNames_40 hl (by decide) rfl (fun ls hl => ?_)
            refine lv_iinc (v := (x6 + (1 : Int32))) (lv' := [(6, .int (x6 + (1 : Int32))), (4, .long r5), (0, .ref (G.1 8)), (3, .int c3)]) hx hb dX0_isListOfNames_42 hl (k := 3) rfl rfl (by decide) rfl (fun ls hl => ?_)
            refine lv_goto (tgt := 6) hx hb dX0_isListOfNames_45 (by decide) ?_
            exact ih r5 (x6 + (1 : Int32)) u6 _ _ _ h hP hD hS (lv_sub hl [2, 3, 1, 0] rfl)
          · have h := h.1 hc
            refine lv_iconst (v := (0 : Int32)) hx hb dX0_isListOfNames_32 (by decide) ?_
            exact retC_z E hr hlk hP hD hS (vz_n vz_0) h dX0_isListOfNames_33
  unfold wp_X0_isListOfNames at h
  refine lv_lload_n hx hb dX0_isListOfNames_0 rfl (lv_at hl 1 rfl) ?_
  refine lv_lstore (lv' := [(4, .long p0), (0, .ref (G.1 8)), (1, .long p0), (3, .int p1)]) hx hb dX0_isListOfNames_1 hl (by decide) rfl (fun ls hl => ?_)
  refine lv_iconst (v := (0 : Int32)) hx hb dX0_isListOfNames_3 (by decide) ?_
  refine lv_istore (lv' := [(6, .int (0 : Int32)), (4, .long p0), (0, .ref (G.1 8)), (1, .long p0), (3, .int p1)]) hx hb dX0_isListOfNames_4 hl (by decide) rfl (fun ls hl => ?_)
  obtain ⟨n, h⟩ := h
  refine L_6 p1 _ (fun y7 u8 H locs ls h hP hD hS hl => ?_) n p0 (0 : Int32) u _ _ _ h hP hD hS (lv_sub hl [2, 4, 1, 0] rfl)
  refine lv_lload hx hb dX0_isListOfNames_48 (lv_at hl 0 rfl) ?_
  refine lv_ldc2 (v := (1099511627776 : Int64)) hx hb hown (hW _ kcX0_44) dX0_isListOfNames_50 ?_
  refine lq_ne (tgt := 61) hx hb dX0_isListOfNames_53 dX0_isListOfNames_54 (by decide) (fun hc => ?_) (fun hc => ?_)
  · have h := h.2 hc
    refine lv_iconst (v := (0 : Int32)) hx hb dX0_isListOfNames_61 (by decide) ?_
    exact retC_z E hr hlk hP hD hS (vz_n vz_0) h dX0_isListOfNames_62
  · have h := h.1 hc
    refine lv_iconst (v := (1 : Int32)) hx hb dX0_isListOfNames_57 (by decide) ?_
    refine lv_goto (tgt := 62) hx hb dX0_isListOfNames_58 (by decide) ?_
    exact retC_z E hr hlk hP hD hS (vz_n vz_1) h dX0_isListOfNames_62
def l_X2_bindAll_16 (N : Nat → Nat)  (K : Int64 → St → Prop) : Nat → Int64 → Int64 → Int64 → Int32 → St → Prop
  | 0, _, _, _, _, _ => False
  | n + 1, x3, x5, x7, x9, u => (((gI u 606) ≤ x9 → K x3 u) ∧ (¬ (gI u 606) ≤ x9 → wp_X0_car N x7 u (fun (r1 : Int64) (u2 : St) => vp_in x9 8 ∧ wp_X0_newPair N r1 ((gB u2 605) (x9).toNatClampNeg) u2 (fun (r3 : Int64) (u4 : St) => wp_X0_newPair N r3 (gJ u4 613) u4 (fun (r5 : Int64) (u6 : St) => ((x9 = 0 → wp_X0_cdr N x7 u6 (fun (r10 : Int64) (u11 : St) => l_X2_bindAll_16 N  K n r5 r5 r10 (x9 + (1 : Int32)) u11)) ∧ (¬ x9 = 0 → wp_X0_setCdr N x5 r5 u6 (fun (u7 : St) => wp_X0_cdr N x7 u7 (fun (r8 : Int64) (u9 : St) => l_X2_bindAll_16 N  K n x3 r5 r8 (x9 + (1 : Int32)) u9)))))))))
def wp_X2_bindAll (N : Nat → Nat) (p0 : Int64) (u : St) (Q : Int64 → St → Prop) : Prop := (∃ k14 : Nat, l_X2_bindAll_16 N   (fun (y12 : Int64) (u13 : St) => Q y12 u13) k14 (gJ u 613) (1099511627776 : Int64) p0 (0 : Int32) u)
abbrev rm_X2_bindAll : Room := { frames := 2, cells := 0, slots := 0, locals := 47 }
set_option maxHeartbeats 4000000 in
set_option maxRecDepth 100000 in
theorem t_X2_bindAll (l : Launch) (D : va_G) (G : Gd) (p0 : Int64) (u : St) (Q : Int64 → St → Prop) (h : wp_X2_bindAll G.2.1 p0 u Q) : MCl l D G yX2_bindAll cX2_bindAll 12 (some .long) rm_X2_bindAll [.ref (G.1 6), .long p0] u Q := by
  refine startC_l (by decide) ?_
  intro p e s m args below meth c E hr hlk hml hP hD hS hA
  have hx := E.1
  have hb := E.2.1
  have hown := E.2.2.1
  have hW := E.2.2.2.1
  have hl := lv_entry ([.ref (G.1 6), .long p0]) (n := 12) (Nat.le_of_ble_eq_true rfl)
  rw [lg_entry_eq]
  generalize (lg_sl ([.ref (G.1 6), .long p0]) ++ List.replicate (12 - (lg_sl ([.ref (G.1 6), .long p0])).length) Slot.unset).toArray = ls at hl ⊢
  have hl : lv_has ls 12 [(0, .ref (G.1 6)), (1, .long p0)] := hl
  have L_16 : ∀  (K : Int64 → St → Prop), (∀ (x3 : Int64) (u : St) (H : Heap) (locs : List Loc) (ls : Array Slot), K x3 u → va_P D vwCl (wC G u) H → va_D (AC G s.heap.size) (wC G u) → va_S (AC G s.heap.size) s.heap H locs → lv_has ls 12 [(3, .long x3)] → W p l e rm_X2_bindAll s m args below meth c H locs 0 0 (MQ below (va_Ql Q (BC D G s.heap.size) (AC G s.heap.size)) args s 0 0 (AC G s.heap.size)) (F0 m 104 ls [])) → ∀ (n : Nat) (x3 : Int64) (x5 : Int64) (x7 : Int64) (x9 : Int32) (u : St) (H : Heap) (locs : List Loc) (ls : Array Slot), l_X2_bindAll_16 G.2.1  K n x3 x5 x7 x9 u → va_P D vwCl (wC G u) H → va_D (AC G s.heap.size) (wC G u) → va_S (AC G s.heap.size) s.heap H locs → lv_has ls 12 [(0, .ref (G.1 6)), (3, .long x3), (5, .long x5), (7, .long x7), (9, .int x9)] → W p l e rm_X2_bindAll s m args below meth c H locs 0 0 (MQ below (va_Ql Q (BC D G s.heap.size) (AC G s.heap.size)) args s 0 0 (AC G s.heap.size)) (F0 m 16 ls []) := by
    intro  K hK n
    induction n with
    | zero => intro x3 x5 x7 x9 u H locs ls h; exact False.elim h
    | succ n ih =>
      intro x3 x5 x7 x9 u H locs ls h hP hD hS hl
      unfold l_X2_bindAll_16 at h
      refine lv_iload hx hb dX2_bindAll_16 (lv_at hl 4 rfl) ?_
      refine lv_aload_n hx hb dX2_bindAll_18 rfl (lv_at hl 0 rfl) ?_
      refine gC_606 E hP kfX2_15 (v := (gI u 606)) rfl dX2_bindAll_19 ?_
      refine lv_icmp_ge (tgt := 104) hx hb dX2_bindAll_22 (by decide) (fun hc => ?_) (fun hc => ?_)
      · have h := h.1 hc
        exact hK x3 u _ _ _ h hP hD hS (lv_sub hl [1] rfl)
      · have h := h.2 hc
        refine lv_aload_n hx hb dX2_bindAll_25 rfl (lv_at hl 0 rfl) ?_
        refine gC_600 E hP kfX2_46 dX2_bindAll_26 ?_
        refine lv_aload_n hx hb dX2_bindAll_29 rfl (lv_at hl 0 rfl) ?_
        refine gC_600 E hP kfX2_46 dX2_bindAll_30 ?_
        refine lv_aload_n hx hb dX2_bindAll_33 rfl (lv_at hl 0 rfl) ?_
        refine gC_600 E hP kfX2_46 dX2_bindAll_34 ?_
        refine lv_lload hx hb dX2_bindAll_37 (lv_at hl 3 rfl) ?_
        refine cC_l (ci := 0) (q0 := 8) (As := [.long x7]) (rest := [.ref (G.1 8), .ref (G.1 8)]) E hml hP hD hS hA (t_X0_car l D G x7 u _ h) kmX2_104 mwyX0_car rfl rfl ⟨⟨rfl, rfl⟩, Nat.le_of_ble_eq_true rfl, Nat.le_of_ble_eq_true rfl⟩ rfl hl.1 rfl (Nat.le_of_ble_eq_true rfl) dX2_bindAll_39 ⟨Nat.zero_le _, Nat.zero_le _⟩ (fun r1 u2 H locs hP hD hS h => ?_)
        refine lv_aload_n hx hb dX2_bindAll_42 rfl (lv_at hl 0 rfl) ?_
        refine gC_605 E hP kfX2_9 dX2_bindAll_43 ?_
        refine lv_iload hx hb dX2_bindAll_46 (lv_at hl 4 rfl) ?_
        obtain ⟨h9, h⟩ := h
        refine xC_605 E hP h9 (v := ((gB u2 605) (x9).toNatClampNeg)) rfl dX2_bindAll_48 ?_
        refine cC_l (ci := 0) (q0 := 8) (As := [.long r1, .long ((gB u2 605) (x9).toNatClampNeg)]) (rest := [.ref (G.1 8)]) E hml hP hD hS hA (t_X0_newPair l D G r1 ((gB u2 605) (x9).toNatClampNeg) u2 _ h) kmX2_225 mwyX0_newPair rfl rfl ⟨⟨rfl, rfl⟩, Nat.le_of_ble_eq_true rfl, Nat.le_of_ble_eq_true rfl⟩ rfl hl.1 rfl (Nat.le_of_ble_eq_true rfl) dX2_bindAll_49 ⟨Nat.zero_le _, Nat.zero_le _⟩ (fun r3 u4 H locs hP hD hS h => ?_)
        refine lv_aload_n hx hb dX2_bindAll_52 rfl (lv_at hl 0 rfl) ?_
        refine gC_613 E hP kfX2_40 (v := (gJ u4 613)) rfl dX2_bindAll_53 ?_
        refine cC_l (ci := 0) (q0 := 8) (As := [.long r3, .long (gJ u4 613)]) (rest := []) E hml hP hD hS hA (t_X0_newPair l D G r3 (gJ u4 613) u4 _ h) kmX2_225 mwyX0_newPair rfl rfl ⟨⟨rfl, rfl⟩, Nat.le_of_ble_eq_true rfl, Nat.le_of_ble_eq_true rfl⟩ rfl hl.1 rfl (Nat.le_of_ble_eq_true rfl) dX2_bindAll_56 ⟨Nat.zero_le _, Nat.zero_le _⟩ (fun r5 u6 H locs hP hD hS h => ?_)
        refine lv_lstore (lv' := [(10, .long r5), (0, .ref (G.1 6)), (3, .long x3), (5, .long x5), (7, .long x7), (9, .int x9)]) hx hb dX2_bindAll_59 hl (by decide) rfl (fun ls hl => ?_)
        refine lv_iload hx hb dX2_bindAll_61 (lv_at hl 5 rfl) ?_
        refine lv_if_ne (tgt := 72) hx hb dX2_bindAll_63 (by decide) (fun hc => ?_) (fun hc => ?_)
        · have h := h.2 hc
          refine lv_aload_n hx hb dX2_bindAll_72 rfl (lv_at hl 1 rfl) ?_
          refine gC_600 E hP kfX2_46 dX2_bindAll_73 ?_
          refine lv_lload hx hb dX2_bindAll_76 (lv_at hl 3 rfl) ?_
          refine lv_lload hx hb dX2_bindAll_78 (lv_at hl 0 rfl) ?_
          refine cC_v (ci := 0) (q0 := 8) (As := [.long x5, .long r5]) (rest := []) E hml hP hD hS hA (t_X0_setCdr l D G x5 r5 u6 _ h) kmX2_229 mwyX0_setCdr rfl rfl ⟨⟨rfl, rfl⟩, Nat.le_of_ble_eq_true rfl, Nat.le_of_ble_eq_true rfl⟩ rfl hl.1 rfl (Nat.le_of_ble_eq_true rfl) dX2_bindAll_80 ⟨Nat.zero_le _, Nat.zero_le _⟩ (fun u7 H locs hP hD hS h => ?_)
          refine lv_lload hx hb dX2_bindAll_83 (lv_at hl 0 rfl) ?_
          refine lv_lstore (lv' := [(5, .long r5), (10, .long r5), (0, .ref (G.1 6)), (3, .long x3), (7, .long x7), (9, .int x9)]) hx hb dX2_bindAll_85 hl (by decide) rfl (fun ls hl => ?_)
          refine lv_aload_n hx hb dX2_bindAll_87 rfl (lv_at hl 2 rfl) ?_
          refine gC_600 E hP kfX2_46 dX2_bindAll_88 ?_
          refine lv_lload hx hb dX2_bindAll_91 (lv_at hl 4 rfl) ?_
          refine cC_l (ci := 0) (q0 := 8) (As := [.long x7]) (rest := []) E hml hP hD hS hA (t_X0_cdr l D G x7 u7 _ h) kmX2_108 mwyX0_cdr rfl rfl ⟨⟨rfl, rfl⟩, Nat.le_of_ble_eq_true rfl, Nat.le_of_ble_eq_true rfl⟩ rfl hl.1 rfl (Nat.le_of_ble_eq_true rfl) dX2_bindAll_93 ⟨Nat.zero_le _, Nat.zero_le _⟩ (fun r8 u9 H locs hP hD hS h => ?_)
          refine lv_lstore (lv' := [(7, .long r8), (5, .long r5), (10, .long r5), (0, .ref (G.1 6)), (3, .long x3), (9, .int x9)]) hx hb dX2_bindAll_96 hl (by decide) rfl (fun ls hl => ?_)
          refine lv_iinc (v := (x9 + (1 : Int32))) (lv' := [(9, .int (x9 + (1 : Int32))), (7, .long r8), (5, .long r5), (10, .long r5), (0, .ref (G.1 6)), (3, .long x3)]) hx hb dX2_bindAll_98 hl (k := 5) rfl rfl (by decide) rfl (fun ls hl => ?_)
          refine lv_goto (tgt := 16) hx hb dX2_bindAll_101 (by decide) ?_
          exact ih x3 r5 r8 (x9 + (1 : Int32)) u9 _ _ _ h hP hD hS (lv_sub hl [4, 5, 2, 1, 0] rfl)
        · have h := h.1 hc
          refine lv_lload hx hb dX2_bindAll_66 (lv_at hl 0 rfl) ?_
          refine lv_lstore_n (lv' := [(3, .long r5), (10, .long r5), (0, .ref (G.1 6)), (5, .long x5), (7, .long x7), (9, .int x9)]) hx hb dX2_bindAll_68 rfl hl (by decide) rfl (fun ls hl => ?_)
          refine lv_goto (tgt := 83) hx hb dX2_bindAll_69 (by decide) ?_
          refine lv_lload hx hb dX2_bindAll_83 (lv_at hl 1 rfl) ?_
          refine lv_lstore (lv' := [(5, .long r5), (3, .long r5), (10, .long r5), (0, .ref (G.1 6)), (7, .long x7), (9, .int x9)]) hx hb dX2_bindAll_85 hl (by decide) rfl (fun ls hl => ?_)
          refine lv_aload_n hx hb dX2_bindAll_87 rfl (lv_at hl 3 rfl) ?_
          refine gC_600 E hP kfX2_46 dX2_bindAll_88 ?_
          refine lv_lload hx hb dX2_bindAll_91 (lv_at hl 4 rfl) ?_
          refine cC_l (ci := 0) (q0 := 8) (As := [.long x7]) (rest := []) E hml hP hD hS hA (t_X0_cdr l D G x7 u6 _ h) kmX2_108 mwyX0_cdr rfl rfl ⟨⟨rfl, rfl⟩, Nat.le_of_ble_eq_true rfl, Nat.le_of_ble_eq_true rfl⟩ rfl hl.1 rfl (Nat.le_of_ble_eq_true rfl) dX2_bindAll_93 ⟨Nat.zero_le _, Nat.zero_le _⟩ (fun r10 u11 H locs hP hD hS h => ?_)
          refine lv_lstore (lv' := [(7, .long r10), (5, .long r5), (3, .long r5), (10, .long r5), (0, .ref (G.1 6)), (9, .int x9)]) hx hb dX2_bindAll_96 hl (by decide) rfl (fun ls hl => ?_)
          refine lv_iinc (v := (x9 + (1 : Int32))) (lv' := [(9, .int (x9 + (1 : Int32))), (7, .long r10), (5, .long r5), (3, .long r5), (10, .long r5), (0, .ref (G.1 6))]) hx hb dX2_bindAll_98 hl (k := 5) rfl rfl (by decide) rfl (fun ls hl => ?_)
          refine lv_goto (tgt := 16) hx hb dX2_bindAll_101 (by decide) ?_
          exact ih r5 r5 r10 (x9 + (1 : Int32)) u11 _ _ _ h hP hD hS (lv_sub hl [5, 3, 2, 1, 0] rfl)
  unfold wp_X2_bindAll at h
  refine lv_aload_n hx hb dX2_bindAll_0 rfl (lv_at hl 0 rfl) ?_
  refine gC_613 E hP kfX2_40 (v := (gJ u 613)) rfl dX2_bindAll_1 ?_
  refine lv_lstore_n (lv' := [(3, .long (gJ u 613)), (0, .ref (G.1 6)), (1, .long p0)]) hx hb dX2_bindAll_4 rfl hl (by decide) rfl (fun ls hl => ?_)
  refine lv_ldc2 (v := (1099511627776 : Int64)) hx hb hown (hW _ kcX2_28) dX2_bindAll_5 ?_
  refine lv_lstore (lv' := [(5, .long (1099511627776 : Int64)), (3, .long (gJ u 613)), (0, .ref (G.1 6)), (1, .long p0)]) hx hb dX2_bindAll_8 hl (by decide) rfl (fun ls hl => ?_)
  refine lv_lload_n hx hb dX2_bindAll_10 rfl (lv_at hl 3 rfl) ?_
  refine lv_lstore (lv' := [(7, .long p0), (5, .long (1099511627776 : Int64)), (3, .long (gJ u 613)), (0, .ref (G.1 6)), (1, .long p0)]) hx hb dX2_bindAll_11 hl (by decide) rfl (fun ls hl => ?_)
  refine lv_iconst (v := (0 : Int32)) hx hb dX2_bindAll_13 (by decide) ?_
  refine lv_istore (lv' := [(9, .int (0 : Int32)), (7, .long p0), (5, .long (1099511627776 : Int64)), (3, .long (gJ u 613)), (0, .ref (G.1 6)), (1, .long p0)]) hx hb dX2_bindAll_14 hl (by decide) rfl (fun ls hl => ?_)
  obtain ⟨n, h⟩ := h
  refine L_16  _ (fun y12 u13 H locs ls h hP hD hS hl => ?_) n (gJ u 613) (1099511627776 : Int64) p0 (0 : Int32) u _ _ _ h hP hD hS (lv_sub hl [4, 3, 2, 1, 0] rfl)
  refine lv_lload_n hx hb dX2_bindAll_104 rfl (lv_at hl 0 rfl) ?_
  exact retC_l E hr hlk hP hD hS h dX2_bindAll_105
def wp_X2_applyLambda (N : Nat → Nat)  (u : St) (Q : St → Prop) : Prop := wp_X0_cdr N (gJ u 612) u (fun (r1 : Int64) (u2 : St) => wp_X0_car N r1 u2 (fun (r3 : Int64) (u4 : St) => wp_X0_isListOf N (gJ u4 612) (3 : Int32) u4 (fun (r5 : Int32) (u6 : St) => ((r5 = 0 → Q (sI u6 609 (3 : Int32))) ∧ (¬ r5 = 0 → wp_X0_isListOfNames N r3 (gI u6 606) u6 (fun (r7 : Int32) (u8 : St) => ((r7 = 0 → Q (sI u8 609 (3 : Int32))) ∧ (¬ r7 = 0 → wp_X1_hasRoom_21 N ((2 : Int32) * (gI u8 606)) (gI u8 606) (gJ u8 612) (gJ u8 613) u8 (fun (r9 : Int32) (u10 : St) => ((r9 = 0 → Q (sI u10 609 (6 : Int32))) ∧ (¬ r9 = 0 → wp_X0_cdr N (gJ u10 612) u10 (fun (r11 : Int64) (u12 : St) => wp_X0_cdr N r11 u12 (fun (r13 : Int64) (u14 : St) => wp_X0_car N r13 u14 (fun (r15 : Int64) (u16 : St) => wp_X2_bindAll N r3 u16 (fun (r17 : Int64) (u18 : St) => wp_X2_beginEvaluating N r15 r17 u18 (fun (u19 : St) => Q u19))))))))))))))))
abbrev rm_X2_applyLambda : Room := { frames := 3, cells := 0, slots := 0, locals := 78 }
set_option maxHeartbeats 4000000 in
set_option maxRecDepth 100000 in
theorem t_X2_applyLambda (l : Launch) (D : va_G) (G : Gd)  (u : St) (Q : St → Prop) (h : wp_X2_applyLambda G.2.1  u Q) : MCv l D G yX2_applyLambda cX2_applyLambda 5 none rm_X2_applyLambda [.ref (G.1 6)] u Q := by
  refine startC_v (by decide) ?_
  intro p e s m args below meth c E hr hlk hml hP hD hS hA
  have hx := E.1
  have hb := E.2.1
  have hown := E.2.2.1
  have hW := E.2.2.2.1
  have hl := lv_entry ([.ref (G.1 6)]) (n := 5) (Nat.le_of_ble_eq_true rfl)
  rw [lg_entry_eq]
  generalize (lg_sl ([.ref (G.1 6)]) ++ List.replicate (5 - (lg_sl ([.ref (G.1 6)])).length) Slot.unset).toArray = ls at hl ⊢
  have hl : lv_has ls 5 [(0, .ref (G.1 6))] := hl
  unfold wp_X2_applyLambda at h
  refine lv_aload_n hx hb dX2_applyLambda_0 rfl (lv_at hl 0 rfl) ?_
  refine gC_600 E hP kfX2_46 dX2_applyLambda_1 ?_
  refine lv_aload_n hx hb dX2_applyLambda_4 rfl (lv_at hl 0 rfl) ?_
  refine gC_600 E hP kfX2_46 dX2_applyLambda_5 ?_
  refine lv_aload_n hx hb dX2_applyLambda_8 rfl (lv_at hl 0 rfl) ?_
  refine gC_612 E hP kfX2_37 (v := (gJ u 612)) rfl dX2_applyLambda_9 ?_
  refine cC_l (ci := 0) (q0 := 8) (As := [.long (gJ u 612)]) (rest := [.ref (G.1 8)]) E hml hP hD hS hA (t_X0_cdr l D G (gJ u 612) u _ h) kmX2_108 mwyX0_cdr rfl rfl ⟨⟨rfl, rfl⟩, Nat.le_of_ble_eq_true rfl, Nat.le_of_ble_eq_true rfl⟩ rfl hl.1 rfl (Nat.le_of_ble_eq_true rfl) dX2_applyLambda_12 ⟨Nat.zero_le _, Nat.zero_le _⟩ (fun r1 u2 H locs hP hD hS h => ?_)
  refine cC_l (ci := 0) (q0 := 8) (As := [.long r1]) (rest := []) E hml hP hD hS hA (t_X0_car l D G r1 u2 _ h) kmX2_104 mwyX0_car rfl rfl ⟨⟨rfl, rfl⟩, Nat.le_of_ble_eq_true rfl, Nat.le_of_ble_eq_true rfl⟩ rfl hl.1 rfl (Nat.le_of_ble_eq_true rfl) dX2_applyLambda_15 ⟨Nat.zero_le _, Nat.zero_le _⟩ (fun r3 u4 H locs hP hD hS h => ?_)
  refine lv_lstore_n (lv' := [(1, .long r3), (0, .ref (G.1 6))]) hx hb dX2_applyLambda_18 rfl hl (by decide) rfl (fun ls hl => ?_)
  refine lv_aload_n hx hb dX2_applyLambda_19 rfl (lv_at hl 1 rfl) ?_
  refine gC_600 E hP kfX2_46 dX2_applyLambda_20 ?_
  refine lv_aload_n hx hb dX2_applyLambda_23 rfl (lv_at hl 1 rfl) ?_
  refine gC_612 E hP kfX2_37 (v := (gJ u4 612)) rfl dX2_applyLambda_24 ?_
  refine lv_iconst (v := (3 : Int32)) hx hb dX2_applyLambda_27 (by decide) ?_
  refine cC_i (ci := 0) (q0 := 8) (As := [.long (gJ u4 612), .int (3 : Int32)]) (rest := []) E hml hP hD hS hA (t_X0_isListOf l D G (gJ u4 612) (3 : Int32) u4 _ h) kmX2_139 mwyX0_isListOf rfl rfl ⟨⟨rfl, rfl⟩, Nat.le_of_ble_eq_true rfl, Nat.le_of_ble_eq_true rfl⟩ rfl hl.1 rfl (Nat.le_of_ble_eq_true rfl) dX2_applyLambda_28 ⟨Nat.zero_le _, Nat.zero_le _⟩ (fun r5 u6 H locs hP hD hS h => ?_)
  refine lv_if_eq (tgt := 49) hx hb dX2_applyLambda_31 (by decide) (fun hc => ?_) (fun hc => ?_)
  · have h := h.1 hc
    refine lv_aload_n hx hb dX2_applyLambda_49 rfl (lv_at hl 1 rfl) ?_
    refine lv_iconst (v := (3 : Int32)) hx hb dX2_applyLambda_50 (by decide) ?_
    refine pC_609 E hP hD hS kfX2_25 dX2_applyLambda_51 (fun H locs hP hD hS => ?_)
    refine lv_goto (tgt := 134) hx hb dX2_applyLambda_54 (by decide) ?_
    exact retC_v E hr hlk hP hD hS h dX2_applyLambda_134
  · have h := h.2 hc
    refine lv_aload_n hx hb dX2_applyLambda_34 rfl (lv_at hl 1 rfl) ?_
    refine gC_600 E hP kfX2_46 dX2_applyLambda_35 ?_
    refine lv_lload_n hx hb dX2_applyLambda_38 rfl (lv_at hl 0 rfl) ?_
    refine lv_aload_n hx hb dX2_applyLambda_39 rfl (lv_at hl 1 rfl) ?_
    refine gC_606 E hP kfX2_15 (v := (gI u6 606)) rfl dX2_applyLambda_40 ?_
    refine cC_i (ci := 0) (q0 := 8) (As := [.long r3, .int (gI u6 606)]) (rest := []) E hml hP hD hS hA (t_X0_isListOfNames l D G r3 (gI u6 606) u6 _ h) kmX2_213 mwyX0_isListOfNames rfl rfl ⟨⟨rfl, rfl⟩, Nat.le_of_ble_eq_true rfl, Nat.le_of_ble_eq_true rfl⟩ rfl hl.1 rfl (Nat.le_of_ble_eq_true rfl) dX2_applyLambda_43 ⟨Nat.zero_le _, Nat.zero_le _⟩ (fun r7 u8 H locs hP hD hS h => ?_)
    refine lv_if_ne (tgt := 57) hx hb dX2_applyLambda_46 (by decide) (fun hc => ?_) (fun hc => ?_)
    · have h := h.2 hc
      refine lv_aload_n hx hb dX2_applyLambda_57 rfl (lv_at hl 1 rfl) ?_
      refine gC_603 E hP kfX2_58 dX2_applyLambda_58 ?_
      refine lv_iconst (v := (2 : Int32)) hx hb dX2_applyLambda_61 (by decide) ?_
      refine lv_aload_n hx hb dX2_applyLambda_62 rfl (lv_at hl 1 rfl) ?_
      refine gC_606 E hP kfX2_15 (v := (gI u8 606)) rfl dX2_applyLambda_63 ?_
      refine lv_imul hx hb dX2_applyLambda_66 ?_
      refine lv_aload_n hx hb dX2_applyLambda_67 rfl (lv_at hl 1 rfl) ?_
      refine gC_605 E hP kfX2_9 dX2_applyLambda_68 ?_
      refine lv_aload_n hx hb dX2_applyLambda_71 rfl (lv_at hl 1 rfl) ?_
      refine gC_606 E hP kfX2_15 (v := (gI u8 606)) rfl dX2_applyLambda_72 ?_
      refine lv_aload_n hx hb dX2_applyLambda_75 rfl (lv_at hl 1 rfl) ?_
      refine gC_612 E hP kfX2_37 (v := (gJ u8 612)) rfl dX2_applyLambda_76 ?_
      refine lv_aload_n hx hb dX2_applyLambda_79 rfl (lv_at hl 1 rfl) ?_
      refine gC_613 E hP kfX2_40 (v := (gJ u8 613)) rfl dX2_applyLambda_80 ?_
      refine cC_i (ci := 1) (q0 := 4) (As := [.int ((2 : Int32) * (gI u8 606)), .ref (G.1 21), .int (gI u8 606), .long (gJ u8 612), .long (gJ u8 613)]) (rest := []) E hml hP hD hS hA (t_X1_hasRoom_21 l D G ((2 : Int32) * (gI u8 606)) (gI u8 606) (gJ u8 612) (gJ u8 613) u8 _ h) kmX2_216 mwyX1_hasRoom rfl rfl ⟨⟨rfl, rfl⟩, Nat.le_of_ble_eq_true rfl, Nat.le_of_ble_eq_true rfl⟩ rfl hl.1 rfl (Nat.le_of_ble_eq_true rfl) dX2_applyLambda_83 ⟨Nat.zero_le _, Nat.zero_le _⟩ (fun r9 u10 H locs hP hD hS h => ?_)
      refine lv_if_ne (tgt := 98) hx hb dX2_applyLambda_86 (by decide) (fun hc => ?_) (fun hc => ?_)
      · have h := h.2 hc
        refine lv_aload_n hx hb dX2_applyLambda_98 rfl (lv_at hl 1 rfl) ?_
        refine gC_600 E hP kfX2_46 dX2_applyLambda_99 ?_
        refine lv_aload_n hx hb dX2_applyLambda_102 rfl (lv_at hl 1 rfl) ?_
        refine gC_600 E hP kfX2_46 dX2_applyLambda_103 ?_
        refine lv_aload_n hx hb dX2_applyLambda_106 rfl (lv_at hl 1 rfl) ?_
        refine gC_600 E hP kfX2_46 dX2_applyLambda_107 ?_
        refine lv_aload_n hx hb dX2_applyLambda_110 rfl (lv_at hl 1 rfl) ?_
        refine gC_612 E hP kfX2_37 (v := (gJ u10 612)) rfl dX2_applyLambda_111 ?_
        refine cC_l (ci := 0) (q0 := 8) (As := [.long (gJ u10 612)]) (rest := [.ref (G.1 8), .ref (G.1 8)]) E hml hP hD hS hA (t_X0_cdr l D G (gJ u10 612) u10 _ h) kmX2_108 mwyX0_cdr rfl rfl ⟨⟨rfl, rfl⟩, Nat.le_of_ble_eq_true rfl, Nat.le_of_ble_eq_true rfl⟩ rfl hl.1 rfl (Nat.le_of_ble_eq_true rfl) dX2_applyLambda_114 ⟨Nat.zero_le _, Nat.zero_le _⟩ (fun r11 u12 H locs hP hD hS h => ?_)
        refine cC_l (ci := 0) (q0 := 8) (As := [.long r11]) (rest := [.ref (G.1 8)]) E hml hP hD hS hA (t_X0_cdr l D G r11 u12 _ h) kmX2_108 mwyX0_cdr rfl rfl ⟨⟨rfl, rfl⟩, Nat.le_of_ble_eq_true rfl, Nat.le_of_ble_eq_true rfl⟩ rfl hl.1 rfl (Nat.le_of_ble_eq_true rfl) dX2_applyLambda_117 ⟨Nat.zero_le _, Nat.zero_le _⟩ (fun r13 u14 H locs hP hD hS h => ?_)
        refine cC_l (ci := 0) (q0 := 8) (As := [.long r13]) (rest := []) E hml hP hD hS hA (t_X0_car l D G r13 u14 _ h) kmX2_104 mwyX0_car rfl rfl ⟨⟨rfl, rfl⟩, Nat.le_of_ble_eq_true rfl, Nat.le_of_ble_eq_true rfl⟩ rfl hl.1 rfl (Nat.le_of_ble_eq_true rfl) dX2_applyLambda_120 ⟨Nat.zero_le _, Nat.zero_le _⟩ (fun r15 u16 H locs hP hD hS h => ?_)
        refine lv_lstore_n (lv' := [(3, .long r15), (1, .long r3), (0, .ref (G.1 6))]) hx hb dX2_applyLambda_123 rfl hl (by decide) rfl (fun ls hl => ?_)
        refine lv_aload_n hx hb dX2_applyLambda_124 rfl (lv_at hl 2 rfl) ?_
        refine lv_lload_n hx hb dX2_applyLambda_125 rfl (lv_at hl 0 rfl) ?_
        refine lv_aload_n hx hb dX2_applyLambda_126 rfl (lv_at hl 2 rfl) ?_
        refine lv_lload_n hx hb dX2_applyLambda_127 rfl (lv_at hl 1 rfl) ?_
        refine cC_l (ci := 2) (q0 := 6) (As := [.long r3]) (rest := [.long r15, .ref (G.1 6)]) E hml hP hD hS hA (t_X2_bindAll l D G r3 u16 _ h) kmX2_222 mwyX2_bindAll rfl rfl ⟨⟨rfl, rfl⟩, Nat.le_of_ble_eq_true rfl, Nat.le_of_ble_eq_true rfl⟩ rfl hl.1 rfl (Nat.le_of_ble_eq_true rfl) dX2_applyLambda_128 ⟨Nat.zero_le _, Nat.zero_le _⟩ (fun r17 u18 H locs hP hD hS h => ?_)
        refine cC_v (ci := 2) (q0 := 6) (As := [.long r15, .long r17]) (rest := []) E hml hP hD hS hA (t_X2_beginEvaluating l D G r15 r17 u18 _ h) kmX2_65 mwyX2_beginEvaluating rfl rfl ⟨⟨rfl, rfl⟩, Nat.le_of_ble_eq_true rfl, Nat.le_of_ble_eq_true rfl⟩ rfl hl.1 rfl (Nat.le_of_ble_eq_true rfl) dX2_applyLambda_131 ⟨Nat.zero_le _, Nat.zero_le _⟩ (fun u19 H locs hP hD hS h => ?_)
        exact retC_v E hr hlk hP hD hS h dX2_applyLambda_134
      · have h := h.1 hc
        refine lv_aload_n hx hb dX2_applyLambda_89 rfl (lv_at hl 1 rfl) ?_
        refine lv_bipush (v := (6 : Int32)) hx hb dX2_applyLambda_90 (by decide) ?_
        refine pC_609 E hP hD hS kfX2_25 dX2_applyLambda_92 (fun H locs hP hD hS => ?_)
        refine lv_goto (tgt := 134) hx hb dX2_applyLambda_95 (by decide) ?_
        exact retC_v E hr hlk hP hD hS h dX2_applyLambda_134
    · have h := h.1 hc
      refine lv_aload_n hx hb dX2_applyLambda_49 rfl (lv_at hl 1 rfl) ?_
      refine lv_iconst (v := (3 : Int32)) hx hb dX2_applyLambda_50 (by decide) ?_
      refine pC_609 E hP hD hS kfX2_25 dX2_applyLambda_51 (fun H locs hP hD hS => ?_)
      refine lv_goto (tgt := 134) hx hb dX2_applyLambda_54 (by decide) ?_
      exact retC_v E hr hlk hP hD hS h dX2_applyLambda_134
