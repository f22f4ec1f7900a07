def wp_X10_fault  (u : St) (Q : Int32 → St → Prop) : Prop := Q (gI u 8) (sI u 0 (0 : Int32))
abbrev rm_X10_fault : Room := { frames := 0, cells := 0, slots := 0, locals := 0 }
set_option maxHeartbeats 4000000 in
set_option maxRecDepth 100000 in
theorem t_X10_fault (l : Launch) (D : va_G) (G : Gd)  (u : St) (Q : Int32 → St → Prop) (h : wp_X10_fault  u Q) : MRi l D G yX10_fault cX10_fault 1 (some .int) rm_X10_fault [.ref (G.1 0)] u Q := by
  refine startR_i (by decide) ?_
  intro p e s m args below meth c E hr hlk hml hP hD hS hA
  have hx := E.1
  have hb := E.2.1
  have hown := E.2.2.1
  have hW := E.2.2.2.1
  have hl := lv_entry ([.ref (G.1 0)]) (n := 1) (Nat.le_of_ble_eq_true rfl)
  rw [lg_entry_eq]
  generalize (lg_sl ([.ref (G.1 0)]) ++ List.replicate (1 - (lg_sl ([.ref (G.1 0)])).length) Slot.unset).toArray = ls at hl ⊢
  have hl : lv_has ls 1 [(0, .ref (G.1 0))] := hl
  unfold wp_X10_fault at h
  refine lv_aload_n hx hb dX10_fault_0 rfl (lv_at hl 0 rfl) ?_
  refine lv_iconst (v := (0 : Int32)) hx hb dX10_fault_1 (by decide) ?_
  refine pR_0 E hP hD hS kfX10_7 dX10_fault_2 (fun H locs hP hD hS => ?_)
  refine lv_aload_n hx hb dX10_fault_5 rfl (lv_at hl 0 rfl) ?_
  refine gR_8 E hP kfX10_35 (v := (gI u 8)) rfl dX10_fault_6 ?_
  exact retR_i E hr hlk hP hD hS h dX10_fault_9
def wp_X10_place  (u : St) (Q : Int32 → St → Prop) : Prop := Q (gI u 7) (sI u 0 (0 : Int32))
abbrev rm_X10_place : Room := { frames := 0, cells := 0, slots := 0, locals := 0 }
set_option maxHeartbeats 4000000 in
set_option maxRecDepth 100000 in
theorem t_X10_place (l : Launch) (D : va_G) (G : Gd)  (u : St) (Q : Int32 → St → Prop) (h : wp_X10_place  u Q) : MRi l D G yX10_place cX10_place 1 (some .int) rm_X10_place [.ref (G.1 0)] u Q := by
  refine startR_i (by decide) ?_
  intro p e s m args below meth c E hr hlk hml hP hD hS hA
  have hx := E.1
  have hb := E.2.1
  have hown := E.2.2.1
  have hW := E.2.2.2.1
  have hl := lv_entry ([.ref (G.1 0)]) (n := 1) (Nat.le_of_ble_eq_true rfl)
  rw [lg_entry_eq]
  generalize (lg_sl ([.ref (G.1 0)]) ++ List.replicate (1 - (lg_sl ([.ref (G.1 0)])).length) Slot.unset).toArray = ls at hl ⊢
  have hl : lv_has ls 1 [(0, .ref (G.1 0))] := hl
  unfold wp_X10_place at h
  refine lv_aload_n hx hb dX10_place_0 rfl (lv_at hl 0 rfl) ?_
  refine lv_iconst (v := (0 : Int32)) hx hb dX10_place_1 (by decide) ?_
  refine pR_0 E hP hD hS kfX10_7 dX10_place_2 (fun H locs hP hD hS => ?_)
  refine lv_aload_n hx hb dX10_place_5 rfl (lv_at hl 0 rfl) ?_
  refine gR_7 E hP kfX10_32 (v := (gI u 7)) rfl dX10_place_6 ?_
  exact retR_i E hr hlk hP hD hS h dX10_place_9
def wp_X10_size  (u : St) (Q : Int32 → St → Prop) : Prop := Q (gI u 12) (sI u 0 (0 : Int32))
abbrev rm_X10_size : Room := { frames := 0, cells := 0, slots := 0, locals := 0 }
set_option maxHeartbeats 4000000 in
set_option maxRecDepth 100000 in
theorem t_X10_size (l : Launch) (D : va_G) (G : Gd)  (u : St) (Q : Int32 → St → Prop) (h : wp_X10_size  u Q) : MRi l D G yX10_size cX10_size 1 (some .int) rm_X10_size [.ref (G.1 0)] u Q := by
  refine startR_i (by decide) ?_
  intro p e s m args below meth c E hr hlk hml hP hD hS hA
  have hx := E.1
  have hb := E.2.1
  have hown := E.2.2.1
  have hW := E.2.2.2.1
  have hl := lv_entry ([.ref (G.1 0)]) (n := 1) (Nat.le_of_ble_eq_true rfl)
  rw [lg_entry_eq]
  generalize (lg_sl ([.ref (G.1 0)]) ++ List.replicate (1 - (lg_sl ([.ref (G.1 0)])).length) Slot.unset).toArray = ls at hl ⊢
  have hl : lv_has ls 1 [(0, .ref (G.1 0))] := hl
  unfold wp_X10_size at h
  refine lv_aload_n hx hb dX10_size_0 rfl (lv_at hl 0 rfl) ?_
  refine lv_iconst (v := (0 : Int32)) hx hb dX10_size_1 (by decide) ?_
  refine pR_0 E hP hD hS kfX10_7 dX10_size_2 (fun H locs hP hD hS => ?_)
  refine lv_aload_n hx hb dX10_size_5 rfl (lv_at hl 0 rfl) ?_
  refine gR_12 E hP kfX10_47 (v := (gI u 12)) rfl dX10_size_6 ?_
  exact retR_i E hr hlk hP hD hS h dX10_size_9
def wp_X10_out (p0 : Int32) (u : St) (Q : Int32 → St → Prop) : Prop := ((p0 < 0 → Q (-1 : Int32) (sI u 0 (0 : Int32))) ∧ (¬ p0 < 0 → ((p0 < (gI u 12) → vp_in p0 400 ∧ Q ((gA u 11) (p0).toNatClampNeg) (sI u 0 (0 : Int32))) ∧ (¬ p0 < (gI u 12) → Q (-1 : Int32) (sI u 0 (0 : Int32))))))
abbrev rm_X10_out : Room := { frames := 0, cells := 0, slots := 0, locals := 0 }
set_option maxHeartbeats 4000000 in
set_option maxRecDepth 100000 in
theorem t_X10_out (l : Launch) (D : va_G) (G : Gd) (p0 : Int32) (u : St) (Q : Int32 → St → Prop) (h : wp_X10_out p0 u Q) : MRi l D G yX10_out cX10_out 2 (some .int) rm_X10_out [.ref (G.1 0), .int p0] u Q := by
  refine startR_i (by decide) ?_
  intro p e s m args below meth c E hr hlk hml hP hD hS hA
  have hx := E.1
  have hb := E.2.1
  have hown := E.2.2.1
  have hW := E.2.2.2.1
  have hl := lv_entry ([.ref (G.1 0), .int p0]) (n := 2) (Nat.le_of_ble_eq_true rfl)
  rw [lg_entry_eq]
  generalize (lg_sl ([.ref (G.1 0), .int p0]) ++ List.replicate (2 - (lg_sl ([.ref (G.1 0), .int p0])).length) Slot.unset).toArray = ls at hl ⊢
  have hl : lv_has ls 2 [(0, .ref (G.1 0)), (1, .int p0)] := hl
  unfold wp_X10_out at h
  refine lv_aload_n hx hb dX10_out_0 rfl (lv_at hl 0 rfl) ?_
  refine lv_iconst (v := (0 : Int32)) hx hb dX10_out_1 (by decide) ?_
  refine pR_0 E hP hD hS kfX10_7 dX10_out_2 (fun H locs hP hD hS => ?_)
  refine lv_iload_n hx hb dX10_out_5 rfl (lv_at hl 1 rfl) ?_
  refine lv_if_lt (tgt := 17) hx hb dX10_out_6 (by decide) (fun hc => ?_) (fun hc => ?_)
  · have h := h.1 hc
    refine lv_iconst (v := (-1 : Int32)) hx hb dX10_out_17 (by decide) ?_
    refine lv_goto (tgt := 27) hx hb dX10_out_18 (by decide) ?_
    exact retR_i E hr hlk hP hD hS h dX10_out_27
  · have h := h.2 hc
    refine lv_iload_n hx hb dX10_out_9 rfl (lv_at hl 1 rfl) ?_
    refine lv_aload_n hx hb dX10_out_10 rfl (lv_at hl 0 rfl) ?_
    refine gR_12 E hP kfX10_47 (v := (gI u 12)) rfl dX10_out_11 ?_
    refine lv_icmp_lt (tgt := 21) hx hb dX10_out_14 (by decide) (fun hc => ?_) (fun hc => ?_)
    · have h := h.1 hc
      refine lv_aload_n hx hb dX10_out_21 rfl (lv_at hl 0 rfl) ?_
      refine gR_11 E hP kfX10_44 dX10_out_22 ?_
      refine lv_iload_n hx hb dX10_out_25 rfl (lv_at hl 1 rfl) ?_
      obtain ⟨h9, h⟩ := h
      refine xR_11 E hP h9 (v := ((gA u 11) (p0).toNatClampNeg)) rfl dX10_out_26 ?_
      exact retR_i E hr hlk hP hD hS h dX10_out_27
    · have h := h.2 hc
      refine lv_iconst (v := (-1 : Int32)) hx hb dX10_out_17 (by decide) ?_
      refine lv_goto (tgt := 27) hx hb dX10_out_18 (by decide) ?_
      exact retR_i E hr hlk hP hD hS h dX10_out_27
def wp_X10_count (p0 : Int32) (u : St) (Q : Int32 → St → Prop) : Prop := ((p0 = 0 → Q (gI u 9) (sI u 0 (0 : Int32))) ∧ (¬ p0 = 0 → ((p0 = (2 : Int32) → Q (gI u 21) (sI u 0 (0 : Int32))) ∧ (¬ p0 = (2 : Int32) → ((p0 = (3 : Int32) → Q (gI u 10) (sI u 0 (0 : Int32))) ∧ (¬ p0 = (3 : Int32) → ((p0 = (1 : Int32) → wp_X10_holdGlobals  (sI u 0 (0 : Int32)) (fun (u1 : St) => Q (gI u1 16) u1)) ∧ (¬ p0 = (1 : Int32) → Q (-1 : Int32) (sI u 0 (0 : Int32))))))))))
abbrev rm_X10_count : Room := { frames := 4, cells := 0, slots := 0, locals := 87 }
set_option maxHeartbeats 4000000 in
set_option maxRecDepth 100000 in
theorem t_X10_count (l : Launch) (D : va_G) (G : Gd) (p0 : Int32) (u : St) (Q : Int32 → St → Prop) (h : wp_X10_count p0 u Q) : MRi l D G yX10_count cX10_count 2 (some .int) rm_X10_count [.ref (G.1 0), .int p0] u Q := by
  refine startR_i (by decide) ?_
  intro p e s m args below meth c E hr hlk hml hP hD hS hA
  have hx := E.1
  have hb := E.2.1
  have hown := E.2.2.1
  have hW := E.2.2.2.1
  have hl := lv_entry ([.ref (G.1 0), .int p0]) (n := 2) (Nat.le_of_ble_eq_true rfl)
  rw [lg_entry_eq]
  generalize (lg_sl ([.ref (G.1 0), .int p0]) ++ List.replicate (2 - (lg_sl ([.ref (G.1 0), .int p0])).length) Slot.unset).toArray = ls at hl ⊢
  have hl : lv_has ls 2 [(0, .ref (G.1 0)), (1, .int p0)] := hl
  unfold wp_X10_count at h
  refine lv_aload_n hx hb dX10_count_0 rfl (lv_at hl 0 rfl) ?_
  refine lv_iconst (v := (0 : Int32)) hx hb dX10_count_1 (by decide) ?_
  refine pR_0 E hP hD hS kfX10_7 dX10_count_2 (fun H locs hP hD hS => ?_)
  refine lv_iload_n hx hb dX10_count_5 rfl (lv_at hl 1 rfl) ?_
  refine lv_if_ne (tgt := 14) hx hb dX10_count_6 (by decide) (fun hc => ?_) (fun hc => ?_)
  · have h := h.2 hc
    refine lv_iload_n hx hb dX10_count_14 rfl (lv_at hl 1 rfl) ?_
    refine lv_iconst (v := (2 : Int32)) hx hb dX10_count_15 (by decide) ?_
    refine lv_icmp_ne (tgt := 24) hx hb dX10_count_16 (by decide) (fun hc => ?_) (fun hc => ?_)
    · have h := h.2 hc
      refine lv_iload_n hx hb dX10_count_24 rfl (lv_at hl 1 rfl) ?_
      refine lv_iconst (v := (3 : Int32)) hx hb dX10_count_25 (by decide) ?_
      refine lv_icmp_ne (tgt := 34) hx hb dX10_count_26 (by decide) (fun hc => ?_) (fun hc => ?_)
      · have h := h.2 hc
        refine lv_iload_n hx hb dX10_count_34 rfl (lv_at hl 1 rfl) ?_
        refine lv_iconst (v := (1 : Int32)) hx hb dX10_count_35 (by decide) ?_
        refine lv_icmp_eq (tgt := 41) hx hb dX10_count_36 (by decide) (fun hc => ?_) (fun hc => ?_)
        · have h := h.1 hc
          refine lv_aload_n hx hb dX10_count_41 rfl (lv_at hl 0 rfl) ?_
          refine cR_v (ci := 9) (q0 := 0) (As := []) (rest := []) E hml hP hD hS hA (t_X10_holdGlobals l D G  (sI u 0 (0 : Int32)) _ h) kmX10_222 mwyX10_holdGlobals rfl rfl ⟨⟨rfl, rfl⟩, Nat.le_of_ble_eq_true rfl, Nat.le_of_ble_eq_true rfl⟩ rfl hl.1 rfl (Nat.le_of_ble_eq_true rfl) dX10_count_42 ⟨Nat.zero_le _, Nat.zero_le _⟩ (fun u1 H locs hP hD hS h => ?_)
          refine lv_aload_n hx hb dX10_count_45 rfl (lv_at hl 0 rfl) ?_
          refine gR_16 E hP kfX10_61 (v := (gI u1 16)) rfl dX10_count_46 ?_
          exact retR_i E hr hlk hP hD hS h dX10_count_49
        · have h := h.2 hc
          refine lv_iconst (v := (-1 : Int32)) hx hb dX10_count_39 (by decide) ?_
          exact retR_i E hr hlk hP hD hS h dX10_count_40
      · have h := h.1 hc
        refine lv_aload_n hx hb dX10_count_29 rfl (lv_at hl 0 rfl) ?_
        refine gR_10 E hP kfX10_41 (v := (gI u 10)) rfl dX10_count_30 ?_
        exact retR_i E hr hlk hP hD hS h dX10_count_33
    · have h := h.1 hc
      refine lv_aload_n hx hb dX10_count_19 rfl (lv_at hl 0 rfl) ?_
      refine gR_21 E hP kfX10_76 (v := (gI u 21)) rfl dX10_count_20 ?_
      exact retR_i E hr hlk hP hD hS h dX10_count_23
  · have h := h.1 hc
    refine lv_aload_n hx hb dX10_count_9 rfl (lv_at hl 0 rfl) ?_
    refine gR_9 E hP kfX10_38 (v := (gI u 9)) rfl dX10_count_10 ?_
    exact retR_i E hr hlk hP hD hS h dX10_count_13
