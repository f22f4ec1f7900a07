def wp_X10_digitOf (p0 : Int32) (Q : Int32 → Prop) : Prop := ((p0 < (65 : Int32) → ((p0 < (48 : Int32) → Q (0 : Int32)) ∧ (¬ p0 < (48 : Int32) → (((57 : Int32) < p0 → Q (0 : Int32)) ∧ (¬ (57 : Int32) < p0 → Q (p0 - (21 : Int32))))))) ∧ (¬ p0 < (65 : Int32) → (((90 : Int32) < p0 → ((p0 < (48 : Int32) → Q (0 : Int32)) ∧ (¬ p0 < (48 : Int32) → (((57 : Int32) < p0 → Q (0 : Int32)) ∧ (¬ (57 : Int32) < p0 → Q (p0 - (21 : Int32))))))) ∧ (¬ (90 : Int32) < p0 → Q (p0 - (64 : Int32))))))
abbrev rm_X10_digitOf : Room := { frames := 0, cells := 0, slots := 0, locals := 0 }
set_option maxHeartbeats 4000000 in
set_option maxRecDepth 100000 in
theorem t_X10_digitOf (l : Launch) (p0 : Int32) (Q : Int32 → Prop) (h : wp_X10_digitOf p0 Q) : M0i l yX10_digitOf cX10_digitOf 1 (some .int) rm_X10_digitOf [.int p0] Q := by
  refine start0_i (by decide) ?_
  intro p e s m args below meth c hx hb hown hW hr hlk hml hS
  have hP : va_P ((fun _ => 0), (fun _ _ => 0)) vwCl [] s.heap := fun k q h => by simp at h
  have hA : ∀ q, s.heap.size ≤ q → (fun q => s.heap.size ≤ q) q := fun _ h => h
  have hl := lv_entry ([.int p0]) (n := 1) (Nat.le_of_ble_eq_true rfl)
  rw [lg_entry_eq]
  generalize (lg_sl ([.int p0]) ++ List.replicate (1 - (lg_sl ([.int p0])).length) Slot.unset).toArray = ls at hl ⊢
  have hl : lv_has ls 1 [(0, .int p0)] := hl
  unfold wp_X10_digitOf at h
  refine lv_iload_n hx hb dX10_digitOf_0 rfl (lv_at hl 0 rfl) ?_
  refine lv_bipush (v := (65 : Int32)) hx hb dX10_digitOf_1 (by decide) ?_
  refine lv_icmp_lt (tgt := 19) hx hb dX10_digitOf_3 (by decide) (fun hc => ?_) (fun hc => ?_)
  · have h := h.1 hc
    refine lv_iload_n hx hb dX10_digitOf_19 rfl (lv_at hl 0 rfl) ?_
    refine lv_bipush (v := (48 : Int32)) hx hb dX10_digitOf_20 (by decide) ?_
    refine lv_icmp_lt (tgt := 38) hx hb dX10_digitOf_22 (by decide) (fun hc => ?_) (fun hc => ?_)
    · have h := h.1 hc
      refine lv_iconst (v := (0 : Int32)) hx hb dX10_digitOf_38 (by decide) ?_
      exact ret0_i hx hb hr hlk hS h dX10_digitOf_39
    · have h := h.2 hc
      refine lv_iload_n hx hb dX10_digitOf_25 rfl (lv_at hl 0 rfl) ?_
      refine lv_bipush (v := (57 : Int32)) hx hb dX10_digitOf_26 (by decide) ?_
      refine lv_icmp_gt (tgt := 38) hx hb dX10_digitOf_28 (by decide) (fun hc => ?_) (fun hc => ?_)
      · have h := h.1 hc
        refine lv_iconst (v := (0 : Int32)) hx hb dX10_digitOf_38 (by decide) ?_
        exact ret0_i hx hb hr hlk hS h dX10_digitOf_39
      · have h := h.2 hc
        refine lv_iload_n hx hb dX10_digitOf_31 rfl (lv_at hl 0 rfl) ?_
        refine lv_bipush (v := (21 : Int32)) hx hb dX10_digitOf_32 (by decide) ?_
        refine lv_isub hx hb dX10_digitOf_34 ?_
        refine lv_goto (tgt := 39) hx hb dX10_digitOf_35 (by decide) ?_
        exact ret0_i hx hb hr hlk hS h dX10_digitOf_39
  · have h := h.2 hc
    refine lv_iload_n hx hb dX10_digitOf_6 rfl (lv_at hl 0 rfl) ?_
    refine lv_bipush (v := (90 : Int32)) hx hb dX10_digitOf_7 (by decide) ?_
    refine lv_icmp_gt (tgt := 19) hx hb dX10_digitOf_9 (by decide) (fun hc => ?_) (fun hc => ?_)
    · have h := h.1 hc
      refine lv_iload_n hx hb dX10_digitOf_19 rfl (lv_at hl 0 rfl) ?_
      refine lv_bipush (v := (48 : Int32)) hx hb dX10_digitOf_20 (by decide) ?_
      refine lv_icmp_lt (tgt := 38) hx hb dX10_digitOf_22 (by decide) (fun hc => ?_) (fun hc => ?_)
      · have h := h.1 hc
        refine lv_iconst (v := (0 : Int32)) hx hb dX10_digitOf_38 (by decide) ?_
        exact ret0_i hx hb hr hlk hS h dX10_digitOf_39
      · have h := h.2 hc
        refine lv_iload_n hx hb dX10_digitOf_25 rfl (lv_at hl 0 rfl) ?_
        refine lv_bipush (v := (57 : Int32)) hx hb dX10_digitOf_26 (by decide) ?_
        refine lv_icmp_gt (tgt := 38) hx hb dX10_digitOf_28 (by decide) (fun hc => ?_) (fun hc => ?_)
        · have h := h.1 hc
          refine lv_iconst (v := (0 : Int32)) hx hb dX10_digitOf_38 (by decide) ?_
          exact ret0_i hx hb hr hlk hS h dX10_digitOf_39
        · have h := h.2 hc
          refine lv_iload_n hx hb dX10_digitOf_31 rfl (lv_at hl 0 rfl) ?_
          refine lv_bipush (v := (21 : Int32)) hx hb dX10_digitOf_32 (by decide) ?_
          refine lv_isub hx hb dX10_digitOf_34 ?_
          refine lv_goto (tgt := 39) hx hb dX10_digitOf_35 (by decide) ?_
          exact ret0_i hx hb hr hlk hS h dX10_digitOf_39
    · have h := h.2 hc
      refine lv_iload_n hx hb dX10_digitOf_12 rfl (lv_at hl 0 rfl) ?_
      refine lv_bipush (v := (64 : Int32)) hx hb dX10_digitOf_13 (by decide) ?_
      refine lv_isub hx hb dX10_digitOf_15 ?_
      refine lv_goto (tgt := 39) hx hb dX10_digitOf_16 (by decide) ?_
      exact ret0_i hx hb hr hlk hS h dX10_digitOf_39
def l_X10_known_6 (c1 : Int64) (K : Int64 → St → Prop) : Nat → Int64 → Int32 → St → Prop
  | 0, _, _, _ => False
  | n + 1, x3, x5, u => ((x5 < 0 → K x3 u) ∧ (¬ x5 < 0 → (((((c1 >>> ((x5).toInt64 &&& 63))).toInt32 &&& (255 : Int32)) = 0 → l_X10_known_6  c1 K n x3 (x5 + (-8 : Int32)) u) ∧ (¬ (((c1 >>> ((x5).toInt64 &&& 63))).toInt32 &&& (255 : Int32)) = 0 → wp_X10_digitOf (((c1 >>> ((x5).toInt64 &&& 63))).toInt32 &&& (255 : Int32)) (fun (r1 : Int32) => l_X10_known_6  c1 K n ((x3 * (37 : Int64)) + (r1).toInt64) (x5 + (-8 : Int32)) u)))))
def wp_X10_known (p0 : Int64) (u : St) (Q : St → Prop) : Prop := (∃ k4 : Nat, l_X10_known_6  p0 (fun (y2 : Int64) (u3 : St) => vp_in (gI u3 21) 150 ∧ vp_in (gI u3 21) 150 ∧ Q (sI (sB (sB u3 19 (vp_updL (gB u3 19) ((gI u3 21)).toNatClampNeg y2)) 20 (vp_updL (gB u3 20) ((gI u3 21)).toNatClampNeg (-1 : Int64))) 21 ((gI u3 21) + (1 : Int32)))) k4 (0 : Int64) (56 : Int32) u)
abbrev rm_X10_known : Room := { frames := 1, cells := 0, slots := 0, locals := 20 }
set_option maxHeartbeats 4000000 in
set_option maxRecDepth 100000 in
theorem t_X10_known (l : Launch) (D : va_G) (G : Gd) (p0 : Int64) (u : St) (Q : St → Prop) (h : wp_X10_known p0 u Q) : MRv l D G yX10_known cX10_known 7 none rm_X10_known [.ref (G.1 0), .long p0] u Q := by
  refine startR_v (by decide) ?_
  intro p e s m args below meth c E hr hlk hml hP hD hS hA
  have hx := E.1
  have hb := E.2.1
  have hown := E.2.2.1
  have hW := E.2.2.2.1
  have hl := lv_entry ([.ref (G.1 0), .long p0]) (n := 7) (Nat.le_of_ble_eq_true rfl)
  rw [lg_entry_eq]
  generalize (lg_sl ([.ref (G.1 0), .long p0]) ++ List.replicate (7 - (lg_sl ([.ref (G.1 0), .long p0])).length) Slot.unset).toArray = ls at hl ⊢
  have hl : lv_has ls 7 [(0, .ref (G.1 0)), (1, .long p0)] := hl
  have L_6 : ∀ (c1 : Int64) (K : Int64 → St → Prop), (∀ (x3 : Int64) (u : St) (H : Heap) (locs : List Loc) (ls : Array Slot), K x3 u → va_P D vwCl (wR G u) H → va_D (AR G s.heap.size) (wR G u) → va_S (AR G s.heap.size) s.heap H locs → lv_has ls 7 [(0, .ref (G.1 0)), (3, .long x3)] → W p l e rm_X10_known s m args below meth c H locs 0 0 (MQ below (va_Qv Q (BR D G s.heap.size) (AR G s.heap.size)) args s 0 0 (AR G s.heap.size)) (F0 m 46 ls [])) → ∀ (n : Nat) (x3 : Int64) (x5 : Int32) (u : St) (H : Heap) (locs : List Loc) (ls : Array Slot), l_X10_known_6  c1 K n x3 x5 u → va_P D vwCl (wR G u) H → va_D (AR G s.heap.size) (wR G u) → va_S (AR G s.heap.size) s.heap H locs → lv_has ls 7 [(0, .ref (G.1 0)), (1, .long c1), (3, .long x3), (5, .int x5)] → W p l e rm_X10_known s m args below meth c H locs 0 0 (MQ below (va_Qv Q (BR D G s.heap.size) (AR G s.heap.size)) args s 0 0 (AR G s.heap.size)) (F0 m 6 ls []) := by
    intro c1 K hK n
    induction n with
    | zero => intro x3 x5 u H locs ls h; exact False.elim h
    | succ n ih =>
      intro x3 x5 u H locs ls h hP hD hS hl
      unfold l_X10_known_6 at h
      refine lv_iload hx hb dX10_known_6 (lv_at hl 3 rfl) ?_
      refine lv_if_lt (tgt := 46) hx hb dX10_known_8 (by decide) (fun hc => ?_) (fun hc => ?_)
      · have h := h.1 hc
        exact hK x3 u _ _ _ h hP hD hS (lv_sub hl [0, 2] rfl)
      · have h := h.2 hc
        refine lv_lload_n hx hb dX10_known_11 rfl (lv_at hl 1 rfl) ?_
        refine lv_iload hx hb dX10_known_12 (lv_at hl 3 rfl) ?_
        refine lv_lshr (v := (c1 >>> ((x5).toInt64 &&& 63))) hx hb dX10_known_14 rfl ?_
        refine lv_l2i (v := ((c1 >>> ((x5).toInt64 &&& 63))).toInt32) hx hb dX10_known_15 rfl ?_
        refine lv_sipush (v := (255 : Int32)) hx hb dX10_known_16 (by decide) ?_
        refine lv_iand hx hb dX10_known_19 ?_
        refine lv_istore (lv' := [(6, .int (((c1 >>> ((x5).toInt64 &&& 63))).toInt32 &&& (255 : Int32))), (0, .ref (G.1 0)), (1, .long c1), (3, .long x3), (5, .int x5)]) hx hb dX10_known_20 hl (by decide) rfl (fun ls hl => ?_)
        refine lv_iload hx hb dX10_known_22 (lv_at hl 0 rfl) ?_
        refine lv_if_eq (tgt := 40) hx hb dX10_known_24 (by decide) (fun hc => ?_) (fun hc => ?_)
        · have h := h.1 hc
          refine lv_iinc (v := (x5 + (-8 : Int32))) (lv' := [(5, .int (x5 + (-8 : Int32))), (6, .int (((c1 >>> ((x5).toInt64 &&& 63))).toInt32 &&& (255 : Int32))), (0, .ref (G.1 0)), (1, .long c1), (3, .long x3)]) hx hb dX10_known_40 hl (k := 4) rfl rfl (by decide) rfl (fun ls hl => ?_)
          refine lv_goto (tgt := 6) hx hb dX10_known_43 (by decide) ?_
          exact ih x3 (x5 + (-8 : Int32)) u _ _ _ h hP hD hS (lv_sub hl [2, 3, 4, 0] rfl)
        · have h := h.2 hc
          refine lv_lload_n hx hb dX10_known_27 rfl (lv_at hl 3 rfl) ?_
          refine lv_ldc2 (v := (37 : Int64)) hx hb hown (hW _ kcX10_187) dX10_known_28 ?_
          refine lv_lmul hx hb dX10_known_31 ?_
          refine lv_iload hx hb dX10_known_32 (lv_at hl 0 rfl) ?_
          refine c0_i (As := [.int (((c1 >>> ((x5).toInt64 &&& 63))).toInt32 &&& (255 : Int32))]) (rest := [.long (x3 * (37 : Int64))]) hx hb hml hown hW hP hS hA (t_X10_digitOf l (((c1 >>> ((x5).toInt64 &&& 63))).toInt32 &&& (255 : Int32)) _ h) kmX10_193 mwyX10_digitOf ⟨⟨rfl, rfl⟩, Nat.le_of_ble_eq_true rfl, Nat.le_of_ble_eq_true rfl⟩ rfl hl.1 rfl (Nat.le_of_ble_eq_true rfl) dX10_known_34 ⟨Nat.zero_le _, Nat.zero_le _⟩ (fun r1 H locs hP hS h => ?_)
          refine lv_i2l (v := (r1).toInt64) hx hb dX10_known_37 rfl ?_
          refine lv_ladd hx hb dX10_known_38 ?_
          refine lv_lstore_n (lv' := [(3, .long ((x3 * (37 : Int64)) + (r1).toInt64)), (6, .int (((c1 >>> ((x5).toInt64 &&& 63))).toInt32 &&& (255 : Int32))), (0, .ref (G.1 0)), (1, .long c1), (5, .int x5)]) hx hb dX10_known_39 rfl hl (by decide) rfl (fun ls hl => ?_)
          refine lv_iinc (v := (x5 + (-8 : Int32))) (lv' := [(5, .int (x5 + (-8 : Int32))), (3, .long ((x3 * (37 : Int64)) + (r1).toInt64)), (6, .int (((c1 >>> ((x5).toInt64 &&& 63))).toInt32 &&& (255 : Int32))), (0, .ref (G.1 0)), (1, .long c1)]) hx hb dX10_known_40 hl (k := 4) rfl rfl (by decide) rfl (fun ls hl => ?_)
          refine lv_goto (tgt := 6) hx hb dX10_known_43 (by decide) ?_
          exact ih ((x3 * (37 : Int64)) + (r1).toInt64) (x5 + (-8 : Int32)) u _ _ _ h hP hD hS (lv_sub hl [3, 4, 1, 0] rfl)
  unfold wp_X10_known at h
  refine lv_lconst (v := (0 : Int64)) hx hb dX10_known_0 (by decide) ?_
  refine lv_lstore_n (lv' := [(3, .long (0 : Int64)), (0, .ref (G.1 0)), (1, .long p0)]) hx hb dX10_known_1 rfl hl (by decide) rfl (fun ls hl => ?_)
  refine lv_bipush (v := (56 : Int32)) hx hb dX10_known_2 (by decide) ?_
  refine lv_istore (lv' := [(5, .int (56 : Int32)), (3, .long (0 : Int64)), (0, .ref (G.1 0)), (1, .long p0)]) hx hb dX10_known_4 hl (by decide) rfl (fun ls hl => ?_)
  obtain ⟨n, h⟩ := h
  refine L_6 p0 _ (fun y2 u3 H locs ls h hP hD hS hl => ?_) n (0 : Int64) (56 : Int32) u _ _ _ h hP hD hS (lv_sub hl [2, 3, 1, 0] rfl)
  refine lv_aload_n hx hb dX10_known_46 rfl (lv_at hl 0 rfl) ?_
  refine gR_19 E hP kfX10_70 dX10_known_47 ?_
  refine lv_aload_n hx hb dX10_known_50 rfl (lv_at hl 0 rfl) ?_
  refine gR_21 E hP kfX10_76 (v := (gI u3 21)) rfl dX10_known_51 ?_
  refine lv_lload_n hx hb dX10_known_54 rfl (lv_at hl 1 rfl) ?_
  obtain ⟨h9, h⟩ := h
  refine yR_19 E hP hD hS h9 (f := (gB u3 19)) rfl dX10_known_55 (fun H locs hP hD hS => ?_)
  refine lv_aload_n hx hb dX10_known_56 rfl (lv_at hl 0 rfl) ?_
  refine gR_20 E hP kfX10_73 dX10_known_57 ?_
  refine lv_aload_n hx hb dX10_known_60 rfl (lv_at hl 0 rfl) ?_
  refine gR_21 E hP kfX10_76 (v := (gI u3 21)) rfl dX10_known_61 ?_
  refine lv_ldc2 (v := (-1 : Int64)) hx hb hown (hW _ kcX10_197) dX10_known_64 ?_
  obtain ⟨h9, h⟩ := h
  refine yR_20 E hP hD hS h9 (f := (gB u3 20)) rfl dX10_known_67 (fun H locs hP hD hS => ?_)
  refine lv_aload_n hx hb dX10_known_68 rfl (lv_at hl 0 rfl) ?_
  refine lv_dup hx hb dX10_known_69 rfl ?_
  refine gR_21 E hP kfX10_76 (v := (gI u3 21)) rfl dX10_known_70 ?_
  refine lv_iconst (v := (1 : Int32)) hx hb dX10_known_73 (by decide) ?_
  refine lv_iadd hx hb dX10_known_74 ?_
  refine pR_21 E hP hD hS kfX10_76 dX10_known_75 (fun H locs hP hD hS => ?_)
  exact retR_v E hr hlk hP hD hS h dX10_known_78
def wp_X10_thrown  (u : St) (Q : Int32 → St → Prop) : Prop := Q (gI u 0) u
abbrev rm_X10_thrown : Room := { frames := 0, cells := 0, slots := 0, locals := 0 }
set_option maxHeartbeats 4000000 in
set_option maxRecDepth 100000 in
theorem t_X10_thrown (l : Launch) (D : va_G) (G : Gd)  (u : St) (Q : Int32 → St → Prop) (h : wp_X10_thrown  u Q) : MRi l D G yX10_thrown cX10_thrown 1 (some .int) rm_X10_thrown [.ref (G.1 0)] u Q := by
  refine startR_i (by decide) ?_
  intro p e s m args below meth c E hr hlk hml hP hD hS hA
  have hx := E.1
  have hb := E.2.1
  have hown := E.2.2.1
  have hW := E.2.2.2.1
  have hl := lv_entry ([.ref (G.1 0)]) (n := 1) (Nat.le_of_ble_eq_true rfl)
  rw [lg_entry_eq]
  generalize (lg_sl ([.ref (G.1 0)]) ++ List.replicate (1 - (lg_sl ([.ref (G.1 0)])).length) Slot.unset).toArray = ls at hl ⊢
  have hl : lv_has ls 1 [(0, .ref (G.1 0))] := hl
  unfold wp_X10_thrown at h
  refine lv_aload_n hx hb dX10_thrown_0 rfl (lv_at hl 0 rfl) ?_
  refine gR_0 E hP kfX10_7 (v := (gI u 0)) rfl dX10_thrown_1 ?_
  exact retR_i E hr hlk hP hD hS h dX10_thrown_4
def l_X10_write_11 (Q : Int32 → St → Prop) (c1 : Int64) (K : Int32 → St → Prop) : Nat → Int32 → Int32 → St → Prop
  | 0, _, _, _ => False
  | n + 1, x3, x4, u => ((x4 < 0 → K x3 u) ∧ (¬ x4 < 0 → (((((c1 >>> ((x4).toInt64 &&& 63))).toInt32 &&& (255 : Int32)) = 0 → (((((c1 >>> ((x4).toInt64 &&& 63))).toInt32 &&& (255 : Int32)) = 0 → l_X10_write_11 Q c1 K n (x3 + (0 : Int32)) (x4 + (-8 : Int32)) u) ∧ (¬ (((c1 >>> ((x4).toInt64 &&& 63))).toInt32 &&& (255 : Int32)) = 0 → l_X10_write_11 Q c1 K n (x3 + (1 : Int32)) (x4 + (-8 : Int32)) u))) ∧ (¬ (((c1 >>> ((x4).toInt64 &&& 63))).toInt32 &&& (255 : Int32)) = 0 → (((((c1 >>> ((x4).toInt64 &&& 63))).toInt32 &&& (255 : Int32)) = (10 : Int32) → (((((c1 >>> ((x4).toInt64 &&& 63))).toInt32 &&& (255 : Int32)) = 0 → l_X10_write_11 Q c1 K n (x3 + (0 : Int32)) (x4 + (-8 : Int32)) u) ∧ (¬ (((c1 >>> ((x4).toInt64 &&& 63))).toInt32 &&& (255 : Int32)) = 0 → l_X10_write_11 Q c1 K n (x3 + (1 : Int32)) (x4 + (-8 : Int32)) u))) ∧ (¬ (((c1 >>> ((x4).toInt64 &&& 63))).toInt32 &&& (255 : Int32)) = (10 : Int32) → (((((c1 >>> ((x4).toInt64 &&& 63))).toInt32 &&& (255 : Int32)) < (32 : Int32) → Q (0 : Int32) u) ∧ (¬ (((c1 >>> ((x4).toInt64 &&& 63))).toInt32 &&& (255 : Int32)) < (32 : Int32) → (((((c1 >>> ((x4).toInt64 &&& 63))).toInt32 &&& (255 : Int32)) ≤ (126 : Int32) → (((((c1 >>> ((x4).toInt64 &&& 63))).toInt32 &&& (255 : Int32)) = 0 → l_X10_write_11 Q c1 K n (x3 + (0 : Int32)) (x4 + (-8 : Int32)) u) ∧ (¬ (((c1 >>> ((x4).toInt64 &&& 63))).toInt32 &&& (255 : Int32)) = 0 → l_X10_write_11 Q c1 K n (x3 + (1 : Int32)) (x4 + (-8 : Int32)) u))) ∧ (¬ (((c1 >>> ((x4).toInt64 &&& 63))).toInt32 &&& (255 : Int32)) ≤ (126 : Int32) → Q (0 : Int32) u))))))))))
def l_X10_write_92 (c1 : Int64) (K : St → Prop) : Nat → Int32 → St → Prop
  | 0, _, _ => False
  | n + 1, x4, u => ((x4 < 0 → K u) ∧ (¬ x4 < 0 → (((((c1 >>> ((x4).toInt64 &&& 63))).toInt32 &&& (255 : Int32)) = 0 → l_X10_write_92  c1 K n (x4 + (-8 : Int32)) u) ∧ (¬ (((c1 >>> ((x4).toInt64 &&& 63))).toInt32 &&& (255 : Int32)) = 0 → vp_in (gI u 5) 2000 ∧ l_X10_write_92  c1 K n (x4 + (-8 : Int32)) (sI (sA u 4 (upd (gA u 4) ((gI u 5)).toNatClampNeg (((c1 >>> ((x4).toInt64 &&& 63))).toInt32 &&& (255 : Int32)))) 5 ((gI u 5) + (1 : Int32)))))))
def wp_X10_write (p0 : Int64) (u : St) (Q : Int32 → St → Prop) : Prop := (∃ k5 : Nat, l_X10_write_11 Q p0 (fun (y1 : Int32) (u2 : St) => ((((gI u2 5) + y1) ≤ (2000 : Int32) → (∃ k4 : Nat, l_X10_write_92  p0 (fun (u3 : St) => Q (1 : Int32) u3) k4 (56 : Int32) u2)) ∧ (¬ ((gI u2 5) + y1) ≤ (2000 : Int32) → Q (0 : Int32) u2))) k5 (0 : Int32) (56 : Int32) (sI u 0 (0 : Int32)))
abbrev rm_X10_write : Room := { frames := 0, cells := 0, slots := 0, locals := 0 }
set_option maxHeartbeats 4000000 in
set_option maxRecDepth 100000 in
theorem t_X10_write (l : Launch) (D : va_G) (G : Gd) (p0 : Int64) (u : St) (Q : Int32 → St → Prop) (h : wp_X10_write p0 u Q) : MRi l D G yX10_write cX10_write 6 (some .boolean) rm_X10_write [.ref (G.1 0), .long p0] u Q := by
  refine startR_i (by decide) ?_
  intro p e s m args below meth c E hr hlk hml hP hD hS hA
  have hx := E.1
  have hb := E.2.1
  have hown := E.2.2.1
  have hW := E.2.2.2.1
  have hl := lv_entry ([.ref (G.1 0), .long p0]) (n := 6) (Nat.le_of_ble_eq_true rfl)
  rw [lg_entry_eq]
  generalize (lg_sl ([.ref (G.1 0), .long p0]) ++ List.replicate (6 - (lg_sl ([.ref (G.1 0), .long p0])).length) Slot.unset).toArray = ls at hl ⊢
  have hl : lv_has ls 6 [(0, .ref (G.1 0)), (1, .long p0)] := hl
  have L_11 : ∀ (c1 : Int64) (K : Int32 → St → Prop), (∀ (x3 : Int32) (u : St) (H : Heap) (locs : List Loc) (ls : Array Slot), K x3 u → va_P D vwCl (wR G u) H → va_D (AR G s.heap.size) (wR G u) → va_S (AR G s.heap.size) s.heap H locs → lv_has ls 6 [(0, .ref (G.1 0)), (1, .long c1), (3, .int x3)] → W p l e rm_X10_write s m args below meth c H locs 0 0 (MQ below (va_Qi Q (BR D G s.heap.size) (AR G s.heap.size)) args s 0 0 (AR G s.heap.size)) (F0 m 74 ls [])) → ∀ (n : Nat) (x3 : Int32) (x4 : Int32) (u : St) (H : Heap) (locs : List Loc) (ls : Array Slot), l_X10_write_11 Q c1 K n x3 x4 u → va_P D vwCl (wR G u) H → va_D (AR G s.heap.size) (wR G u) → va_S (AR G s.heap.size) s.heap H locs → lv_has ls 6 [(0, .ref (G.1 0)), (1, .long c1), (3, .int x3), (4, .int x4)] → W p l e rm_X10_write s m args below meth c H locs 0 0 (MQ below (va_Qi Q (BR D G s.heap.size) (AR G s.heap.size)) args s 0 0 (AR G s.heap.size)) (F0 m 11 ls []) := by
    intro c1 K hK n
    induction n with
    | zero => intro x3 x4 u H locs ls h; exact False.elim h
    | succ n ih =>
      intro x3 x4 u H locs ls h hP hD hS hl
      unfold l_X10_write_11 at h
      refine lv_iload hx hb dX10_write_11 (lv_at hl 3 rfl) ?_
      refine lv_if_lt (tgt := 74) hx hb dX10_write_13 (by decide) (fun hc => ?_) (fun hc => ?_)
      · have h := h.1 hc
        exact hK x3 u _ _ _ h hP hD hS (lv_sub hl [0, 1, 2] rfl)
      · have h := h.2 hc
        refine lv_lload_n hx hb dX10_write_16 rfl (lv_at hl 1 rfl) ?_
        refine lv_iload hx hb dX10_write_17 (lv_at hl 3 rfl) ?_
        refine lv_lshr (v := (c1 >>> ((x4).toInt64 &&& 63))) hx hb dX10_write_19 rfl ?_
        refine lv_l2i (v := ((c1 >>> ((x4).toInt64 &&& 63))).toInt32) hx hb dX10_write_20 rfl ?_
        refine lv_sipush (v := (255 : Int32)) hx hb dX10_write_21 (by decide) ?_
        refine lv_iand hx hb dX10_write_24 ?_
        refine lv_istore (lv' := [(5, .int (((c1 >>> ((x4).toInt64 &&& 63))).toInt32 &&& (255 : Int32))), (0, .ref (G.1 0)), (1, .long c1), (3, .int x3), (4, .int x4)]) hx hb dX10_write_25 hl (by decide) rfl (fun ls hl => ?_)
        refine lv_iload hx hb dX10_write_27 (lv_at hl 0 rfl) ?_
        refine lv_if_eq (tgt := 55) hx hb dX10_write_29 (by decide) (fun hc => ?_) (fun hc => ?_)
        · have h := h.1 hc
          refine lv_iload_n hx hb dX10_write_55 rfl (lv_at hl 3 rfl) ?_
          refine lv_iload hx hb dX10_write_56 (lv_at hl 0 rfl) ?_
          refine lv_if_eq (tgt := 65) hx hb dX10_write_58 (by decide) (fun hc => ?_) (fun hc => ?_)
          · have h := h.1 hc
            refine lv_iconst (v := (0 : Int32)) hx hb dX10_write_65 (by decide) ?_
            refine lv_iadd hx hb dX10_write_66 ?_
            refine lv_istore_n (lv' := [(3, .int (x3 + (0 : Int32))), (5, .int (((c1 >>> ((x4).toInt64 &&& 63))).toInt32 &&& (255 : Int32))), (0, .ref (G.1 0)), (1, .long c1), (4, .int x4)]) hx hb dX10_write_67 rfl hl (by decide) rfl (fun ls hl => ?_)
            refine lv_iinc (v := (x4 + (-8 : Int32))) (lv' := [(4, .int (x4 + (-8 : Int32))), (3, .int (x3 + (0 : Int32))), (5, .int (((c1 >>> ((x4).toInt64 &&& 63))).toInt32 &&& (255 : Int32))), (0, .ref (G.1 0)), (1, .long c1)]) hx hb dX10_write_68 hl (k := 4) rfl rfl (by decide) rfl (fun ls hl => ?_)
            refine lv_goto (tgt := 11) hx hb dX10_write_71 (by decide) ?_
            exact ih (x3 + (0 : Int32)) (x4 + (-8 : Int32)) u _ _ _ h hP hD hS (lv_sub hl [3, 4, 1, 0] rfl)
          · have h := h.2 hc
            refine lv_iconst (v := (1 : Int32)) hx hb dX10_write_61 (by decide) ?_
            refine lv_goto (tgt := 66) hx hb dX10_write_62 (by decide) ?_
            refine lv_iadd hx hb dX10_write_66 ?_
            refine lv_istore_n (lv' := [(3, .int (x3 + (1 : Int32))), (5, .int (((c1 >>> ((x4).toInt64 &&& 63))).toInt32 &&& (255 : Int32))), (0, .ref (G.1 0)), (1, .long c1), (4, .int x4)]) hx hb dX10_write_67 rfl hl (by decide) rfl (fun ls hl => ?_)
            refine lv_iinc (v := (x4 + (-8 : Int32))) (lv' := [(4, .int (x4 + (-8 : Int32))), (3, .int (x3 + (1 : Int32))), (5, .int (((c1 >>> ((x4).toInt64 &&& 63))).toInt32 &&& (255 : Int32))), (0, .ref (G.1 0)), (1, .long c1)]) hx hb dX10_write_68 hl (k := 4) rfl rfl (by decide) rfl (fun ls hl => ?_)
            refine lv_goto (tgt := 11) hx hb dX10_write_71 (by decide) ?_
            exact ih (x3 + (1 : Int32)) (x4 + (-8 : Int32)) u _ _ _ h hP hD hS (lv_sub hl [3, 4, 1, 0] rfl)
        · have h := h.2 hc
          refine lv_iload hx hb dX10_write_32 (lv_at hl 0 rfl) ?_
          refine lv_bipush (v := (10 : Int32)) hx hb dX10_write_34 (by decide) ?_
          refine lv_icmp_eq (tgt := 55) hx hb dX10_write_36 (by decide) (fun hc => ?_) (fun hc => ?_)
          · have h := h.1 hc
            refine lv_iload_n hx hb dX10_write_55 rfl (lv_at hl 3 rfl) ?_
            refine lv_iload hx hb dX10_write_56 (lv_at hl 0 rfl) ?_
            refine lv_if_eq (tgt := 65) hx hb dX10_write_58 (by decide) (fun hc => ?_) (fun hc => ?_)
            · have h := h.1 hc
              refine lv_iconst (v := (0 : Int32)) hx hb dX10_write_65 (by decide) ?_
              refine lv_iadd hx hb dX10_write_66 ?_
              refine lv_istore_n (lv' := [(3, .int (x3 + (0 : Int32))), (5, .int (((c1 >>> ((x4).toInt64 &&& 63))).toInt32 &&& (255 : Int32))), (0, .ref (G.1 0)), (1, .long c1), (4, .int x4)]) hx hb dX10_write_67 rfl hl (by decide) rfl (fun ls hl => ?_)
              refine lv_iinc (v := (x4 + (-8 : Int32))) (lv' := [(4, .int (x4 + (-8 : Int32))), (3, .int (x3 + (0 : Int32))), (5, .int (((c1 >>> ((x4).toInt64 &&& 63))).toInt32 &&& (255 : Int32))), (0, .ref (G.1 0)), (1, .long c1)]) hx hb dX10_write_68 hl (k := 4) rfl rfl (by decide) rfl (fun ls hl => ?_)
              refine lv_goto (tgt := 11) hx hb dX10_write_71 (by decide) ?_
              exact ih (x3 + (0 : Int32)) (x4 + (-8 : Int32)) u _ _ _ h hP hD hS (lv_sub hl [3, 4, 1, 0] rfl)
            · have h := h.2 hc
              refine lv_iconst (v := (1 : Int32)) hx hb dX10_write_61 (by decide) ?_
              refine lv_goto (tgt := 66) hx hb dX10_write_62 (by decide) ?_
              refine lv_iadd hx hb dX10_write_66 ?_
              refine lv_istore_n (lv' := [(3, .int (x3 + (1 : Int32))), (5, .int (((c1 >>> ((x4).toInt64 &&& 63))).toInt32 &&& (255 : Int32))), (0, .ref (G.1 0)), (1, .long c1), (4, .int x4)]) hx hb dX10_write_67 rfl hl (by decide) rfl (fun ls hl => ?_)
              refine lv_iinc (v := (x4 + (-8 : Int32))) (lv' := [(4, .int (x4 + (-8 : Int32))), (3, .int (x3 + (1 : Int32))), (5, .int (((c1 >>> ((x4).toInt64 &&& 63))).toInt32 &&& (255 : Int32))), (0, .ref (G.1 0)), (1, .long c1)]) hx hb dX10_write_68 hl (k := 4) rfl rfl (by decide) rfl (fun ls hl => ?_)
              refine lv_goto (tgt := 11) hx hb dX10_write_71 (by decide) ?_
              exact ih (x3 + (1 : Int32)) (x4 + (-8 : Int32)) u _ _ _ h hP hD hS (lv_sub hl [3, 4, 1, 0] rfl)
          · have h := h.2 hc
            refine lv_iload hx hb dX10_write_39 (lv_at hl 0 rfl) ?_
            refine lv_bipush (v := (32 : Int32)) hx hb dX10_write_41 (by decide) ?_
            refine lv_icmp_lt (tgt := 53) hx hb dX10_write_43 (by decide) (fun hc => ?_) (fun hc => ?_)
            · have h := h.1 hc
              refine lv_iconst (v := (0 : Int32)) hx hb dX10_write_53 (by decide) ?_
              exact retR_z E hr hlk hP hD hS (vz_n vz_0) h dX10_write_54
            · have h := h.2 hc
              refine lv_iload hx hb dX10_write_46 (lv_at hl 0 rfl) ?_
              refine lv_bipush (v := (126 : Int32)) hx hb dX10_write_48 (by decide) ?_
              refine lv_icmp_le (tgt := 55) hx hb dX10_write_50 (by decide) (fun hc => ?_) (fun hc => ?_)
              · have h := h.1 hc
                refine lv_iload_n hx hb dX10_write_55 rfl (lv_at hl 3 rfl) ?_
                refine lv_iload hx hb dX10_write_56 (lv_at hl 0 rfl) ?_
                refine lv_if_eq (tgt := 65) hx hb dX10_write_58 (by decide) (fun hc => ?_) (fun hc => ?_)
                · have h := h.1 hc
                  refine lv_iconst (v := (0 : Int32)) hx hb dX10_write_65 (by decide) ?_
                  refine lv_iadd hx hb dX10_write_66 ?_
                  refine lv_istore_n (lv' := [(3, .int (x3 + (0 : Int32))), (5, .int (((c1 >>> ((x4).toInt64 &&& 63))).toInt32 &&& (255 : Int32))), (0, .ref (G.1 0)), (1, .long c1), (4, .int x4)]) hx hb dX10_write_67 rfl hl (by decide) rfl (fun ls hl => ?_)
                  refine lv_iinc (v := (x4 + (-8 : Int32))) (lv' := [(4, .int (x4 + (-8 : Int32))), (3, .int (x3 + (0 : Int32))), (5, .int (((c1 >>> ((x4).toInt64 &&& 63))).toInt32 &&& (255 : Int32))), (0, .ref (G.1 0)), (1, .long c1)]) hx hb dX10_write_68 hl (k := 4) rfl rfl (by decide) rfl (fun ls hl => ?_)
                  refine lv_goto (tgt := 11) hx hb dX10_write_71 (by decide) ?_
                  exact ih (x3 + (0 : Int32)) (x4 + (-8 : Int32)) u _ _ _ h hP hD hS (lv_sub hl [3, 4, 1, 0] rfl)
                · have h := h.2 hc
                  refine lv_iconst (v := (1 : Int32)) hx hb dX10_write_61 (by decide) ?_
                  refine lv_goto (tgt := 66) hx hb dX10_write_62 (by decide) ?_
                  refine lv_iadd hx hb dX10_write_66 ?_
                  refine lv_istore_n (lv' := [(3, .int (x3 + (1 : Int32))), (5, .int (((c1 >>> ((x4).toInt64 &&& 63))).toInt32 &&& (255 : Int32))), (0, .ref (G.1 0)), (1, .long c1), (4, .int x4)]) hx hb dX10_write_67 rfl hl (by decide) rfl (fun ls hl => ?_)
                  refine lv_iinc (v := (x4 + (-8 : Int32))) (lv' := [(4, .int (x4 + (-8 : Int32))), (3, .int (x3 + (1 : Int32))), (5, .int (((c1 >>> ((x4).toInt64 &&& 63))).toInt32 &&& (255 : Int32))), (0, .ref (G.1 0)), (1, .long c1)]) hx hb dX10_write_68 hl (k := 4) rfl rfl (by decide) rfl (fun ls hl => ?_)
                  refine lv_goto (tgt := 11) hx hb dX10_write_71 (by decide) ?_
                  exact ih (x3 + (1 : Int32)) (x4 + (-8 : Int32)) u _ _ _ h hP hD hS (lv_sub hl [3, 4, 1, 0] rfl)
              · have h := h.2 hc
                refine lv_iconst (v := (0 : Int32)) hx hb dX10_write_53 (by decide) ?_
                exact retR_z E hr hlk hP hD hS (vz_n vz_0) h dX10_write_54
  have L_92 : ∀ (c1 : Int64) (K : St → Prop), (∀  (u : St) (H : Heap) (locs : List Loc) (ls : Array Slot), K  u → va_P D vwCl (wR G u) H → va_D (AR G s.heap.size) (wR G u) → va_S (AR G s.heap.size) s.heap H locs → lv_has ls 6 [] → W p l e rm_X10_write s m args below meth c H locs 0 0 (MQ below (va_Qi Q (BR D G s.heap.size) (AR G s.heap.size)) args s 0 0 (AR G s.heap.size)) (F0 m 140 ls [])) → ∀ (n : Nat) (x4 : Int32) (u : St) (H : Heap) (locs : List Loc) (ls : Array Slot), l_X10_write_92  c1 K n x4 u → va_P D vwCl (wR G u) H → va_D (AR G s.heap.size) (wR G u) → va_S (AR G s.heap.size) s.heap H locs → lv_has ls 6 [(0, .ref (G.1 0)), (1, .long c1), (4, .int x4)] → W p l e rm_X10_write s m args below meth c H locs 0 0 (MQ below (va_Qi Q (BR D G s.heap.size) (AR G s.heap.size)) args s 0 0 (AR G s.heap.size)) (F0 m 92 ls []) := by
    intro c1 K hK n
    induction n with
    | zero => intro x4 u H locs ls h; exact False.elim h
    | succ n ih =>
      intro x4 u H locs ls h hP hD hS hl
      unfold l_X10_write_92 at h
      refine lv_iload hx hb dX10_write_92 (lv_at hl 2 rfl) ?_
      refine lv_if_lt (tgt := 140) hx hb dX10_write_94 (by decide) (fun hc => ?_) (fun hc => ?_)
      · have h := h.1 hc
        exact hK u _ _ _ h hP hD hS (lv_sub hl [] rfl)
      · have h := h.2 hc
        refine lv_lload_n hx hb dX10_write_97 rfl (lv_at hl 1 rfl) ?_
        refine lv_iload hx hb dX10_write_98 (lv_at hl 2 rfl) ?_
        refine lv_lshr (v := (c1 >>> ((x4).toInt64 &&& 63))) hx hb dX10_write_100 rfl ?_
        refine lv_l2i (v := ((c1 >>> ((x4).toInt64 &&& 63))).toInt32) hx hb dX10_write_101 rfl ?_
        refine lv_sipush (v := (255 : Int32)) hx hb dX10_write_102 (by decide) ?_
        refine lv_iand hx hb dX10_write_105 ?_
        refine lv_istore (lv' := [(5, .int (((c1 >>> ((x4).toInt64 &&& 63))).toInt32 &&& (255 : Int32))), (0, .ref (G.1 0)), (1, .long c1), (4, .int x4)]) hx hb dX10_write_106 hl (by decide) rfl (fun ls hl => ?_)
        refine lv_iload hx hb dX10_write_108 (lv_at hl 0 rfl) ?_
        refine lv_if_eq (tgt := 134) hx hb dX10_write_110 (by decide) (fun hc => ?_) (fun hc => ?_)
        · have h := h.1 hc
          refine lv_iinc (v := (x4 + (-8 : Int32))) (lv' := [(4, .int (x4 + (-8 : Int32))), (5, .int (((c1 >>> ((x4).toInt64 &&& 63))).toInt32 &&& (255 : Int32))), (0, .ref (G.1 0)), (1, .long c1)]) hx hb dX10_write_134 hl (k := 3) rfl rfl (by decide) rfl (fun ls hl => ?_)
          refine lv_goto (tgt := 92) hx hb dX10_write_137 (by decide) ?_
          exact ih (x4 + (-8 : Int32)) u _ _ _ h hP hD hS (lv_sub hl [2, 3, 0] rfl)
        · have h := h.2 hc
          refine lv_aload_n hx hb dX10_write_113 rfl (lv_at hl 1 rfl) ?_
          refine gR_4 E hP kfX10_22 dX10_write_114 ?_
          refine lv_aload_n hx hb dX10_write_117 rfl (lv_at hl 1 rfl) ?_
          refine gR_5 E hP kfX10_26 (v := (gI u 5)) rfl dX10_write_118 ?_
          refine lv_iload hx hb dX10_write_121 (lv_at hl 0 rfl) ?_
          obtain ⟨h9, h⟩ := h
          refine yR_4 E hP hD hS h9 (f := (gA u 4)) rfl dX10_write_123 (fun H locs hP hD hS => ?_)
          refine lv_aload_n hx hb dX10_write_124 rfl (lv_at hl 1 rfl) ?_
          refine lv_dup hx hb dX10_write_125 rfl ?_
          refine gR_5 E hP kfX10_26 (v := (gI u 5)) rfl dX10_write_126 ?_
          refine lv_iconst (v := (1 : Int32)) hx hb dX10_write_129 (by decide) ?_
          refine lv_iadd hx hb dX10_write_130 ?_
          refine pR_5 E hP hD hS kfX10_26 dX10_write_131 (fun H locs hP hD hS => ?_)
          refine lv_iinc (v := (x4 + (-8 : Int32))) (lv' := [(4, .int (x4 + (-8 : Int32))), (5, .int (((c1 >>> ((x4).toInt64 &&& 63))).toInt32 &&& (255 : Int32))), (0, .ref (G.1 0)), (1, .long c1)]) hx hb dX10_write_134 hl (k := 3) rfl rfl (by decide) rfl (fun ls hl => ?_)
          refine lv_goto (tgt := 92) hx hb dX10_write_137 (by decide) ?_
          exact ih (x4 + (-8 : Int32)) (sI (sA u 4 (upd (gA u 4) ((gI u 5)).toNatClampNeg (((c1 >>> ((x4).toInt64 &&& 63))).toInt32 &&& (255 : Int32)))) 5 ((gI u 5) + (1 : Int32))) _ _ _ h hP hD hS (lv_sub hl [2, 3, 0] rfl)
  unfold wp_X10_write at h
  refine lv_aload_n hx hb dX10_write_0 rfl (lv_at hl 0 rfl) ?_
  refine lv_iconst (v := (0 : Int32)) hx hb dX10_write_1 (by decide) ?_
  refine pR_0 E hP hD hS kfX10_7 dX10_write_2 (fun H locs hP hD hS => ?_)
  refine lv_iconst (v := (0 : Int32)) hx hb dX10_write_5 (by decide) ?_
  refine lv_istore_n (lv' := [(3, .int (0 : Int32)), (0, .ref (G.1 0)), (1, .long p0)]) hx hb dX10_write_6 rfl hl (by decide) rfl (fun ls hl => ?_)
  refine lv_bipush (v := (56 : Int32)) hx hb dX10_write_7 (by decide) ?_
  refine lv_istore (lv' := [(4, .int (56 : Int32)), (3, .int (0 : Int32)), (0, .ref (G.1 0)), (1, .long p0)]) hx hb dX10_write_9 hl (by decide) rfl (fun ls hl => ?_)
  obtain ⟨n, h⟩ := h
  refine L_11 p0 _ (fun y1 u2 H locs ls h hP hD hS hl => ?_) n (0 : Int32) (56 : Int32) (sI u 0 (0 : Int32)) _ _ _ h hP hD hS (lv_sub hl [2, 3, 1, 0] rfl)
  refine lv_aload_n hx hb dX10_write_74 rfl (lv_at hl 0 rfl) ?_
  refine gR_5 E hP kfX10_26 (v := (gI u2 5)) rfl dX10_write_75 ?_
  refine lv_iload_n hx hb dX10_write_78 rfl (lv_at hl 2 rfl) ?_
  refine lv_iadd hx hb dX10_write_79 ?_
  refine lv_sipush (v := (2000 : Int32)) hx hb dX10_write_80 (by decide) ?_
  refine lv_icmp_le (tgt := 88) hx hb dX10_write_83 (by decide) (fun hc => ?_) (fun hc => ?_)
  · have h := h.1 hc
    refine lv_bipush (v := (56 : Int32)) hx hb dX10_write_88 (by decide) ?_
    refine lv_istore (lv' := [(4, .int (56 : Int32)), (0, .ref (G.1 0)), (1, .long p0), (3, .int y1)]) hx hb dX10_write_90 hl (by decide) rfl (fun ls hl => ?_)
    obtain ⟨n, h⟩ := h
    refine L_92 p0 _ (fun u3 H locs ls h hP hD hS hl => ?_) n (56 : Int32) u2 _ _ _ h hP hD hS (lv_sub hl [1, 2, 0] rfl)
    refine lv_iconst (v := (1 : Int32)) hx hb dX10_write_140 (by decide) ?_
    exact retR_z E hr hlk hP hD hS (vz_n vz_1) h dX10_write_141
  · have h := h.2 hc
    refine lv_iconst (v := (0 : Int32)) hx hb dX10_write_86 (by decide) ?_
    exact retR_z E hr hlk hP hD hS (vz_n vz_0) h dX10_write_87
def wp_X10_clear  (u : St) (Q : St → Prop) : Prop := Q (sI (sI (sI (sI u 0 (0 : Int32)) 5 (0 : Int32)) 6 (0 : Int32)) 7 (0 : Int32))
abbrev rm_X10_clear : Room := { frames := 0, cells := 0, slots := 0, locals := 0 }
set_option maxHeartbeats 4000000 in
set_option maxRecDepth 100000 in
theorem t_X10_clear (l : Launch) (D : va_G) (G : Gd)  (u : St) (Q : St → Prop) (h : wp_X10_clear  u Q) : MRv l D G yX10_clear cX10_clear 1 none rm_X10_clear [.ref (G.1 0)] u Q := by
  refine startR_v (by decide) ?_
  intro p e s m args below meth c E hr hlk hml hP hD hS hA
  have hx := E.1
  have hb := E.2.1
  have hown := E.2.2.1
  have hW := E.2.2.2.1
  have hl := lv_entry ([.ref (G.1 0)]) (n := 1) (Nat.le_of_ble_eq_true rfl)
  rw [lg_entry_eq]
  generalize (lg_sl ([.ref (G.1 0)]) ++ List.replicate (1 - (lg_sl ([.ref (G.1 0)])).length) Slot.unset).toArray = ls at hl ⊢
  have hl : lv_has ls 1 [(0, .ref (G.1 0))] := hl
  unfold wp_X10_clear at h
  refine lv_aload_n hx hb dX10_clear_0 rfl (lv_at hl 0 rfl) ?_
  refine lv_iconst (v := (0 : Int32)) hx hb dX10_clear_1 (by decide) ?_
  refine pR_0 E hP hD hS kfX10_7 dX10_clear_2 (fun H locs hP hD hS => ?_)
  refine lv_aload_n hx hb dX10_clear_5 rfl (lv_at hl 0 rfl) ?_
  refine lv_iconst (v := (0 : Int32)) hx hb dX10_clear_6 (by decide) ?_
  refine pR_5 E hP hD hS kfX10_26 dX10_clear_7 (fun H locs hP hD hS => ?_)
  refine lv_aload_n hx hb dX10_clear_10 rfl (lv_at hl 0 rfl) ?_
  refine lv_iconst (v := (0 : Int32)) hx hb dX10_clear_11 (by decide) ?_
  refine pR_6 E hP hD hS kfX10_29 dX10_clear_12 (fun H locs hP hD hS => ?_)
  refine lv_aload_n hx hb dX10_clear_15 rfl (lv_at hl 0 rfl) ?_
  refine lv_iconst (v := (0 : Int32)) hx hb dX10_clear_16 (by decide) ?_
  refine pR_7 E hP hD hS kfX10_32 dX10_clear_17 (fun H locs hP hD hS => ?_)
  exact retR_v E hr hlk hP hD hS h dX10_clear_20
def wp_X10_blank (p0 : Int32) (Q : Int32 → Prop) : Prop := ((p0 = (32 : Int32) → Q (1 : Int32)) ∧ (¬ p0 = (32 : Int32) → ((p0 = (10 : Int32) → Q (1 : Int32)) ∧ (¬ p0 = (10 : Int32) → Q (0 : Int32)))))
abbrev rm_X10_blank : Room := { frames := 0, cells := 0, slots := 0, locals := 0 }
set_option maxHeartbeats 4000000 in
set_option maxRecDepth 100000 in
theorem t_X10_blank (l : Launch) (p0 : Int32) (Q : Int32 → Prop) (h : wp_X10_blank p0 Q) : M0i l yX10_blank cX10_blank 1 (some .boolean) rm_X10_blank [.int p0] Q := by
  refine start0_i (by decide) ?_
  intro p e s m args below meth c hx hb hown hW hr hlk hml hS
  have hP : va_P ((fun _ => 0), (fun _ _ => 0)) vwCl [] s.heap := fun k q h => by simp at h
  have hA : ∀ q, s.heap.size ≤ q → (fun q => s.heap.size ≤ q) q := fun _ h => h
  have hl := lv_entry ([.int p0]) (n := 1) (Nat.le_of_ble_eq_true rfl)
  rw [lg_entry_eq]
  generalize (lg_sl ([.int p0]) ++ List.replicate (1 - (lg_sl ([.int p0])).length) Slot.unset).toArray = ls at hl ⊢
  have hl : lv_has ls 1 [(0, .int p0)] := hl
  unfold wp_X10_blank at h
  refine lv_iload_n hx hb dX10_blank_0 rfl (lv_at hl 0 rfl) ?_
  refine lv_bipush (v := (32 : Int32)) hx hb dX10_blank_1 (by decide) ?_
  refine lv_icmp_eq (tgt := 12) hx hb dX10_blank_3 (by decide) (fun hc => ?_) (fun hc => ?_)
  · have h := h.1 hc
    refine lv_iconst (v := (1 : Int32)) hx hb dX10_blank_12 (by decide) ?_
    refine lv_goto (tgt := 17) hx hb dX10_blank_13 (by decide) ?_
    exact ret0_z hx hb hr hlk hS (vz_n vz_1) h dX10_blank_17
  · have h := h.2 hc
    refine lv_iload_n hx hb dX10_blank_6 rfl (lv_at hl 0 rfl) ?_
    refine lv_bipush (v := (10 : Int32)) hx hb dX10_blank_7 (by decide) ?_
    refine lv_icmp_ne (tgt := 16) hx hb dX10_blank_9 (by decide) (fun hc => ?_) (fun hc => ?_)
    · have h := h.2 hc
      refine lv_iconst (v := (0 : Int32)) hx hb dX10_blank_16 (by decide) ?_
      exact ret0_z hx hb hr hlk hS (vz_n vz_0) h dX10_blank_17
    · have h := h.1 hc
      refine lv_iconst (v := (1 : Int32)) hx hb dX10_blank_12 (by decide) ?_
      refine lv_goto (tgt := 17) hx hb dX10_blank_13 (by decide) ?_
      exact ret0_z hx hb hr hlk hS (vz_n vz_1) h dX10_blank_17
def wp_X10_charAt (p0 : Int32) (u : St) (Q : Int32 → St → Prop) : Prop := (((gI u 5) ≤ p0 → Q (-1 : Int32) u) ∧ (¬ (gI u 5) ≤ p0 → vp_in p0 2000 ∧ Q ((gA u 4) (p0).toNatClampNeg) u))
abbrev rm_X10_charAt : Room := { frames := 0, cells := 0, slots := 0, locals := 0 }
set_option maxHeartbeats 4000000 in
set_option maxRecDepth 100000 in
theorem t_X10_charAt (l : Launch) (D : va_G) (G : Gd) (p0 : Int32) (u : St) (Q : Int32 → St → Prop) (h : wp_X10_charAt p0 u Q) : MRi l D G yX10_charAt cX10_charAt 2 (some .int) rm_X10_charAt [.ref (G.1 0), .int p0] u Q := by
  refine startR_i (by decide) ?_
  intro p e s m args below meth c E hr hlk hml hP hD hS hA
  have hx := E.1
  have hb := E.2.1
  have hown := E.2.2.1
  have hW := E.2.2.2.1
  have hl := lv_entry ([.ref (G.1 0), .int p0]) (n := 2) (Nat.le_of_ble_eq_true rfl)
  rw [lg_entry_eq]
  generalize (lg_sl ([.ref (G.1 0), .int p0]) ++ List.replicate (2 - (lg_sl ([.ref (G.1 0), .int p0])).length) Slot.unset).toArray = ls at hl ⊢
  have hl : lv_has ls 2 [(0, .ref (G.1 0)), (1, .int p0)] := hl
  unfold wp_X10_charAt at h
  refine lv_iload_n hx hb dX10_charAt_0 rfl (lv_at hl 1 rfl) ?_
  refine lv_aload_n hx hb dX10_charAt_1 rfl (lv_at hl 0 rfl) ?_
  refine gR_5 E hP kfX10_26 (v := (gI u 5)) rfl dX10_charAt_2 ?_
  refine lv_icmp_ge (tgt := 17) hx hb dX10_charAt_5 (by decide) (fun hc => ?_) (fun hc => ?_)
  · have h := h.1 hc
    refine lv_iconst (v := (-1 : Int32)) hx hb dX10_charAt_17 (by decide) ?_
    exact retR_i E hr hlk hP hD hS h dX10_charAt_18
  · have h := h.2 hc
    refine lv_aload_n hx hb dX10_charAt_8 rfl (lv_at hl 0 rfl) ?_
    refine gR_4 E hP kfX10_22 dX10_charAt_9 ?_
    refine lv_iload_n hx hb dX10_charAt_12 rfl (lv_at hl 1 rfl) ?_
    obtain ⟨h9, h⟩ := h
    refine xR_4 E hP h9 (v := ((gA u 4) (p0).toNatClampNeg)) rfl dX10_charAt_13 ?_
    refine lv_goto (tgt := 18) hx hb dX10_charAt_14 (by decide) ?_
    exact retR_i E hr hlk hP hD hS h dX10_charAt_18
def wp_X10_digit (p0 : Int32) (Q : Int32 → Prop) : Prop := ((p0 < (48 : Int32) → Q (0 : Int32)) ∧ (¬ p0 < (48 : Int32) → (((57 : Int32) < p0 → Q (0 : Int32)) ∧ (¬ (57 : Int32) < p0 → Q (1 : Int32)))))
abbrev rm_X10_digit : Room := { frames := 0, cells := 0, slots := 0, locals := 0 }
set_option maxHeartbeats 4000000 in
set_option maxRecDepth 100000 in
theorem t_X10_digit (l : Launch) (p0 : Int32) (Q : Int32 → Prop) (h : wp_X10_digit p0 Q) : M0i l yX10_digit cX10_digit 1 (some .boolean) rm_X10_digit [.int p0] Q := by
  refine start0_i (by decide) ?_
  intro p e s m args below meth c hx hb hown hW hr hlk hml hS
  have hP : va_P ((fun _ => 0), (fun _ _ => 0)) vwCl [] s.heap := fun k q h => by simp at h
  have hA : ∀ q, s.heap.size ≤ q → (fun q => s.heap.size ≤ q) q := fun _ h => h
  have hl := lv_entry ([.int p0]) (n := 1) (Nat.le_of_ble_eq_true rfl)
  rw [lg_entry_eq]
  generalize (lg_sl ([.int p0]) ++ List.replicate (1 - (lg_sl ([.int p0])).length) Slot.unset).toArray = ls at hl ⊢
  have hl : lv_has ls 1 [(0, .int p0)] := hl
  unfold wp_X10_digit at h
  refine lv_iload_n hx hb dX10_digit_0 rfl (lv_at hl 0 rfl) ?_
  refine lv_bipush (v := (48 : Int32)) hx hb dX10_digit_1 (by decide) ?_
  refine lv_icmp_lt (tgt := 16) hx hb dX10_digit_3 (by decide) (fun hc => ?_) (fun hc => ?_)
  · have h := h.1 hc
    refine lv_iconst (v := (0 : Int32)) hx hb dX10_digit_16 (by decide) ?_
    exact ret0_z hx hb hr hlk hS (vz_n vz_0) h dX10_digit_17
  · have h := h.2 hc
    refine lv_iload_n hx hb dX10_digit_6 rfl (lv_at hl 0 rfl) ?_
    refine lv_bipush (v := (57 : Int32)) hx hb dX10_digit_7 (by decide) ?_
    refine lv_icmp_gt (tgt := 16) hx hb dX10_digit_9 (by decide) (fun hc => ?_) (fun hc => ?_)
    · have h := h.1 hc
      refine lv_iconst (v := (0 : Int32)) hx hb dX10_digit_16 (by decide) ?_
      exact ret0_z hx hb hr hlk hS (vz_n vz_0) h dX10_digit_17
    · have h := h.2 hc
      refine lv_iconst (v := (1 : Int32)) hx hb dX10_digit_12 (by decide) ?_
      refine lv_goto (tgt := 17) hx hb dX10_digit_13 (by decide) ?_
      exact ret0_z hx hb hr hlk hS (vz_n vz_1) h dX10_digit_17
def wp_X10_number (p0 : Int32) (Q : Int64 → Prop) : Prop := Q ((p0).toInt64 &&& (4294967295 : Int64))
abbrev rm_X10_number : Room := { frames := 0, cells := 0, slots := 0, locals := 0 }
set_option maxHeartbeats 4000000 in
set_option maxRecDepth 100000 in
theorem t_X10_number (l : Launch) (p0 : Int32) (Q : Int64 → Prop) (h : wp_X10_number p0 Q) : M0l l yX10_number cX10_number 1 (some .long) rm_X10_number [.int p0] Q := by
  refine start0_l (by decide) ?_
  intro p e s m args below meth c hx hb hown hW hr hlk hml hS
  have hP : va_P ((fun _ => 0), (fun _ _ => 0)) vwCl [] s.heap := fun k q h => by simp at h
  have hA : ∀ q, s.heap.size ≤ q → (fun q => s.heap.size ≤ q) q := fun _ h => h
  have hl := lv_entry ([.int p0]) (n := 1) (Nat.le_of_ble_eq_true rfl)
  rw [lg_entry_eq]
  generalize (lg_sl ([.int p0]) ++ List.replicate (1 - (lg_sl ([.int p0])).length) Slot.unset).toArray = ls at hl ⊢
  have hl : lv_has ls 1 [(0, .int p0)] := hl
  unfold wp_X10_number at h
  refine lv_iload_n hx hb dX10_number_0 rfl (lv_at hl 0 rfl) ?_
  refine lv_i2l (v := (p0).toInt64) hx hb dX10_number_1 rfl ?_
  refine lv_ldc2 (v := (4294967295 : Int64)) hx hb hown (hW _ kcX10_203) dX10_number_2 ?_
  refine lv_land hx hb dX10_number_5 ?_
  exact ret0_l hx hb hr hlk hS h dX10_number_6
def l_X10_atom_91 (Q : Int32 → St → Prop) (c2 : Int32) (c6 : Int32) (K : Int32 → Int64 → St → Prop) : Nat → Int32 → Int64 → St → Prop
  | 0, _, _, _ => False
  | n + 1, x3, x4, u => wp_X10_charAt x3 u (fun (r3 : Int32) (u4 : St) => wp_X10_digit r3 (fun (r5 : Int32) => ((r5 = 0 → K x3 x4 u4) ∧ (¬ r5 = 0 → (((x3 - c6) = (9 : Int32) → Q ((-1 : Int32) - x3) u4) ∧ (¬ (x3 - c6) = (9 : Int32) → wp_X10_charAt x3 u4 (fun (r6 : Int32) (u7 : St) => l_X10_atom_91 Q c2 c6 K n (x3 + (1 : Int32)) (((x4 * (10 : Int64)) + (r6).toInt64) - (48 : Int64)) u7)))))))
def l_X10_atom_23 (Q : Int32 → St → Prop) (c1 : Int32) (K : Int32 → Int64 → St → Prop) : Nat → Int32 → Int64 → St → Prop
  | 0, _, _, _ => False
  | n + 1, x3, x4, u => wp_X10_charAt x3 u (fun (r32 : Int32) (u33 : St) => wp_X10_digitOf r32 (fun (r34 : Int32) => ((r34 ≤ 0 → K x3 x4 u33) ∧ (¬ r34 ≤ 0 → (((x3 - c1) = (12 : Int32) → Q ((-1 : Int32) - x3) u33) ∧ (¬ (x3 - c1) = (12 : Int32) → wp_X10_charAt x3 u33 (fun (r35 : Int32) (u36 : St) => wp_X10_digitOf r35 (fun (r37 : Int32) => l_X10_atom_23 Q c1 K n (x3 + (1 : Int32)) ((x4 * (37 : Int64)) + (r37).toInt64) u36))))))))
def wp_X10_atom (p0 : Int32) (u : St) (Q : Int32 → St → Prop) : Prop := wp_X10_charAt p0 u (fun (r1 : Int32) (u2 : St) => ((r1 < (65 : Int32) → ((r1 = (45 : Int32) → (∃ k19 : Nat, l_X10_atom_91 Q r1 (p0 + (1 : Int32)) (fun (y14 : Int32) (y15 : Int64) (u16 : St) => ((y14 = (p0 + (1 : Int32)) → Q ((-1 : Int32) - y14) u16) ∧ (¬ y14 = (p0 + (1 : Int32)) → ((r1 = (45 : Int32) → wp_X10_number (((-y15)).toInt32) (fun (r18 : Int64) => Q y14 (sJ u16 31 r18))) ∧ (¬ r1 = (45 : Int32) → wp_X10_number ((y15).toInt32) (fun (r17 : Int64) => Q y14 (sJ u16 31 r17))))))) k19 (p0 + (1 : Int32)) (0 : Int64) u2)) ∧ (¬ r1 = (45 : Int32) → (∃ k13 : Nat, l_X10_atom_91 Q r1 p0 (fun (y8 : Int32) (y9 : Int64) (u10 : St) => ((y8 = p0 → Q ((-1 : Int32) - y8) u10) ∧ (¬ y8 = p0 → ((r1 = (45 : Int32) → wp_X10_number (((-y9)).toInt32) (fun (r12 : Int64) => Q y8 (sJ u10 31 r12))) ∧ (¬ r1 = (45 : Int32) → wp_X10_number ((y9).toInt32) (fun (r11 : Int64) => Q y8 (sJ u10 31 r11))))))) k13 p0 (0 : Int64) u2)))) ∧ (¬ r1 < (65 : Int32) → (((90 : Int32) < r1 → ((r1 = (45 : Int32) → (∃ k31 : Nat, l_X10_atom_91 Q r1 (p0 + (1 : Int32)) (fun (y26 : Int32) (y27 : Int64) (u28 : St) => ((y26 = (p0 + (1 : Int32)) → Q ((-1 : Int32) - y26) u28) ∧ (¬ y26 = (p0 + (1 : Int32)) → ((r1 = (45 : Int32) → wp_X10_number (((-y27)).toInt32) (fun (r30 : Int64) => Q y26 (sJ u28 31 r30))) ∧ (¬ r1 = (45 : Int32) → wp_X10_number ((y27).toInt32) (fun (r29 : Int64) => Q y26 (sJ u28 31 r29))))))) k31 (p0 + (1 : Int32)) (0 : Int64) u2)) ∧ (¬ r1 = (45 : Int32) → (∃ k25 : Nat, l_X10_atom_91 Q r1 p0 (fun (y20 : Int32) (y21 : Int64) (u22 : St) => ((y20 = p0 → Q ((-1 : Int32) - y20) u22) ∧ (¬ y20 = p0 → ((r1 = (45 : Int32) → wp_X10_number (((-y21)).toInt32) (fun (r24 : Int64) => Q y20 (sJ u22 31 r24))) ∧ (¬ r1 = (45 : Int32) → wp_X10_number ((y21).toInt32) (fun (r23 : Int64) => Q y20 (sJ u22 31 r23))))))) k25 p0 (0 : Int64) u2)))) ∧ (¬ (90 : Int32) < r1 → (∃ k41 : Nat, l_X10_atom_23 Q p0 (fun (y38 : Int32) (y39 : Int64) (u40 : St) => Q y38 (sJ u40 31 (-y39))) k41 p0 (0 : Int64) u2))))))
abbrev rm_X10_atom : Room := { frames := 1, cells := 0, slots := 0, locals := 21 }
set_option maxHeartbeats 4000000 in
set_option maxRecDepth 100000 in
theorem t_X10_atom (l : Launch) (D : va_G) (G : Gd) (p0 : Int32) (u : St) (Q : Int32 → St → Prop) (h : wp_X10_atom p0 u Q) : MRi l D G yX10_atom cX10_atom 7 (some .int) rm_X10_atom [.ref (G.1 0), .int p0] u Q := by
  refine startR_i (by decide) ?_
  intro p e s m args below meth c E hr hlk hml hP hD hS hA
  have hx := E.1
  have hb := E.2.1
  have hown := E.2.2.1
  have hW := E.2.2.2.1
  have hl := lv_entry ([.ref (G.1 0), .int p0]) (n := 7) (Nat.le_of_ble_eq_true rfl)
  rw [lg_entry_eq]
  generalize (lg_sl ([.ref (G.1 0), .int p0]) ++ List.replicate (7 - (lg_sl ([.ref (G.1 0), .int p0])).length) Slot.unset).toArray = ls at hl ⊢
  have hl : lv_has ls 7 [(0, .ref (G.1 0)), (1, .int p0)] := hl
  have L_91 : ∀ (c2 : Int32) (c6 : Int32) (K : Int32 → Int64 → St → Prop), (∀ (x3 : Int32) (x4 : Int64) (u : St) (H : Heap) (locs : List Loc) (ls : Array Slot), K x3 x4 u → va_P D vwCl (wR G u) H → va_D (AR G s.heap.size) (wR G u) → va_S (AR G s.heap.size) s.heap H locs → lv_has ls 7 [(0, .ref (G.1 0)), (2, .int c2), (3, .int x3), (4, .long x4), (6, .int c6)] → W p l e rm_X10_atom s m args below meth c H locs 0 0 (MQ below (va_Qi Q (BR D G s.heap.size) (AR G s.heap.size)) args s 0 0 (AR G s.heap.size)) (F0 m 140 ls [])) → ∀ (n : Nat) (x3 : Int32) (x4 : Int64) (u : St) (H : Heap) (locs : List Loc) (ls : Array Slot), l_X10_atom_91 Q c2 c6 K n x3 x4 u → va_P D vwCl (wR G u) H → va_D (AR G s.heap.size) (wR G u) → va_S (AR G s.heap.size) s.heap H locs → lv_has ls 7 [(0, .ref (G.1 0)), (2, .int c2), (3, .int x3), (4, .long x4), (6, .int c6)] → W p l e rm_X10_atom s m args below meth c H locs 0 0 (MQ below (va_Qi Q (BR D G s.heap.size) (AR G s.heap.size)) args s 0 0 (AR G s.heap.size)) (F0 m 91 ls []) := by
    intro c2 c6 K hK n
    induction n with
    | zero => intro x3 x4 u H locs ls h; exact False.elim h
    | succ n ih =>
      intro x3 x4 u H locs ls h hP hD hS hl
      unfold l_X10_atom_91 at h
      refine lv_aload_n hx hb dX10_atom_91 rfl (lv_at hl 0 rfl) ?_
      refine lv_iload_n hx hb dX10_atom_92 rfl (lv_at hl 2 rfl) ?_
      refine cR_i (ci := 9) (q0 := 0) (As := [.int x3]) (rest := []) E hml hP hD hS hA (t_X10_charAt l D G x3 u _ h) kmX10_225 mwyX10_charAt rfl rfl ⟨⟨rfl, rfl⟩, Nat.le_of_ble_eq_true rfl, Nat.le_of_ble_eq_true rfl⟩ rfl hl.1 rfl (Nat.le_of_ble_eq_true rfl) dX10_atom_93 ⟨Nat.zero_le _, Nat.zero_le _⟩ (fun r3 u4 H locs hP hD hS h => ?_)
      refine c0_i (As := [.int r3]) (rest := []) hx hb hml hown hW hP hS hA (t_X10_digit l r3 _ h) kmX10_228 mwyX10_digit ⟨⟨rfl, rfl⟩, Nat.le_of_ble_eq_true rfl, Nat.le_of_ble_eq_true rfl⟩ rfl hl.1 rfl (Nat.le_of_ble_eq_true rfl) dX10_atom_96 ⟨Nat.zero_le _, Nat.zero_le _⟩ (fun r5 H locs hP hS h => ?_)
      refine lv_if_eq (tgt := 140) hx hb dX10_atom_99 (by decide) (fun hc => ?_) (fun hc => ?_)
      · have h := h.1 hc
        exact hK x3 x4 u4 _ _ _ h hP hD hS (lv_sub hl [0, 1, 2, 3, 4] rfl)
      · have h := h.2 hc
        refine lv_iload_n hx hb dX10_atom_102 rfl (lv_at hl 2 rfl) ?_
        refine lv_iload hx hb dX10_atom_103 (lv_at hl 4 rfl) ?_
        refine lv_isub hx hb dX10_atom_105 ?_
        refine lv_bipush (v := (9 : Int32)) hx hb dX10_atom_106 (by decide) ?_
        refine lv_icmp_ne (tgt := 115) hx hb dX10_atom_108 (by decide) (fun hc => ?_) (fun hc => ?_)
        · have h := h.2 hc
          refine lv_lload hx hb dX10_atom_115 (lv_at hl 3 rfl) ?_
          refine lv_ldc2 (v := (10 : Int64)) hx hb hown (hW _ kcX10_232) dX10_atom_117 ?_
          refine lv_lmul hx hb dX10_atom_120 ?_
          refine lv_aload_n hx hb dX10_atom_121 rfl (lv_at hl 0 rfl) ?_
          refine lv_iload_n hx hb dX10_atom_122 rfl (lv_at hl 2 rfl) ?_
          refine cR_i (ci := 9) (q0 := 0) (As := [.int x3]) (rest := [.long (x4 * (10 : Int64))]) E hml hP hD hS hA (t_X10_charAt l D G x3 u4 _ h) kmX10_225 mwyX10_charAt rfl rfl ⟨⟨rfl, rfl⟩, Nat.le_of_ble_eq_true rfl, Nat.le_of_ble_eq_true rfl⟩ rfl hl.1 rfl (Nat.le_of_ble_eq_true rfl) dX10_atom_123 ⟨Nat.zero_le _, Nat.zero_le _⟩ (fun r6 u7 H locs hP hD hS h => ?_)
          refine lv_i2l (v := (r6).toInt64) hx hb dX10_atom_126 rfl ?_
          refine lv_ladd hx hb dX10_atom_127 ?_
          refine lv_ldc2 (v := (48 : Int64)) hx hb hown (hW _ kcX10_234) dX10_atom_128 ?_
          refine lv_lsub hx hb dX10_atom_131 ?_
          refine lv_lstore (lv' := [(4, .long (((x4 * (10 : Int64)) + (r6).toInt64) - (48 : Int64))), (0, .ref (G.1 0)), (2, .int c2), (3, .int x3), (6, .int c6)]) hx hb dX10_atom_132 hl (by decide) rfl (fun ls hl => ?_)
          refine lv_iinc (v := (x3 + (1 : Int32))) (lv' := [(3, .int (x3 + (1 : Int32))), (4, .long (((x4 * (10 : Int64)) + (r6).toInt64) - (48 : Int64))), (0, .ref (G.1 0)), (2, .int c2), (6, .int c6)]) hx hb dX10_atom_134 hl (k := 3) rfl rfl (by decide) rfl (fun ls hl => ?_)
          refine lv_goto (tgt := 91) hx hb dX10_atom_137 (by decide) ?_
          exact ih (x3 + (1 : Int32)) (((x4 * (10 : Int64)) + (r6).toInt64) - (48 : Int64)) u7 _ _ _ h hP hD hS (lv_sub hl [2, 3, 0, 1, 4] rfl)
        · have h := h.1 hc
          refine lv_iconst (v := (-1 : Int32)) hx hb dX10_atom_111 (by decide) ?_
          refine lv_iload_n hx hb dX10_atom_112 rfl (lv_at hl 2 rfl) ?_
          refine lv_isub hx hb dX10_atom_113 ?_
          exact retR_i E hr hlk hP hD hS h dX10_atom_114
  have L_23 : ∀ (c1 : Int32) (K : Int32 → Int64 → St → Prop), (∀ (x3 : Int32) (x4 : Int64) (u : St) (H : Heap) (locs : List Loc) (ls : Array Slot), K x3 x4 u → va_P D vwCl (wR G u) H → va_D (AR G s.heap.size) (wR G u) → va_S (AR G s.heap.size) s.heap H locs → lv_has ls 7 [(0, .ref (G.1 0)), (3, .int x3), (4, .long x4)] → W p l e rm_X10_atom s m args below meth c H locs 0 0 (MQ below (va_Qi Q (BR D G s.heap.size) (AR G s.heap.size)) args s 0 0 (AR G s.heap.size)) (F0 m 70 ls [])) → ∀ (n : Nat) (x3 : Int32) (x4 : Int64) (u : St) (H : Heap) (locs : List Loc) (ls : Array Slot), l_X10_atom_23 Q c1 K n x3 x4 u → va_P D vwCl (wR G u) H → va_D (AR G s.heap.size) (wR G u) → va_S (AR G s.heap.size) s.heap H locs → lv_has ls 7 [(0, .ref (G.1 0)), (1, .int c1), (3, .int x3), (4, .long x4)] → W p l e rm_X10_atom s m args below meth c H locs 0 0 (MQ below (va_Qi Q (BR D G s.heap.size) (AR G s.heap.size)) args s 0 0 (AR G s.heap.size)) (F0 m 23 ls []) := by
    intro c1 K hK n
    induction n with
    | zero => intro x3 x4 u H locs ls h; exact False.elim h
    | succ n ih =>
      intro x3 x4 u H locs ls h hP hD hS hl
      unfold l_X10_atom_23 at h
      refine lv_aload_n hx hb dX10_atom_23 rfl (lv_at hl 0 rfl) ?_
      refine lv_iload_n hx hb dX10_atom_24 rfl (lv_at hl 2 rfl) ?_
      refine cR_i (ci := 9) (q0 := 0) (As := [.int x3]) (rest := []) E hml hP hD hS hA (t_X10_charAt l D G x3 u _ h) kmX10_225 mwyX10_charAt rfl rfl ⟨⟨rfl, rfl⟩, Nat.le_of_ble_eq_true rfl, Nat.le_of_ble_eq_true rfl⟩ rfl hl.1 rfl (Nat.le_of_ble_eq_true rfl) dX10_atom_25 ⟨Nat.zero_le _, Nat.zero_le _⟩ (fun r32 u33 H locs hP hD hS h => ?_)
      refine c0_i (As := [.int r32]) (rest := []) hx hb hml hown hW hP hS hA (t_X10_digitOf l r32 _ h) kmX10_193 mwyX10_digitOf ⟨⟨rfl, rfl⟩, Nat.le_of_ble_eq_true rfl, Nat.le_of_ble_eq_true rfl⟩ rfl hl.1 rfl (Nat.le_of_ble_eq_true rfl) dX10_atom_28 ⟨Nat.zero_le _, Nat.zero_le _⟩ (fun r34 H locs hP hS h => ?_)
      refine lv_if_le (tgt := 70) hx hb dX10_atom_31 (by decide) (fun hc => ?_) (fun hc => ?_)
      · have h := h.1 hc
        exact hK x3 x4 u33 _ _ _ h hP hD hS (lv_sub hl [0, 2, 3] rfl)
      · have h := h.2 hc
        refine lv_iload_n hx hb dX10_atom_34 rfl (lv_at hl 2 rfl) ?_
        refine lv_iload_n hx hb dX10_atom_35 rfl (lv_at hl 1 rfl) ?_
        refine lv_isub hx hb dX10_atom_36 ?_
        refine lv_bipush (v := (12 : Int32)) hx hb dX10_atom_37 (by decide) ?_
        refine lv_icmp_ne (tgt := 46) hx hb dX10_atom_39 (by decide) (fun hc => ?_) (fun hc => ?_)
        · have h := h.2 hc
          refine lv_lload hx hb dX10_atom_46 (lv_at hl 3 rfl) ?_
          refine lv_ldc2 (v := (37 : Int64)) hx hb hown (hW _ kcX10_187) dX10_atom_48 ?_
          refine lv_lmul hx hb dX10_atom_51 ?_
          refine lv_aload_n hx hb dX10_atom_52 rfl (lv_at hl 0 rfl) ?_
          refine lv_iload_n hx hb dX10_atom_53 rfl (lv_at hl 2 rfl) ?_
          refine cR_i (ci := 9) (q0 := 0) (As := [.int x3]) (rest := [.long (x4 * (37 : Int64))]) E hml hP hD hS hA (t_X10_charAt l D G x3 u33 _ h) kmX10_225 mwyX10_charAt rfl rfl ⟨⟨rfl, rfl⟩, Nat.le_of_ble_eq_true rfl, Nat.le_of_ble_eq_true rfl⟩ rfl hl.1 rfl (Nat.le_of_ble_eq_true rfl) dX10_atom_54 ⟨Nat.zero_le _, Nat.zero_le _⟩ (fun r35 u36 H locs hP hD hS h => ?_)
          refine c0_i (As := [.int r35]) (rest := [.long (x4 * (37 : Int64))]) hx hb hml hown hW hP hS hA (t_X10_digitOf l r35 _ h) kmX10_193 mwyX10_digitOf ⟨⟨rfl, rfl⟩, Nat.le_of_ble_eq_true rfl, Nat.le_of_ble_eq_true rfl⟩ rfl hl.1 rfl (Nat.le_of_ble_eq_true rfl) dX10_atom_57 ⟨Nat.zero_le _, Nat.zero_le _⟩ (fun r37 H locs hP hS h => ?_)
          refine lv_i2l (v := (r37).toInt64) hx hb dX10_atom_60 rfl ?_
          refine lv_ladd hx hb dX10_atom_61 ?_
          refine lv_lstore (lv' := [(4, .long ((x4 * (37 : Int64)) + (r37).toInt64)), (0, .ref (G.1 0)), (1, .int c1), (3, .int x3)]) hx hb dX10_atom_62 hl (by decide) rfl (fun ls hl => ?_)
          refine lv_iinc (v := (x3 + (1 : Int32))) (lv' := [(3, .int (x3 + (1 : Int32))), (4, .long ((x4 * (37 : Int64)) + (r37).toInt64)), (0, .ref (G.1 0)), (1, .int c1)]) hx hb dX10_atom_64 hl (k := 3) rfl rfl (by decide) rfl (fun ls hl => ?_)
          refine lv_goto (tgt := 23) hx hb dX10_atom_67 (by decide) ?_
          exact ih (x3 + (1 : Int32)) ((x4 * (37 : Int64)) + (r37).toInt64) u36 _ _ _ h hP hD hS (lv_sub hl [2, 3, 0, 1] rfl)
        · have h := h.1 hc
          refine lv_iconst (v := (-1 : Int32)) hx hb dX10_atom_42 (by decide) ?_
          refine lv_iload_n hx hb dX10_atom_43 rfl (lv_at hl 2 rfl) ?_
          refine lv_isub hx hb dX10_atom_44 ?_
          exact retR_i E hr hlk hP hD hS h dX10_atom_45
  unfold wp_X10_atom at h
  refine lv_aload_n hx hb dX10_atom_0 rfl (lv_at hl 0 rfl) ?_
  refine lv_iload_n hx hb dX10_atom_1 rfl (lv_at hl 1 rfl) ?_
  refine cR_i (ci := 9) (q0 := 0) (As := [.int p0]) (rest := []) E hml hP hD hS hA (t_X10_charAt l D G p0 u _ h) kmX10_225 mwyX10_charAt rfl rfl ⟨⟨rfl, rfl⟩, Nat.le_of_ble_eq_true rfl, Nat.le_of_ble_eq_true rfl⟩ rfl hl.1 rfl (Nat.le_of_ble_eq_true rfl) dX10_atom_2 ⟨Nat.zero_le _, Nat.zero_le _⟩ (fun r1 u2 H locs hP hD hS h => ?_)
  refine lv_istore_n (lv' := [(2, .int r1), (0, .ref (G.1 0)), (1, .int p0)]) hx hb dX10_atom_5 rfl hl (by decide) rfl (fun ls hl => ?_)
  refine lv_iload_n hx hb dX10_atom_6 rfl (lv_at hl 2 rfl) ?_
  refine lv_istore_n (lv' := [(3, .int p0), (2, .int r1), (0, .ref (G.1 0)), (1, .int p0)]) hx hb dX10_atom_7 rfl hl (by decide) rfl (fun ls hl => ?_)
  refine lv_lconst (v := (0 : Int64)) hx hb dX10_atom_8 (by decide) ?_
  refine lv_lstore (lv' := [(4, .long (0 : Int64)), (3, .int p0), (2, .int r1), (0, .ref (G.1 0)), (1, .int p0)]) hx hb dX10_atom_9 hl (by decide) rfl (fun ls hl => ?_)
  refine lv_iload_n hx hb dX10_atom_11 rfl (lv_at hl 2 rfl) ?_
  refine lv_bipush (v := (65 : Int32)) hx hb dX10_atom_12 (by decide) ?_
  refine lv_icmp_lt (tgt := 79) hx hb dX10_atom_14 (by decide) (fun hc => ?_) (fun hc => ?_)
  · have h := h.1 hc
    refine lv_iload_n hx hb dX10_atom_79 rfl (lv_at hl 2 rfl) ?_
    refine lv_bipush (v := (45 : Int32)) hx hb dX10_atom_80 (by decide) ?_
    refine lv_icmp_ne (tgt := 88) hx hb dX10_atom_82 (by decide) (fun hc => ?_) (fun hc => ?_)
    · have h := h.2 hc
      refine lv_iload_n hx hb dX10_atom_88 rfl (lv_at hl 1 rfl) ?_
      refine lv_istore (lv' := [(6, .int p0), (4, .long (0 : Int64)), (3, .int p0), (2, .int r1), (0, .ref (G.1 0)), (1, .int p0)]) hx hb dX10_atom_89 hl (by decide) rfl (fun ls hl => ?_)
      obtain ⟨n, h⟩ := h
      refine L_91 r1 p0 _ (fun y8 y9 u10 H locs ls h hP hD hS hl => ?_) n p0 (0 : Int64) u2 _ _ _ h hP hD hS (lv_sub hl [4, 3, 2, 1, 0] rfl)
      refine lv_iload_n hx hb dX10_atom_140 rfl (lv_at hl 2 rfl) ?_
      refine lv_iload hx hb dX10_atom_141 (lv_at hl 4 rfl) ?_
      refine lv_icmp_ne (tgt := 150) hx hb dX10_atom_143 (by decide) (fun hc => ?_) (fun hc => ?_)
      · have h := h.2 hc
        refine lv_aload_n hx hb dX10_atom_150 rfl (lv_at hl 0 rfl) ?_
        refine lv_iload_n hx hb dX10_atom_151 rfl (lv_at hl 1 rfl) ?_
        refine lv_bipush (v := (45 : Int32)) hx hb dX10_atom_152 (by decide) ?_
        refine lv_icmp_ne (tgt := 163) hx hb dX10_atom_154 (by decide) (fun hc => ?_) (fun hc => ?_)
        · have h := h.2 hc
          refine lv_lload hx hb dX10_atom_163 (lv_at hl 3 rfl) ?_
          refine lv_l2i (v := (y9).toInt32) hx hb dX10_atom_165 rfl ?_
          refine c0_l (As := [.int (y9).toInt32]) (rest := [.ref (G.1 0)]) hx hb hml hown hW hP hS hA (t_X10_number l ((y9).toInt32) _ h) kmX10_236 mwyX10_number ⟨⟨rfl, rfl⟩, Nat.le_of_ble_eq_true rfl, Nat.le_of_ble_eq_true rfl⟩ rfl hl.1 rfl (Nat.le_of_ble_eq_true rfl) dX10_atom_166 ⟨Nat.zero_le _, Nat.zero_le _⟩ (fun r11 H locs hP hS h => ?_)
          refine pR_31 E hP hD hS kfX10_107 dX10_atom_169 (fun H locs hP hD hS => ?_)
          refine lv_iload_n hx hb dX10_atom_172 rfl (lv_at hl 2 rfl) ?_
          exact retR_i E hr hlk hP hD hS h dX10_atom_173
        · have h := h.1 hc
          refine lv_lload hx hb dX10_atom_157 (lv_at hl 3 rfl) ?_
          refine lv_lneg hx hb dX10_atom_159 ?_
          refine lv_goto (tgt := 165) hx hb dX10_atom_160 (by decide) ?_
          refine lv_l2i (v := ((-y9)).toInt32) hx hb dX10_atom_165 rfl ?_
          refine c0_l (As := [.int ((-y9)).toInt32]) (rest := [.ref (G.1 0)]) hx hb hml hown hW hP hS hA (t_X10_number l (((-y9)).toInt32) _ h) kmX10_236 mwyX10_number ⟨⟨rfl, rfl⟩, Nat.le_of_ble_eq_true rfl, Nat.le_of_ble_eq_true rfl⟩ rfl hl.1 rfl (Nat.le_of_ble_eq_true rfl) dX10_atom_166 ⟨Nat.zero_le _, Nat.zero_le _⟩ (fun r12 H locs hP hS h => ?_)
          refine pR_31 E hP hD hS kfX10_107 dX10_atom_169 (fun H locs hP hD hS => ?_)
          refine lv_iload_n hx hb dX10_atom_172 rfl (lv_at hl 2 rfl) ?_
          exact retR_i E hr hlk hP hD hS h dX10_atom_173
      · have h := h.1 hc
        refine lv_iconst (v := (-1 : Int32)) hx hb dX10_atom_146 (by decide) ?_
        refine lv_iload_n hx hb dX10_atom_147 rfl (lv_at hl 2 rfl) ?_
        refine lv_isub hx hb dX10_atom_148 ?_
        exact retR_i E hr hlk hP hD hS h dX10_atom_149
    · have h := h.1 hc
      refine lv_iinc (v := (p0 + (1 : Int32))) (lv' := [(3, .int (p0 + (1 : Int32))), (4, .long (0 : Int64)), (2, .int r1), (0, .ref (G.1 0)), (1, .int p0)]) hx hb dX10_atom_85 hl (k := 1) rfl rfl (by decide) rfl (fun ls hl => ?_)
      refine lv_iload_n hx hb dX10_atom_88 rfl (lv_at hl 0 rfl) ?_
      refine lv_istore (lv' := [(6, .int (p0 + (1 : Int32))), (3, .int (p0 + (1 : Int32))), (4, .long (0 : Int64)), (2, .int r1), (0, .ref (G.1 0)), (1, .int p0)]) hx hb dX10_atom_89 hl (by decide) rfl (fun ls hl => ?_)
      obtain ⟨n, h⟩ := h
      refine L_91 r1 (p0 + (1 : Int32)) _ (fun y14 y15 u16 H locs ls h hP hD hS hl => ?_) n (p0 + (1 : Int32)) (0 : Int64) u2 _ _ _ h hP hD hS (lv_sub hl [4, 3, 1, 2, 0] rfl)
      refine lv_iload_n hx hb dX10_atom_140 rfl (lv_at hl 2 rfl) ?_
      refine lv_iload hx hb dX10_atom_141 (lv_at hl 4 rfl) ?_
      refine lv_icmp_ne (tgt := 150) hx hb dX10_atom_143 (by decide) (fun hc => ?_) (fun hc => ?_)
      · have h := h.2 hc
        refine lv_aload_n hx hb dX10_atom_150 rfl (lv_at hl 0 rfl) ?_
        refine lv_iload_n hx hb dX10_atom_151 rfl (lv_at hl 1 rfl) ?_
        refine lv_bipush (v := (45 : Int32)) hx hb dX10_atom_152 (by decide) ?_
        refine lv_icmp_ne (tgt := 163) hx hb dX10_atom_154 (by decide) (fun hc => ?_) (fun hc => ?_)
        · have h := h.2 hc
          refine lv_lload hx hb dX10_atom_163 (lv_at hl 3 rfl) ?_
          refine lv_l2i (v := (y15).toInt32) hx hb dX10_atom_165 rfl ?_
          refine c0_l (As := [.int (y15).toInt32]) (rest := [.ref (G.1 0)]) hx hb hml hown hW hP hS hA (t_X10_number l ((y15).toInt32) _ h) kmX10_236 mwyX10_number ⟨⟨rfl, rfl⟩, Nat.le_of_ble_eq_true rfl, Nat.le_of_ble_eq_true rfl⟩ rfl hl.1 rfl (Nat.le_of_ble_eq_true rfl) dX10_atom_166 ⟨Nat.zero_le _, Nat.zero_le _⟩ (fun r17 H locs hP hS h => ?_)
          refine pR_31 E hP hD hS kfX10_107 dX10_atom_169 (fun H locs hP hD hS => ?_)
          refine lv_iload_n hx hb dX10_atom_172 rfl (lv_at hl 2 rfl) ?_
          exact retR_i E hr hlk hP hD hS h dX10_atom_173
        · have h := h.1 hc
          refine lv_lload hx hb dX10_atom_157 (lv_at hl 3 rfl) ?_
          refine lv_lneg hx hb dX10_atom_159 ?_
          refine lv_goto (tgt := 165) hx hb dX10_atom_160 (by decide) ?_
          refine lv_l2i (v := ((-y15)).toInt32) hx hb dX10_atom_165 rfl ?_
          refine c0_l (As := [.int ((-y15)).toInt32]) (rest := [.ref (G.1 0)]) hx hb hml hown hW hP hS hA (t_X10_number l (((-y15)).toInt32) _ h) kmX10_236 mwyX10_number ⟨⟨rfl, rfl⟩, Nat.le_of_ble_eq_true rfl, Nat.le_of_ble_eq_true rfl⟩ rfl hl.1 rfl (Nat.le_of_ble_eq_true rfl) dX10_atom_166 ⟨Nat.zero_le _, Nat.zero_le _⟩ (fun r18 H locs hP hS h => ?_)
          refine pR_31 E hP hD hS kfX10_107 dX10_atom_169 (fun H locs hP hD hS => ?_)
          refine lv_iload_n hx hb dX10_atom_172 rfl (lv_at hl 2 rfl) ?_
          exact retR_i E hr hlk hP hD hS h dX10_atom_173
      · have h := h.1 hc
        refine lv_iconst (v := (-1 : Int32)) hx hb dX10_atom_146 (by decide) ?_
        refine lv_iload_n hx hb dX10_atom_147 rfl (lv_at hl 2 rfl) ?_
        refine lv_isub hx hb dX10_atom_148 ?_
        exact retR_i E hr hlk hP hD hS h dX10_atom_149
  · have h := h.2 hc
    refine lv_iload_n hx hb dX10_atom_17 rfl (lv_at hl 2 rfl) ?_
    refine lv_bipush (v := (90 : Int32)) hx hb dX10_atom_18 (by decide) ?_
    refine lv_icmp_gt (tgt := 79) hx hb dX10_atom_20 (by decide) (fun hc => ?_) (fun hc => ?_)
    · have h := h.1 hc
      refine lv_iload_n hx hb dX10_atom_79 rfl (lv_at hl 2 rfl) ?_
      refine lv_bipush (v := (45 : Int32)) hx hb dX10_atom_80 (by decide) ?_
      refine lv_icmp_ne (tgt := 88) hx hb dX10_atom_82 (by decide) (fun hc => ?_) (fun hc => ?_)
      · have h := h.2 hc
        refine lv_iload_n hx hb dX10_atom_88 rfl (lv_at hl 1 rfl) ?_
        refine lv_istore (lv' := [(6, .int p0), (4, .long (0 : Int64)), (3, .int p0), (2, .int r1), (0, .ref (G.1 0)), (1, .int p0)]) hx hb dX10_atom_89 hl (by decide) rfl (fun ls hl => ?_)
        obtain ⟨n, h⟩ := h
        refine L_91 r1 p0 _ (fun y20 y21 u22 H locs ls h hP hD hS hl => ?_) n p0 (0 : Int64) u2 _ _ _ h hP hD hS (lv_sub hl [4, 3, 2, 1, 0] rfl)
        refine lv_iload_n hx hb dX10_atom_140 rfl (lv_at hl 2 rfl) ?_
        refine lv_iload hx hb dX10_atom_141 (lv_at hl 4 rfl) ?_
        refine lv_icmp_ne (tgt := 150) hx hb dX10_atom_143 (by decide) (fun hc => ?_) (fun hc => ?_)
        · have h := h.2 hc
          refine lv_aload_n hx hb dX10_atom_150 rfl (lv_at hl 0 rfl) ?_
          refine lv_iload_n hx hb dX10_atom_151 rfl (lv_at hl 1 rfl) ?_
          refine lv_bipush (v := (45 : Int32)) hx hb dX10_atom_152 (by decide) ?_
          refine lv_icmp_ne (tgt := 163) hx hb dX10_atom_154 (by decide) (fun hc => ?_) (fun hc => ?_)
          · have h := h.2 hc
            refine lv_lload hx hb dX10_atom_163 (lv_at hl 3 rfl) ?_
            refine lv_l2i (v := (y21).toInt32) hx hb dX10_atom_165 rfl ?_
            refine c0_l (As := [.int (y21).toInt32]) (rest := [.ref (G.1 0)]) hx hb hml hown hW hP hS hA (t_X10_number l ((y21).toInt32) _ h) kmX10_236 mwyX10_number ⟨⟨rfl, rfl⟩, Nat.le_of_ble_eq_true rfl, Nat.le_of_ble_eq_true rfl⟩ rfl hl.1 rfl (Nat.le_of_ble_eq_true rfl) dX10_atom_166 ⟨Nat.zero_le _, Nat.zero_le _⟩ (fun r23 H locs hP hS h => ?_)
            refine pR_31 E hP hD hS kfX10_107 dX10_atom_169 (fun H locs hP hD hS => ?_)
            refine lv_iload_n hx hb dX10_atom_172 rfl (lv_at hl 2 rfl) ?_
            exact retR_i E hr hlk hP hD hS h dX10_atom_173
          · have h := h.1 hc
            refine lv_lload hx hb dX10_atom_157 (lv_at hl 3 rfl) ?_
            refine lv_lneg hx hb dX10_atom_159 ?_
            refine lv_goto (tgt := 165) hx hb dX10_atom_160 (by decide) ?_
            refine lv_l2i (v := ((-y21)).toInt32) hx hb dX10_atom_165 rfl ?_
            refine c0_l (As := [.int ((-y21)).toInt32]) (rest := [.ref (G.1 0)]) hx hb hml hown hW hP hS hA (t_X10_number l (((-y21)).toInt32) _ h) kmX10_236 mwyX10_number ⟨⟨rfl, rfl⟩, Nat.le_of_ble_eq_true rfl, Nat.le_of_ble_eq_true rfl⟩ rfl hl.1 rfl (Nat.le_of_ble_eq_true rfl) dX10_atom_166 ⟨Nat.zero_le _, Nat.zero_le _⟩ (fun r24 H locs hP hS h => ?_)
            refine pR_31 E hP hD hS kfX10_107 dX10_atom_169 (fun H locs hP hD hS => ?_)
            refine lv_iload_n hx hb dX10_atom_172 rfl (lv_at hl 2 rfl) ?_
            exact retR_i E hr hlk hP hD hS h dX10_atom_173
        · have h := h.1 hc
          refine lv_iconst (v := (-1 : Int32)) hx hb dX10_atom_146 (by decide) ?_
          refine lv_iload_n hx hb dX10_atom_147 rfl (lv_at hl 2 rfl) ?_
          refine lv_isub hx hb dX10_atom_148 ?_
          exact retR_i E hr hlk hP hD hS h dX10_atom_149
      · have h := h.1 hc
        refine lv_iinc (v := (p0 + (1 : Int32))) (lv' := [(3, .int (p0 + (1 : Int32))), (4, .long (0 : Int64)), (2, .int r1), (0, .ref (G.1 0)), (1, .int p0)]) hx hb dX10_atom_85 hl (k := 1) rfl rfl (by decide) rfl (fun ls hl => ?_)
        refine lv_iload_n hx hb dX10_atom_88 rfl (lv_at hl 0 rfl) ?_
        refine lv_istore (lv' := [(6, .int (p0 + (1 : Int32))), (3, .int (p0 + (1 : Int32))), (4, .long (0 : Int64)), (2, .int r1), (0, .ref (G.1 0)), (1, .int p0)]) hx hb dX10_atom_89 hl (by decide) rfl (fun ls hl => ?_)
        obtain ⟨n, h⟩ := h
        refine L_91 r1 (p0 + (1 : Int32)) _ (fun y26 y27 u28 H locs ls h hP hD hS hl => ?_) n (p0 + (1 : Int32)) (0 : Int64) u2 _ _ _ h hP hD hS (lv_sub hl [4, 3, 1, 2, 0] rfl)
        refine lv_iload_n hx hb dX10_atom_140 rfl (lv_at hl 2 rfl) ?_
        refine lv_iload hx hb dX10_atom_141 (lv_at hl 4 rfl) ?_
        refine lv_icmp_ne (tgt := 150) hx hb dX10_atom_143 (by decide) (fun hc => ?_) (fun hc => ?_)
        · have h := h.2 hc
          refine lv_aload_n hx hb dX10_atom_150 rfl (lv_at hl 0 rfl) ?_
          refine lv_iload_n hx hb dX10_atom_151 rfl (lv_at hl 1 rfl) ?_
          refine lv_bipush (v := (45 : Int32)) hx hb dX10_atom_152 (by decide) ?_
          refine lv_icmp_ne (tgt := 163) hx hb dX10_atom_154 (by decide) (fun hc => ?_) (fun hc => ?_)
          · have h := h.2 hc
            refine lv_lload hx hb dX10_atom_163 (lv_at hl 3 rfl) ?_
            refine lv_l2i (v := (y27).toInt32) hx hb dX10_atom_165 rfl ?_
            refine c0_l (As := [.int (y27).toInt32]) (rest := [.ref (G.1 0)]) hx hb hml hown hW hP hS hA (t_X10_number l ((y27).toInt32) _ h) kmX10_236 mwyX10_number ⟨⟨rfl, rfl⟩, Nat.le_of_ble_eq_true rfl, Nat.le_of_ble_eq_true rfl⟩ rfl hl.1 rfl (Nat.le_of_ble_eq_true rfl) dX10_atom_166 ⟨Nat.zero_le _, Nat.zero_le _⟩ (fun r29 H locs hP hS h => ?_)
            refine pR_31 E hP hD hS kfX10_107 dX10_atom_169 (fun H locs hP hD hS => ?_)
            refine lv_iload_n hx hb dX10_atom_172 rfl (lv_at hl 2 rfl) ?_
            exact retR_i E hr hlk hP hD hS h dX10_atom_173
          · have h := h.1 hc
            refine lv_lload hx hb dX10_atom_157 (lv_at hl 3 rfl) ?_
            refine lv_lneg hx hb dX10_atom_159 ?_
            refine lv_goto (tgt := 165) hx hb dX10_atom_160 (by decide) ?_
            refine lv_l2i (v := ((-y27)).toInt32) hx hb dX10_atom_165 rfl ?_
            refine c0_l (As := [.int ((-y27)).toInt32]) (rest := [.ref (G.1 0)]) hx hb hml hown hW hP hS hA (t_X10_number l (((-y27)).toInt32) _ h) kmX10_236 mwyX10_number ⟨⟨rfl, rfl⟩, Nat.le_of_ble_eq_true rfl, Nat.le_of_ble_eq_true rfl⟩ rfl hl.1 rfl (Nat.le_of_ble_eq_true rfl) dX10_atom_166 ⟨Nat.zero_le _, Nat.zero_le _⟩ (fun r30 H locs hP hS h => ?_)
            refine pR_31 E hP hD hS kfX10_107 dX10_atom_169 (fun H locs hP hD hS => ?_)
            refine lv_iload_n hx hb dX10_atom_172 rfl (lv_at hl 2 rfl) ?_
            exact retR_i E hr hlk hP hD hS h dX10_atom_173
        · have h := h.1 hc
          refine lv_iconst (v := (-1 : Int32)) hx hb dX10_atom_146 (by decide) ?_
          refine lv_iload_n hx hb dX10_atom_147 rfl (lv_at hl 2 rfl) ?_
          refine lv_isub hx hb dX10_atom_148 ?_
          exact retR_i E hr hlk hP hD hS h dX10_atom_149
    · have h := h.2 hc
      obtain ⟨n, h⟩ := h
      refine L_23 p0 _ (fun y38 y39 u40 H locs ls h hP hD hS hl => ?_) n p0 (0 : Int64) u2 _ _ _ h hP hD hS (lv_sub hl [3, 4, 1, 0] rfl)
      refine lv_aload_n hx hb dX10_atom_70 rfl (lv_at hl 0 rfl) ?_
      refine lv_lload hx hb dX10_atom_71 (lv_at hl 2 rfl) ?_
      refine lv_lneg hx hb dX10_atom_73 ?_
      refine pR_31 E hP hD hS kfX10_107 dX10_atom_74 (fun H locs hP hD hS => ?_)
      refine lv_iload_n hx hb dX10_atom_77 rfl (lv_at hl 1 rfl) ?_
      exact retR_i E hr hlk hP hD hS h dX10_atom_78
def l_X10_pair_3 (c1 : Int64) (c3 : Int64) (K : Int32 → St → Prop) : Nat → Int32 → St → Prop
  | 0, _, _ => False
  | n + 1, x5, u => vp_in x5 1000 ∧ ((((gA u 15) (x5).toNatClampNeg) = 0 → K x5 u) ∧ (¬ ((gA u 15) (x5).toNatClampNeg) = 0 → l_X10_pair_3  c1 c3 K n (x5 + (1 : Int32)) u))
def wp_X10_pair (p0 : Int64) (p1 : Int64) (u : St) (Q : Int64 → St → Prop) : Prop := (∃ k3 : Nat, l_X10_pair_3  p0 p1 (fun (y1 : Int32) (u2 : St) => vp_in y1 1000 ∧ vp_in y1 1000 ∧ vp_in y1 1000 ∧ Q ((8589934592 : Int64) + (y1).toInt64) (sB (sB (sA u2 15 (upd (gA u2 15) (y1).toNatClampNeg (vp_nar .boolean (1 : Int32)))) 13 (vp_updL (gB u2 13) (y1).toNatClampNeg p0)) 14 (vp_updL (gB u2 14) (y1).toNatClampNeg p1))) k3 (0 : Int32) u)
abbrev rm_X10_pair : Room := { frames := 0, cells := 0, slots := 0, locals := 0 }
set_option maxHeartbeats 4000000 in
set_option maxRecDepth 100000 in
theorem t_X10_pair (l : Launch) (D : va_G) (G : Gd) (p0 : Int64) (p1 : Int64) (u : St) (Q : Int64 → St → Prop) (h : wp_X10_pair p0 p1 u Q) : MRl l D G yX10_pair cX10_pair 6 (some .long) rm_X10_pair [.ref (G.1 0), .long p0, .long p1] u Q := by
  refine startR_l (by decide) ?_
  intro p e s m args below meth c E hr hlk hml hP hD hS hA
  have hx := E.1
  have hb := E.2.1
  have hown := E.2.2.1
  have hW := E.2.2.2.1
  have hl := lv_entry ([.ref (G.1 0), .long p0, .long p1]) (n := 6) (Nat.le_of_ble_eq_true rfl)
  rw [lg_entry_eq]
  generalize (lg_sl ([.ref (G.1 0), .long p0, .long p1]) ++ List.replicate (6 - (lg_sl ([.ref (G.1 0), .long p0, .long p1])).length) Slot.unset).toArray = ls at hl ⊢
  have hl : lv_has ls 6 [(0, .ref (G.1 0)), (1, .long p0), (3, .long p1)] := hl
  have L_3 : ∀ (c1 : Int64) (c3 : Int64) (K : Int32 → St → Prop), (∀ (x5 : Int32) (u : St) (H : Heap) (locs : List Loc) (ls : Array Slot), K x5 u → va_P D vwCl (wR G u) H → va_D (AR G s.heap.size) (wR G u) → va_S (AR G s.heap.size) s.heap H locs → lv_has ls 6 [(0, .ref (G.1 0)), (1, .long c1), (3, .long c3), (5, .int x5)] → W p l e rm_X10_pair s m args below meth c H locs 0 0 (MQ below (va_Ql Q (BR D G s.heap.size) (AR G s.heap.size)) args s 0 0 (AR G s.heap.size)) (F0 m 19 ls [])) → ∀ (n : Nat) (x5 : Int32) (u : St) (H : Heap) (locs : List Loc) (ls : Array Slot), l_X10_pair_3  c1 c3 K n x5 u → va_P D vwCl (wR G u) H → va_D (AR G s.heap.size) (wR G u) → va_S (AR G s.heap.size) s.heap H locs → lv_has ls 6 [(0, .ref (G.1 0)), (1, .long c1), (3, .long c3), (5, .int x5)] → W p l e rm_X10_pair s m args below meth c H locs 0 0 (MQ below (va_Ql Q (BR D G s.heap.size) (AR G s.heap.size)) args s 0 0 (AR G s.heap.size)) (F0 m 3 ls []) := by
    intro c1 c3 K hK n
    induction n with
    | zero => intro x5 u H locs ls h; exact False.elim h
    | succ n ih =>
      intro x5 u H locs ls h hP hD hS hl
      unfold l_X10_pair_3 at h
      refine lv_aload_n hx hb dX10_pair_3 rfl (lv_at hl 0 rfl) ?_
      refine gR_15 E hP kfX10_57 dX10_pair_4 ?_
      refine lv_iload hx hb dX10_pair_7 (lv_at hl 3 rfl) ?_
      obtain ⟨h9, h⟩ := h
      refine xR_15 E hP h9 (v := ((gA u 15) (x5).toNatClampNeg)) rfl dX10_pair_9 ?_
      refine lv_if_eq (tgt := 19) hx hb dX10_pair_10 (by decide) (fun hc => ?_) (fun hc => ?_)
      · have h := h.1 hc
        exact hK x5 u _ _ _ h hP hD hS (lv_sub hl [0, 1, 2, 3] rfl)
      · have h := h.2 hc
        refine lv_iinc (v := (x5 + (1 : Int32))) (lv' := [(5, .int (x5 + (1 : Int32))), (0, .ref (G.1 0)), (1, .long c1), (3, .long c3)]) hx hb dX10_pair_13 hl (k := 3) rfl rfl (by decide) rfl (fun ls hl => ?_)
        refine lv_goto (tgt := 3) hx hb dX10_pair_16 (by decide) ?_
        exact ih (x5 + (1 : Int32)) u _ _ _ h hP hD hS (lv_sub hl [1, 2, 3, 0] rfl)
  unfold wp_X10_pair at h
  refine lv_iconst (v := (0 : Int32)) hx hb dX10_pair_0 (by decide) ?_
  refine lv_istore (lv' := [(5, .int (0 : Int32)), (0, .ref (G.1 0)), (1, .long p0), (3, .long p1)]) hx hb dX10_pair_1 hl (by decide) rfl (fun ls hl => ?_)
  obtain ⟨n, h⟩ := h
  refine L_3 p0 p1 _ (fun y1 u2 H locs ls h hP hD hS hl => ?_) n (0 : Int32) u _ _ _ h hP hD hS (lv_sub hl [1, 2, 3, 0] rfl)
  refine lv_aload_n hx hb dX10_pair_19 rfl (lv_at hl 0 rfl) ?_
  refine gR_15 E hP kfX10_57 dX10_pair_20 ?_
  refine lv_iload hx hb dX10_pair_23 (lv_at hl 3 rfl) ?_
  refine lv_iconst (v := (1 : Int32)) hx hb dX10_pair_25 (by decide) ?_
  obtain ⟨h9, h⟩ := h
  refine yR_15 E hP hD hS h9 (f := (gA u2 15)) rfl dX10_pair_26 (fun H locs hP hD hS => ?_)
  refine lv_aload_n hx hb dX10_pair_27 rfl (lv_at hl 0 rfl) ?_
  refine gR_13 E hP kfX10_50 dX10_pair_28 ?_
  refine lv_iload hx hb dX10_pair_31 (lv_at hl 3 rfl) ?_
  refine lv_lload_n hx hb dX10_pair_33 rfl (lv_at hl 1 rfl) ?_
  obtain ⟨h9, h⟩ := h
  refine yR_13 E hP hD hS h9 (f := (gB u2 13)) rfl dX10_pair_34 (fun H locs hP hD hS => ?_)
  refine lv_aload_n hx hb dX10_pair_35 rfl (lv_at hl 0 rfl) ?_
  refine gR_14 E hP kfX10_54 dX10_pair_36 ?_
  refine lv_iload hx hb dX10_pair_39 (lv_at hl 3 rfl) ?_
  refine lv_lload_n hx hb dX10_pair_41 rfl (lv_at hl 2 rfl) ?_
  obtain ⟨h9, h⟩ := h
  refine yR_14 E hP hD hS h9 (f := (gB u2 14)) rfl dX10_pair_42 (fun H locs hP hD hS => ?_)
  refine lv_ldc2 (v := (8589934592 : Int64)) hx hb hown (hW _ kcX10_201) dX10_pair_43 ?_
  refine lv_iload hx hb dX10_pair_46 (lv_at hl 3 rfl) ?_
  refine lv_i2l (v := (y1).toInt64) hx hb dX10_pair_48 rfl ?_
  refine lv_ladd hx hb dX10_pair_49 ?_
  exact retR_l E hr hlk hP hD hS h dX10_pair_50
def wp_X10_comes (p0 : Int32) (p1 : Int64) (u : St) (Q : St → Prop) : Prop := (((gI u 29) = 0 → Q (sJ (sI u 25 (4 : Int32)) 31 p1)) ∧ (¬ (gI u 29) = 0 → vp_in ((gI u 29) - (1 : Int32)) 61 ∧ ((((gA u 26) (((gI u 29) - (1 : Int32))).toNatClampNeg) = (2 : Int32) → ((p0 = 0 → vp_in ((gI u 29) - (1 : Int32)) 61 ∧ Q (sA u 26 (upd (gA u 26) (((gI u 29) - (1 : Int32))).toNatClampNeg (3 : Int32)))) ∧ (¬ p0 = 0 → vp_in ((gI u 29) - (1 : Int32)) 61 ∧ vp_in ((gA u 28) (((gI u 29) - (1 : Int32))).toNatClampNeg) 1000 ∧ vp_in ((gI u 29) - (1 : Int32)) 61 ∧ Q (sA (sB u 14 (vp_updL (gB u 14) (((gA u 28) (((gI u 29) - (1 : Int32))).toNatClampNeg)).toNatClampNeg p1)) 26 (upd (gA u 26) (((gI u 29) - (1 : Int32))).toNatClampNeg (3 : Int32)))))) ∧ (¬ ((gA u 26) (((gI u 29) - (1 : Int32))).toNatClampNeg) = (2 : Int32) → ((p0 = 0 → vp_in ((gI u 29) - (1 : Int32)) 61 ∧ Q (sA (sI u 30 ((gI u 30) + (1 : Int32))) 26 (upd (gA u 26) (((gI u 29) - (1 : Int32))).toNatClampNeg (1 : Int32)))) ∧ (¬ p0 = 0 → wp_X10_pair p1 (4294967296 : Int64) (sI u 30 ((gI u 30) + (1 : Int32))) (fun (r1 : Int64) (u2 : St) => vp_in ((gI u 29) - (1 : Int32)) 61 ∧ ((((gA u2 26) (((gI u 29) - (1 : Int32))).toNatClampNeg) = 0 → vp_in ((gI u 29) - (1 : Int32)) 61 ∧ vp_in ((gI u 29) - (1 : Int32)) 61 ∧ vp_in ((gI u 29) - (1 : Int32)) 61 ∧ Q (sA (sA (sB u2 27 (vp_updL (gB u2 27) (((gI u 29) - (1 : Int32))).toNatClampNeg r1)) 28 (upd (gA u2 28) (((gI u 29) - (1 : Int32))).toNatClampNeg ((r1 - (8589934592 : Int64))).toInt32)) 26 (upd (gA u2 26) (((gI u 29) - (1 : Int32))).toNatClampNeg (1 : Int32)))) ∧ (¬ ((gA u2 26) (((gI u 29) - (1 : Int32))).toNatClampNeg) = 0 → vp_in ((gI u 29) - (1 : Int32)) 61 ∧ vp_in ((gA u2 28) (((gI u 29) - (1 : Int32))).toNatClampNeg) 1000 ∧ vp_in ((gI u 29) - (1 : Int32)) 61 ∧ vp_in ((gI u 29) - (1 : Int32)) 61 ∧ Q (sA (sA (sB u2 14 (vp_updL (gB u2 14) (((gA u2 28) (((gI u 29) - (1 : Int32))).toNatClampNeg)).toNatClampNeg r1)) 28 (upd (gA u2 28) (((gI u 29) - (1 : Int32))).toNatClampNeg ((r1 - (8589934592 : Int64))).toInt32)) 26 (upd (gA u2 26) (((gI u 29) - (1 : Int32))).toNatClampNeg (1 : Int32))))))))))))
abbrev rm_X10_comes : Room := { frames := 1, cells := 0, slots := 0, locals := 25 }
set_option maxHeartbeats 4000000 in
set_option maxRecDepth 100000 in
theorem t_X10_comes (l : Launch) (D : va_G) (G : Gd) (p0 : Int32) (p1 : Int64) (u : St) (Q : St → Prop) (h : wp_X10_comes p0 p1 u Q) : MRv l D G yX10_comes cX10_comes 7 none rm_X10_comes [.ref (G.1 0), .int p0, .long p1] u Q := by
  refine startR_v (by decide) ?_
  intro p e s m args below meth c E hr hlk hml hP hD hS hA
  have hx := E.1
  have hb := E.2.1
  have hown := E.2.2.1
  have hW := E.2.2.2.1
  have hl := lv_entry ([.ref (G.1 0), .int p0, .long p1]) (n := 7) (Nat.le_of_ble_eq_true rfl)
  rw [lg_entry_eq]
  generalize (lg_sl ([.ref (G.1 0), .int p0, .long p1]) ++ List.replicate (7 - (lg_sl ([.ref (G.1 0), .int p0, .long p1])).length) Slot.unset).toArray = ls at hl ⊢
  have hl : lv_has ls 7 [(0, .ref (G.1 0)), (1, .int p0), (2, .long p1)] := hl
  unfold wp_X10_comes at h
  refine lv_aload_n hx hb dX10_comes_0 rfl (lv_at hl 0 rfl) ?_
  refine gR_29 E hP kfX10_101 (v := (gI u 29)) rfl dX10_comes_1 ?_
  refine lv_if_ne (tgt := 18) hx hb dX10_comes_4 (by decide) (fun hc => ?_) (fun hc => ?_)
  · have h := h.2 hc
    refine lv_aload_n hx hb dX10_comes_18 rfl (lv_at hl 0 rfl) ?_
    refine gR_29 E hP kfX10_101 (v := (gI u 29)) rfl dX10_comes_19 ?_
    refine lv_iconst (v := (1 : Int32)) hx hb dX10_comes_22 (by decide) ?_
    refine lv_isub hx hb dX10_comes_23 ?_
    refine lv_istore (lv' := [(4, .int ((gI u 29) - (1 : Int32))), (0, .ref (G.1 0)), (1, .int p0), (2, .long p1)]) hx hb dX10_comes_24 hl (by decide) rfl (fun ls hl => ?_)
    refine lv_aload_n hx hb dX10_comes_26 rfl (lv_at hl 1 rfl) ?_
    refine gR_26 E hP kfX10_92 dX10_comes_27 ?_
    refine lv_iload hx hb dX10_comes_30 (lv_at hl 0 rfl) ?_
    obtain ⟨h9, h⟩ := h
    refine xR_26 E hP h9 (v := ((gA u 26) (((gI u 29) - (1 : Int32))).toNatClampNeg)) rfl dX10_comes_32 ?_
    refine lv_iconst (v := (2 : Int32)) hx hb dX10_comes_33 (by decide) ?_
    refine lv_icmp_ne (tgt := 63) hx hb dX10_comes_34 (by decide) (fun hc => ?_) (fun hc => ?_)
    · have h := h.2 hc
      refine lv_aload_n hx hb dX10_comes_63 rfl (lv_at hl 1 rfl) ?_
      refine lv_dup hx hb dX10_comes_64 rfl ?_
      refine gR_30 E hP kfX10_104 (v := (gI u 30)) rfl dX10_comes_65 ?_
      refine lv_iconst (v := (1 : Int32)) hx hb dX10_comes_68 (by decide) ?_
      refine lv_iadd hx hb dX10_comes_69 ?_
      refine pR_30 E hP hD hS kfX10_104 dX10_comes_70 (fun H locs hP hD hS => ?_)
      refine lv_iload_n hx hb dX10_comes_73 rfl (lv_at hl 2 rfl) ?_
      refine lv_if_eq (tgt := 137) hx hb dX10_comes_74 (by decide) (fun hc => ?_) (fun hc => ?_)
      · have h := h.1 hc
        refine lv_aload_n hx hb dX10_comes_137 rfl (lv_at hl 1 rfl) ?_
        refine gR_26 E hP kfX10_92 dX10_comes_138 ?_
        refine lv_iload hx hb dX10_comes_141 (lv_at hl 0 rfl) ?_
        refine lv_iconst (v := (1 : Int32)) hx hb dX10_comes_143 (by decide) ?_
        obtain ⟨h9, h⟩ := h
        refine yR_26 E hP hD hS h9 (f := (gA u 26)) rfl dX10_comes_144 (fun H locs hP hD hS => ?_)
        exact retR_v E hr hlk hP hD hS h dX10_comes_145
      · have h := h.2 hc
        refine lv_aload_n hx hb dX10_comes_77 rfl (lv_at hl 1 rfl) ?_
        refine lv_lload_n hx hb dX10_comes_78 rfl (lv_at hl 3 rfl) ?_
        refine lv_ldc2 (v := (4294967296 : Int64)) hx hb hown (hW _ kcX10_199) dX10_comes_79 ?_
        refine cR_l (ci := 9) (q0 := 0) (As := [.long p1, .long (4294967296 : Int64)]) (rest := []) E hml hP hD hS hA (t_X10_pair l D G p1 (4294967296 : Int64) (sI u 30 ((gI u 30) + (1 : Int32))) _ h) kmX10_244 mwyX10_pair rfl rfl ⟨⟨rfl, rfl⟩, Nat.le_of_ble_eq_true rfl, Nat.le_of_ble_eq_true rfl⟩ rfl hl.1 rfl (Nat.le_of_ble_eq_true rfl) dX10_comes_82 ⟨Nat.zero_le _, Nat.zero_le _⟩ (fun r1 u2 H locs hP hD hS h => ?_)
        refine lv_lstore (lv' := [(5, .long r1), (4, .int ((gI u 29) - (1 : Int32))), (0, .ref (G.1 0)), (1, .int p0), (2, .long p1)]) hx hb dX10_comes_85 hl (by decide) rfl (fun ls hl => ?_)
        refine lv_aload_n hx hb dX10_comes_87 rfl (lv_at hl 2 rfl) ?_
        refine gR_26 E hP kfX10_92 dX10_comes_88 ?_
        refine lv_iload hx hb dX10_comes_91 (lv_at hl 1 rfl) ?_
        obtain ⟨h9, h⟩ := h
        refine xR_26 E hP h9 (v := ((gA u2 26) (((gI u 29) - (1 : Int32))).toNatClampNeg)) rfl dX10_comes_93 ?_
        refine lv_if_ne (tgt := 109) hx hb dX10_comes_94 (by decide) (fun hc => ?_) (fun hc => ?_)
        · have h := h.2 hc
          refine lv_aload_n hx hb dX10_comes_109 rfl (lv_at hl 2 rfl) ?_
          refine gR_14 E hP kfX10_54 dX10_comes_110 ?_
          refine lv_aload_n hx hb dX10_comes_113 rfl (lv_at hl 2 rfl) ?_
          refine gR_28 E hP kfX10_98 dX10_comes_114 ?_
          refine lv_iload hx hb dX10_comes_117 (lv_at hl 1 rfl) ?_
          obtain ⟨h9, h⟩ := h
          refine xR_28 E hP h9 (v := ((gA u2 28) (((gI u 29) - (1 : Int32))).toNatClampNeg)) rfl dX10_comes_119 ?_
          refine lv_lload hx hb dX10_comes_120 (lv_at hl 0 rfl) ?_
          obtain ⟨h9, h⟩ := h
          refine yR_14 E hP hD hS h9 (f := (gB u2 14)) rfl dX10_comes_122 (fun H locs hP hD hS => ?_)
          refine lv_aload_n hx hb dX10_comes_123 rfl (lv_at hl 2 rfl) ?_
          refine gR_28 E hP kfX10_98 dX10_comes_124 ?_
          refine lv_iload hx hb dX10_comes_127 (lv_at hl 1 rfl) ?_
          refine lv_lload hx hb dX10_comes_129 (lv_at hl 0 rfl) ?_
          refine lv_ldc2 (v := (8589934592 : Int64)) hx hb hown (hW _ kcX10_201) dX10_comes_131 ?_
          refine lv_lsub hx hb dX10_comes_134 ?_
          refine lv_l2i (v := ((r1 - (8589934592 : Int64))).toInt32) hx hb dX10_comes_135 rfl ?_
          obtain ⟨h9, h⟩ := h
          refine yR_28 E hP hD hS h9 (f := (gA u2 28)) rfl dX10_comes_136 (fun H locs hP hD hS => ?_)
          refine lv_aload_n hx hb dX10_comes_137 rfl (lv_at hl 2 rfl) ?_
          refine gR_26 E hP kfX10_92 dX10_comes_138 ?_
          refine lv_iload hx hb dX10_comes_141 (lv_at hl 1 rfl) ?_
          refine lv_iconst (v := (1 : Int32)) hx hb dX10_comes_143 (by decide) ?_
          obtain ⟨h9, h⟩ := h
          refine yR_26 E hP hD hS h9 (f := (gA u2 26)) rfl dX10_comes_144 (fun H locs hP hD hS => ?_)
          exact retR_v E hr hlk hP hD hS h dX10_comes_145
        · have h := h.1 hc
          refine lv_aload_n hx hb dX10_comes_97 rfl (lv_at hl 2 rfl) ?_
          refine gR_27 E hP kfX10_95 dX10_comes_98 ?_
          refine lv_iload hx hb dX10_comes_101 (lv_at hl 1 rfl) ?_
          refine lv_lload hx hb dX10_comes_103 (lv_at hl 0 rfl) ?_
          obtain ⟨h9, h⟩ := h
          refine yR_27 E hP hD hS h9 (f := (gB u2 27)) rfl dX10_comes_105 (fun H locs hP hD hS => ?_)
          refine lv_goto (tgt := 123) hx hb dX10_comes_106 (by decide) ?_
          refine lv_aload_n hx hb dX10_comes_123 rfl (lv_at hl 2 rfl) ?_
          refine gR_28 E hP kfX10_98 dX10_comes_124 ?_
          refine lv_iload hx hb dX10_comes_127 (lv_at hl 1 rfl) ?_
          refine lv_lload hx hb dX10_comes_129 (lv_at hl 0 rfl) ?_
          refine lv_ldc2 (v := (8589934592 : Int64)) hx hb hown (hW _ kcX10_201) dX10_comes_131 ?_
          refine lv_lsub hx hb dX10_comes_134 ?_
          refine lv_l2i (v := ((r1 - (8589934592 : Int64))).toInt32) hx hb dX10_comes_135 rfl ?_
          obtain ⟨h9, h⟩ := h
          refine yR_28 E hP hD hS h9 (f := (gA u2 28)) rfl dX10_comes_136 (fun H locs hP hD hS => ?_)
          refine lv_aload_n hx hb dX10_comes_137 rfl (lv_at hl 2 rfl) ?_
          refine gR_26 E hP kfX10_92 dX10_comes_138 ?_
          refine lv_iload hx hb dX10_comes_141 (lv_at hl 1 rfl) ?_
          refine lv_iconst (v := (1 : Int32)) hx hb dX10_comes_143 (by decide) ?_
          obtain ⟨h9, h⟩ := h
          refine yR_26 E hP hD hS h9 (f := (gA u2 26)) rfl dX10_comes_144 (fun H locs hP hD hS => ?_)
          exact retR_v E hr hlk hP hD hS h dX10_comes_145
    · have h := h.1 hc
      refine lv_iload_n hx hb dX10_comes_37 rfl (lv_at hl 2 rfl) ?_
      refine lv_if_eq (tgt := 54) hx hb dX10_comes_38 (by decide) (fun hc => ?_) (fun hc => ?_)
      · have h := h.1 hc
        refine lv_aload_n hx hb dX10_comes_54 rfl (lv_at hl 1 rfl) ?_
        refine gR_26 E hP kfX10_92 dX10_comes_55 ?_
        refine lv_iload hx hb dX10_comes_58 (lv_at hl 0 rfl) ?_
        refine lv_iconst (v := (3 : Int32)) hx hb dX10_comes_60 (by decide) ?_
        obtain ⟨h9, h⟩ := h
        refine yR_26 E hP hD hS h9 (f := (gA u 26)) rfl dX10_comes_61 (fun H locs hP hD hS => ?_)
        exact retR_v E hr hlk hP hD hS h dX10_comes_62
      · have h := h.2 hc
        refine lv_aload_n hx hb dX10_comes_41 rfl (lv_at hl 1 rfl) ?_
        refine gR_14 E hP kfX10_54 dX10_comes_42 ?_
        refine lv_aload_n hx hb dX10_comes_45 rfl (lv_at hl 1 rfl) ?_
        refine gR_28 E hP kfX10_98 dX10_comes_46 ?_
        refine lv_iload hx hb dX10_comes_49 (lv_at hl 0 rfl) ?_
        obtain ⟨h9, h⟩ := h
        refine xR_28 E hP h9 (v := ((gA u 28) (((gI u 29) - (1 : Int32))).toNatClampNeg)) rfl dX10_comes_51 ?_
        refine lv_lload_n hx hb dX10_comes_52 rfl (lv_at hl 3 rfl) ?_
        obtain ⟨h9, h⟩ := h
        refine yR_14 E hP hD hS h9 (f := (gB u 14)) rfl dX10_comes_53 (fun H locs hP hD hS => ?_)
        refine lv_aload_n hx hb dX10_comes_54 rfl (lv_at hl 1 rfl) ?_
        refine gR_26 E hP kfX10_92 dX10_comes_55 ?_
        refine lv_iload hx hb dX10_comes_58 (lv_at hl 0 rfl) ?_
        refine lv_iconst (v := (3 : Int32)) hx hb dX10_comes_60 (by decide) ?_
        obtain ⟨h9, h⟩ := h
        refine yR_26 E hP hD hS h9 (f := (gA u 26)) rfl dX10_comes_61 (fun H locs hP hD hS => ?_)
        exact retR_v E hr hlk hP hD hS h dX10_comes_62
  · have h := h.1 hc
    refine lv_aload_n hx hb dX10_comes_7 rfl (lv_at hl 0 rfl) ?_
    refine lv_iconst (v := (4 : Int32)) hx hb dX10_comes_8 (by decide) ?_
    refine pR_25 E hP hD hS kfX10_89 dX10_comes_9 (fun H locs hP hD hS => ?_)
    refine lv_aload_n hx hb dX10_comes_12 rfl (lv_at hl 0 rfl) ?_
    refine lv_lload_n hx hb dX10_comes_13 rfl (lv_at hl 2 rfl) ?_
    refine pR_31 E hP hD hS kfX10_107 dX10_comes_14 (fun H locs hP hD hS => ?_)
    exact retR_v E hr hlk hP hD hS h dX10_comes_17
def l_X10_placeOf_2 (Q : Int32 → St → Prop) (c1 : Int64) (K : St → Prop) : Nat → Int32 → St → Prop
  | 0, _, _ => False
  | n + 1, x3, u => (((gI u 21) ≤ x3 → K u) ∧ (¬ (gI u 21) ≤ x3 → vp_in x3 150 ∧ ((((gB u 19) (x3).toNatClampNeg) = c1 → Q x3 u) ∧ (¬ ((gB u 19) (x3).toNatClampNeg) = c1 → l_X10_placeOf_2 Q c1 K n (x3 + (1 : Int32)) u))))
def wp_X10_placeOf (p0 : Int64) (u : St) (Q : Int32 → St → Prop) : Prop := (∃ k2 : Nat, l_X10_placeOf_2 Q p0 (fun (u1 : St) => Q (-1 : Int32) u1) k2 (0 : Int32) u)
abbrev rm_X10_placeOf : Room := { frames := 0, cells := 0, slots := 0, locals := 0 }
set_option maxHeartbeats 4000000 in
set_option maxRecDepth 100000 in
theorem t_X10_placeOf (l : Launch) (D : va_G) (G : Gd) (p0 : Int64) (u : St) (Q : Int32 → St → Prop) (h : wp_X10_placeOf p0 u Q) : MRi l D G yX10_placeOf cX10_placeOf 4 (some .int) rm_X10_placeOf [.ref (G.1 0), .long p0] u Q := by
  refine startR_i (by decide) ?_
  intro p e s m args below meth c E hr hlk hml hP hD hS hA
  have hx := E.1
  have hb := E.2.1
  have hown := E.2.2.1
  have hW := E.2.2.2.1
  have hl := lv_entry ([.ref (G.1 0), .long p0]) (n := 4) (Nat.le_of_ble_eq_true rfl)
  rw [lg_entry_eq]
  generalize (lg_sl ([.ref (G.1 0), .long p0]) ++ List.replicate (4 - (lg_sl ([.ref (G.1 0), .long p0])).length) Slot.unset).toArray = ls at hl ⊢
  have hl : lv_has ls 4 [(0, .ref (G.1 0)), (1, .long p0)] := hl
  have L_2 : ∀ (c1 : Int64) (K : St → Prop), (∀  (u : St) (H : Heap) (locs : List Loc) (ls : Array Slot), K  u → va_P D vwCl (wR G u) H → va_D (AR G s.heap.size) (wR G u) → va_S (AR G s.heap.size) s.heap H locs → lv_has ls 4 [] → W p l e rm_X10_placeOf s m args below meth c H locs 0 0 (MQ below (va_Qi Q (BR D G s.heap.size) (AR G s.heap.size)) args s 0 0 (AR G s.heap.size)) (F0 m 29 ls [])) → ∀ (n : Nat) (x3 : Int32) (u : St) (H : Heap) (locs : List Loc) (ls : Array Slot), l_X10_placeOf_2 Q c1 K n x3 u → va_P D vwCl (wR G u) H → va_D (AR G s.heap.size) (wR G u) → va_S (AR G s.heap.size) s.heap H locs → lv_has ls 4 [(0, .ref (G.1 0)), (1, .long c1), (3, .int x3)] → W p l e rm_X10_placeOf s m args below meth c H locs 0 0 (MQ below (va_Qi Q (BR D G s.heap.size) (AR G s.heap.size)) args s 0 0 (AR G s.heap.size)) (F0 m 2 ls []) := by
    intro c1 K hK n
    induction n with
    | zero => intro x3 u H locs ls h; exact False.elim h
    | succ n ih =>
      intro x3 u H locs ls h hP hD hS hl
      unfold l_X10_placeOf_2 at h
      refine lv_iload_n hx hb dX10_placeOf_2 rfl (lv_at hl 2 rfl) ?_
      refine lv_aload_n hx hb dX10_placeOf_3 rfl (lv_at hl 0 rfl) ?_
      refine gR_21 E hP kfX10_76 (v := (gI u 21)) rfl dX10_placeOf_4 ?_
      refine lv_icmp_ge (tgt := 29) hx hb dX10_placeOf_7 (by decide) (fun hc => ?_) (fun hc => ?_)
      · have h := h.1 hc
        exact hK u _ _ _ h hP hD hS (lv_sub hl [] rfl)
      · have h := h.2 hc
        refine lv_aload_n hx hb dX10_placeOf_10 rfl (lv_at hl 0 rfl) ?_
        refine gR_19 E hP kfX10_70 dX10_placeOf_11 ?_
        refine lv_iload_n hx hb dX10_placeOf_14 rfl (lv_at hl 2 rfl) ?_
        obtain ⟨h9, h⟩ := h
        refine xR_19 E hP h9 (v := ((gB u 19) (x3).toNatClampNeg)) rfl dX10_placeOf_15 ?_
        refine lv_lload_n hx hb dX10_placeOf_16 rfl (lv_at hl 1 rfl) ?_
        refine lq_ne (tgt := 23) hx hb dX10_placeOf_17 dX10_placeOf_18 (by decide) (fun hc => ?_) (fun hc => ?_)
        · have h := h.2 hc
          refine lv_iinc (v := (x3 + (1 : Int32))) (lv' := [(3, .int (x3 + (1 : Int32))), (0, .ref (G.1 0)), (1, .long c1)]) hx hb dX10_placeOf_23 hl (k := 2) rfl rfl (by decide) rfl (fun ls hl => ?_)
          refine lv_goto (tgt := 2) hx hb dX10_placeOf_26 (by decide) ?_
          exact ih (x3 + (1 : Int32)) u _ _ _ h hP hD hS (lv_sub hl [1, 2, 0] rfl)
        · have h := h.1 hc
          refine lv_iload_n hx hb dX10_placeOf_21 rfl (lv_at hl 2 rfl) ?_
          exact retR_i E hr hlk hP hD hS h dX10_placeOf_22
  unfold wp_X10_placeOf at h
  refine lv_iconst (v := (0 : Int32)) hx hb dX10_placeOf_0 (by decide) ?_
  refine lv_istore_n (lv' := [(3, .int (0 : Int32)), (0, .ref (G.1 0)), (1, .long p0)]) hx hb dX10_placeOf_1 rfl hl (by decide) rfl (fun ls hl => ?_)
  obtain ⟨n, h⟩ := h
  refine L_2 p0 _ (fun u1 H locs ls h hP hD hS hl => ?_) n (0 : Int32) u _ _ _ h hP hD hS (lv_sub hl [1, 2, 0] rfl)
  refine lv_iconst (v := (-1 : Int32)) hx hb dX10_placeOf_29 (by decide) ?_
  exact retR_i E hr hlk hP hD hS h dX10_placeOf_30
def l_X10_meets_11 (Q : St → Prop) (c1 : Int64) (K : St → Prop) : Nat → Int32 → St → Prop
  | 0, _, _ => False
  | n + 1, x3, u => (((gI u 23) ≤ x3 → K u) ∧ (¬ (gI u 23) ≤ x3 → vp_in x3 150 ∧ ((((gB u 22) (x3).toNatClampNeg) = c1 → Q u) ∧ (¬ ((gB u 22) (x3).toNatClampNeg) = c1 → l_X10_meets_11 Q c1 K n (x3 + (1 : Int32)) u))))
def wp_X10_meets (p0 : Int64) (u : St) (Q : St → Prop) : Prop := wp_X10_placeOf p0 u (fun (r1 : Int32) (u2 : St) => ((r1 < 0 → (∃ k4 : Nat, l_X10_meets_11 Q p0 (fun (u3 : St) => ((((gI u3 21) + (gI u3 23)) = (150 : Int32) → Q (sI u3 24 (1 : Int32))) ∧ (¬ ((gI u3 21) + (gI u3 23)) = (150 : Int32) → vp_in (gI u3 23) 150 ∧ Q (sI (sB u3 22 (vp_updL (gB u3 22) ((gI u3 23)).toNatClampNeg p0)) 23 ((gI u3 23) + (1 : Int32)))))) k4 (0 : Int32) u2)) ∧ (¬ r1 < 0 → Q u2)))
abbrev rm_X10_meets : Room := { frames := 1, cells := 0, slots := 0, locals := 23 }
set_option maxHeartbeats 4000000 in
set_option maxRecDepth 100000 in
theorem t_X10_meets (l : Launch) (D : va_G) (G : Gd) (p0 : Int64) (u : St) (Q : St → Prop) (h : wp_X10_meets p0 u Q) : MRv l D G yX10_meets cX10_meets 4 none rm_X10_meets [.ref (G.1 0), .long p0] u Q := by
  refine startR_v (by decide) ?_
  intro p e s m args below meth c E hr hlk hml hP hD hS hA
  have hx := E.1
  have hb := E.2.1
  have hown := E.2.2.1
  have hW := E.2.2.2.1
  have hl := lv_entry ([.ref (G.1 0), .long p0]) (n := 4) (Nat.le_of_ble_eq_true rfl)
  rw [lg_entry_eq]
  generalize (lg_sl ([.ref (G.1 0), .long p0]) ++ List.replicate (4 - (lg_sl ([.ref (G.1 0), .long p0])).length) Slot.unset).toArray = ls at hl ⊢
  have hl : lv_has ls 4 [(0, .ref (G.1 0)), (1, .long p0)] := hl
  have L_11 : ∀ (c1 : Int64) (K : St → Prop), (∀  (u : St) (H : Heap) (locs : List Loc) (ls : Array Slot), K  u → va_P D vwCl (wR G u) H → va_D (AR G s.heap.size) (wR G u) → va_S (AR G s.heap.size) s.heap H locs → lv_has ls 4 [(0, .ref (G.1 0)), (1, .long c1)] → W p l e rm_X10_meets s m args below meth c H locs 0 0 (MQ below (va_Qv Q (BR D G s.heap.size) (AR G s.heap.size)) args s 0 0 (AR G s.heap.size)) (F0 m 37 ls [])) → ∀ (n : Nat) (x3 : Int32) (u : St) (H : Heap) (locs : List Loc) (ls : Array Slot), l_X10_meets_11 Q c1 K n x3 u → va_P D vwCl (wR G u) H → va_D (AR G s.heap.size) (wR G u) → va_S (AR G s.heap.size) s.heap H locs → lv_has ls 4 [(0, .ref (G.1 0)), (1, .long c1), (3, .int x3)] → W p l e rm_X10_meets s m args below meth c H locs 0 0 (MQ below (va_Qv Q (BR D G s.heap.size) (AR G s.heap.size)) args s 0 0 (AR G s.heap.size)) (F0 m 11 ls []) := by
    intro c1 K hK n
    induction n with
    | zero => intro x3 u H locs ls h; exact False.elim h
    | succ n ih =>
      intro x3 u H locs ls h hP hD hS hl
      unfold l_X10_meets_11 at h
      refine lv_iload_n hx hb dX10_meets_11 rfl (lv_at hl 2 rfl) ?_
      refine lv_aload_n hx hb dX10_meets_12 rfl (lv_at hl 0 rfl) ?_
      refine gR_23 E hP kfX10_82 (v := (gI u 23)) rfl dX10_meets_13 ?_
      refine lv_icmp_ge (tgt := 37) hx hb dX10_meets_16 (by decide) (fun hc => ?_) (fun hc => ?_)
      · have h := h.1 hc
        exact hK u _ _ _ h hP hD hS (lv_sub hl [0, 1] rfl)
      · have h := h.2 hc
        refine lv_aload_n hx hb dX10_meets_19 rfl (lv_at hl 0 rfl) ?_
        refine gR_22 E hP kfX10_79 dX10_meets_20 ?_
        refine lv_iload_n hx hb dX10_meets_23 rfl (lv_at hl 2 rfl) ?_
        obtain ⟨h9, h⟩ := h
        refine xR_22 E hP h9 (v := ((gB u 22) (x3).toNatClampNeg)) rfl dX10_meets_24 ?_
        refine lv_lload_n hx hb dX10_meets_25 rfl (lv_at hl 1 rfl) ?_
        refine lq_ne (tgt := 31) hx hb dX10_meets_26 dX10_meets_27 (by decide) (fun hc => ?_) (fun hc => ?_)
        · have h := h.2 hc
          refine lv_iinc (v := (x3 + (1 : Int32))) (lv' := [(3, .int (x3 + (1 : Int32))), (0, .ref (G.1 0)), (1, .long c1)]) hx hb dX10_meets_31 hl (k := 2) rfl rfl (by decide) rfl (fun ls hl => ?_)
          refine lv_goto (tgt := 11) hx hb dX10_meets_34 (by decide) ?_
          exact ih (x3 + (1 : Int32)) u _ _ _ h hP hD hS (lv_sub hl [1, 2, 0] rfl)
        · have h := h.1 hc
          exact retR_v E hr hlk hP hD hS h dX10_meets_30
  unfold wp_X10_meets at h
  refine lv_aload_n hx hb dX10_meets_0 rfl (lv_at hl 0 rfl) ?_
  refine lv_lload_n hx hb dX10_meets_1 rfl (lv_at hl 1 rfl) ?_
  refine cR_i (ci := 9) (q0 := 0) (As := [.long p0]) (rest := []) E hml hP hD hS hA (t_X10_placeOf l D G p0 u _ h) kmX10_240 mwyX10_placeOf rfl rfl ⟨⟨rfl, rfl⟩, Nat.le_of_ble_eq_true rfl, Nat.le_of_ble_eq_true rfl⟩ rfl hl.1 rfl (Nat.le_of_ble_eq_true rfl) dX10_meets_2 ⟨Nat.zero_le _, Nat.zero_le _⟩ (fun r1 u2 H locs hP hD hS h => ?_)
  refine lv_if_lt (tgt := 9) hx hb dX10_meets_5 (by decide) (fun hc => ?_) (fun hc => ?_)
  · have h := h.1 hc
    refine lv_iconst (v := (0 : Int32)) hx hb dX10_meets_9 (by decide) ?_
    refine lv_istore_n (lv' := [(3, .int (0 : Int32)), (0, .ref (G.1 0)), (1, .long p0)]) hx hb dX10_meets_10 rfl hl (by decide) rfl (fun ls hl => ?_)
    obtain ⟨n, h⟩ := h
    refine L_11 p0 _ (fun u3 H locs ls h hP hD hS hl => ?_) n (0 : Int32) u2 _ _ _ h hP hD hS (lv_sub hl [1, 2, 0] rfl)
    refine lv_aload_n hx hb dX10_meets_37 rfl (lv_at hl 0 rfl) ?_
    refine gR_21 E hP kfX10_76 (v := (gI u3 21)) rfl dX10_meets_38 ?_
    refine lv_aload_n hx hb dX10_meets_41 rfl (lv_at hl 0 rfl) ?_
    refine gR_23 E hP kfX10_82 (v := (gI u3 23)) rfl dX10_meets_42 ?_
    refine lv_iadd hx hb dX10_meets_45 ?_
    refine lv_sipush (v := (150 : Int32)) hx hb dX10_meets_46 (by decide) ?_
    refine lv_icmp_ne (tgt := 60) hx hb dX10_meets_49 (by decide) (fun hc => ?_) (fun hc => ?_)
    · have h := h.2 hc
      refine lv_aload_n hx hb dX10_meets_60 rfl (lv_at hl 0 rfl) ?_
      refine gR_22 E hP kfX10_79 dX10_meets_61 ?_
      refine lv_aload_n hx hb dX10_meets_64 rfl (lv_at hl 0 rfl) ?_
      refine gR_23 E hP kfX10_82 (v := (gI u3 23)) rfl dX10_meets_65 ?_
      refine lv_lload_n hx hb dX10_meets_68 rfl (lv_at hl 1 rfl) ?_
      obtain ⟨h9, h⟩ := h
      refine yR_22 E hP hD hS h9 (f := (gB u3 22)) rfl dX10_meets_69 (fun H locs hP hD hS => ?_)
      refine lv_aload_n hx hb dX10_meets_70 rfl (lv_at hl 0 rfl) ?_
      refine lv_dup hx hb dX10_meets_71 rfl ?_
      refine gR_23 E hP kfX10_82 (v := (gI u3 23)) rfl dX10_meets_72 ?_
      refine lv_iconst (v := (1 : Int32)) hx hb dX10_meets_75 (by decide) ?_
      refine lv_iadd hx hb dX10_meets_76 ?_
      refine pR_23 E hP hD hS kfX10_82 dX10_meets_77 (fun H locs hP hD hS => ?_)
      exact retR_v E hr hlk hP hD hS h dX10_meets_80
    · have h := h.1 hc
      refine lv_aload_n hx hb dX10_meets_52 rfl (lv_at hl 0 rfl) ?_
      refine lv_iconst (v := (1 : Int32)) hx hb dX10_meets_53 (by decide) ?_
      refine pR_24 E hP hD hS kfX10_85 vz_1 dX10_meets_54 (fun H locs hP hD hS => ?_)
      refine lv_goto (tgt := 80) hx hb dX10_meets_57 (by decide) ?_
      exact retR_v E hr hlk hP hD hS h dX10_meets_80
  · have h := h.2 hc
    exact retR_v E hr hlk hP hD hS h dX10_meets_8
def j_X10_reads_99 (Q : Int32 → St → Prop) (x1 : Int32) (x2 : Int32) (x3 : Int32) (x4 : Int32) (u : St) : Prop := ((x3 = (46 : Int32) → ((x4 = (1 : Int32) → vp_in ((gI u 29) - (1 : Int32)) 61 ∧ Q (x2 + (1 : Int32)) (sA u 26 (upd (gA u 26) (((gI u 29) - (1 : Int32))).toNatClampNeg (2 : Int32)))) ∧ (¬ x4 = (1 : Int32) → Q ((-1 : Int32) - x2) u))) ∧ (¬ x3 = (46 : Int32) → ((x4 = (3 : Int32) → Q ((-1 : Int32) - x2) u) ∧ (¬ x4 = (3 : Int32) → ((x3 = (40 : Int32) → (((gI u 29) = (60 : Int32) → Q ((-1 : Int32) - x2) u) ∧ (¬ (gI u 29) = (60 : Int32) → vp_in (gI u 29) 61 ∧ Q (x2 + (1 : Int32)) (sI (sA u 26 (upd (gA u 26) ((gI u 29)).toNatClampNeg (0 : Int32))) 29 ((gI u 29) + (1 : Int32)))))) ∧ (¬ x3 = (40 : Int32) → wp_X10_atom x2 u (fun (r4 : Int32) (u5 : St) => ((0 ≤ r4 → (((0 : Int64) ≤ (gJ u5 31) → wp_X10_comes x1 (gJ u5 31) u5 (fun (u6 : St) => Q r4 u6)) ∧ (¬ (0 : Int64) ≤ (gJ u5 31) → ((x1 = 0 → wp_X10_meets (-(gJ u5 31)) u5 (fun (u11 : St) => ((x1 = 0 → wp_X10_comes x1 (4294967296 : Int64) u11 (fun (u12 : St) => Q r4 u12)) ∧ (¬ x1 = 0 → wp_X10_placeOf (-(gJ u5 31)) u11 (fun (r13 : Int32) (u14 : St) => wp_X10_comes x1 ((4294967296 : Int64) + (r13).toInt64) u14 (fun (u15 : St) => Q r4 u15)))))) ∧ (¬ x1 = 0 → ((x1 = 0 → wp_X10_comes x1 (4294967296 : Int64) u5 (fun (u7 : St) => Q r4 u7)) ∧ (¬ x1 = 0 → wp_X10_placeOf (-(gJ u5 31)) u5 (fun (r8 : Int32) (u9 : St) => wp_X10_comes x1 ((4294967296 : Int64) + (r8).toInt64) u9 (fun (u10 : St) => Q r4 u10))))))))) ∧ (¬ 0 ≤ r4 → Q r4 u5)))))))))
def j_X10_reads_39 (Q : Int32 → St → Prop) (x1 : Int32) (x2 : Int32) (x3 : Int32) (s0 : Int32) (u : St) : Prop := ((x3 = (41 : Int32) → (((gI u 29) ≤ 0 → j_X10_reads_99 Q x1 x2 x3 s0 u) ∧ (¬ (gI u 29) ≤ 0 → ((s0 = (2 : Int32) → j_X10_reads_99 Q x1 x2 x3 s0 u) ∧ (¬ s0 = (2 : Int32) → ((s0 = 0 → wp_X10_comes x1 (4294967296 : Int64) (sI u 29 ((gI u 29) - (1 : Int32))) (fun (u17 : St) => Q (x2 + (1 : Int32)) u17)) ∧ (¬ s0 = 0 → vp_in ((gI u 29) - (1 : Int32)) 61 ∧ wp_X10_comes x1 ((gB u 27) (((gI u 29) - (1 : Int32))).toNatClampNeg) (sI u 29 ((gI u 29) - (1 : Int32))) (fun (u16 : St) => Q (x2 + (1 : Int32)) u16)))))))) ∧ (¬ x3 = (41 : Int32) → j_X10_reads_99 Q x1 x2 x3 s0 u))
def wp_X10_reads (p0 : Int32) (p1 : Int32) (u : St) (Q : Int32 → St → Prop) : Prop := wp_X10_charAt p1 u (fun (r1 : Int32) (u2 : St) => wp_X10_blank r1 (fun (r3 : Int32) => ((r3 = 0 → (((gI u2 29) = 0 → j_X10_reads_39 Q p0 p1 r1 (0 : Int32) u2) ∧ (¬ (gI u2 29) = 0 → vp_in ((gI u2 29) - (1 : Int32)) 61 ∧ j_X10_reads_39 Q p0 p1 r1 ((gA u2 26) (((gI u2 29) - (1 : Int32))).toNatClampNeg) u2))) ∧ (¬ r3 = 0 → Q (p1 + (1 : Int32)) u2))))
abbrev rm_X10_reads : Room := { frames := 2, cells := 0, slots := 0, locals := 51 }
set_option maxHeartbeats 4000000 in
set_option maxRecDepth 100000 in
theorem t_X10_reads (l : Launch) (D : va_G) (G : Gd) (p0 : Int32) (p1 : Int32) (u : St) (Q : Int32 → St → Prop) (h : wp_X10_reads p0 p1 u Q) : MRi l D G yX10_reads cX10_reads 8 (some .int) rm_X10_reads [.ref (G.1 0), .int p0, .int p1] u Q := by
  refine startR_i (by decide) ?_
  intro p e s m args below meth c E hr hlk hml hP hD hS hA
  have hx := E.1
  have hb := E.2.1
  have hown := E.2.2.1
  have hW := E.2.2.2.1
  have hl := lv_entry ([.ref (G.1 0), .int p0, .int p1]) (n := 8) (Nat.le_of_ble_eq_true rfl)
  rw [lg_entry_eq]
  generalize (lg_sl ([.ref (G.1 0), .int p0, .int p1]) ++ List.replicate (8 - (lg_sl ([.ref (G.1 0), .int p0, .int p1])).length) Slot.unset).toArray = ls at hl ⊢
  have hl : lv_has ls 8 [(0, .ref (G.1 0)), (1, .int p0), (2, .int p1)] := hl
  have J_99 : ∀ (x1 : Int32) (x2 : Int32) (x3 : Int32) (x4 : Int32) (u : St) (H : Heap) (locs : List Loc) (ls : Array Slot), j_X10_reads_99 Q x1 x2 x3 x4 u → va_P D vwCl (wR G u) H → va_D (AR G s.heap.size) (wR G u) → va_S (AR G s.heap.size) s.heap H locs → lv_has ls 8 [(0, .ref (G.1 0)), (1, .int x1), (2, .int x2), (3, .int x3), (4, .int x4)] → W p l e rm_X10_reads s m args below meth c H locs 0 0 (MQ below (va_Qi Q (BR D G s.heap.size) (AR G s.heap.size)) args s 0 0 (AR G s.heap.size)) (F0 m 99 ls []) := by
    intro x1 x2 x3 x4 u H locs ls h hP hD hS hl
    unfold j_X10_reads_99 at h
    refine lv_iload_n hx hb dX10_reads_99 rfl (lv_at hl 3 rfl) ?_
    refine lv_bipush (v := (46 : Int32)) hx hb dX10_reads_100 (by decide) ?_
    refine lv_icmp_ne (tgt := 131) hx hb dX10_reads_102 (by decide) (fun hc => ?_) (fun hc => ?_)
    · have h := h.2 hc
      refine lv_iload hx hb dX10_reads_131 (lv_at hl 4 rfl) ?_
      refine lv_iconst (v := (3 : Int32)) hx hb dX10_reads_133 (by decide) ?_
      refine lv_icmp_ne (tgt := 141) hx hb dX10_reads_134 (by decide) (fun hc => ?_) (fun hc => ?_)
      · have h := h.2 hc
        refine lv_iload_n hx hb dX10_reads_141 rfl (lv_at hl 3 rfl) ?_
        refine lv_bipush (v := (40 : Int32)) hx hb dX10_reads_142 (by decide) ?_
        refine lv_icmp_ne (tgt := 184) hx hb dX10_reads_144 (by decide) (fun hc => ?_) (fun hc => ?_)
        · have h := h.2 hc
          refine lv_aload_n hx hb dX10_reads_184 rfl (lv_at hl 0 rfl) ?_
          refine lv_iload_n hx hb dX10_reads_185 rfl (lv_at hl 2 rfl) ?_
          refine cR_i (ci := 9) (q0 := 0) (As := [.int x2]) (rest := []) E hml hP hD hS hA (t_X10_atom l D G x2 u _ h) kmX10_255 mwyX10_atom rfl rfl ⟨⟨rfl, rfl⟩, Nat.le_of_ble_eq_true rfl, Nat.le_of_ble_eq_true rfl⟩ rfl hl.1 rfl (Nat.le_of_ble_eq_true rfl) dX10_reads_186 ⟨Nat.zero_le _, Nat.zero_le _⟩ (fun r4 u5 H locs hP hD hS h => ?_)
          refine lv_istore (lv' := [(5, .int r4), (0, .ref (G.1 0)), (1, .int x1), (2, .int x2), (3, .int x3), (4, .int x4)]) hx hb dX10_reads_189 hl (by decide) rfl (fun ls hl => ?_)
          refine lv_iload hx hb dX10_reads_191 (lv_at hl 0 rfl) ?_
          refine lv_if_ge (tgt := 199) hx hb dX10_reads_193 (by decide) (fun hc => ?_) (fun hc => ?_)
          · have h := h.1 hc
            refine lv_aload_n hx hb dX10_reads_199 rfl (lv_at hl 1 rfl) ?_
            refine gR_31 E hP kfX10_107 (v := (gJ u5 31)) rfl dX10_reads_200 ?_
            refine lv_lstore (lv' := [(6, .long (gJ u5 31)), (5, .int r4), (0, .ref (G.1 0)), (1, .int x1), (2, .int x2), (3, .int x3), (4, .int x4)]) hx hb dX10_reads_203 hl (by decide) rfl (fun ls hl => ?_)
            refine lv_lload hx hb dX10_reads_205 (lv_at hl 0 rfl) ?_
            refine lv_lconst (v := (0 : Int64)) hx hb dX10_reads_207 (by decide) ?_
            refine lq_ge (tgt := 247) hx hb dX10_reads_208 dX10_reads_209 (by decide) (fun hc => ?_) (fun hc => ?_)
            · have h := h.1 hc
              refine lv_aload_n hx hb dX10_reads_247 rfl (lv_at hl 2 rfl) ?_
              refine lv_iload_n hx hb dX10_reads_248 rfl (lv_at hl 3 rfl) ?_
              refine lv_lload hx hb dX10_reads_249 (lv_at hl 0 rfl) ?_
              refine cR_v (ci := 9) (q0 := 0) (As := [.int x1, .long (gJ u5 31)]) (rest := []) E hml hP hD hS hA (t_X10_comes l D G x1 (gJ u5 31) u5 _ h) kmX10_251 mwyX10_comes rfl rfl ⟨⟨rfl, rfl⟩, Nat.le_of_ble_eq_true rfl, Nat.le_of_ble_eq_true rfl⟩ rfl hl.1 rfl (Nat.le_of_ble_eq_true rfl) dX10_reads_251 ⟨Nat.zero_le _, Nat.zero_le _⟩ (fun u6 H locs hP hD hS h => ?_)
              refine lv_iload hx hb dX10_reads_254 (lv_at hl 1 rfl) ?_
              exact retR_i E hr hlk hP hD hS h dX10_reads_256
            · have h := h.2 hc
              refine lv_iload_n hx hb dX10_reads_212 rfl (lv_at hl 3 rfl) ?_
              refine lv_if_ne (tgt := 223) hx hb dX10_reads_213 (by decide) (fun hc => ?_) (fun hc => ?_)
              · have h := h.2 hc
                refine lv_iload_n hx hb dX10_reads_223 rfl (lv_at hl 3 rfl) ?_
                refine lv_if_eq (tgt := 242) hx hb dX10_reads_224 (by decide) (fun hc => ?_) (fun hc => ?_)
                · have h := h.1 hc
                  refine lv_ldc2 (v := (4294967296 : Int64)) hx hb hown (hW _ kcX10_199) dX10_reads_242 ?_
                  refine lv_lstore (lv' := [(6, .long (4294967296 : Int64)), (5, .int r4), (0, .ref (G.1 0)), (1, .int x1), (2, .int x2), (3, .int x3), (4, .int x4)]) hx hb dX10_reads_245 hl (by decide) rfl (fun ls hl => ?_)
                  refine lv_aload_n hx hb dX10_reads_247 rfl (lv_at hl 2 rfl) ?_
                  refine lv_iload_n hx hb dX10_reads_248 rfl (lv_at hl 3 rfl) ?_
                  refine lv_lload hx hb dX10_reads_249 (lv_at hl 0 rfl) ?_
                  refine cR_v (ci := 9) (q0 := 0) (As := [.int x1, .long (4294967296 : Int64)]) (rest := []) E hml hP hD hS hA (t_X10_comes l D G x1 (4294967296 : Int64) u5 _ h) kmX10_251 mwyX10_comes rfl rfl ⟨⟨rfl, rfl⟩, Nat.le_of_ble_eq_true rfl, Nat.le_of_ble_eq_true rfl⟩ rfl hl.1 rfl (Nat.le_of_ble_eq_true rfl) dX10_reads_251 ⟨Nat.zero_le _, Nat.zero_le _⟩ (fun u7 H locs hP hD hS h => ?_)
                  refine lv_iload hx hb dX10_reads_254 (lv_at hl 1 rfl) ?_
                  exact retR_i E hr hlk hP hD hS h dX10_reads_256
                · have h := h.2 hc
                  refine lv_ldc2 (v := (4294967296 : Int64)) hx hb hown (hW _ kcX10_199) dX10_reads_227 ?_
                  refine lv_aload_n hx hb dX10_reads_230 rfl (lv_at hl 2 rfl) ?_
                  refine lv_lload hx hb dX10_reads_231 (lv_at hl 0 rfl) ?_
                  refine lv_lneg hx hb dX10_reads_233 ?_
                  refine cR_i (ci := 9) (q0 := 0) (As := [.long (-(gJ u5 31))]) (rest := [.long (4294967296 : Int64)]) E hml hP hD hS hA (t_X10_placeOf l D G (-(gJ u5 31)) u5 _ h) kmX10_240 mwyX10_placeOf rfl rfl ⟨⟨rfl, rfl⟩, Nat.le_of_ble_eq_true rfl, Nat.le_of_ble_eq_true rfl⟩ rfl hl.1 rfl (Nat.le_of_ble_eq_true rfl) dX10_reads_234 ⟨Nat.zero_le _, Nat.zero_le _⟩ (fun r8 u9 H locs hP hD hS h => ?_)
                  refine lv_i2l (v := (r8).toInt64) hx hb dX10_reads_237 rfl ?_
                  refine lv_ladd hx hb dX10_reads_238 ?_
                  refine lv_goto (tgt := 245) hx hb dX10_reads_239 (by decide) ?_
                  refine lv_lstore (lv' := [(6, .long ((4294967296 : Int64) + (r8).toInt64)), (5, .int r4), (0, .ref (G.1 0)), (1, .int x1), (2, .int x2), (3, .int x3), (4, .int x4)]) hx hb dX10_reads_245 hl (by decide) rfl (fun ls hl => ?_)
                  refine lv_aload_n hx hb dX10_reads_247 rfl (lv_at hl 2 rfl) ?_
                  refine lv_iload_n hx hb dX10_reads_248 rfl (lv_at hl 3 rfl) ?_
                  refine lv_lload hx hb dX10_reads_249 (lv_at hl 0 rfl) ?_
                  refine cR_v (ci := 9) (q0 := 0) (As := [.int x1, .long ((4294967296 : Int64) + (r8).toInt64)]) (rest := []) E hml hP hD hS hA (t_X10_comes l D G x1 ((4294967296 : Int64) + (r8).toInt64) u9 _ h) kmX10_251 mwyX10_comes rfl rfl ⟨⟨rfl, rfl⟩, Nat.le_of_ble_eq_true rfl, Nat.le_of_ble_eq_true rfl⟩ rfl hl.1 rfl (Nat.le_of_ble_eq_true rfl) dX10_reads_251 ⟨Nat.zero_le _, Nat.zero_le _⟩ (fun u10 H locs hP hD hS h => ?_)
                  refine lv_iload hx hb dX10_reads_254 (lv_at hl 1 rfl) ?_
                  exact retR_i E hr hlk hP hD hS h dX10_reads_256
              · have h := h.1 hc
                refine lv_aload_n hx hb dX10_reads_216 rfl (lv_at hl 2 rfl) ?_
                refine lv_lload hx hb dX10_reads_217 (lv_at hl 0 rfl) ?_
                refine lv_lneg hx hb dX10_reads_219 ?_
                refine cR_v (ci := 9) (q0 := 0) (As := [.long (-(gJ u5 31))]) (rest := []) E hml hP hD hS hA (t_X10_meets l D G (-(gJ u5 31)) u5 _ h) kmX10_258 mwyX10_meets rfl rfl ⟨⟨rfl, rfl⟩, Nat.le_of_ble_eq_true rfl, Nat.le_of_ble_eq_true rfl⟩ rfl hl.1 rfl (Nat.le_of_ble_eq_true rfl) dX10_reads_220 ⟨Nat.zero_le _, Nat.zero_le _⟩ (fun u11 H locs hP hD hS h => ?_)
                refine lv_iload_n hx hb dX10_reads_223 rfl (lv_at hl 3 rfl) ?_
                refine lv_if_eq (tgt := 242) hx hb dX10_reads_224 (by decide) (fun hc => ?_) (fun hc => ?_)
                · have h := h.1 hc
                  refine lv_ldc2 (v := (4294967296 : Int64)) hx hb hown (hW _ kcX10_199) dX10_reads_242 ?_
                  refine lv_lstore (lv' := [(6, .long (4294967296 : Int64)), (5, .int r4), (0, .ref (G.1 0)), (1, .int x1), (2, .int x2), (3, .int x3), (4, .int x4)]) hx hb dX10_reads_245 hl (by decide) rfl (fun ls hl => ?_)
                  refine lv_aload_n hx hb dX10_reads_247 rfl (lv_at hl 2 rfl) ?_
                  refine lv_iload_n hx hb dX10_reads_248 rfl (lv_at hl 3 rfl) ?_
                  refine lv_lload hx hb dX10_reads_249 (lv_at hl 0 rfl) ?_
                  refine cR_v (ci := 9) (q0 := 0) (As := [.int x1, .long (4294967296 : Int64)]) (rest := []) E hml hP hD hS hA (t_X10_comes l D G x1 (4294967296 : Int64) u11 _ h) kmX10_251 mwyX10_comes rfl rfl ⟨⟨rfl, rfl⟩, Nat.le_of_ble_eq_true rfl, Nat.le_of_ble_eq_true rfl⟩ rfl hl.1 rfl (Nat.le_of_ble_eq_true rfl) dX10_reads_251 ⟨Nat.zero_le _, Nat.zero_le _⟩ (fun u12 H locs hP hD hS h => ?_)
                  refine lv_iload hx hb dX10_reads_254 (lv_at hl 1 rfl) ?_
                  exact retR_i E hr hlk hP hD hS h dX10_reads_256
                · have h := h.2 hc
                  refine lv_ldc2 (v := (4294967296 : Int64)) hx hb hown (hW _ kcX10_199) dX10_reads_227 ?_
                  refine lv_aload_n hx hb dX10_reads_230 rfl (lv_at hl 2 rfl) ?_
                  refine lv_lload hx hb dX10_reads_231 (lv_at hl 0 rfl) ?_
                  refine lv_lneg hx hb dX10_reads_233 ?_
                  refine cR_i (ci := 9) (q0 := 0) (As := [.long (-(gJ u5 31))]) (rest := [.long (4294967296 : Int64)]) E hml hP hD hS hA (t_X10_placeOf l D G (-(gJ u5 31)) u11 _ h) kmX10_240 mwyX10_placeOf rfl rfl ⟨⟨rfl, rfl⟩, Nat.le_of_ble_eq_true rfl, Nat.le_of_ble_eq_true rfl⟩ rfl hl.1 rfl (Nat.le_of_ble_eq_true rfl) dX10_reads_234 ⟨Nat.zero_le _, Nat.zero_le _⟩ (fun r13 u14 H locs hP hD hS h => ?_)
                  refine lv_i2l (v := (r13).toInt64) hx hb dX10_reads_237 rfl ?_
                  refine lv_ladd hx hb dX10_reads_238 ?_
                  refine lv_goto (tgt := 245) hx hb dX10_reads_239 (by decide) ?_
                  refine lv_lstore (lv' := [(6, .long ((4294967296 : Int64) + (r13).toInt64)), (5, .int r4), (0, .ref (G.1 0)), (1, .int x1), (2, .int x2), (3, .int x3), (4, .int x4)]) hx hb dX10_reads_245 hl (by decide) rfl (fun ls hl => ?_)
                  refine lv_aload_n hx hb dX10_reads_247 rfl (lv_at hl 2 rfl) ?_
                  refine lv_iload_n hx hb dX10_reads_248 rfl (lv_at hl 3 rfl) ?_
                  refine lv_lload hx hb dX10_reads_249 (lv_at hl 0 rfl) ?_
                  refine cR_v (ci := 9) (q0 := 0) (As := [.int x1, .long ((4294967296 : Int64) + (r13).toInt64)]) (rest := []) E hml hP hD hS hA (t_X10_comes l D G x1 ((4294967296 : Int64) + (r13).toInt64) u14 _ h) kmX10_251 mwyX10_comes rfl rfl ⟨⟨rfl, rfl⟩, Nat.le_of_ble_eq_true rfl, Nat.le_of_ble_eq_true rfl⟩ rfl hl.1 rfl (Nat.le_of_ble_eq_true rfl) dX10_reads_251 ⟨Nat.zero_le _, Nat.zero_le _⟩ (fun u15 H locs hP hD hS h => ?_)
                  refine lv_iload hx hb dX10_reads_254 (lv_at hl 1 rfl) ?_
                  exact retR_i E hr hlk hP hD hS h dX10_reads_256
          · have h := h.2 hc
            refine lv_iload hx hb dX10_reads_196 (lv_at hl 0 rfl) ?_
            exact retR_i E hr hlk hP hD hS h dX10_reads_198
        · have h := h.1 hc
          refine lv_aload_n hx hb dX10_reads_147 rfl (lv_at hl 0 rfl) ?_
          refine gR_29 E hP kfX10_101 (v := (gI u 29)) rfl dX10_reads_148 ?_
          refine lv_bipush (v := (60 : Int32)) hx hb dX10_reads_151 (by decide) ?_
          refine lv_icmp_ne (tgt := 160) hx hb dX10_reads_153 (by decide) (fun hc => ?_) (fun hc => ?_)
          · have h := h.2 hc
            refine lv_aload_n hx hb dX10_reads_160 rfl (lv_at hl 0 rfl) ?_
            refine gR_26 E hP kfX10_92 dX10_reads_161 ?_
            refine lv_aload_n hx hb dX10_reads_164 rfl (lv_at hl 0 rfl) ?_
            refine gR_29 E hP kfX10_101 (v := (gI u 29)) rfl dX10_reads_165 ?_
            refine lv_iconst (v := (0 : Int32)) hx hb dX10_reads_168 (by decide) ?_
            obtain ⟨h9, h⟩ := h
            refine yR_26 E hP hD hS h9 (f := (gA u 26)) rfl dX10_reads_169 (fun H locs hP hD hS => ?_)
            refine lv_aload_n hx hb dX10_reads_170 rfl (lv_at hl 0 rfl) ?_
            refine lv_dup hx hb dX10_reads_171 rfl ?_
            refine gR_29 E hP kfX10_101 (v := (gI u 29)) rfl dX10_reads_172 ?_
            refine lv_iconst (v := (1 : Int32)) hx hb dX10_reads_175 (by decide) ?_
            refine lv_iadd hx hb dX10_reads_176 ?_
            refine pR_29 E hP hD hS kfX10_101 dX10_reads_177 (fun H locs hP hD hS => ?_)
            refine lv_iload_n hx hb dX10_reads_180 rfl (lv_at hl 2 rfl) ?_
            refine lv_iconst (v := (1 : Int32)) hx hb dX10_reads_181 (by decide) ?_
            refine lv_iadd hx hb dX10_reads_182 ?_
            exact retR_i E hr hlk hP hD hS h dX10_reads_183
          · have h := h.1 hc
            refine lv_iconst (v := (-1 : Int32)) hx hb dX10_reads_156 (by decide) ?_
            refine lv_iload_n hx hb dX10_reads_157 rfl (lv_at hl 2 rfl) ?_
            refine lv_isub hx hb dX10_reads_158 ?_
            exact retR_i E hr hlk hP hD hS h dX10_reads_159
      · have h := h.1 hc
        refine lv_iconst (v := (-1 : Int32)) hx hb dX10_reads_137 (by decide) ?_
        refine lv_iload_n hx hb dX10_reads_138 rfl (lv_at hl 2 rfl) ?_
        refine lv_isub hx hb dX10_reads_139 ?_
        exact retR_i E hr hlk hP hD hS h dX10_reads_140
    · have h := h.1 hc
      refine lv_iload hx hb dX10_reads_105 (lv_at hl 4 rfl) ?_
      refine lv_iconst (v := (1 : Int32)) hx hb dX10_reads_107 (by decide) ?_
      refine lv_icmp_eq (tgt := 115) hx hb dX10_reads_108 (by decide) (fun hc => ?_) (fun hc => ?_)
      · have h := h.1 hc
        refine lv_aload_n hx hb dX10_reads_115 rfl (lv_at hl 0 rfl) ?_
        refine gR_26 E hP kfX10_92 dX10_reads_116 ?_
        refine lv_aload_n hx hb dX10_reads_119 rfl (lv_at hl 0 rfl) ?_
        refine gR_29 E hP kfX10_101 (v := (gI u 29)) rfl dX10_reads_120 ?_
        refine lv_iconst (v := (1 : Int32)) hx hb dX10_reads_123 (by decide) ?_
        refine lv_isub hx hb dX10_reads_124 ?_
        refine lv_iconst (v := (2 : Int32)) hx hb dX10_reads_125 (by decide) ?_
        obtain ⟨h9, h⟩ := h
        refine yR_26 E hP hD hS h9 (f := (gA u 26)) rfl dX10_reads_126 (fun H locs hP hD hS => ?_)
        refine lv_iload_n hx hb dX10_reads_127 rfl (lv_at hl 2 rfl) ?_
        refine lv_iconst (v := (1 : Int32)) hx hb dX10_reads_128 (by decide) ?_
        refine lv_iadd hx hb dX10_reads_129 ?_
        exact retR_i E hr hlk hP hD hS h dX10_reads_130
      · have h := h.2 hc
        refine lv_iconst (v := (-1 : Int32)) hx hb dX10_reads_111 (by decide) ?_
        refine lv_iload_n hx hb dX10_reads_112 rfl (lv_at hl 2 rfl) ?_
        refine lv_isub hx hb dX10_reads_113 ?_
        exact retR_i E hr hlk hP hD hS h dX10_reads_114
  have J_39 : ∀ (x1 : Int32) (x2 : Int32) (x3 : Int32) (s0 : Int32) (u : St) (H : Heap) (locs : List Loc) (ls : Array Slot), j_X10_reads_39 Q x1 x2 x3 s0 u → va_P D vwCl (wR G u) H → va_D (AR G s.heap.size) (wR G u) → va_S (AR G s.heap.size) s.heap H locs → lv_has ls 8 [(0, .ref (G.1 0)), (1, .int x1), (2, .int x2), (3, .int x3)] → W p l e rm_X10_reads s m args below meth c H locs 0 0 (MQ below (va_Qi Q (BR D G s.heap.size) (AR G s.heap.size)) args s 0 0 (AR G s.heap.size)) (F0 m 39 ls [.int s0]) := by
    intro x1 x2 x3 s0 u H locs ls h hP hD hS hl
    unfold j_X10_reads_39 at h
    refine lv_istore (lv' := [(4, .int s0), (0, .ref (G.1 0)), (1, .int x1), (2, .int x2), (3, .int x3)]) hx hb dX10_reads_39 hl (by decide) rfl (fun ls hl => ?_)
    refine lv_iload_n hx hb dX10_reads_41 rfl (lv_at hl 4 rfl) ?_
    refine lv_bipush (v := (41 : Int32)) hx hb dX10_reads_42 (by decide) ?_
    refine lv_icmp_ne (tgt := 99) hx hb dX10_reads_44 (by decide) (fun hc => ?_) (fun hc => ?_)
    · have h := h.2 hc
      exact J_99 x1 x2 x3 s0 u _ _ _ h hP hD hS (lv_sub hl [1, 2, 3, 4, 0] rfl)
    · have h := h.1 hc
      refine lv_aload_n hx hb dX10_reads_47 rfl (lv_at hl 1 rfl) ?_
      refine gR_29 E hP kfX10_101 (v := (gI u 29)) rfl dX10_reads_48 ?_
      refine lv_if_le (tgt := 99) hx hb dX10_reads_51 (by decide) (fun hc => ?_) (fun hc => ?_)
      · have h := h.1 hc
        exact J_99 x1 x2 x3 s0 u _ _ _ h hP hD hS (lv_sub hl [1, 2, 3, 4, 0] rfl)
      · have h := h.2 hc
        refine lv_iload hx hb dX10_reads_54 (lv_at hl 0 rfl) ?_
        refine lv_iconst (v := (2 : Int32)) hx hb dX10_reads_56 (by decide) ?_
        refine lv_icmp_eq (tgt := 99) hx hb dX10_reads_57 (by decide) (fun hc => ?_) (fun hc => ?_)
        · have h := h.1 hc
          exact J_99 x1 x2 x3 s0 u _ _ _ h hP hD hS (lv_sub hl [1, 2, 3, 4, 0] rfl)
        · have h := h.2 hc
          refine lv_aload_n hx hb dX10_reads_60 rfl (lv_at hl 1 rfl) ?_
          refine lv_dup hx hb dX10_reads_61 rfl ?_
          refine gR_29 E hP kfX10_101 (v := (gI u 29)) rfl dX10_reads_62 ?_
          refine lv_iconst (v := (1 : Int32)) hx hb dX10_reads_65 (by decide) ?_
          refine lv_isub hx hb dX10_reads_66 ?_
          refine pR_29 E hP hD hS kfX10_101 dX10_reads_67 (fun H locs hP hD hS => ?_)
          refine lv_aload_n hx hb dX10_reads_70 rfl (lv_at hl 1 rfl) ?_
          refine lv_iload_n hx hb dX10_reads_71 rfl (lv_at hl 2 rfl) ?_
          refine lv_iload hx hb dX10_reads_72 (lv_at hl 0 rfl) ?_
          refine lv_if_ne (tgt := 83) hx hb dX10_reads_74 (by decide) (fun hc => ?_) (fun hc => ?_)
          · have h := h.2 hc
            refine lv_aload_n hx hb dX10_reads_83 rfl (lv_at hl 1 rfl) ?_
            refine gR_27 E hP kfX10_95 dX10_reads_84 ?_
            refine lv_aload_n hx hb dX10_reads_87 rfl (lv_at hl 1 rfl) ?_
            refine gR_29 E hP kfX10_101 (v := ((gI u 29) - (1 : Int32))) rfl dX10_reads_88 ?_
            obtain ⟨h9, h⟩ := h
            refine xR_27 E hP h9 (v := ((gB u 27) (((gI u 29) - (1 : Int32))).toNatClampNeg)) rfl dX10_reads_91 ?_
            refine cR_v (ci := 9) (q0 := 0) (As := [.int x1, .long ((gB u 27) (((gI u 29) - (1 : Int32))).toNatClampNeg)]) (rest := []) E hml hP hD hS hA (t_X10_comes l D G x1 ((gB u 27) (((gI u 29) - (1 : Int32))).toNatClampNeg) (sI u 29 ((gI u 29) - (1 : Int32))) _ h) kmX10_251 mwyX10_comes rfl rfl ⟨⟨rfl, rfl⟩, Nat.le_of_ble_eq_true rfl, Nat.le_of_ble_eq_true rfl⟩ rfl hl.1 rfl (Nat.le_of_ble_eq_true rfl) dX10_reads_92 ⟨Nat.zero_le _, Nat.zero_le _⟩ (fun u16 H locs hP hD hS h => ?_)
            refine lv_iload_n hx hb dX10_reads_95 rfl (lv_at hl 3 rfl) ?_
            refine lv_iconst (v := (1 : Int32)) hx hb dX10_reads_96 (by decide) ?_
            refine lv_iadd hx hb dX10_reads_97 ?_
            exact retR_i E hr hlk hP hD hS h dX10_reads_98
          · have h := h.1 hc
            refine lv_ldc2 (v := (4294967296 : Int64)) hx hb hown (hW _ kcX10_199) dX10_reads_77 ?_
            refine lv_goto (tgt := 92) hx hb dX10_reads_80 (by decide) ?_
            refine cR_v (ci := 9) (q0 := 0) (As := [.int x1, .long (4294967296 : Int64)]) (rest := []) E hml hP hD hS hA (t_X10_comes l D G x1 (4294967296 : Int64) (sI u 29 ((gI u 29) - (1 : Int32))) _ h) kmX10_251 mwyX10_comes rfl rfl ⟨⟨rfl, rfl⟩, Nat.le_of_ble_eq_true rfl, Nat.le_of_ble_eq_true rfl⟩ rfl hl.1 rfl (Nat.le_of_ble_eq_true rfl) dX10_reads_92 ⟨Nat.zero_le _, Nat.zero_le _⟩ (fun u17 H locs hP hD hS h => ?_)
            refine lv_iload_n hx hb dX10_reads_95 rfl (lv_at hl 3 rfl) ?_
            refine lv_iconst (v := (1 : Int32)) hx hb dX10_reads_96 (by decide) ?_
            refine lv_iadd hx hb dX10_reads_97 ?_
            exact retR_i E hr hlk hP hD hS h dX10_reads_98
  unfold wp_X10_reads at h
  refine lv_aload_n hx hb dX10_reads_0 rfl (lv_at hl 0 rfl) ?_
  refine lv_iload_n hx hb dX10_reads_1 rfl (lv_at hl 2 rfl) ?_
  refine cR_i (ci := 9) (q0 := 0) (As := [.int p1]) (rest := []) E hml hP hD hS hA (t_X10_charAt l D G p1 u _ h) kmX10_225 mwyX10_charAt rfl rfl ⟨⟨rfl, rfl⟩, Nat.le_of_ble_eq_true rfl, Nat.le_of_ble_eq_true rfl⟩ rfl hl.1 rfl (Nat.le_of_ble_eq_true rfl) dX10_reads_2 ⟨Nat.zero_le _, Nat.zero_le _⟩ (fun r1 u2 H locs hP hD hS h => ?_)
  refine lv_istore_n (lv' := [(3, .int r1), (0, .ref (G.1 0)), (1, .int p0), (2, .int p1)]) hx hb dX10_reads_5 rfl hl (by decide) rfl (fun ls hl => ?_)
  refine lv_iload_n hx hb dX10_reads_6 rfl (lv_at hl 0 rfl) ?_
  refine c0_i (As := [.int r1]) (rest := []) hx hb hml hown hW hP hS hA (t_X10_blank l r1 _ h) kmX10_248 mwyX10_blank ⟨⟨rfl, rfl⟩, Nat.le_of_ble_eq_true rfl, Nat.le_of_ble_eq_true rfl⟩ rfl hl.1 rfl (Nat.le_of_ble_eq_true rfl) dX10_reads_7 ⟨Nat.zero_le _, Nat.zero_le _⟩ (fun r3 H locs hP hS h => ?_)
  refine lv_if_eq (tgt := 17) hx hb dX10_reads_10 (by decide) (fun hc => ?_) (fun hc => ?_)
  · have h := h.1 hc
    refine lv_aload_n hx hb dX10_reads_17 rfl (lv_at hl 1 rfl) ?_
    refine gR_29 E hP kfX10_101 (v := (gI u2 29)) rfl dX10_reads_18 ?_
    refine lv_if_ne (tgt := 28) hx hb dX10_reads_21 (by decide) (fun hc => ?_) (fun hc => ?_)
    · have h := h.2 hc
      refine lv_aload_n hx hb dX10_reads_28 rfl (lv_at hl 1 rfl) ?_
      refine gR_26 E hP kfX10_92 dX10_reads_29 ?_
      refine lv_aload_n hx hb dX10_reads_32 rfl (lv_at hl 1 rfl) ?_
      refine gR_29 E hP kfX10_101 (v := (gI u2 29)) rfl dX10_reads_33 ?_
      refine lv_iconst (v := (1 : Int32)) hx hb dX10_reads_36 (by decide) ?_
      refine lv_isub hx hb dX10_reads_37 ?_
      obtain ⟨h9, h⟩ := h
      refine xR_26 E hP h9 (v := ((gA u2 26) (((gI u2 29) - (1 : Int32))).toNatClampNeg)) rfl dX10_reads_38 ?_
      exact J_39 p0 p1 r1 ((gA u2 26) (((gI u2 29) - (1 : Int32))).toNatClampNeg) u2 _ _ _ h hP hD hS (lv_sub hl [1, 2, 3, 0] rfl)
    · have h := h.1 hc
      refine lv_iconst (v := (0 : Int32)) hx hb dX10_reads_24 (by decide) ?_
      refine lv_goto (tgt := 39) hx hb dX10_reads_25 (by decide) ?_
      exact J_39 p0 p1 r1 (0 : Int32) u2 _ _ _ h hP hD hS (lv_sub hl [1, 2, 3, 0] rfl)
  · have h := h.2 hc
    refine lv_iload_n hx hb dX10_reads_13 rfl (lv_at hl 3 rfl) ?_
    refine lv_iconst (v := (1 : Int32)) hx hb dX10_reads_14 (by decide) ?_
    refine lv_iadd hx hb dX10_reads_15 ?_
    exact retR_i E hr hlk hP hD hS h dX10_reads_16
def l_X10_readAll_17 (c1 : Int32) (K : Int32 → St → Prop) : Nat → Int32 → St → Prop
  | 0, _, _ => False
  | n + 1, x3, u => ((x3 < 0 → K x3 u) ∧ (¬ x3 < 0 → (((gI u 25) = (4 : Int32) → K x3 u) ∧ (¬ (gI u 25) = (4 : Int32) → ((x3 < (gI u 5) → wp_X10_reads c1 x3 u (fun (r1 : Int32) (u2 : St) => l_X10_readAll_17  c1 K n r1 u2)) ∧ (¬ x3 < (gI u 5) → l_X10_readAll_17  c1 K n ((-1 : Int32) - (gI u 5)) u))))))
def wp_X10_readAll (p0 : Int32) (p1 : Int32) (u : St) (Q : Int32 → St → Prop) : Prop := (∃ k5 : Nat, l_X10_readAll_17  p0 (fun (y3 : Int32) (u4 : St) => Q y3 u4) k5 p1 (sI (sI (sI u 29 (0 : Int32)) 30 (0 : Int32)) 25 (0 : Int32)))
abbrev rm_X10_readAll : Room := { frames := 3, cells := 0, slots := 0, locals := 78 }
set_option maxHeartbeats 4000000 in
set_option maxRecDepth 100000 in
theorem t_X10_readAll (l : Launch) (D : va_G) (G : Gd) (p0 : Int32) (p1 : Int32) (u : St) (Q : Int32 → St → Prop) (h : wp_X10_readAll p0 p1 u Q) : MRi l D G yX10_readAll cX10_readAll 4 (some .int) rm_X10_readAll [.ref (G.1 0), .int p0, .int p1] u Q := by
  refine startR_i (by decide) ?_
  intro p e s m args below meth c E hr hlk hml hP hD hS hA
  have hx := E.1
  have hb := E.2.1
  have hown := E.2.2.1
  have hW := E.2.2.2.1
  have hl := lv_entry ([.ref (G.1 0), .int p0, .int p1]) (n := 4) (Nat.le_of_ble_eq_true rfl)
  rw [lg_entry_eq]
  generalize (lg_sl ([.ref (G.1 0), .int p0, .int p1]) ++ List.replicate (4 - (lg_sl ([.ref (G.1 0), .int p0, .int p1])).length) Slot.unset).toArray = ls at hl ⊢
  have hl : lv_has ls 4 [(0, .ref (G.1 0)), (1, .int p0), (2, .int p1)] := hl
  have L_17 : ∀ (c1 : Int32) (K : Int32 → St → Prop), (∀ (x3 : Int32) (u : St) (H : Heap) (locs : List Loc) (ls : Array Slot), K x3 u → va_P D vwCl (wR G u) H → va_D (AR G s.heap.size) (wR G u) → va_S (AR G s.heap.size) s.heap H locs → lv_has ls 4 [(3, .int x3)] → W p l e rm_X10_readAll s m args below meth c H locs 0 0 (MQ below (va_Qi Q (BR D G s.heap.size) (AR G s.heap.size)) args s 0 0 (AR G s.heap.size)) (F0 m 56 ls [])) → ∀ (n : Nat) (x3 : Int32) (u : St) (H : Heap) (locs : List Loc) (ls : Array Slot), l_X10_readAll_17  c1 K n x3 u → va_P D vwCl (wR G u) H → va_D (AR G s.heap.size) (wR G u) → va_S (AR G s.heap.size) s.heap H locs → lv_has ls 4 [(0, .ref (G.1 0)), (1, .int c1), (3, .int x3)] → W p l e rm_X10_readAll s m args below meth c H locs 0 0 (MQ below (va_Qi Q (BR D G s.heap.size) (AR G s.heap.size)) args s 0 0 (AR G s.heap.size)) (F0 m 17 ls []) := by
    intro c1 K hK n
    induction n with
    | zero => intro x3 u H locs ls h; exact False.elim h
    | succ n ih =>
      intro x3 u H locs ls h hP hD hS hl
      unfold l_X10_readAll_17 at h
      refine lv_iload_n hx hb dX10_readAll_17 rfl (lv_at hl 2 rfl) ?_
      refine lv_if_lt (tgt := 56) hx hb dX10_readAll_18 (by decide) (fun hc => ?_) (fun hc => ?_)
      · have h := h.1 hc
        exact hK x3 u _ _ _ h hP hD hS (lv_sub hl [2] rfl)
      · have h := h.2 hc
        refine lv_aload_n hx hb dX10_readAll_21 rfl (lv_at hl 0 rfl) ?_
        refine gR_25 E hP kfX10_89 (v := (gI u 25)) rfl dX10_readAll_22 ?_
        refine lv_iconst (v := (4 : Int32)) hx hb dX10_readAll_25 (by decide) ?_
        refine lv_icmp_eq (tgt := 56) hx hb dX10_readAll_26 (by decide) (fun hc => ?_) (fun hc => ?_)
        · have h := h.1 hc
          exact hK x3 u _ _ _ h hP hD hS (lv_sub hl [2] rfl)
        · have h := h.2 hc
          refine lv_iload_n hx hb dX10_readAll_29 rfl (lv_at hl 2 rfl) ?_
          refine lv_aload_n hx hb dX10_readAll_30 rfl (lv_at hl 0 rfl) ?_
          refine gR_5 E hP kfX10_26 (v := (gI u 5)) rfl dX10_readAll_31 ?_
          refine lv_icmp_lt (tgt := 46) hx hb dX10_readAll_34 (by decide) (fun hc => ?_) (fun hc => ?_)
          · have h := h.1 hc
            refine lv_aload_n hx hb dX10_readAll_46 rfl (lv_at hl 0 rfl) ?_
            refine lv_iload_n hx hb dX10_readAll_47 rfl (lv_at hl 1 rfl) ?_
            refine lv_iload_n hx hb dX10_readAll_48 rfl (lv_at hl 2 rfl) ?_
            refine cR_i (ci := 9) (q0 := 0) (As := [.int c1, .int x3]) (rest := []) E hml hP hD hS hA (t_X10_reads l D G c1 x3 u _ h) kmX10_261 mwyX10_reads rfl rfl ⟨⟨rfl, rfl⟩, Nat.le_of_ble_eq_true rfl, Nat.le_of_ble_eq_true rfl⟩ rfl hl.1 rfl (Nat.le_of_ble_eq_true rfl) dX10_readAll_49 ⟨Nat.zero_le _, Nat.zero_le _⟩ (fun r1 u2 H locs hP hD hS h => ?_)
            refine lv_istore_n (lv' := [(3, .int r1), (0, .ref (G.1 0)), (1, .int c1)]) hx hb dX10_readAll_52 rfl hl (by decide) rfl (fun ls hl => ?_)
            refine lv_goto (tgt := 17) hx hb dX10_readAll_53 (by decide) ?_
            exact ih r1 u2 _ _ _ h hP hD hS (lv_sub hl [1, 2, 0] rfl)
          · have h := h.2 hc
            refine lv_iconst (v := (-1 : Int32)) hx hb dX10_readAll_37 (by decide) ?_
            refine lv_aload_n hx hb dX10_readAll_38 rfl (lv_at hl 0 rfl) ?_
            refine gR_5 E hP kfX10_26 (v := (gI u 5)) rfl dX10_readAll_39 ?_
            refine lv_isub hx hb dX10_readAll_42 ?_
            refine lv_goto (tgt := 52) hx hb dX10_readAll_43 (by decide) ?_
            refine lv_istore_n (lv' := [(3, .int ((-1 : Int32) - (gI u 5))), (0, .ref (G.1 0)), (1, .int c1)]) hx hb dX10_readAll_52 rfl hl (by decide) rfl (fun ls hl => ?_)
            refine lv_goto (tgt := 17) hx hb dX10_readAll_53 (by decide) ?_
            exact ih ((-1 : Int32) - (gI u 5)) u _ _ _ h hP hD hS (lv_sub hl [1, 2, 0] rfl)
  unfold wp_X10_readAll at h
  refine lv_aload_n hx hb dX10_readAll_0 rfl (lv_at hl 0 rfl) ?_
  refine lv_iconst (v := (0 : Int32)) hx hb dX10_readAll_1 (by decide) ?_
  refine pR_29 E hP hD hS kfX10_101 dX10_readAll_2 (fun H locs hP hD hS => ?_)
  refine lv_aload_n hx hb dX10_readAll_5 rfl (lv_at hl 0 rfl) ?_
  refine lv_iconst (v := (0 : Int32)) hx hb dX10_readAll_6 (by decide) ?_
  refine pR_30 E hP hD hS kfX10_104 dX10_readAll_7 (fun H locs hP hD hS => ?_)
  refine lv_aload_n hx hb dX10_readAll_10 rfl (lv_at hl 0 rfl) ?_
  refine lv_iconst (v := (0 : Int32)) hx hb dX10_readAll_11 (by decide) ?_
  refine pR_25 E hP hD hS kfX10_89 dX10_readAll_12 (fun H locs hP hD hS => ?_)
  refine lv_iload_n hx hb dX10_readAll_15 rfl (lv_at hl 2 rfl) ?_
  refine lv_istore_n (lv' := [(3, .int p1), (0, .ref (G.1 0)), (1, .int p0), (2, .int p1)]) hx hb dX10_readAll_16 rfl hl (by decide) rfl (fun ls hl => ?_)
  obtain ⟨n, h⟩ := h
  refine L_17 p0 _ (fun y3 u4 H locs ls h hP hD hS hl => ?_) n p1 (sI (sI (sI u 29 (0 : Int32)) 30 (0 : Int32)) 25 (0 : Int32)) _ _ _ h hP hD hS (lv_sub hl [1, 2, 0] rfl)
  refine lv_iload_n hx hb dX10_readAll_56 rfl (lv_at hl 0 rfl) ?_
  exact retR_i E hr hlk hP hD hS h dX10_readAll_57
def wp_X10_isPair (p0 : Int64) (Q : Int32 → Prop) : Prop := ((p0 < (8589934592 : Int64) → Q (0 : Int32)) ∧ (¬ p0 < (8589934592 : Int64) → Q (1 : Int32)))
abbrev rm_X10_isPair : Room := { frames := 0, cells := 0, slots := 0, locals := 0 }
set_option maxHeartbeats 4000000 in
set_option maxRecDepth 100000 in
theorem t_X10_isPair (l : Launch) (p0 : Int64) (Q : Int32 → Prop) (h : wp_X10_isPair p0 Q) : M0i l yX10_isPair cX10_isPair 2 (some .boolean) rm_X10_isPair [.long p0] Q := by
  refine start0_i (by decide) ?_
  intro p e s m args below meth c hx hb hown hW hr hlk hml hS
  have hP : va_P ((fun _ => 0), (fun _ _ => 0)) vwCl [] s.heap := fun k q h => by simp at h
  have hA : ∀ q, s.heap.size ≤ q → (fun q => s.heap.size ≤ q) q := fun _ h => h
  have hl := lv_entry ([.long p0]) (n := 2) (Nat.le_of_ble_eq_true rfl)
  rw [lg_entry_eq]
  generalize (lg_sl ([.long p0]) ++ List.replicate (2 - (lg_sl ([.long p0])).length) Slot.unset).toArray = ls at hl ⊢
  have hl : lv_has ls 2 [(0, .long p0)] := hl
  unfold wp_X10_isPair at h
  refine lv_lload_n hx hb dX10_isPair_0 rfl (lv_at hl 0 rfl) ?_
  refine lv_ldc2 (v := (8589934592 : Int64)) hx hb hown (hW _ kcX10_201) dX10_isPair_1 ?_
  refine lq_lt (tgt := 12) hx hb dX10_isPair_4 dX10_isPair_5 (by decide) (fun hc => ?_) (fun hc => ?_)
  · have h := h.1 hc
    refine lv_iconst (v := (0 : Int32)) hx hb dX10_isPair_12 (by decide) ?_
    exact ret0_z hx hb hr hlk hS (vz_n vz_0) h dX10_isPair_13
  · have h := h.2 hc
    refine lv_iconst (v := (1 : Int32)) hx hb dX10_isPair_8 (by decide) ?_
    refine lv_goto (tgt := 13) hx hb dX10_isPair_9 (by decide) ?_
    exact ret0_z hx hb hr hlk hS (vz_n vz_1) h dX10_isPair_13
def wp_X10_hold (p0 : Int64) (u : St) (Q : St → Prop) : Prop := wp_X10_isPair p0 (fun (r1 : Int32) => ((r1 = 0 → Q u) ∧ (¬ r1 = 0 → vp_in (((p0 - (8589934592 : Int64))).toInt32) 1000 ∧ ((((gA u 15) (((p0 - (8589934592 : Int64))).toInt32).toNatClampNeg) = 0 → vp_in (((p0 - (8589934592 : Int64))).toInt32) 1000 ∧ vp_in (gI u 18) 1000 ∧ Q (sI (sB (sI (sA u 15 (upd (gA u 15) (((p0 - (8589934592 : Int64))).toInt32).toNatClampNeg (vp_nar .boolean (1 : Int32)))) 16 ((gI u 16) + (1 : Int32))) 17 (vp_updL (gB u 17) ((gI u 18)).toNatClampNeg p0)) 18 ((gI u 18) + (1 : Int32)))) ∧ (¬ ((gA u 15) (((p0 - (8589934592 : Int64))).toInt32).toNatClampNeg) = 0 → Q u)))))
abbrev rm_X10_hold : Room := { frames := 1, cells := 0, slots := 0, locals := 21 }
set_option maxHeartbeats 4000000 in
set_option maxRecDepth 100000 in
theorem t_X10_hold (l : Launch) (D : va_G) (G : Gd) (p0 : Int64) (u : St) (Q : St → Prop) (h : wp_X10_hold p0 u Q) : MRv l D G yX10_hold cX10_hold 4 none rm_X10_hold [.ref (G.1 0), .long p0] u Q := by
  refine startR_v (by decide) ?_
  intro p e s m args below meth c E hr hlk hml hP hD hS hA
  have hx := E.1
  have hb := E.2.1
  have hown := E.2.2.1
  have hW := E.2.2.2.1
  have hl := lv_entry ([.ref (G.1 0), .long p0]) (n := 4) (Nat.le_of_ble_eq_true rfl)
  rw [lg_entry_eq]
  generalize (lg_sl ([.ref (G.1 0), .long p0]) ++ List.replicate (4 - (lg_sl ([.ref (G.1 0), .long p0])).length) Slot.unset).toArray = ls at hl ⊢
  have hl : lv_has ls 4 [(0, .ref (G.1 0)), (1, .long p0)] := hl
  unfold wp_X10_hold at h
  refine lv_lload_n hx hb dX10_hold_0 rfl (lv_at hl 1 rfl) ?_
  refine c0_i (As := [.long p0]) (rest := []) hx hb hml hown hW hP hS hA (t_X10_isPair l p0 _ h) kmX10_205 mwyX10_isPair ⟨⟨rfl, rfl⟩, Nat.le_of_ble_eq_true rfl, Nat.le_of_ble_eq_true rfl⟩ rfl hl.1 rfl (Nat.le_of_ble_eq_true rfl) dX10_hold_1 ⟨Nat.zero_le _, Nat.zero_le _⟩ (fun r1 H locs hP hS h => ?_)
  refine lv_if_ne (tgt := 8) hx hb dX10_hold_4 (by decide) (fun hc => ?_) (fun hc => ?_)
  · have h := h.2 hc
    refine lv_lload_n hx hb dX10_hold_8 rfl (lv_at hl 1 rfl) ?_
    refine lv_ldc2 (v := (8589934592 : Int64)) hx hb hown (hW _ kcX10_201) dX10_hold_9 ?_
    refine lv_lsub hx hb dX10_hold_12 ?_
    refine lv_l2i (v := ((p0 - (8589934592 : Int64))).toInt32) hx hb dX10_hold_13 rfl ?_
    refine lv_istore_n (lv' := [(3, .int ((p0 - (8589934592 : Int64))).toInt32), (0, .ref (G.1 0)), (1, .long p0)]) hx hb dX10_hold_14 rfl hl (by decide) rfl (fun ls hl => ?_)
    refine lv_aload_n hx hb dX10_hold_15 rfl (lv_at hl 1 rfl) ?_
    refine gR_15 E hP kfX10_57 dX10_hold_16 ?_
    refine lv_iload_n hx hb dX10_hold_19 rfl (lv_at hl 0 rfl) ?_
    obtain ⟨h9, h⟩ := h
    refine xR_15 E hP h9 (v := ((gA u 15) (((p0 - (8589934592 : Int64))).toInt32).toNatClampNeg)) rfl dX10_hold_20 ?_
    refine lv_if_eq (tgt := 25) hx hb dX10_hold_21 (by decide) (fun hc => ?_) (fun hc => ?_)
    · have h := h.1 hc
      refine lv_aload_n hx hb dX10_hold_25 rfl (lv_at hl 1 rfl) ?_
      refine gR_15 E hP kfX10_57 dX10_hold_26 ?_
      refine lv_iload_n hx hb dX10_hold_29 rfl (lv_at hl 0 rfl) ?_
      refine lv_iconst (v := (1 : Int32)) hx hb dX10_hold_30 (by decide) ?_
      obtain ⟨h9, h⟩ := h
      refine yR_15 E hP hD hS h9 (f := (gA u 15)) rfl dX10_hold_31 (fun H locs hP hD hS => ?_)
      refine lv_aload_n hx hb dX10_hold_32 rfl (lv_at hl 1 rfl) ?_
      refine lv_dup hx hb dX10_hold_33 rfl ?_
      refine gR_16 E hP kfX10_61 (v := (gI u 16)) rfl dX10_hold_34 ?_
      refine lv_iconst (v := (1 : Int32)) hx hb dX10_hold_37 (by decide) ?_
      refine lv_iadd hx hb dX10_hold_38 ?_
      refine pR_16 E hP hD hS kfX10_61 dX10_hold_39 (fun H locs hP hD hS => ?_)
      refine lv_aload_n hx hb dX10_hold_42 rfl (lv_at hl 1 rfl) ?_
      refine gR_17 E hP kfX10_64 dX10_hold_43 ?_
      refine lv_aload_n hx hb dX10_hold_46 rfl (lv_at hl 1 rfl) ?_
      refine gR_18 E hP kfX10_67 (v := (gI u 18)) rfl dX10_hold_47 ?_
      refine lv_lload_n hx hb dX10_hold_50 rfl (lv_at hl 2 rfl) ?_
      obtain ⟨h9, h⟩ := h
      refine yR_17 E hP hD hS h9 (f := (gB u 17)) rfl dX10_hold_51 (fun H locs hP hD hS => ?_)
      refine lv_aload_n hx hb dX10_hold_52 rfl (lv_at hl 1 rfl) ?_
      refine lv_dup hx hb dX10_hold_53 rfl ?_
      refine gR_18 E hP kfX10_67 (v := (gI u 18)) rfl dX10_hold_54 ?_
      refine lv_iconst (v := (1 : Int32)) hx hb dX10_hold_57 (by decide) ?_
      refine lv_iadd hx hb dX10_hold_58 ?_
      refine pR_18 E hP hD hS kfX10_67 dX10_hold_59 (fun H locs hP hD hS => ?_)
      exact retR_v E hr hlk hP hD hS h dX10_hold_62
    · have h := h.2 hc
      exact retR_v E hr hlk hP hD hS h dX10_hold_24
  · have h := h.1 hc
    exact retR_v E hr hlk hP hD hS h dX10_hold_7
def wp_X10_first (p0 : Int64) (u : St) (Q : Int64 → St → Prop) : Prop := vp_in (((p0 - (8589934592 : Int64))).toInt32) 1000 ∧ Q ((gB u 13) (((p0 - (8589934592 : Int64))).toInt32).toNatClampNeg) u
abbrev rm_X10_first : Room := { frames := 0, cells := 0, slots := 0, locals := 0 }
set_option maxHeartbeats 4000000 in
set_option maxRecDepth 100000 in
theorem t_X10_first (l : Launch) (D : va_G) (G : Gd) (p0 : Int64) (u : St) (Q : Int64 → St → Prop) (h : wp_X10_first p0 u Q) : MRl l D G yX10_first cX10_first 3 (some .long) rm_X10_first [.ref (G.1 0), .long p0] u Q := by
  refine startR_l (by decide) ?_
  intro p e s m args below meth c E hr hlk hml hP hD hS hA
  have hx := E.1
  have hb := E.2.1
  have hown := E.2.2.1
  have hW := E.2.2.2.1
  have hl := lv_entry ([.ref (G.1 0), .long p0]) (n := 3) (Nat.le_of_ble_eq_true rfl)
  rw [lg_entry_eq]
  generalize (lg_sl ([.ref (G.1 0), .long p0]) ++ List.replicate (3 - (lg_sl ([.ref (G.1 0), .long p0])).length) Slot.unset).toArray = ls at hl ⊢
  have hl : lv_has ls 3 [(0, .ref (G.1 0)), (1, .long p0)] := hl
  unfold wp_X10_first at h
  refine lv_aload_n hx hb dX10_first_0 rfl (lv_at hl 0 rfl) ?_
  refine gR_13 E hP kfX10_50 dX10_first_1 ?_
  refine lv_lload_n hx hb dX10_first_4 rfl (lv_at hl 1 rfl) ?_
  refine lv_ldc2 (v := (8589934592 : Int64)) hx hb hown (hW _ kcX10_201) dX10_first_5 ?_
  refine lv_lsub hx hb dX10_first_8 ?_
  refine lv_l2i (v := ((p0 - (8589934592 : Int64))).toInt32) hx hb dX10_first_9 rfl ?_
  obtain ⟨h9, h⟩ := h
  refine xR_13 E hP h9 (v := ((gB u 13) (((p0 - (8589934592 : Int64))).toInt32).toNatClampNeg)) rfl dX10_first_10 ?_
  exact retR_l E hr hlk hP hD hS h dX10_first_11
def wp_X10_behind (p0 : Int64) (u : St) (Q : Int64 → St → Prop) : Prop := vp_in (((p0 - (8589934592 : Int64))).toInt32) 1000 ∧ Q ((gB u 14) (((p0 - (8589934592 : Int64))).toInt32).toNatClampNeg) u
abbrev rm_X10_behind : Room := { frames := 0, cells := 0, slots := 0, locals := 0 }
set_option maxHeartbeats 4000000 in
set_option maxRecDepth 100000 in
theorem t_X10_behind (l : Launch) (D : va_G) (G : Gd) (p0 : Int64) (u : St) (Q : Int64 → St → Prop) (h : wp_X10_behind p0 u Q) : MRl l D G yX10_behind cX10_behind 3 (some .long) rm_X10_behind [.ref (G.1 0), .long p0] u Q := by
  refine startR_l (by decide) ?_
  intro p e s m args below meth c E hr hlk hml hP hD hS hA
  have hx := E.1
  have hb := E.2.1
  have hown := E.2.2.1
  have hW := E.2.2.2.1
  have hl := lv_entry ([.ref (G.1 0), .long p0]) (n := 3) (Nat.le_of_ble_eq_true rfl)
  rw [lg_entry_eq]
  generalize (lg_sl ([.ref (G.1 0), .long p0]) ++ List.replicate (3 - (lg_sl ([.ref (G.1 0), .long p0])).length) Slot.unset).toArray = ls at hl ⊢
  have hl : lv_has ls 3 [(0, .ref (G.1 0)), (1, .long p0)] := hl
  unfold wp_X10_behind at h
  refine lv_aload_n hx hb dX10_behind_0 rfl (lv_at hl 0 rfl) ?_
  refine gR_14 E hP kfX10_54 dX10_behind_1 ?_
  refine lv_lload_n hx hb dX10_behind_4 rfl (lv_at hl 1 rfl) ?_
  refine lv_ldc2 (v := (8589934592 : Int64)) hx hb hown (hW _ kcX10_201) dX10_behind_5 ?_
  refine lv_lsub hx hb dX10_behind_8 ?_
  refine lv_l2i (v := ((p0 - (8589934592 : Int64))).toInt32) hx hb dX10_behind_9 rfl ?_
  obtain ⟨h9, h⟩ := h
  refine xR_14 E hP h9 (v := ((gB u 14) (((p0 - (8589934592 : Int64))).toInt32).toNatClampNeg)) rfl dX10_behind_10 ?_
  exact retR_l E hr hlk hP hD hS h dX10_behind_11
def l_X10_holdAll_0  (K : St → Prop) : Nat → St → Prop
  | 0, _ => False
  | n + 1, u => (((gI u 18) ≤ 0 → K u) ∧ (¬ (gI u 18) ≤ 0 → vp_in ((gI u 18) - (1 : Int32)) 1000 ∧ wp_X10_first ((gB u 17) (((gI u 18) - (1 : Int32))).toNatClampNeg) (sI u 18 ((gI u 18) - (1 : Int32))) (fun (r1 : Int64) (u2 : St) => wp_X10_hold r1 u2 (fun (u3 : St) => wp_X10_behind ((gB u 17) (((gI u 18) - (1 : Int32))).toNatClampNeg) u3 (fun (r4 : Int64) (u5 : St) => wp_X10_hold r4 u5 (fun (u6 : St) => l_X10_holdAll_0  K n u6))))))
def wp_X10_holdAll  (u : St) (Q : St → Prop) : Prop := (∃ k8 : Nat, l_X10_holdAll_0   (fun (u7 : St) => Q u7) k8  u)
abbrev rm_X10_holdAll : Room := { frames := 2, cells := 0, slots := 0, locals := 44 }
set_option maxHeartbeats 4000000 in
set_option maxRecDepth 100000 in
theorem t_X10_holdAll (l : Launch) (D : va_G) (G : Gd)  (u : St) (Q : St → Prop) (h : wp_X10_holdAll  u Q) : MRv l D G yX10_holdAll cX10_holdAll 3 none rm_X10_holdAll [.ref (G.1 0)] u Q := by
  refine startR_v (by decide) ?_
  intro p e s m args below meth c E hr hlk hml hP hD hS hA
  have hx := E.1
  have hb := E.2.1
  have hown := E.2.2.1
  have hW := E.2.2.2.1
  have hl := lv_entry ([.ref (G.1 0)]) (n := 3) (Nat.le_of_ble_eq_true rfl)
  rw [lg_entry_eq]
  generalize (lg_sl ([.ref (G.1 0)]) ++ List.replicate (3 - (lg_sl ([.ref (G.1 0)])).length) Slot.unset).toArray = ls at hl ⊢
  have hl : lv_has ls 3 [(0, .ref (G.1 0))] := hl
  have L_0 : ∀  (K : St → Prop), (∀  (u : St) (H : Heap) (locs : List Loc) (ls : Array Slot), K  u → va_P D vwCl (wR G u) H → va_D (AR G s.heap.size) (wR G u) → va_S (AR G s.heap.size) s.heap H locs → lv_has ls 3 [] → W p l e rm_X10_holdAll s m args below meth c H locs 0 0 (MQ below (va_Qv Q (BR D G s.heap.size) (AR G s.heap.size)) args s 0 0 (AR G s.heap.size)) (F0 m 48 ls [])) → ∀ (n : Nat)  (u : St) (H : Heap) (locs : List Loc) (ls : Array Slot), l_X10_holdAll_0  K n  u → va_P D vwCl (wR G u) H → va_D (AR G s.heap.size) (wR G u) → va_S (AR G s.heap.size) s.heap H locs → lv_has ls 3 [(0, .ref (G.1 0))] → W p l e rm_X10_holdAll s m args below meth c H locs 0 0 (MQ below (va_Qv Q (BR D G s.heap.size) (AR G s.heap.size)) args s 0 0 (AR G s.heap.size)) (F0 m 0 ls []) := by
    intro  K hK n
    induction n with
    | zero => intro  u H locs ls h; exact False.elim h
    | succ n ih =>
      intro  u H locs ls h hP hD hS hl
      unfold l_X10_holdAll_0 at h
      refine lv_aload_n hx hb dX10_holdAll_0 rfl (lv_at hl 0 rfl) ?_
      refine gR_18 E hP kfX10_67 (v := (gI u 18)) rfl dX10_holdAll_1 ?_
      refine lv_if_le (tgt := 48) hx hb dX10_holdAll_4 (by decide) (fun hc => ?_) (fun hc => ?_)
      · have h := h.1 hc
        exact hK u _ _ _ h hP hD hS (lv_sub hl [] rfl)
      · have h := h.2 hc
        refine lv_aload_n hx hb dX10_holdAll_7 rfl (lv_at hl 0 rfl) ?_
        refine lv_dup hx hb dX10_holdAll_8 rfl ?_
        refine gR_18 E hP kfX10_67 (v := (gI u 18)) rfl dX10_holdAll_9 ?_
        refine lv_iconst (v := (1 : Int32)) hx hb dX10_holdAll_12 (by decide) ?_
        refine lv_isub hx hb dX10_holdAll_13 ?_
        refine pR_18 E hP hD hS kfX10_67 dX10_holdAll_14 (fun H locs hP hD hS => ?_)
        refine lv_aload_n hx hb dX10_holdAll_17 rfl (lv_at hl 0 rfl) ?_
        refine gR_17 E hP kfX10_64 dX10_holdAll_18 ?_
        refine lv_aload_n hx hb dX10_holdAll_21 rfl (lv_at hl 0 rfl) ?_
        refine gR_18 E hP kfX10_67 (v := ((gI u 18) - (1 : Int32))) rfl dX10_holdAll_22 ?_
        obtain ⟨h9, h⟩ := h
        refine xR_17 E hP h9 (v := ((gB u 17) (((gI u 18) - (1 : Int32))).toNatClampNeg)) rfl dX10_holdAll_25 ?_
        refine lv_lstore_n (lv' := [(1, .long ((gB u 17) (((gI u 18) - (1 : Int32))).toNatClampNeg)), (0, .ref (G.1 0))]) hx hb dX10_holdAll_26 rfl hl (by decide) rfl (fun ls hl => ?_)
        refine lv_aload_n hx hb dX10_holdAll_27 rfl (lv_at hl 1 rfl) ?_
        refine lv_aload_n hx hb dX10_holdAll_28 rfl (lv_at hl 1 rfl) ?_
        refine lv_lload_n hx hb dX10_holdAll_29 rfl (lv_at hl 0 rfl) ?_
        refine cR_l (ci := 9) (q0 := 0) (As := [.long ((gB u 17) (((gI u 18) - (1 : Int32))).toNatClampNeg)]) (rest := [.ref (G.1 0)]) E hml hP hD hS hA (t_X10_first l D G ((gB u 17) (((gI u 18) - (1 : Int32))).toNatClampNeg) (sI u 18 ((gI u 18) - (1 : Int32))) _ h) kmX10_209 mwyX10_first rfl rfl ⟨⟨rfl, rfl⟩, Nat.le_of_ble_eq_true rfl, Nat.le_of_ble_eq_true rfl⟩ rfl hl.1 rfl (Nat.le_of_ble_eq_true rfl) dX10_holdAll_30 ⟨Nat.zero_le _, Nat.zero_le _⟩ (fun r1 u2 H locs hP hD hS h => ?_)
        refine cR_v (ci := 9) (q0 := 0) (As := [.long r1]) (rest := []) E hml hP hD hS hA (t_X10_hold l D G r1 u2 _ h) kmX10_213 mwyX10_hold rfl rfl ⟨⟨rfl, rfl⟩, Nat.le_of_ble_eq_true rfl, Nat.le_of_ble_eq_true rfl⟩ rfl hl.1 rfl (Nat.le_of_ble_eq_true rfl) dX10_holdAll_33 ⟨Nat.zero_le _, Nat.zero_le _⟩ (fun u3 H locs hP hD hS h => ?_)
        refine lv_aload_n hx hb dX10_holdAll_36 rfl (lv_at hl 1 rfl) ?_
        refine lv_aload_n hx hb dX10_holdAll_37 rfl (lv_at hl 1 rfl) ?_
        refine lv_lload_n hx hb dX10_holdAll_38 rfl (lv_at hl 0 rfl) ?_
        refine cR_l (ci := 9) (q0 := 0) (As := [.long ((gB u 17) (((gI u 18) - (1 : Int32))).toNatClampNeg)]) (rest := [.ref (G.1 0)]) E hml hP hD hS hA (t_X10_behind l D G ((gB u 17) (((gI u 18) - (1 : Int32))).toNatClampNeg) u3 _ h) kmX10_216 mwyX10_behind rfl rfl ⟨⟨rfl, rfl⟩, Nat.le_of_ble_eq_true rfl, Nat.le_of_ble_eq_true rfl⟩ rfl hl.1 rfl (Nat.le_of_ble_eq_true rfl) dX10_holdAll_39 ⟨Nat.zero_le _, Nat.zero_le _⟩ (fun r4 u5 H locs hP hD hS h => ?_)
        refine cR_v (ci := 9) (q0 := 0) (As := [.long r4]) (rest := []) E hml hP hD hS hA (t_X10_hold l D G r4 u5 _ h) kmX10_213 mwyX10_hold rfl rfl ⟨⟨rfl, rfl⟩, Nat.le_of_ble_eq_true rfl, Nat.le_of_ble_eq_true rfl⟩ rfl hl.1 rfl (Nat.le_of_ble_eq_true rfl) dX10_holdAll_42 ⟨Nat.zero_le _, Nat.zero_le _⟩ (fun u6 H locs hP hD hS h => ?_)
        refine lv_goto (tgt := 0) hx hb dX10_holdAll_45 (by decide) ?_
        exact ih u6 _ _ _ h hP hD hS (lv_sub hl [1] rfl)
  unfold wp_X10_holdAll at h
  obtain ⟨n, h⟩ := h
  refine L_0  _ (fun u7 H locs ls h hP hD hS hl => ?_) n  u _ _ _ h hP hD hS (lv_sub hl [0] rfl)
  exact retR_v E hr hlk hP hD hS h dX10_holdAll_48
def l_X10_holdGlobals_2  (K : St → Prop) : Nat → Int32 → St → Prop
  | 0, _, _ => False
  | n + 1, x1, u => (((1000 : Int32) ≤ x1 → K u) ∧ (¬ (1000 : Int32) ≤ x1 → vp_in x1 1000 ∧ l_X10_holdGlobals_2  K n (x1 + (1 : Int32)) (sA u 15 (upd (gA u 15) (x1).toNatClampNeg (vp_nar .boolean (0 : Int32))))))
def l_X10_holdGlobals_34  (K : St → Prop) : Nat → Int32 → St → Prop
  | 0, _, _ => False
  | n + 1, x1, u => (((gI u 21) ≤ x1 → K u) ∧ (¬ (gI u 21) ≤ x1 → vp_in x1 150 ∧ ((((gB u 20) (x1).toNatClampNeg) < (0 : Int64) → l_X10_holdGlobals_34  K n (x1 + (1 : Int32)) u) ∧ (¬ ((gB u 20) (x1).toNatClampNeg) < (0 : Int64) → vp_in x1 150 ∧ wp_X10_hold ((gB u 20) (x1).toNatClampNeg) u (fun (u2 : St) => l_X10_holdGlobals_34  K n (x1 + (1 : Int32)) u2)))))
def wp_X10_holdGlobals  (u : St) (Q : St → Prop) : Prop := (∃ k6 : Nat, l_X10_holdGlobals_2   (fun (u1 : St) => (∃ k5 : Nat, l_X10_holdGlobals_34   (fun (u3 : St) => wp_X10_holdAll  u3 (fun (u4 : St) => Q u4)) k5 (0 : Int32) (sI (sI u1 16 (0 : Int32)) 18 (0 : Int32)))) k6 (0 : Int32) u)
abbrev rm_X10_holdGlobals : Room := { frames := 3, cells := 0, slots := 0, locals := 66 }
set_option maxHeartbeats 4000000 in
set_option maxRecDepth 100000 in
theorem t_X10_holdGlobals (l : Launch) (D : va_G) (G : Gd)  (u : St) (Q : St → Prop) (h : wp_X10_holdGlobals  u Q) : MRv l D G yX10_holdGlobals cX10_holdGlobals 2 none rm_X10_holdGlobals [.ref (G.1 0)] u Q := by
  refine startR_v (by decide) ?_
  intro p e s m args below meth c E hr hlk hml hP hD hS hA
  have hx := E.1
  have hb := E.2.1
  have hown := E.2.2.1
  have hW := E.2.2.2.1
  have hl := lv_entry ([.ref (G.1 0)]) (n := 2) (Nat.le_of_ble_eq_true rfl)
  rw [lg_entry_eq]
  generalize (lg_sl ([.ref (G.1 0)]) ++ List.replicate (2 - (lg_sl ([.ref (G.1 0)])).length) Slot.unset).toArray = ls at hl ⊢
  have hl : lv_has ls 2 [(0, .ref (G.1 0))] := hl
  have L_2 : ∀  (K : St → Prop), (∀  (u : St) (H : Heap) (locs : List Loc) (ls : Array Slot), K  u → va_P D vwCl (wR G u) H → va_D (AR G s.heap.size) (wR G u) → va_S (AR G s.heap.size) s.heap H locs → lv_has ls 2 [(0, .ref (G.1 0))] → W p l e rm_X10_holdGlobals s m args below meth c H locs 0 0 (MQ below (va_Qv Q (BR D G s.heap.size) (AR G s.heap.size)) args s 0 0 (AR G s.heap.size)) (F0 m 22 ls [])) → ∀ (n : Nat) (x1 : Int32) (u : St) (H : Heap) (locs : List Loc) (ls : Array Slot), l_X10_holdGlobals_2  K n x1 u → va_P D vwCl (wR G u) H → va_D (AR G s.heap.size) (wR G u) → va_S (AR G s.heap.size) s.heap H locs → lv_has ls 2 [(0, .ref (G.1 0)), (1, .int x1)] → W p l e rm_X10_holdGlobals s m args below meth c H locs 0 0 (MQ below (va_Qv Q (BR D G s.heap.size) (AR G s.heap.size)) args s 0 0 (AR G s.heap.size)) (F0 m 2 ls []) := by
    intro  K hK n
    induction n with
    | zero => intro x1 u H locs ls h; exact False.elim h
    | succ n ih =>
      intro x1 u H locs ls h hP hD hS hl
      unfold l_X10_holdGlobals_2 at h
      refine lv_iload_n hx hb dX10_holdGlobals_2 rfl (lv_at hl 1 rfl) ?_
      refine lv_sipush (v := (1000 : Int32)) hx hb dX10_holdGlobals_3 (by decide) ?_
      refine lv_icmp_ge (tgt := 22) hx hb dX10_holdGlobals_6 (by decide) (fun hc => ?_) (fun hc => ?_)
      · have h := h.1 hc
        exact hK u _ _ _ h hP hD hS (lv_sub hl [0] rfl)
      · have h := h.2 hc
        refine lv_aload_n hx hb dX10_holdGlobals_9 rfl (lv_at hl 0 rfl) ?_
        refine gR_15 E hP kfX10_57 dX10_holdGlobals_10 ?_
        refine lv_iload_n hx hb dX10_holdGlobals_13 rfl (lv_at hl 1 rfl) ?_
        refine lv_iconst (v := (0 : Int32)) hx hb dX10_holdGlobals_14 (by decide) ?_
        obtain ⟨h9, h⟩ := h
        refine yR_15 E hP hD hS h9 (f := (gA u 15)) rfl dX10_holdGlobals_15 (fun H locs hP hD hS => ?_)
        refine lv_iinc (v := (x1 + (1 : Int32))) (lv' := [(1, .int (x1 + (1 : Int32))), (0, .ref (G.1 0))]) hx hb dX10_holdGlobals_16 hl (k := 1) rfl rfl (by decide) rfl (fun ls hl => ?_)
        refine lv_goto (tgt := 2) hx hb dX10_holdGlobals_19 (by decide) ?_
        exact ih (x1 + (1 : Int32)) (sA u 15 (upd (gA u 15) (x1).toNatClampNeg (vp_nar .boolean (0 : Int32)))) _ _ _ h hP hD hS (lv_sub hl [1, 0] rfl)
  have L_34 : ∀  (K : St → Prop), (∀  (u : St) (H : Heap) (locs : List Loc) (ls : Array Slot), K  u → va_P D vwCl (wR G u) H → va_D (AR G s.heap.size) (wR G u) → va_S (AR G s.heap.size) s.heap H locs → lv_has ls 2 [(0, .ref (G.1 0))] → W p l e rm_X10_holdGlobals s m args below meth c H locs 0 0 (MQ below (va_Qv Q (BR D G s.heap.size) (AR G s.heap.size)) args s 0 0 (AR G s.heap.size)) (F0 m 69 ls [])) → ∀ (n : Nat) (x1 : Int32) (u : St) (H : Heap) (locs : List Loc) (ls : Array Slot), l_X10_holdGlobals_34  K n x1 u → va_P D vwCl (wR G u) H → va_D (AR G s.heap.size) (wR G u) → va_S (AR G s.heap.size) s.heap H locs → lv_has ls 2 [(0, .ref (G.1 0)), (1, .int x1)] → W p l e rm_X10_holdGlobals s m args below meth c H locs 0 0 (MQ below (va_Qv Q (BR D G s.heap.size) (AR G s.heap.size)) args s 0 0 (AR G s.heap.size)) (F0 m 34 ls []) := by
    intro  K hK n
    induction n with
    | zero => intro x1 u H locs ls h; exact False.elim h
    | succ n ih =>
      intro x1 u H locs ls h hP hD hS hl
      unfold l_X10_holdGlobals_34 at h
      refine lv_iload_n hx hb dX10_holdGlobals_34 rfl (lv_at hl 1 rfl) ?_
      refine lv_aload_n hx hb dX10_holdGlobals_35 rfl (lv_at hl 0 rfl) ?_
      refine gR_21 E hP kfX10_76 (v := (gI u 21)) rfl dX10_holdGlobals_36 ?_
      refine lv_icmp_ge (tgt := 69) hx hb dX10_holdGlobals_39 (by decide) (fun hc => ?_) (fun hc => ?_)
      · have h := h.1 hc
        exact hK u _ _ _ h hP hD hS (lv_sub hl [0] rfl)
      · have h := h.2 hc
        refine lv_aload_n hx hb dX10_holdGlobals_42 rfl (lv_at hl 0 rfl) ?_
        refine gR_20 E hP kfX10_73 dX10_holdGlobals_43 ?_
        refine lv_iload_n hx hb dX10_holdGlobals_46 rfl (lv_at hl 1 rfl) ?_
        obtain ⟨h9, h⟩ := h
        refine xR_20 E hP h9 (v := ((gB u 20) (x1).toNatClampNeg)) rfl dX10_holdGlobals_47 ?_
        refine lv_lconst (v := (0 : Int64)) hx hb dX10_holdGlobals_48 (by decide) ?_
        refine lq_lt (tgt := 63) hx hb dX10_holdGlobals_49 dX10_holdGlobals_50 (by decide) (fun hc => ?_) (fun hc => ?_)
        · have h := h.1 hc
          refine lv_iinc (v := (x1 + (1 : Int32))) (lv' := [(1, .int (x1 + (1 : Int32))), (0, .ref (G.1 0))]) hx hb dX10_holdGlobals_63 hl (k := 1) rfl rfl (by decide) rfl (fun ls hl => ?_)
          refine lv_goto (tgt := 34) hx hb dX10_holdGlobals_66 (by decide) ?_
          exact ih (x1 + (1 : Int32)) u _ _ _ h hP hD hS (lv_sub hl [1, 0] rfl)
        · have h := h.2 hc
          refine lv_aload_n hx hb dX10_holdGlobals_53 rfl (lv_at hl 0 rfl) ?_
          refine lv_aload_n hx hb dX10_holdGlobals_54 rfl (lv_at hl 0 rfl) ?_
          refine gR_20 E hP kfX10_73 dX10_holdGlobals_55 ?_
          refine lv_iload_n hx hb dX10_holdGlobals_58 rfl (lv_at hl 1 rfl) ?_
          obtain ⟨h9, h⟩ := h
          refine xR_20 E hP h9 (v := ((gB u 20) (x1).toNatClampNeg)) rfl dX10_holdGlobals_59 ?_
          refine cR_v (ci := 9) (q0 := 0) (As := [.long ((gB u 20) (x1).toNatClampNeg)]) (rest := []) E hml hP hD hS hA (t_X10_hold l D G ((gB u 20) (x1).toNatClampNeg) u _ h) kmX10_213 mwyX10_hold rfl rfl ⟨⟨rfl, rfl⟩, Nat.le_of_ble_eq_true rfl, Nat.le_of_ble_eq_true rfl⟩ rfl hl.1 rfl (Nat.le_of_ble_eq_true rfl) dX10_holdGlobals_60 ⟨Nat.zero_le _, Nat.zero_le _⟩ (fun u2 H locs hP hD hS h => ?_)
          refine lv_iinc (v := (x1 + (1 : Int32))) (lv' := [(1, .int (x1 + (1 : Int32))), (0, .ref (G.1 0))]) hx hb dX10_holdGlobals_63 hl (k := 1) rfl rfl (by decide) rfl (fun ls hl => ?_)
          refine lv_goto (tgt := 34) hx hb dX10_holdGlobals_66 (by decide) ?_
          exact ih (x1 + (1 : Int32)) u2 _ _ _ h hP hD hS (lv_sub hl [1, 0] rfl)
  unfold wp_X10_holdGlobals at h
  refine lv_iconst (v := (0 : Int32)) hx hb dX10_holdGlobals_0 (by decide) ?_
  refine lv_istore_n (lv' := [(1, .int (0 : Int32)), (0, .ref (G.1 0))]) hx hb dX10_holdGlobals_1 rfl hl (by decide) rfl (fun ls hl => ?_)
  obtain ⟨n, h⟩ := h
  refine L_2  _ (fun u1 H locs ls h hP hD hS hl => ?_) n (0 : Int32) u _ _ _ h hP hD hS (lv_sub hl [1, 0] rfl)
  refine lv_aload_n hx hb dX10_holdGlobals_22 rfl (lv_at hl 0 rfl) ?_
  refine lv_iconst (v := (0 : Int32)) hx hb dX10_holdGlobals_23 (by decide) ?_
  refine pR_16 E hP hD hS kfX10_61 dX10_holdGlobals_24 (fun H locs hP hD hS => ?_)
  refine lv_aload_n hx hb dX10_holdGlobals_27 rfl (lv_at hl 0 rfl) ?_
  refine lv_iconst (v := (0 : Int32)) hx hb dX10_holdGlobals_28 (by decide) ?_
  refine pR_18 E hP hD hS kfX10_67 dX10_holdGlobals_29 (fun H locs hP hD hS => ?_)
  refine lv_iconst (v := (0 : Int32)) hx hb dX10_holdGlobals_32 (by decide) ?_
  refine lv_istore_n (lv' := [(1, .int (0 : Int32)), (0, .ref (G.1 0))]) hx hb dX10_holdGlobals_33 rfl hl (by decide) rfl (fun ls hl => ?_)
  obtain ⟨n, h⟩ := h
  refine L_34  _ (fun u3 H locs ls h hP hD hS hl => ?_) n (0 : Int32) (sI (sI u1 16 (0 : Int32)) 18 (0 : Int32)) _ _ _ h hP hD hS (lv_sub hl [1, 0] rfl)
  refine lv_aload_n hx hb dX10_holdGlobals_69 rfl (lv_at hl 0 rfl) ?_
  refine cR_v (ci := 9) (q0 := 0) (As := []) (rest := []) E hml hP hD hS hA (t_X10_holdAll l D G  u3 _ h) kmX10_219 mwyX10_holdAll rfl rfl ⟨⟨rfl, rfl⟩, Nat.le_of_ble_eq_true rfl, Nat.le_of_ble_eq_true rfl⟩ rfl hl.1 rfl (Nat.le_of_ble_eq_true rfl) dX10_holdGlobals_70 ⟨Nat.zero_le _, Nat.zero_le _⟩ (fun u4 H locs hP hD hS h => ?_)
  exact retR_v E hr hlk hP hD hS h dX10_holdGlobals_73
def wp_X10_room (p0 : Int32) (u : St) (Q : Int32 → St → Prop) : Prop := wp_X10_holdAll  u (fun (u1 : St) => ((((gI u1 16) + p0) ≤ (gI u1 1) → (((gI u1 8) = 0 → Q (1 : Int32) u1) ∧ (¬ (gI u1 8) = 0 → Q (0 : Int32) u1))) ∧ (¬ ((gI u1 16) + p0) ≤ (gI u1 1) → Q (0 : Int32) (sI u1 8 (6 : Int32)))))
abbrev rm_X10_room : Room := { frames := 3, cells := 0, slots := 0, locals := 66 }
set_option maxHeartbeats 4000000 in
set_option maxRecDepth 100000 in
theorem t_X10_room (l : Launch) (D : va_G) (G : Gd) (p0 : Int32) (u : St) (Q : Int32 → St → Prop) (h : wp_X10_room p0 u Q) : MRi l D G yX10_room cX10_room 2 (some .boolean) rm_X10_room [.ref (G.1 0), .int p0] u Q := by
  refine startR_i (by decide) ?_
  intro p e s m args below meth c E hr hlk hml hP hD hS hA
  have hx := E.1
  have hb := E.2.1
  have hown := E.2.2.1
  have hW := E.2.2.2.1
  have hl := lv_entry ([.ref (G.1 0), .int p0]) (n := 2) (Nat.le_of_ble_eq_true rfl)
  rw [lg_entry_eq]
  generalize (lg_sl ([.ref (G.1 0), .int p0]) ++ List.replicate (2 - (lg_sl ([.ref (G.1 0), .int p0])).length) Slot.unset).toArray = ls at hl ⊢
  have hl : lv_has ls 2 [(0, .ref (G.1 0)), (1, .int p0)] := hl
  unfold wp_X10_room at h
  refine lv_aload_n hx hb dX10_room_0 rfl (lv_at hl 0 rfl) ?_
  refine cR_v (ci := 9) (q0 := 0) (As := []) (rest := []) E hml hP hD hS hA (t_X10_holdAll l D G  u _ h) kmX10_219 mwyX10_holdAll rfl rfl ⟨⟨rfl, rfl⟩, Nat.le_of_ble_eq_true rfl, Nat.le_of_ble_eq_true rfl⟩ rfl hl.1 rfl (Nat.le_of_ble_eq_true rfl) dX10_room_1 ⟨Nat.zero_le _, Nat.zero_le _⟩ (fun u1 H locs hP hD hS h => ?_)
  refine lv_aload_n hx hb dX10_room_4 rfl (lv_at hl 0 rfl) ?_
  refine gR_16 E hP kfX10_61 (v := (gI u1 16)) rfl dX10_room_5 ?_
  refine lv_iload_n hx hb dX10_room_8 rfl (lv_at hl 1 rfl) ?_
  refine lv_iadd hx hb dX10_room_9 ?_
  refine lv_aload_n hx hb dX10_room_10 rfl (lv_at hl 0 rfl) ?_
  refine gR_1 E hP kfX10_13 (v := (gI u1 1)) rfl dX10_room_11 ?_
  refine lv_icmp_le (tgt := 23) hx hb dX10_room_14 (by decide) (fun hc => ?_) (fun hc => ?_)
  · have h := h.1 hc
    refine lv_aload_n hx hb dX10_room_23 rfl (lv_at hl 0 rfl) ?_
    refine gR_8 E hP kfX10_35 (v := (gI u1 8)) rfl dX10_room_24 ?_
    refine lv_if_ne (tgt := 34) hx hb dX10_room_27 (by decide) (fun hc => ?_) (fun hc => ?_)
    · have h := h.2 hc
      refine lv_iconst (v := (0 : Int32)) hx hb dX10_room_34 (by decide) ?_
      exact retR_z E hr hlk hP hD hS (vz_n vz_0) h dX10_room_35
    · have h := h.1 hc
      refine lv_iconst (v := (1 : Int32)) hx hb dX10_room_30 (by decide) ?_
      refine lv_goto (tgt := 35) hx hb dX10_room_31 (by decide) ?_
      exact retR_z E hr hlk hP hD hS (vz_n vz_1) h dX10_room_35
  · have h := h.2 hc
    refine lv_aload_n hx hb dX10_room_17 rfl (lv_at hl 0 rfl) ?_
    refine lv_bipush (v := (6 : Int32)) hx hb dX10_room_18 (by decide) ?_
    refine pR_8 E hP hD hS kfX10_35 dX10_room_20 (fun H locs hP hD hS => ?_)
    refine lv_aload_n hx hb dX10_room_23 rfl (lv_at hl 0 rfl) ?_
    refine gR_8 E hP kfX10_35 (v := (6 : Int32)) rfl dX10_room_24 ?_
    refine lv_if_ne (tgt := 34) hx hb dX10_room_27 (by decide) (fun _ => ?_) (fun hc => absurd hc (by decide))
    refine lv_iconst (v := (0 : Int32)) hx hb dX10_room_34 (by decide) ?_
    exact retR_z E hr hlk hP hD hS (vz_n vz_0) h dX10_room_35
def wp_X10_isName (p0 : Int64) (Q : Int32 → Prop) : Prop := ((p0 < (4294967296 : Int64) → Q (0 : Int32)) ∧ (¬ p0 < (4294967296 : Int64) → (((8589934592 : Int64) ≤ p0 → Q (0 : Int32)) ∧ (¬ (8589934592 : Int64) ≤ p0 → Q (1 : Int32)))))
abbrev rm_X10_isName : Room := { frames := 0, cells := 0, slots := 0, locals := 0 }
set_option maxHeartbeats 4000000 in
set_option maxRecDepth 100000 in
theorem t_X10_isName (l : Launch) (p0 : Int64) (Q : Int32 → Prop) (h : wp_X10_isName p0 Q) : M0i l yX10_isName cX10_isName 2 (some .boolean) rm_X10_isName [.long p0] Q := by
  refine start0_i (by decide) ?_
  intro p e s m args below meth c hx hb hown hW hr hlk hml hS
  have hP : va_P ((fun _ => 0), (fun _ _ => 0)) vwCl [] s.heap := fun k q h => by simp at h
  have hA : ∀ q, s.heap.size ≤ q → (fun q => s.heap.size ≤ q) q := fun _ h => h
  have hl := lv_entry ([.long p0]) (n := 2) (Nat.le_of_ble_eq_true rfl)
  rw [lg_entry_eq]
  generalize (lg_sl ([.long p0]) ++ List.replicate (2 - (lg_sl ([.long p0])).length) Slot.unset).toArray = ls at hl ⊢
  have hl : lv_has ls 2 [(0, .long p0)] := hl
  unfold wp_X10_isName at h
  refine lv_lload_n hx hb dX10_isName_0 rfl (lv_at hl 0 rfl) ?_
  refine lv_ldc2 (v := (4294967296 : Int64)) hx hb hown (hW _ kcX10_199) dX10_isName_1 ?_
  refine lq_lt (tgt := 20) hx hb dX10_isName_4 dX10_isName_5 (by decide) (fun hc => ?_) (fun hc => ?_)
  · have h := h.1 hc
    refine lv_iconst (v := (0 : Int32)) hx hb dX10_isName_20 (by decide) ?_
    exact ret0_z hx hb hr hlk hS (vz_n vz_0) h dX10_isName_21
  · have h := h.2 hc
    refine lv_lload_n hx hb dX10_isName_8 rfl (lv_at hl 0 rfl) ?_
    refine lv_ldc2 (v := (8589934592 : Int64)) hx hb hown (hW _ kcX10_201) dX10_isName_9 ?_
    refine lq_ge (tgt := 20) hx hb dX10_isName_12 dX10_isName_13 (by decide) (fun hc => ?_) (fun hc => ?_)
    · have h := h.1 hc
      refine lv_iconst (v := (0 : Int32)) hx hb dX10_isName_20 (by decide) ?_
      exact ret0_z hx hb hr hlk hS (vz_n vz_0) h dX10_isName_21
    · have h := h.2 hc
      refine lv_iconst (v := (1 : Int32)) hx hb dX10_isName_16 (by decide) ?_
      refine lv_goto (tgt := 21) hx hb dX10_isName_17 (by decide) ?_
      exact ret0_z hx hb hr hlk hS (vz_n vz_1) h dX10_isName_21
def wp_X10_put (p0 : Int32) (u : St) (Q : St → Prop) : Prop := (((400 : Int32) ≤ (gI u 12) → Q u) ∧ (¬ (400 : Int32) ≤ (gI u 12) → vp_in (gI u 12) 400 ∧ Q (sI (sA u 11 (upd (gA u 11) ((gI u 12)).toNatClampNeg p0)) 12 ((gI u 12) + (1 : Int32)))))
abbrev rm_X10_put : Room := { frames := 0, cells := 0, slots := 0, locals := 0 }
set_option maxHeartbeats 4000000 in
set_option maxRecDepth 100000 in
theorem t_X10_put (l : Launch) (D : va_G) (G : Gd) (p0 : Int32) (u : St) (Q : St → Prop) (h : wp_X10_put p0 u Q) : MRv l D G yX10_put cX10_put 2 none rm_X10_put [.ref (G.1 0), .int p0] u Q := by
  refine startR_v (by decide) ?_
  intro p e s m args below meth c E hr hlk hml hP hD hS hA
  have hx := E.1
  have hb := E.2.1
  have hown := E.2.2.1
  have hW := E.2.2.2.1
  have hl := lv_entry ([.ref (G.1 0), .int p0]) (n := 2) (Nat.le_of_ble_eq_true rfl)
  rw [lg_entry_eq]
  generalize (lg_sl ([.ref (G.1 0), .int p0]) ++ List.replicate (2 - (lg_sl ([.ref (G.1 0), .int p0])).length) Slot.unset).toArray = ls at hl ⊢
  have hl : lv_has ls 2 [(0, .ref (G.1 0)), (1, .int p0)] := hl
  unfold wp_X10_put at h
  refine lv_aload_n hx hb dX10_put_0 rfl (lv_at hl 0 rfl) ?_
  refine gR_12 E hP kfX10_47 (v := (gI u 12)) rfl dX10_put_1 ?_
  refine lv_sipush (v := (400 : Int32)) hx hb dX10_put_4 (by decide) ?_
  refine lv_icmp_ge (tgt := 30) hx hb dX10_put_7 (by decide) (fun hc => ?_) (fun hc => ?_)
  · have h := h.1 hc
    exact retR_v E hr hlk hP hD hS h dX10_put_30
  · have h := h.2 hc
    refine lv_aload_n hx hb dX10_put_10 rfl (lv_at hl 0 rfl) ?_
    refine gR_11 E hP kfX10_44 dX10_put_11 ?_
    refine lv_aload_n hx hb dX10_put_14 rfl (lv_at hl 0 rfl) ?_
    refine gR_12 E hP kfX10_47 (v := (gI u 12)) rfl dX10_put_15 ?_
    refine lv_iload_n hx hb dX10_put_18 rfl (lv_at hl 1 rfl) ?_
    obtain ⟨h9, h⟩ := h
    refine yR_11 E hP hD hS h9 (f := (gA u 11)) rfl dX10_put_19 (fun H locs hP hD hS => ?_)
    refine lv_aload_n hx hb dX10_put_20 rfl (lv_at hl 0 rfl) ?_
    refine lv_dup hx hb dX10_put_21 rfl ?_
    refine gR_12 E hP kfX10_47 (v := (gI u 12)) rfl dX10_put_22 ?_
    refine lv_iconst (v := (1 : Int32)) hx hb dX10_put_25 (by decide) ?_
    refine lv_iadd hx hb dX10_put_26 ?_
    refine pR_12 E hP hD hS kfX10_47 dX10_put_27 (fun H locs hP hD hS => ?_)
    exact retR_v E hr hlk hP hD hS h dX10_put_30
def l_X10_putAtom_123 (c4 : Int64) (K : Int64 → St → Prop) : Nat → Int64 → St → Prop
  | 0, _, _ => False
  | n + 1, x6, u => (((c4 / (10 : Int64)) < x6 → K x6 u) ∧ (¬ (c4 / (10 : Int64)) < x6 → l_X10_putAtom_123  c4 K n (x6 * (10 : Int64)) u))
def l_X10_putAtom_146 (c4 : Int64) (K : St → Prop) : Nat → Int64 → St → Prop
  | 0, _, _ => False
  | n + 1, x6, u => ((x6 ≤ (0 : Int64) → K u) ∧ (¬ x6 ≤ (0 : Int64) → ¬ x6 = 0 ∧ wp_X10_put ((((c4 / x6) - (c4 / x6) / (10 : Int64) * (10 : Int64))).toInt32 + (48 : Int32)) u (fun (u4 : St) => l_X10_putAtom_146  c4 K n (x6 / (10 : Int64)) u4)))
def l_X10_putAtom_22 (c3 : Int64) (K : Int64 → St → Prop) : Nat → Int64 → St → Prop
  | 0, _, _ => False
  | n + 1, x5, u => (((c3 / (37 : Int64)) < x5 → K x5 u) ∧ (¬ (c3 / (37 : Int64)) < x5 → l_X10_putAtom_22  c3 K n (x5 * (37 : Int64)) u))
def l_X10_putAtom_44 (c3 : Int64) (K : St → Prop) : Nat → Int64 → St → Prop
  | 0, _, _ => False
  | n + 1, x5, u => ((x5 ≤ (0 : Int64) → K u) ∧ (¬ x5 ≤ (0 : Int64) → ¬ x5 = 0 ∧ (((27 : Int32) ≤ (((c3 / x5) - (c3 / x5) / (37 : Int64) * (37 : Int64))).toInt32 → wp_X10_put ((((c3 / x5) - (c3 / x5) / (37 : Int64) * (37 : Int64))).toInt32 + (21 : Int32)) u (fun (u16 : St) => l_X10_putAtom_44  c3 K n (x5 / (37 : Int64)) u16)) ∧ (¬ (27 : Int32) ≤ (((c3 / x5) - (c3 / x5) / (37 : Int64) * (37 : Int64))).toInt32 → wp_X10_put ((((c3 / x5) - (c3 / x5) / (37 : Int64) * (37 : Int64))).toInt32 + (64 : Int32)) u (fun (u17 : St) => l_X10_putAtom_44  c3 K n (x5 / (37 : Int64)) u17)))))
def wp_X10_putAtom (p0 : Int64) (u : St) (Q : St → Prop) : Prop := wp_X10_isName p0 (fun (r1 : Int32) => ((r1 = 0 → ((0 ≤ (p0).toInt32 → (∃ k7 : Nat, l_X10_putAtom_123  (((p0).toInt32).toInt64) (fun (y2 : Int64) (u3 : St) => (∃ k6 : Nat, l_X10_putAtom_146  (((p0).toInt32).toInt64) (fun (u5 : St) => Q u5) k6 y2 u3)) k7 (1 : Int64) u)) ∧ (¬ 0 ≤ (p0).toInt32 → wp_X10_put (45 : Int32) u (fun (u8 : St) => (∃ k13 : Nat, l_X10_putAtom_123  (-((p0).toInt32).toInt64) (fun (y9 : Int64) (u10 : St) => (∃ k12 : Nat, l_X10_putAtom_146  (-((p0).toInt32).toInt64) (fun (u11 : St) => Q u11) k12 y9 u10)) k13 (1 : Int64) u8))))) ∧ (¬ r1 = 0 → vp_in (((p0 - (4294967296 : Int64))).toInt32) 150 ∧ (∃ k20 : Nat, l_X10_putAtom_22  ((gB u 19) (((p0 - (4294967296 : Int64))).toInt32).toNatClampNeg) (fun (y14 : Int64) (u15 : St) => (∃ k19 : Nat, l_X10_putAtom_44  ((gB u 19) (((p0 - (4294967296 : Int64))).toInt32).toNatClampNeg) (fun (u18 : St) => Q u18) k19 y14 u15)) k20 (1 : Int64) u))))
abbrev rm_X10_putAtom : Room := { frames := 1, cells := 0, slots := 0, locals := 21 }
set_option maxHeartbeats 4000000 in
set_option maxRecDepth 100000 in
theorem t_X10_putAtom (l : Launch) (D : va_G) (G : Gd) (p0 : Int64) (u : St) (Q : St → Prop) (h : wp_X10_putAtom p0 u Q) : MRv l D G yX10_putAtom cX10_putAtom 8 none rm_X10_putAtom [.ref (G.1 0), .long p0] u Q := by
  refine startR_v (by decide) ?_
  intro p e s m args below meth c E hr hlk hml hP hD hS hA
  have hx := E.1
  have hb := E.2.1
  have hown := E.2.2.1
  have hW := E.2.2.2.1
  have hl := lv_entry ([.ref (G.1 0), .long p0]) (n := 8) (Nat.le_of_ble_eq_true rfl)
  rw [lg_entry_eq]
  generalize (lg_sl ([.ref (G.1 0), .long p0]) ++ List.replicate (8 - (lg_sl ([.ref (G.1 0), .long p0])).length) Slot.unset).toArray = ls at hl ⊢
  have hl : lv_has ls 8 [(0, .ref (G.1 0)), (1, .long p0)] := hl
  have L_123 : ∀ (c4 : Int64) (K : Int64 → St → Prop), (∀ (x6 : Int64) (u : St) (H : Heap) (locs : List Loc) (ls : Array Slot), K x6 u → va_P D vwCl (wR G u) H → va_D (AR G s.heap.size) (wR G u) → va_S (AR G s.heap.size) s.heap H locs → lv_has ls 8 [(0, .ref (G.1 0)), (4, .long c4), (6, .long x6)] → W p l e rm_X10_putAtom s m args below meth c H locs 0 0 (MQ below (va_Qv Q (BR D G s.heap.size) (AR G s.heap.size)) args s 0 0 (AR G s.heap.size)) (F0 m 146 ls [])) → ∀ (n : Nat) (x6 : Int64) (u : St) (H : Heap) (locs : List Loc) (ls : Array Slot), l_X10_putAtom_123  c4 K n x6 u → va_P D vwCl (wR G u) H → va_D (AR G s.heap.size) (wR G u) → va_S (AR G s.heap.size) s.heap H locs → lv_has ls 8 [(0, .ref (G.1 0)), (4, .long c4), (6, .long x6)] → W p l e rm_X10_putAtom s m args below meth c H locs 0 0 (MQ below (va_Qv Q (BR D G s.heap.size) (AR G s.heap.size)) args s 0 0 (AR G s.heap.size)) (F0 m 123 ls []) := by
    intro c4 K hK n
    induction n with
    | zero => intro x6 u H locs ls h; exact False.elim h
    | succ n ih =>
      intro x6 u H locs ls h hP hD hS hl
      unfold l_X10_putAtom_123 at h
      refine lv_lload hx hb dX10_putAtom_123 (lv_at hl 2 rfl) ?_
      refine lv_lload hx hb dX10_putAtom_125 (lv_at hl 1 rfl) ?_
      refine lv_ldc2 (v := (10 : Int64)) hx hb hown (hW _ kcX10_232) dX10_putAtom_127 ?_
      refine lv_ldiv hx hb dX10_putAtom_130 (by decide) ?_
      refine lq_gt (tgt := 146) hx hb dX10_putAtom_131 dX10_putAtom_132 (by decide) (fun hc => ?_) (fun hc => ?_)
      · have h := h.1 hc
        exact hK x6 u _ _ _ h hP hD hS (lv_sub hl [0, 1, 2] rfl)
      · have h := h.2 hc
        refine lv_lload hx hb dX10_putAtom_135 (lv_at hl 2 rfl) ?_
        refine lv_ldc2 (v := (10 : Int64)) hx hb hown (hW _ kcX10_232) dX10_putAtom_137 ?_
        refine lv_lmul hx hb dX10_putAtom_140 ?_
        refine lv_lstore (lv' := [(6, .long (x6 * (10 : Int64))), (0, .ref (G.1 0)), (4, .long c4)]) hx hb dX10_putAtom_141 hl (by decide) rfl (fun ls hl => ?_)
        refine lv_goto (tgt := 123) hx hb dX10_putAtom_143 (by decide) ?_
        exact ih (x6 * (10 : Int64)) u _ _ _ h hP hD hS (lv_sub hl [1, 2, 0] rfl)
  have L_146 : ∀ (c4 : Int64) (K : St → Prop), (∀  (u : St) (H : Heap) (locs : List Loc) (ls : Array Slot), K  u → va_P D vwCl (wR G u) H → va_D (AR G s.heap.size) (wR G u) → va_S (AR G s.heap.size) s.heap H locs → lv_has ls 8 [] → W p l e rm_X10_putAtom s m args below meth c H locs 0 0 (MQ below (va_Qv Q (BR D G s.heap.size) (AR G s.heap.size)) args s 0 0 (AR G s.heap.size)) (F0 m 181 ls [])) → ∀ (n : Nat) (x6 : Int64) (u : St) (H : Heap) (locs : List Loc) (ls : Array Slot), l_X10_putAtom_146  c4 K n x6 u → va_P D vwCl (wR G u) H → va_D (AR G s.heap.size) (wR G u) → va_S (AR G s.heap.size) s.heap H locs → lv_has ls 8 [(0, .ref (G.1 0)), (4, .long c4), (6, .long x6)] → W p l e rm_X10_putAtom s m args below meth c H locs 0 0 (MQ below (va_Qv Q (BR D G s.heap.size) (AR G s.heap.size)) args s 0 0 (AR G s.heap.size)) (F0 m 146 ls []) := by
    intro c4 K hK n
    induction n with
    | zero => intro x6 u H locs ls h; exact False.elim h
    | succ n ih =>
      intro x6 u H locs ls h hP hD hS hl
      unfold l_X10_putAtom_146 at h
      refine lv_lload hx hb dX10_putAtom_146 (lv_at hl 2 rfl) ?_
      refine lv_lconst (v := (0 : Int64)) hx hb dX10_putAtom_148 (by decide) ?_
      refine lq_le (tgt := 181) hx hb dX10_putAtom_149 dX10_putAtom_150 (by decide) (fun hc => ?_) (fun hc => ?_)
      · have h := h.1 hc
        exact hK u _ _ _ h hP hD hS (lv_sub hl [] rfl)
      · have h := h.2 hc
        refine lv_aload_n hx hb dX10_putAtom_153 rfl (lv_at hl 0 rfl) ?_
        refine lv_lload hx hb dX10_putAtom_154 (lv_at hl 1 rfl) ?_
        refine lv_lload hx hb dX10_putAtom_156 (lv_at hl 2 rfl) ?_
        obtain ⟨h9, h⟩ := h
        refine lv_ldiv hx hb dX10_putAtom_158 h9 ?_
        refine lv_ldc2 (v := (10 : Int64)) hx hb hown (hW _ kcX10_232) dX10_putAtom_159 ?_
        refine lv_lrem hx hb dX10_putAtom_162 (by decide) ?_
        refine lv_l2i (v := (((c4 / x6) - (c4 / x6) / (10 : Int64) * (10 : Int64))).toInt32) hx hb dX10_putAtom_163 rfl ?_
        refine lv_bipush (v := (48 : Int32)) hx hb dX10_putAtom_164 (by decide) ?_
        refine lv_iadd hx hb dX10_putAtom_166 ?_
        refine cR_v (ci := 9) (q0 := 0) (As := [.int ((((c4 / x6) - (c4 / x6) / (10 : Int64) * (10 : Int64))).toInt32 + (48 : Int32))]) (rest := []) E hml hP hD hS hA (t_X10_put l D G ((((c4 / x6) - (c4 / x6) / (10 : Int64) * (10 : Int64))).toInt32 + (48 : Int32)) u _ h) kmX10_338 mwyX10_put rfl rfl ⟨⟨rfl, rfl⟩, Nat.le_of_ble_eq_true rfl, Nat.le_of_ble_eq_true rfl⟩ rfl hl.1 rfl (Nat.le_of_ble_eq_true rfl) dX10_putAtom_167 ⟨Nat.zero_le _, Nat.zero_le _⟩ (fun u4 H locs hP hD hS h => ?_)
        refine lv_lload hx hb dX10_putAtom_170 (lv_at hl 2 rfl) ?_
        refine lv_ldc2 (v := (10 : Int64)) hx hb hown (hW _ kcX10_232) dX10_putAtom_172 ?_
        refine lv_ldiv hx hb dX10_putAtom_175 (by decide) ?_
        refine lv_lstore (lv' := [(6, .long (x6 / (10 : Int64))), (0, .ref (G.1 0)), (4, .long c4)]) hx hb dX10_putAtom_176 hl (by decide) rfl (fun ls hl => ?_)
        refine lv_goto (tgt := 146) hx hb dX10_putAtom_178 (by decide) ?_
        exact ih (x6 / (10 : Int64)) u4 _ _ _ h hP hD hS (lv_sub hl [1, 2, 0] rfl)
  have L_22 : ∀ (c3 : Int64) (K : Int64 → St → Prop), (∀ (x5 : Int64) (u : St) (H : Heap) (locs : List Loc) (ls : Array Slot), K x5 u → va_P D vwCl (wR G u) H → va_D (AR G s.heap.size) (wR G u) → va_S (AR G s.heap.size) s.heap H locs → lv_has ls 8 [(0, .ref (G.1 0)), (3, .long c3), (5, .long x5)] → W p l e rm_X10_putAtom s m args below meth c H locs 0 0 (MQ below (va_Qv Q (BR D G s.heap.size) (AR G s.heap.size)) args s 0 0 (AR G s.heap.size)) (F0 m 44 ls [])) → ∀ (n : Nat) (x5 : Int64) (u : St) (H : Heap) (locs : List Loc) (ls : Array Slot), l_X10_putAtom_22  c3 K n x5 u → va_P D vwCl (wR G u) H → va_D (AR G s.heap.size) (wR G u) → va_S (AR G s.heap.size) s.heap H locs → lv_has ls 8 [(0, .ref (G.1 0)), (3, .long c3), (5, .long x5)] → W p l e rm_X10_putAtom s m args below meth c H locs 0 0 (MQ below (va_Qv Q (BR D G s.heap.size) (AR G s.heap.size)) args s 0 0 (AR G s.heap.size)) (F0 m 22 ls []) := by
    intro c3 K hK n
    induction n with
    | zero => intro x5 u H locs ls h; exact False.elim h
    | succ n ih =>
      intro x5 u H locs ls h hP hD hS hl
      unfold l_X10_putAtom_22 at h
      refine lv_lload hx hb dX10_putAtom_22 (lv_at hl 2 rfl) ?_
      refine lv_lload_n hx hb dX10_putAtom_24 rfl (lv_at hl 1 rfl) ?_
      refine lv_ldc2 (v := (37 : Int64)) hx hb hown (hW _ kcX10_187) dX10_putAtom_25 ?_
      refine lv_ldiv hx hb dX10_putAtom_28 (by decide) ?_
      refine lq_gt (tgt := 44) hx hb dX10_putAtom_29 dX10_putAtom_30 (by decide) (fun hc => ?_) (fun hc => ?_)
      · have h := h.1 hc
        exact hK x5 u _ _ _ h hP hD hS (lv_sub hl [0, 1, 2] rfl)
      · have h := h.2 hc
        refine lv_lload hx hb dX10_putAtom_33 (lv_at hl 2 rfl) ?_
        refine lv_ldc2 (v := (37 : Int64)) hx hb hown (hW _ kcX10_187) dX10_putAtom_35 ?_
        refine lv_lmul hx hb dX10_putAtom_38 ?_
        refine lv_lstore (lv' := [(5, .long (x5 * (37 : Int64))), (0, .ref (G.1 0)), (3, .long c3)]) hx hb dX10_putAtom_39 hl (by decide) rfl (fun ls hl => ?_)
        refine lv_goto (tgt := 22) hx hb dX10_putAtom_41 (by decide) ?_
        exact ih (x5 * (37 : Int64)) u _ _ _ h hP hD hS (lv_sub hl [1, 2, 0] rfl)
  have L_44 : ∀ (c3 : Int64) (K : St → Prop), (∀  (u : St) (H : Heap) (locs : List Loc) (ls : Array Slot), K  u → va_P D vwCl (wR G u) H → va_D (AR G s.heap.size) (wR G u) → va_S (AR G s.heap.size) s.heap H locs → lv_has ls 8 [] → W p l e rm_X10_putAtom s m args below meth c H locs 0 0 (MQ below (va_Qv Q (BR D G s.heap.size) (AR G s.heap.size)) args s 0 0 (AR G s.heap.size)) (F0 m 97 ls [])) → ∀ (n : Nat) (x5 : Int64) (u : St) (H : Heap) (locs : List Loc) (ls : Array Slot), l_X10_putAtom_44  c3 K n x5 u → va_P D vwCl (wR G u) H → va_D (AR G s.heap.size) (wR G u) → va_S (AR G s.heap.size) s.heap H locs → lv_has ls 8 [(0, .ref (G.1 0)), (3, .long c3), (5, .long x5)] → W p l e rm_X10_putAtom s m args below meth c H locs 0 0 (MQ below (va_Qv Q (BR D G s.heap.size) (AR G s.heap.size)) args s 0 0 (AR G s.heap.size)) (F0 m 44 ls []) := by
    intro c3 K hK n
    induction n with
    | zero => intro x5 u H locs ls h; exact False.elim h
    | succ n ih =>
      intro x5 u H locs ls h hP hD hS hl
      unfold l_X10_putAtom_44 at h
      refine lv_lload hx hb dX10_putAtom_44 (lv_at hl 2 rfl) ?_
      refine lv_lconst (v := (0 : Int64)) hx hb dX10_putAtom_46 (by decide) ?_
      refine lq_le (tgt := 97) hx hb dX10_putAtom_47 dX10_putAtom_48 (by decide) (fun hc => ?_) (fun hc => ?_)
      · have h := h.1 hc
        exact hK u _ _ _ h hP hD hS (lv_sub hl [] rfl)
      · have h := h.2 hc
        refine lv_lload_n hx hb dX10_putAtom_51 rfl (lv_at hl 1 rfl) ?_
        refine lv_lload hx hb dX10_putAtom_52 (lv_at hl 2 rfl) ?_
        obtain ⟨h9, h⟩ := h
        refine lv_ldiv hx hb dX10_putAtom_54 h9 ?_
        refine lv_ldc2 (v := (37 : Int64)) hx hb hown (hW _ kcX10_187) dX10_putAtom_55 ?_
        refine lv_lrem hx hb dX10_putAtom_58 (by decide) ?_
        refine lv_l2i (v := (((c3 / x5) - (c3 / x5) / (37 : Int64) * (37 : Int64))).toInt32) hx hb dX10_putAtom_59 rfl ?_
        refine lv_istore (lv' := [(7, .int (((c3 / x5) - (c3 / x5) / (37 : Int64) * (37 : Int64))).toInt32), (0, .ref (G.1 0)), (3, .long c3), (5, .long x5)]) hx hb dX10_putAtom_60 hl (by decide) rfl (fun ls hl => ?_)
        refine lv_aload_n hx hb dX10_putAtom_62 rfl (lv_at hl 1 rfl) ?_
        refine lv_iload hx hb dX10_putAtom_63 (lv_at hl 0 rfl) ?_
        refine lv_bipush (v := (27 : Int32)) hx hb dX10_putAtom_65 (by decide) ?_
        refine lv_icmp_ge (tgt := 78) hx hb dX10_putAtom_67 (by decide) (fun hc => ?_) (fun hc => ?_)
        · have h := h.1 hc
          refine lv_iload hx hb dX10_putAtom_78 (lv_at hl 0 rfl) ?_
          refine lv_bipush (v := (21 : Int32)) hx hb dX10_putAtom_80 (by decide) ?_
          refine lv_iadd hx hb dX10_putAtom_82 ?_
          refine cR_v (ci := 9) (q0 := 0) (As := [.int ((((c3 / x5) - (c3 / x5) / (37 : Int64) * (37 : Int64))).toInt32 + (21 : Int32))]) (rest := []) E hml hP hD hS hA (t_X10_put l D G ((((c3 / x5) - (c3 / x5) / (37 : Int64) * (37 : Int64))).toInt32 + (21 : Int32)) u _ h) kmX10_338 mwyX10_put rfl rfl ⟨⟨rfl, rfl⟩, Nat.le_of_ble_eq_true rfl, Nat.le_of_ble_eq_true rfl⟩ rfl hl.1 rfl (Nat.le_of_ble_eq_true rfl) dX10_putAtom_83 ⟨Nat.zero_le _, Nat.zero_le _⟩ (fun u16 H locs hP hD hS h => ?_)
          refine lv_lload hx hb dX10_putAtom_86 (lv_at hl 3 rfl) ?_
          refine lv_ldc2 (v := (37 : Int64)) hx hb hown (hW _ kcX10_187) dX10_putAtom_88 ?_
          refine lv_ldiv hx hb dX10_putAtom_91 (by decide) ?_
          refine lv_lstore (lv' := [(5, .long (x5 / (37 : Int64))), (7, .int (((c3 / x5) - (c3 / x5) / (37 : Int64) * (37 : Int64))).toInt32), (0, .ref (G.1 0)), (3, .long c3)]) hx hb dX10_putAtom_92 hl (by decide) rfl (fun ls hl => ?_)
          refine lv_goto (tgt := 44) hx hb dX10_putAtom_94 (by decide) ?_
          exact ih (x5 / (37 : Int64)) u16 _ _ _ h hP hD hS (lv_sub hl [2, 3, 0] rfl)
        · have h := h.2 hc
          refine lv_iload hx hb dX10_putAtom_70 (lv_at hl 0 rfl) ?_
          refine lv_bipush (v := (64 : Int32)) hx hb dX10_putAtom_72 (by decide) ?_
          refine lv_iadd hx hb dX10_putAtom_74 ?_
          refine lv_goto (tgt := 83) hx hb dX10_putAtom_75 (by decide) ?_
          refine cR_v (ci := 9) (q0 := 0) (As := [.int ((((c3 / x5) - (c3 / x5) / (37 : Int64) * (37 : Int64))).toInt32 + (64 : Int32))]) (rest := []) E hml hP hD hS hA (t_X10_put l D G ((((c3 / x5) - (c3 / x5) / (37 : Int64) * (37 : Int64))).toInt32 + (64 : Int32)) u _ h) kmX10_338 mwyX10_put rfl rfl ⟨⟨rfl, rfl⟩, Nat.le_of_ble_eq_true rfl, Nat.le_of_ble_eq_true rfl⟩ rfl hl.1 rfl (Nat.le_of_ble_eq_true rfl) dX10_putAtom_83 ⟨Nat.zero_le _, Nat.zero_le _⟩ (fun u17 H locs hP hD hS h => ?_)
          refine lv_lload hx hb dX10_putAtom_86 (lv_at hl 3 rfl) ?_
          refine lv_ldc2 (v := (37 : Int64)) hx hb hown (hW _ kcX10_187) dX10_putAtom_88 ?_
          refine lv_ldiv hx hb dX10_putAtom_91 (by decide) ?_
          refine lv_lstore (lv' := [(5, .long (x5 / (37 : Int64))), (7, .int (((c3 / x5) - (c3 / x5) / (37 : Int64) * (37 : Int64))).toInt32), (0, .ref (G.1 0)), (3, .long c3)]) hx hb dX10_putAtom_92 hl (by decide) rfl (fun ls hl => ?_)
          refine lv_goto (tgt := 44) hx hb dX10_putAtom_94 (by decide) ?_
          exact ih (x5 / (37 : Int64)) u17 _ _ _ h hP hD hS (lv_sub hl [2, 3, 0] rfl)
  unfold wp_X10_putAtom at h
  refine lv_lload_n hx hb dX10_putAtom_0 rfl (lv_at hl 1 rfl) ?_
  refine c0_i (As := [.long p0]) (rest := []) hx hb hml hown hW hP hS hA (t_X10_isName l p0 _ h) kmX10_289 mwyX10_isName ⟨⟨rfl, rfl⟩, Nat.le_of_ble_eq_true rfl, Nat.le_of_ble_eq_true rfl⟩ rfl hl.1 rfl (Nat.le_of_ble_eq_true rfl) dX10_putAtom_1 ⟨Nat.zero_le _, Nat.zero_le _⟩ (fun r1 H locs hP hS h => ?_)
  refine lv_if_eq (tgt := 98) hx hb dX10_putAtom_4 (by decide) (fun hc => ?_) (fun hc => ?_)
  · have h := h.1 hc
    refine lv_lload_n hx hb dX10_putAtom_98 rfl (lv_at hl 1 rfl) ?_
    refine lv_l2i (v := (p0).toInt32) hx hb dX10_putAtom_99 rfl ?_
    refine lv_istore_n (lv' := [(3, .int (p0).toInt32), (0, .ref (G.1 0)), (1, .long p0)]) hx hb dX10_putAtom_100 rfl hl (by decide) rfl (fun ls hl => ?_)
    refine lv_iload_n hx hb dX10_putAtom_101 rfl (lv_at hl 0 rfl) ?_
    refine lv_i2l (v := ((p0).toInt32).toInt64) hx hb dX10_putAtom_102 rfl ?_
    refine lv_lstore (lv' := [(4, .long ((p0).toInt32).toInt64), (3, .int (p0).toInt32), (0, .ref (G.1 0)), (1, .long p0)]) hx hb dX10_putAtom_103 hl (by decide) rfl (fun ls hl => ?_)
    refine lv_iload_n hx hb dX10_putAtom_105 rfl (lv_at hl 1 rfl) ?_
    refine lv_if_ge (tgt := 120) hx hb dX10_putAtom_106 (by decide) (fun hc => ?_) (fun hc => ?_)
    · have h := h.1 hc
      refine lv_lconst (v := (1 : Int64)) hx hb dX10_putAtom_120 (by decide) ?_
      refine lv_lstore (lv' := [(6, .long (1 : Int64)), (4, .long ((p0).toInt32).toInt64), (3, .int (p0).toInt32), (0, .ref (G.1 0)), (1, .long p0)]) hx hb dX10_putAtom_121 hl (by decide) rfl (fun ls hl => ?_)
      obtain ⟨n, h⟩ := h
      refine L_123 (((p0).toInt32).toInt64) _ (fun y2 u3 H locs ls h hP hD hS hl => ?_) n (1 : Int64) u _ _ _ h hP hD hS (lv_sub hl [3, 1, 0] rfl)
      obtain ⟨n, h⟩ := h
      refine L_146 (((p0).toInt32).toInt64) _ (fun u5 H locs ls h hP hD hS hl => ?_) n y2 u3 _ _ _ h hP hD hS (lv_sub hl [0, 1, 2] rfl)
      exact retR_v E hr hlk hP hD hS h dX10_putAtom_181
    · have h := h.2 hc
      refine lv_aload_n hx hb dX10_putAtom_109 rfl (lv_at hl 2 rfl) ?_
      refine lv_bipush (v := (45 : Int32)) hx hb dX10_putAtom_110 (by decide) ?_
      refine cR_v (ci := 9) (q0 := 0) (As := [.int (45 : Int32)]) (rest := []) E hml hP hD hS hA (t_X10_put l D G (45 : Int32) u _ h) kmX10_338 mwyX10_put rfl rfl ⟨⟨rfl, rfl⟩, Nat.le_of_ble_eq_true rfl, Nat.le_of_ble_eq_true rfl⟩ rfl hl.1 rfl (Nat.le_of_ble_eq_true rfl) dX10_putAtom_112 ⟨Nat.zero_le _, Nat.zero_le _⟩ (fun u8 H locs hP hD hS h => ?_)
      refine lv_lload hx hb dX10_putAtom_115 (lv_at hl 0 rfl) ?_
      refine lv_lneg hx hb dX10_putAtom_117 ?_
      refine lv_lstore (lv' := [(4, .long (-((p0).toInt32).toInt64)), (3, .int (p0).toInt32), (0, .ref (G.1 0)), (1, .long p0)]) hx hb dX10_putAtom_118 hl (by decide) rfl (fun ls hl => ?_)
      refine lv_lconst (v := (1 : Int64)) hx hb dX10_putAtom_120 (by decide) ?_
      refine lv_lstore (lv' := [(6, .long (1 : Int64)), (4, .long (-((p0).toInt32).toInt64)), (3, .int (p0).toInt32), (0, .ref (G.1 0)), (1, .long p0)]) hx hb dX10_putAtom_121 hl (by decide) rfl (fun ls hl => ?_)
      obtain ⟨n, h⟩ := h
      refine L_123 (-((p0).toInt32).toInt64) _ (fun y9 u10 H locs ls h hP hD hS hl => ?_) n (1 : Int64) u8 _ _ _ h hP hD hS (lv_sub hl [3, 1, 0] rfl)
      obtain ⟨n, h⟩ := h
      refine L_146 (-((p0).toInt32).toInt64) _ (fun u11 H locs ls h hP hD hS hl => ?_) n y9 u10 _ _ _ h hP hD hS (lv_sub hl [0, 1, 2] rfl)
      exact retR_v E hr hlk hP hD hS h dX10_putAtom_181
  · have h := h.2 hc
    refine lv_aload_n hx hb dX10_putAtom_7 rfl (lv_at hl 0 rfl) ?_
    refine gR_19 E hP kfX10_70 dX10_putAtom_8 ?_
    refine lv_lload_n hx hb dX10_putAtom_11 rfl (lv_at hl 1 rfl) ?_
    refine lv_ldc2 (v := (4294967296 : Int64)) hx hb hown (hW _ kcX10_199) dX10_putAtom_12 ?_
    refine lv_lsub hx hb dX10_putAtom_15 ?_
    refine lv_l2i (v := ((p0 - (4294967296 : Int64))).toInt32) hx hb dX10_putAtom_16 rfl ?_
    obtain ⟨h9, h⟩ := h
    refine xR_19 E hP h9 (v := ((gB u 19) (((p0 - (4294967296 : Int64))).toInt32).toNatClampNeg)) rfl dX10_putAtom_17 ?_
    refine lv_lstore_n (lv' := [(3, .long ((gB u 19) (((p0 - (4294967296 : Int64))).toInt32).toNatClampNeg)), (0, .ref (G.1 0)), (1, .long p0)]) hx hb dX10_putAtom_18 rfl hl (by decide) rfl (fun ls hl => ?_)
    refine lv_lconst (v := (1 : Int64)) hx hb dX10_putAtom_19 (by decide) ?_
    refine lv_lstore (lv' := [(5, .long (1 : Int64)), (3, .long ((gB u 19) (((p0 - (4294967296 : Int64))).toInt32).toNatClampNeg)), (0, .ref (G.1 0)), (1, .long p0)]) hx hb dX10_putAtom_20 hl (by decide) rfl (fun ls hl => ?_)
    obtain ⟨n, h⟩ := h
    refine L_22 ((gB u 19) (((p0 - (4294967296 : Int64))).toInt32).toNatClampNeg) _ (fun y14 u15 H locs ls h hP hD hS hl => ?_) n (1 : Int64) u _ _ _ h hP hD hS (lv_sub hl [2, 1, 0] rfl)
    obtain ⟨n, h⟩ := h
    refine L_44 ((gB u 19) (((p0 - (4294967296 : Int64))).toInt32).toNatClampNeg) _ (fun u18 H locs ls h hP hD hS hl => ?_) n y14 u15 _ _ _ h hP hD hS (lv_sub hl [0, 1, 2] rfl)
    exact retR_v E hr hlk hP hD hS h dX10_putAtom_97
def l_X10_printAll_77  (K : Int32 → Int64 → St → Prop) : Nat → Int32 → Int64 → Int32 → St → Prop
  | 0, _, _, _, _ => False
  | n + 1, x3, x4, x7, u => ((x7 = 0 → K x3 x4 u) ∧ (¬ x7 = 0 → ((x3 ≤ 0 → K x3 x4 u) ∧ (¬ x3 ≤ 0 → vp_in (x3 - (1 : Int32)) 1000 ∧ wp_X10_isPair ((gB u 17) ((x3 - (1 : Int32))).toNatClampNeg) (fun (r3 : Int32) => ((r3 = 0 → ((((gB u 17) ((x3 - (1 : Int32))).toNatClampNeg) = (4294967296 : Int64) → wp_X10_put (41 : Int32) u (fun (u9 : St) => l_X10_printAll_77  K n (x3 + (-1 : Int32)) x4 (1 : Int32) u9)) ∧ (¬ ((gB u 17) ((x3 - (1 : Int32))).toNatClampNeg) = (4294967296 : Int64) → wp_X10_put (32 : Int32) u (fun (u10 : St) => wp_X10_put (46 : Int32) u10 (fun (u11 : St) => wp_X10_put (32 : Int32) u11 (fun (u12 : St) => wp_X10_putAtom ((gB u 17) ((x3 - (1 : Int32))).toNatClampNeg) u12 (fun (u13 : St) => wp_X10_put (41 : Int32) u13 (fun (u14 : St) => l_X10_printAll_77  K n (x3 + (-1 : Int32)) x4 (1 : Int32) u14)))))))) ∧ (¬ r3 = 0 → wp_X10_put (32 : Int32) u (fun (u4 : St) => wp_X10_first ((gB u 17) ((x3 - (1 : Int32))).toNatClampNeg) u4 (fun (r5 : Int64) (u6 : St) => wp_X10_behind ((gB u 17) ((x3 - (1 : Int32))).toNatClampNeg) u6 (fun (r7 : Int64) (u8 : St) => vp_in (x3 - (1 : Int32)) 1000 ∧ l_X10_printAll_77  K n x3 r5 (0 : Int32) (sB u8 17 (vp_updL (gB u8 17) ((x3 - (1 : Int32))).toNatClampNeg r7))))))))))))
def l_X10_printAll_13  (K : St → Prop) : Nat → Int32 → Int64 → Int32 → St → Prop
  | 0, _, _, _, _ => False
  | n + 1, x3, x4, x6, u => ((x6 = 0 → K u) ∧ (¬ x6 = 0 → (((400 : Int32) ≤ (gI u 12) → K u) ∧ (¬ (400 : Int32) ≤ (gI u 12) → wp_X10_isPair x4 (fun (r1 : Int32) => ((r1 = 0 → wp_X10_putAtom x4 u (fun (u2 : St) => (∃ k18 : Nat, l_X10_printAll_77   (fun (y15 : Int32) (y16 : Int64) (u17 : St) => ((y15 ≤ 0 → l_X10_printAll_13  K n y15 y16 (0 : Int32) u17) ∧ (¬ y15 ≤ 0 → l_X10_printAll_13  K n y15 y16 (1 : Int32) u17))) k18 x3 x4 (1 : Int32) u2))) ∧ (¬ r1 = 0 → wp_X10_put (40 : Int32) u (fun (u19 : St) => wp_X10_behind x4 u19 (fun (r20 : Int64) (u21 : St) => vp_in x3 1000 ∧ wp_X10_first x4 (sB u21 17 (vp_updL (gB u21 17) (x3).toNatClampNeg r20)) (fun (r22 : Int64) (u23 : St) => l_X10_printAll_13  K n (x3 + (1 : Int32)) r22 x6 u23))))))))))
def wp_X10_printAll (p0 : Int64) (u : St) (Q : St → Prop) : Prop := (∃ k25 : Nat, l_X10_printAll_13   (fun (u24 : St) => Q u24) k25 (0 : Int32) p0 (1 : Int32) (sI u 12 (0 : Int32)))
abbrev rm_X10_printAll : Room := { frames := 2, cells := 0, slots := 0, locals := 48 }
set_option maxHeartbeats 4000000 in
set_option maxRecDepth 100000 in
theorem t_X10_printAll (l : Launch) (D : va_G) (G : Gd) (p0 : Int64) (u : St) (Q : St → Prop) (h : wp_X10_printAll p0 u Q) : MRv l D G yX10_printAll cX10_printAll 10 none rm_X10_printAll [.ref (G.1 0), .long p0] u Q := by
  refine startR_v (by decide) ?_
  intro p e s m args below meth c E hr hlk hml hP hD hS hA
  have hx := E.1
  have hb := E.2.1
  have hown := E.2.2.1
  have hW := E.2.2.2.1
  have hl := lv_entry ([.ref (G.1 0), .long p0]) (n := 10) (Nat.le_of_ble_eq_true rfl)
  rw [lg_entry_eq]
  generalize (lg_sl ([.ref (G.1 0), .long p0]) ++ List.replicate (10 - (lg_sl ([.ref (G.1 0), .long p0])).length) Slot.unset).toArray = ls at hl ⊢
  have hl : lv_has ls 10 [(0, .ref (G.1 0)), (1, .long p0)] := hl
  have L_77 : ∀  (K : Int32 → Int64 → St → Prop), (∀ (x3 : Int32) (x4 : Int64) (u : St) (H : Heap) (locs : List Loc) (ls : Array Slot), K x3 x4 u → va_P D vwCl (wR G u) H → va_D (AR G s.heap.size) (wR G u) → va_S (AR G s.heap.size) s.heap H locs → lv_has ls 10 [(0, .ref (G.1 0)), (3, .int x3), (4, .long x4)] → W p l e rm_X10_printAll s m args below meth c H locs 0 0 (MQ below (va_Qv Q (BR D G s.heap.size) (AR G s.heap.size)) args s 0 0 (AR G s.heap.size)) (F0 m 192 ls [])) → ∀ (n : Nat) (x3 : Int32) (x4 : Int64) (x7 : Int32) (u : St) (H : Heap) (locs : List Loc) (ls : Array Slot), l_X10_printAll_77  K n x3 x4 x7 u → va_P D vwCl (wR G u) H → va_D (AR G s.heap.size) (wR G u) → va_S (AR G s.heap.size) s.heap H locs → lv_has ls 10 [(0, .ref (G.1 0)), (3, .int x3), (4, .long x4), (7, .int x7)] → W p l e rm_X10_printAll s m args below meth c H locs 0 0 (MQ below (va_Qv Q (BR D G s.heap.size) (AR G s.heap.size)) args s 0 0 (AR G s.heap.size)) (F0 m 77 ls []) := by
    intro  K hK n
    induction n with
    | zero => intro x3 x4 x7 u H locs ls h; exact False.elim h
    | succ n ih =>
      intro x3 x4 x7 u H locs ls h hP hD hS hl
      unfold l_X10_printAll_77 at h
      refine lv_iload hx hb dX10_printAll_77 (lv_at hl 3 rfl) ?_
      refine lv_if_eq (tgt := 192) hx hb dX10_printAll_79 (by decide) (fun hc => ?_) (fun hc => ?_)
      · have h := h.1 hc
        exact hK x3 x4 u _ _ _ h hP hD hS (lv_sub hl [0, 1, 2] rfl)
      · have h := h.2 hc
        refine lv_iload_n hx hb dX10_printAll_82 rfl (lv_at hl 1 rfl) ?_
        refine lv_if_le (tgt := 192) hx hb dX10_printAll_83 (by decide) (fun hc => ?_) (fun hc => ?_)
        · have h := h.1 hc
          exact hK x3 x4 u _ _ _ h hP hD hS (lv_sub hl [0, 1, 2] rfl)
        · have h := h.2 hc
          refine lv_aload_n hx hb dX10_printAll_86 rfl (lv_at hl 0 rfl) ?_
          refine gR_17 E hP kfX10_64 dX10_printAll_87 ?_
          refine lv_iload_n hx hb dX10_printAll_90 rfl (lv_at hl 1 rfl) ?_
          refine lv_iconst (v := (1 : Int32)) hx hb dX10_printAll_91 (by decide) ?_
          refine lv_isub hx hb dX10_printAll_92 ?_
          obtain ⟨h9, h⟩ := h
          refine xR_17 E hP h9 (v := ((gB u 17) ((x3 - (1 : Int32))).toNatClampNeg)) rfl dX10_printAll_93 ?_
          refine lv_lstore (lv' := [(8, .long ((gB u 17) ((x3 - (1 : Int32))).toNatClampNeg)), (0, .ref (G.1 0)), (3, .int x3), (4, .long x4), (7, .int x7)]) hx hb dX10_printAll_94 hl (by decide) rfl (fun ls hl => ?_)
          refine lv_lload hx hb dX10_printAll_96 (lv_at hl 0 rfl) ?_
          refine c0_i (As := [.long ((gB u 17) ((x3 - (1 : Int32))).toNatClampNeg)]) (rest := []) hx hb hml hown hW hP hS hA (t_X10_isPair l ((gB u 17) ((x3 - (1 : Int32))).toNatClampNeg) _ h) kmX10_205 mwyX10_isPair ⟨⟨rfl, rfl⟩, Nat.le_of_ble_eq_true rfl, Nat.le_of_ble_eq_true rfl⟩ rfl hl.1 rfl (Nat.le_of_ble_eq_true rfl) dX10_printAll_98 ⟨Nat.zero_le _, Nat.zero_le _⟩ (fun r3 H locs hP hS h => ?_)
          refine lv_if_ne (tgt := 108) hx hb dX10_printAll_101 (by decide) (fun hc => ?_) (fun hc => ?_)
          · have h := h.2 hc
            refine lv_iconst (v := (0 : Int32)) hx hb dX10_printAll_108 (by decide) ?_
            refine lv_istore (lv' := [(7, .int (0 : Int32)), (8, .long ((gB u 17) ((x3 - (1 : Int32))).toNatClampNeg)), (0, .ref (G.1 0)), (3, .int x3), (4, .long x4)]) hx hb dX10_printAll_109 hl (by decide) rfl (fun ls hl => ?_)
            refine lv_iload hx hb dX10_printAll_111 (lv_at hl 0 rfl) ?_
            refine lv_if_eq (tgt := 161) hx hb dX10_printAll_113 (by decide) (fun _ => ?_) (fun hc => absurd (by decide) hc)
            refine lv_aload_n hx hb dX10_printAll_161 rfl (lv_at hl 2 rfl) ?_
            refine lv_bipush (v := (32 : Int32)) hx hb dX10_printAll_162 (by decide) ?_
            refine cR_v (ci := 9) (q0 := 0) (As := [.int (32 : Int32)]) (rest := []) E hml hP hD hS hA (t_X10_put l D G (32 : Int32) u _ h) kmX10_338 mwyX10_put rfl rfl ⟨⟨rfl, rfl⟩, Nat.le_of_ble_eq_true rfl, Nat.le_of_ble_eq_true rfl⟩ rfl hl.1 rfl (Nat.le_of_ble_eq_true rfl) dX10_printAll_164 ⟨Nat.zero_le _, Nat.zero_le _⟩ (fun u4 H locs hP hD hS h => ?_)
            refine lv_aload_n hx hb dX10_printAll_167 rfl (lv_at hl 2 rfl) ?_
            refine lv_lload hx hb dX10_printAll_168 (lv_at hl 1 rfl) ?_
            refine cR_l (ci := 9) (q0 := 0) (As := [.long ((gB u 17) ((x3 - (1 : Int32))).toNatClampNeg)]) (rest := []) E hml hP hD hS hA (t_X10_first l D G ((gB u 17) ((x3 - (1 : Int32))).toNatClampNeg) u4 _ h) kmX10_209 mwyX10_first rfl rfl ⟨⟨rfl, rfl⟩, Nat.le_of_ble_eq_true rfl, Nat.le_of_ble_eq_true rfl⟩ rfl hl.1 rfl (Nat.le_of_ble_eq_true rfl) dX10_printAll_170 ⟨Nat.zero_le _, Nat.zero_le _⟩ (fun r5 u6 H locs hP hD hS h => ?_)
            refine lv_lstore (lv' := [(4, .long r5), (7, .int (0 : Int32)), (8, .long ((gB u 17) ((x3 - (1 : Int32))).toNatClampNeg)), (0, .ref (G.1 0)), (3, .int x3)]) hx hb dX10_printAll_173 hl (by decide) rfl (fun ls hl => ?_)
            refine lv_aload_n hx hb dX10_printAll_175 rfl (lv_at hl 3 rfl) ?_
            refine gR_17 E hP kfX10_64 dX10_printAll_176 ?_
            refine lv_iload_n hx hb dX10_printAll_179 rfl (lv_at hl 4 rfl) ?_
            refine lv_iconst (v := (1 : Int32)) hx hb dX10_printAll_180 (by decide) ?_
            refine lv_isub hx hb dX10_printAll_181 ?_
            refine lv_aload_n hx hb dX10_printAll_182 rfl (lv_at hl 3 rfl) ?_
            refine lv_lload hx hb dX10_printAll_183 (lv_at hl 2 rfl) ?_
            refine cR_l (ci := 9) (q0 := 0) (As := [.long ((gB u 17) ((x3 - (1 : Int32))).toNatClampNeg)]) (rest := [.int (x3 - (1 : Int32)), .ref (G.1 6)]) E hml hP hD hS hA (t_X10_behind l D G ((gB u 17) ((x3 - (1 : Int32))).toNatClampNeg) u6 _ h) kmX10_216 mwyX10_behind rfl rfl ⟨⟨rfl, rfl⟩, Nat.le_of_ble_eq_true rfl, Nat.le_of_ble_eq_true rfl⟩ rfl hl.1 rfl (Nat.le_of_ble_eq_true rfl) dX10_printAll_185 ⟨Nat.zero_le _, Nat.zero_le _⟩ (fun r7 u8 H locs hP hD hS h => ?_)
            obtain ⟨h9, h⟩ := h
            refine yR_17 E hP hD hS h9 (f := (gB u8 17)) rfl dX10_printAll_188 (fun H locs hP hD hS => ?_)
            refine lv_goto (tgt := 77) hx hb dX10_printAll_189 (by decide) ?_
            exact ih x3 r5 (0 : Int32) (sB u8 17 (vp_updL (gB u8 17) ((x3 - (1 : Int32))).toNatClampNeg r7)) _ _ _ h hP hD hS (lv_sub hl [3, 4, 0, 1] rfl)
          · have h := h.1 hc
            refine lv_iconst (v := (1 : Int32)) hx hb dX10_printAll_104 (by decide) ?_
            refine lv_goto (tgt := 109) hx hb dX10_printAll_105 (by decide) ?_
            refine lv_istore (lv' := [(7, .int (1 : Int32)), (8, .long ((gB u 17) ((x3 - (1 : Int32))).toNatClampNeg)), (0, .ref (G.1 0)), (3, .int x3), (4, .long x4)]) hx hb dX10_printAll_109 hl (by decide) rfl (fun ls hl => ?_)
            refine lv_iload hx hb dX10_printAll_111 (lv_at hl 0 rfl) ?_
            refine lv_if_eq (tgt := 161) hx hb dX10_printAll_113 (by decide) (fun hc => absurd hc (by decide)) (fun _ => ?_)
            refine lv_lload hx hb dX10_printAll_116 (lv_at hl 1 rfl) ?_
            refine lv_ldc2 (v := (4294967296 : Int64)) hx hb hown (hW _ kcX10_199) dX10_printAll_118 ?_
            refine lq_eq (tgt := 149) hx hb dX10_printAll_121 dX10_printAll_122 (by decide) (fun hc => ?_) (fun hc => ?_)
            · have h := h.1 hc
              refine lv_aload_n hx hb dX10_printAll_149 rfl (lv_at hl 2 rfl) ?_
              refine lv_bipush (v := (41 : Int32)) hx hb dX10_printAll_150 (by decide) ?_
              refine cR_v (ci := 9) (q0 := 0) (As := [.int (41 : Int32)]) (rest := []) E hml hP hD hS hA (t_X10_put l D G (41 : Int32) u _ h) kmX10_338 mwyX10_put rfl rfl ⟨⟨rfl, rfl⟩, Nat.le_of_ble_eq_true rfl, Nat.le_of_ble_eq_true rfl⟩ rfl hl.1 rfl (Nat.le_of_ble_eq_true rfl) dX10_printAll_152 ⟨Nat.zero_le _, Nat.zero_le _⟩ (fun u9 H locs hP hD hS h => ?_)
              refine lv_iinc (v := (x3 + (-1 : Int32))) (lv' := [(3, .int (x3 + (-1 : Int32))), (7, .int (1 : Int32)), (8, .long ((gB u 17) ((x3 - (1 : Int32))).toNatClampNeg)), (0, .ref (G.1 0)), (4, .long x4)]) hx hb dX10_printAll_155 hl (k := 3) rfl rfl (by decide) rfl (fun ls hl => ?_)
              refine lv_goto (tgt := 189) hx hb dX10_printAll_158 (by decide) ?_
              refine lv_goto (tgt := 77) hx hb dX10_printAll_189 (by decide) ?_
              exact ih (x3 + (-1 : Int32)) x4 (1 : Int32) u9 _ _ _ h hP hD hS (lv_sub hl [3, 0, 4, 1] rfl)
            · have h := h.2 hc
              refine lv_aload_n hx hb dX10_printAll_125 rfl (lv_at hl 2 rfl) ?_
              refine lv_bipush (v := (32 : Int32)) hx hb dX10_printAll_126 (by decide) ?_
              refine cR_v (ci := 9) (q0 := 0) (As := [.int (32 : Int32)]) (rest := []) E hml hP hD hS hA (t_X10_put l D G (32 : Int32) u _ h) kmX10_338 mwyX10_put rfl rfl ⟨⟨rfl, rfl⟩, Nat.le_of_ble_eq_true rfl, Nat.le_of_ble_eq_true rfl⟩ rfl hl.1 rfl (Nat.le_of_ble_eq_true rfl) dX10_printAll_128 ⟨Nat.zero_le _, Nat.zero_le _⟩ (fun u10 H locs hP hD hS h => ?_)
              refine lv_aload_n hx hb dX10_printAll_131 rfl (lv_at hl 2 rfl) ?_
              refine lv_bipush (v := (46 : Int32)) hx hb dX10_printAll_132 (by decide) ?_
              refine cR_v (ci := 9) (q0 := 0) (As := [.int (46 : Int32)]) (rest := []) E hml hP hD hS hA (t_X10_put l D G (46 : Int32) u10 _ h) kmX10_338 mwyX10_put rfl rfl ⟨⟨rfl, rfl⟩, Nat.le_of_ble_eq_true rfl, Nat.le_of_ble_eq_true rfl⟩ rfl hl.1 rfl (Nat.le_of_ble_eq_true rfl) dX10_printAll_134 ⟨Nat.zero_le _, Nat.zero_le _⟩ (fun u11 H locs hP hD hS h => ?_)
              refine lv_aload_n hx hb dX10_printAll_137 rfl (lv_at hl 2 rfl) ?_
              refine lv_bipush (v := (32 : Int32)) hx hb dX10_printAll_138 (by decide) ?_
              refine cR_v (ci := 9) (q0 := 0) (As := [.int (32 : Int32)]) (rest := []) E hml hP hD hS hA (t_X10_put l D G (32 : Int32) u11 _ h) kmX10_338 mwyX10_put rfl rfl ⟨⟨rfl, rfl⟩, Nat.le_of_ble_eq_true rfl, Nat.le_of_ble_eq_true rfl⟩ rfl hl.1 rfl (Nat.le_of_ble_eq_true rfl) dX10_printAll_140 ⟨Nat.zero_le _, Nat.zero_le _⟩ (fun u12 H locs hP hD hS h => ?_)
              refine lv_aload_n hx hb dX10_printAll_143 rfl (lv_at hl 2 rfl) ?_
              refine lv_lload hx hb dX10_printAll_144 (lv_at hl 1 rfl) ?_
              refine cR_v (ci := 9) (q0 := 0) (As := [.long ((gB u 17) ((x3 - (1 : Int32))).toNatClampNeg)]) (rest := []) E hml hP hD hS hA (t_X10_putAtom l D G ((gB u 17) ((x3 - (1 : Int32))).toNatClampNeg) u12 _ h) kmX10_341 mwyX10_putAtom rfl rfl ⟨⟨rfl, rfl⟩, Nat.le_of_ble_eq_true rfl, Nat.le_of_ble_eq_true rfl⟩ rfl hl.1 rfl (Nat.le_of_ble_eq_true rfl) dX10_printAll_146 ⟨Nat.zero_le _, Nat.zero_le _⟩ (fun u13 H locs hP hD hS h => ?_)
              refine lv_aload_n hx hb dX10_printAll_149 rfl (lv_at hl 2 rfl) ?_
              refine lv_bipush (v := (41 : Int32)) hx hb dX10_printAll_150 (by decide) ?_
              refine cR_v (ci := 9) (q0 := 0) (As := [.int (41 : Int32)]) (rest := []) E hml hP hD hS hA (t_X10_put l D G (41 : Int32) u13 _ h) kmX10_338 mwyX10_put rfl rfl ⟨⟨rfl, rfl⟩, Nat.le_of_ble_eq_true rfl, Nat.le_of_ble_eq_true rfl⟩ rfl hl.1 rfl (Nat.le_of_ble_eq_true rfl) dX10_printAll_152 ⟨Nat.zero_le _, Nat.zero_le _⟩ (fun u14 H locs hP hD hS h => ?_)
              refine lv_iinc (v := (x3 + (-1 : Int32))) (lv' := [(3, .int (x3 + (-1 : Int32))), (7, .int (1 : Int32)), (8, .long ((gB u 17) ((x3 - (1 : Int32))).toNatClampNeg)), (0, .ref (G.1 0)), (4, .long x4)]) hx hb dX10_printAll_155 hl (k := 3) rfl rfl (by decide) rfl (fun ls hl => ?_)
              refine lv_goto (tgt := 189) hx hb dX10_printAll_158 (by decide) ?_
              refine lv_goto (tgt := 77) hx hb dX10_printAll_189 (by decide) ?_
              exact ih (x3 + (-1 : Int32)) x4 (1 : Int32) u14 _ _ _ h hP hD hS (lv_sub hl [3, 0, 4, 1] rfl)
  have L_13 : ∀  (K : St → Prop), (∀  (u : St) (H : Heap) (locs : List Loc) (ls : Array Slot), K  u → va_P D vwCl (wR G u) H → va_D (AR G s.heap.size) (wR G u) → va_S (AR G s.heap.size) s.heap H locs → lv_has ls 10 [] → W p l e rm_X10_printAll s m args below meth c H locs 0 0 (MQ below (va_Qv Q (BR D G s.heap.size) (AR G s.heap.size)) args s 0 0 (AR G s.heap.size)) (F0 m 206 ls [])) → ∀ (n : Nat) (x3 : Int32) (x4 : Int64) (x6 : Int32) (u : St) (H : Heap) (locs : List Loc) (ls : Array Slot), l_X10_printAll_13  K n x3 x4 x6 u → va_P D vwCl (wR G u) H → va_D (AR G s.heap.size) (wR G u) → va_S (AR G s.heap.size) s.heap H locs → lv_has ls 10 [(0, .ref (G.1 0)), (3, .int x3), (4, .long x4), (6, .int x6)] → W p l e rm_X10_printAll s m args below meth c H locs 0 0 (MQ below (va_Qv Q (BR D G s.heap.size) (AR G s.heap.size)) args s 0 0 (AR G s.heap.size)) (F0 m 13 ls []) := by
    intro  K hK n
    induction n with
    | zero => intro x3 x4 x6 u H locs ls h; exact False.elim h
    | succ n ih =>
      intro x3 x4 x6 u H locs ls h hP hD hS hl
      unfold l_X10_printAll_13 at h
      refine lv_iload hx hb dX10_printAll_13 (lv_at hl 3 rfl) ?_
      refine lv_if_eq (tgt := 206) hx hb dX10_printAll_15 (by decide) (fun hc => ?_) (fun hc => ?_)
      · have h := h.1 hc
        exact hK u _ _ _ h hP hD hS (lv_sub hl [] rfl)
      · have h := h.2 hc
        refine lv_aload_n hx hb dX10_printAll_18 rfl (lv_at hl 0 rfl) ?_
        refine gR_12 E hP kfX10_47 (v := (gI u 12)) rfl dX10_printAll_19 ?_
        refine lv_sipush (v := (400 : Int32)) hx hb dX10_printAll_22 (by decide) ?_
        refine lv_icmp_ge (tgt := 206) hx hb dX10_printAll_25 (by decide) (fun hc => ?_) (fun hc => ?_)
        · have h := h.1 hc
          exact hK u _ _ _ h hP hD hS (lv_sub hl [] rfl)
        · have h := h.2 hc
          refine lv_lload hx hb dX10_printAll_28 (lv_at hl 2 rfl) ?_
          refine c0_i (As := [.long x4]) (rest := []) hx hb hml hown hW hP hS hA (t_X10_isPair l x4 _ h) kmX10_205 mwyX10_isPair ⟨⟨rfl, rfl⟩, Nat.le_of_ble_eq_true rfl, Nat.le_of_ble_eq_true rfl⟩ rfl hl.1 rfl (Nat.le_of_ble_eq_true rfl) dX10_printAll_30 ⟨Nat.zero_le _, Nat.zero_le _⟩ (fun r1 H locs hP hS h => ?_)
          refine lv_if_eq (tgt := 68) hx hb dX10_printAll_33 (by decide) (fun hc => ?_) (fun hc => ?_)
          · have h := h.1 hc
            refine lv_aload_n hx hb dX10_printAll_68 rfl (lv_at hl 0 rfl) ?_
            refine lv_lload hx hb dX10_printAll_69 (lv_at hl 2 rfl) ?_
            refine cR_v (ci := 9) (q0 := 0) (As := [.long x4]) (rest := []) E hml hP hD hS hA (t_X10_putAtom l D G x4 u _ h) kmX10_341 mwyX10_putAtom rfl rfl ⟨⟨rfl, rfl⟩, Nat.le_of_ble_eq_true rfl, Nat.le_of_ble_eq_true rfl⟩ rfl hl.1 rfl (Nat.le_of_ble_eq_true rfl) dX10_printAll_71 ⟨Nat.zero_le _, Nat.zero_le _⟩ (fun u2 H locs hP hD hS h => ?_)
            refine lv_iconst (v := (1 : Int32)) hx hb dX10_printAll_74 (by decide) ?_
            refine lv_istore (lv' := [(7, .int (1 : Int32)), (0, .ref (G.1 0)), (3, .int x3), (4, .long x4), (6, .int x6)]) hx hb dX10_printAll_75 hl (by decide) rfl (fun ls hl => ?_)
            obtain ⟨n, h⟩ := h
            refine L_77  _ (fun y15 y16 u17 H locs ls h hP hD hS hl => ?_) n x3 x4 (1 : Int32) u2 _ _ _ h hP hD hS (lv_sub hl [1, 2, 3, 0] rfl)
            refine lv_iload_n hx hb dX10_printAll_192 rfl (lv_at hl 1 rfl) ?_
            refine lv_if_le (tgt := 200) hx hb dX10_printAll_193 (by decide) (fun hc => ?_) (fun hc => ?_)
            · have h := h.1 hc
              refine lv_iconst (v := (0 : Int32)) hx hb dX10_printAll_200 (by decide) ?_
              refine lv_istore (lv' := [(6, .int (0 : Int32)), (0, .ref (G.1 0)), (3, .int y15), (4, .long y16)]) hx hb dX10_printAll_201 hl (by decide) rfl (fun ls hl => ?_)
              refine lv_goto (tgt := 13) hx hb dX10_printAll_203 (by decide) ?_
              exact ih y15 y16 (0 : Int32) u17 _ _ _ h hP hD hS (lv_sub hl [1, 2, 3, 0] rfl)
            · have h := h.2 hc
              refine lv_iconst (v := (1 : Int32)) hx hb dX10_printAll_196 (by decide) ?_
              refine lv_goto (tgt := 201) hx hb dX10_printAll_197 (by decide) ?_
              refine lv_istore (lv' := [(6, .int (1 : Int32)), (0, .ref (G.1 0)), (3, .int y15), (4, .long y16)]) hx hb dX10_printAll_201 hl (by decide) rfl (fun ls hl => ?_)
              refine lv_goto (tgt := 13) hx hb dX10_printAll_203 (by decide) ?_
              exact ih y15 y16 (1 : Int32) u17 _ _ _ h hP hD hS (lv_sub hl [1, 2, 3, 0] rfl)
          · have h := h.2 hc
            refine lv_aload_n hx hb dX10_printAll_36 rfl (lv_at hl 0 rfl) ?_
            refine lv_bipush (v := (40 : Int32)) hx hb dX10_printAll_37 (by decide) ?_
            refine cR_v (ci := 9) (q0 := 0) (As := [.int (40 : Int32)]) (rest := []) E hml hP hD hS hA (t_X10_put l D G (40 : Int32) u _ h) kmX10_338 mwyX10_put rfl rfl ⟨⟨rfl, rfl⟩, Nat.le_of_ble_eq_true rfl, Nat.le_of_ble_eq_true rfl⟩ rfl hl.1 rfl (Nat.le_of_ble_eq_true rfl) dX10_printAll_39 ⟨Nat.zero_le _, Nat.zero_le _⟩ (fun u19 H locs hP hD hS h => ?_)
            refine lv_aload_n hx hb dX10_printAll_42 rfl (lv_at hl 0 rfl) ?_
            refine gR_17 E hP kfX10_64 dX10_printAll_43 ?_
            refine lv_iload_n hx hb dX10_printAll_46 rfl (lv_at hl 1 rfl) ?_
            refine lv_aload_n hx hb dX10_printAll_47 rfl (lv_at hl 0 rfl) ?_
            refine lv_lload hx hb dX10_printAll_48 (lv_at hl 2 rfl) ?_
            refine cR_l (ci := 9) (q0 := 0) (As := [.long x4]) (rest := [.int x3, .ref (G.1 6)]) E hml hP hD hS hA (t_X10_behind l D G x4 u19 _ h) kmX10_216 mwyX10_behind rfl rfl ⟨⟨rfl, rfl⟩, Nat.le_of_ble_eq_true rfl, Nat.le_of_ble_eq_true rfl⟩ rfl hl.1 rfl (Nat.le_of_ble_eq_true rfl) dX10_printAll_50 ⟨Nat.zero_le _, Nat.zero_le _⟩ (fun r20 u21 H locs hP hD hS h => ?_)
            obtain ⟨h9, h⟩ := h
            refine yR_17 E hP hD hS h9 (f := (gB u21 17)) rfl dX10_printAll_53 (fun H locs hP hD hS => ?_)
            refine lv_iinc (v := (x3 + (1 : Int32))) (lv' := [(3, .int (x3 + (1 : Int32))), (0, .ref (G.1 0)), (4, .long x4), (6, .int x6)]) hx hb dX10_printAll_54 hl (k := 1) rfl rfl (by decide) rfl (fun ls hl => ?_)
            refine lv_aload_n hx hb dX10_printAll_57 rfl (lv_at hl 1 rfl) ?_
            refine lv_lload hx hb dX10_printAll_58 (lv_at hl 2 rfl) ?_
            refine cR_l (ci := 9) (q0 := 0) (As := [.long x4]) (rest := []) E hml hP hD hS hA (t_X10_first l D G x4 (sB u21 17 (vp_updL (gB u21 17) (x3).toNatClampNeg r20)) _ h) kmX10_209 mwyX10_first rfl rfl ⟨⟨rfl, rfl⟩, Nat.le_of_ble_eq_true rfl, Nat.le_of_ble_eq_true rfl⟩ rfl hl.1 rfl (Nat.le_of_ble_eq_true rfl) dX10_printAll_60 ⟨Nat.zero_le _, Nat.zero_le _⟩ (fun r22 u23 H locs hP hD hS h => ?_)
            refine lv_lstore (lv' := [(4, .long r22), (3, .int (x3 + (1 : Int32))), (0, .ref (G.1 0)), (6, .int x6)]) hx hb dX10_printAll_63 hl (by decide) rfl (fun ls hl => ?_)
            refine lv_goto (tgt := 13) hx hb dX10_printAll_65 (by decide) ?_
            exact ih (x3 + (1 : Int32)) r22 x6 u23 _ _ _ h hP hD hS (lv_sub hl [2, 1, 0, 3] rfl)
  unfold wp_X10_printAll at h
  refine lv_aload_n hx hb dX10_printAll_0 rfl (lv_at hl 0 rfl) ?_
  refine lv_iconst (v := (0 : Int32)) hx hb dX10_printAll_1 (by decide) ?_
  refine pR_12 E hP hD hS kfX10_47 dX10_printAll_2 (fun H locs hP hD hS => ?_)
  refine lv_iconst (v := (0 : Int32)) hx hb dX10_printAll_5 (by decide) ?_
  refine lv_istore_n (lv' := [(3, .int (0 : Int32)), (0, .ref (G.1 0)), (1, .long p0)]) hx hb dX10_printAll_6 rfl hl (by decide) rfl (fun ls hl => ?_)
  refine lv_lload_n hx hb dX10_printAll_7 rfl (lv_at hl 2 rfl) ?_
  refine lv_lstore (lv' := [(4, .long p0), (3, .int (0 : Int32)), (0, .ref (G.1 0)), (1, .long p0)]) hx hb dX10_printAll_8 hl (by decide) rfl (fun ls hl => ?_)
  refine lv_iconst (v := (1 : Int32)) hx hb dX10_printAll_10 (by decide) ?_
  refine lv_istore (lv' := [(6, .int (1 : Int32)), (4, .long p0), (3, .int (0 : Int32)), (0, .ref (G.1 0)), (1, .long p0)]) hx hb dX10_printAll_11 hl (by decide) rfl (fun ls hl => ?_)
  obtain ⟨n, h⟩ := h
  refine L_13  _ (fun u24 H locs ls h hP hD hS hl => ?_) n (0 : Int32) p0 (1 : Int32) (sI u 12 (0 : Int32)) _ _ _ h hP hD hS (lv_sub hl [3, 2, 1, 0] rfl)
  exact retR_v E hr hlk hP hD hS h dX10_printAll_206
def wp_X10_fails (p0 : Int32) (u : St) (Q : St → Prop) : Prop := (((gI u 8) = 0 → Q (sI u 8 p0)) ∧ (¬ (gI u 8) = 0 → Q u))
abbrev rm_X10_fails : Room := { frames := 0, cells := 0, slots := 0, locals := 0 }
set_option maxHeartbeats 4000000 in
set_option maxRecDepth 100000 in
theorem t_X10_fails (l : Launch) (D : va_G) (G : Gd) (p0 : Int32) (u : St) (Q : St → Prop) (h : wp_X10_fails p0 u Q) : MRv l D G yX10_fails cX10_fails 2 none rm_X10_fails [.ref (G.1 0), .int p0] u Q := by
  refine startR_v (by decide) ?_
  intro p e s m args below meth c E hr hlk hml hP hD hS hA
  have hx := E.1
  have hb := E.2.1
  have hown := E.2.2.1
  have hW := E.2.2.2.1
  have hl := lv_entry ([.ref (G.1 0), .int p0]) (n := 2) (Nat.le_of_ble_eq_true rfl)
  rw [lg_entry_eq]
  generalize (lg_sl ([.ref (G.1 0), .int p0]) ++ List.replicate (2 - (lg_sl ([.ref (G.1 0), .int p0])).length) Slot.unset).toArray = ls at hl ⊢
  have hl : lv_has ls 2 [(0, .ref (G.1 0)), (1, .int p0)] := hl
  unfold wp_X10_fails at h
  refine lv_aload_n hx hb dX10_fails_0 rfl (lv_at hl 0 rfl) ?_
  refine gR_8 E hP kfX10_35 (v := (gI u 8)) rfl dX10_fails_1 ?_
  refine lv_if_ne (tgt := 12) hx hb dX10_fails_4 (by decide) (fun hc => ?_) (fun hc => ?_)
  · have h := h.2 hc
    exact retR_v E hr hlk hP hD hS h dX10_fails_12
  · have h := h.1 hc
    refine lv_aload_n hx hb dX10_fails_7 rfl (lv_at hl 0 rfl) ?_
    refine lv_iload_n hx hb dX10_fails_8 rfl (lv_at hl 1 rfl) ?_
    refine pR_8 E hP hD hS kfX10_35 dX10_fails_9 (fun H locs hP hD hS => ?_)
    exact retR_v E hr hlk hP hD hS h dX10_fails_12
def wp_X10_begins  (u : St) (Q : Int32 → St → Prop) : Prop := (((gI u 9) = (gI u 3) → wp_X10_fails (8 : Int32) u (fun (u1 : St) => Q (0 : Int32) u1)) ∧ (¬ (gI u 9) = (gI u 3) → Q (1 : Int32) (sI u 9 ((gI u 9) + (1 : Int32)))))
abbrev rm_X10_begins : Room := { frames := 1, cells := 0, slots := 0, locals := 21 }
set_option maxHeartbeats 4000000 in
set_option maxRecDepth 100000 in
theorem t_X10_begins (l : Launch) (D : va_G) (G : Gd)  (u : St) (Q : Int32 → St → Prop) (h : wp_X10_begins  u Q) : MRi l D G yX10_begins cX10_begins 1 (some .boolean) rm_X10_begins [.ref (G.1 0)] u Q := by
  refine startR_i (by decide) ?_
  intro p e s m args below meth c E hr hlk hml hP hD hS hA
  have hx := E.1
  have hb := E.2.1
  have hown := E.2.2.1
  have hW := E.2.2.2.1
  have hl := lv_entry ([.ref (G.1 0)]) (n := 1) (Nat.le_of_ble_eq_true rfl)
  rw [lg_entry_eq]
  generalize (lg_sl ([.ref (G.1 0)]) ++ List.replicate (1 - (lg_sl ([.ref (G.1 0)])).length) Slot.unset).toArray = ls at hl ⊢
  have hl : lv_has ls 1 [(0, .ref (G.1 0))] := hl
  unfold wp_X10_begins at h
  refine lv_aload_n hx hb dX10_begins_0 rfl (lv_at hl 0 rfl) ?_
  refine gR_9 E hP kfX10_38 (v := (gI u 9)) rfl dX10_begins_1 ?_
  refine lv_aload_n hx hb dX10_begins_4 rfl (lv_at hl 0 rfl) ?_
  refine gR_3 E hP kfX10_19 (v := (gI u 3)) rfl dX10_begins_5 ?_
  refine lv_icmp_ne (tgt := 19) hx hb dX10_begins_8 (by decide) (fun hc => ?_) (fun hc => ?_)
  · have h := h.2 hc
    refine lv_aload_n hx hb dX10_begins_19 rfl (lv_at hl 0 rfl) ?_
    refine lv_dup hx hb dX10_begins_20 rfl ?_
    refine gR_9 E hP kfX10_38 (v := (gI u 9)) rfl dX10_begins_21 ?_
    refine lv_iconst (v := (1 : Int32)) hx hb dX10_begins_24 (by decide) ?_
    refine lv_iadd hx hb dX10_begins_25 ?_
    refine pR_9 E hP hD hS kfX10_38 dX10_begins_26 (fun H locs hP hD hS => ?_)
    refine lv_iconst (v := (1 : Int32)) hx hb dX10_begins_29 (by decide) ?_
    exact retR_z E hr hlk hP hD hS (vz_n vz_1) h dX10_begins_30
  · have h := h.1 hc
    refine lv_aload_n hx hb dX10_begins_11 rfl (lv_at hl 0 rfl) ?_
    refine lv_bipush (v := (8 : Int32)) hx hb dX10_begins_12 (by decide) ?_
    refine cR_v (ci := 9) (q0 := 0) (As := [.int (8 : Int32)]) (rest := []) E hml hP hD hS hA (t_X10_fails l D G (8 : Int32) u _ h) kmX10_265 mwyX10_fails rfl rfl ⟨⟨rfl, rfl⟩, Nat.le_of_ble_eq_true rfl, Nat.le_of_ble_eq_true rfl⟩ rfl hl.1 rfl (Nat.le_of_ble_eq_true rfl) dX10_begins_14 ⟨Nat.zero_le _, Nat.zero_le _⟩ (fun u1 H locs hP hD hS h => ?_)
    refine lv_iconst (v := (0 : Int32)) hx hb dX10_begins_17 (by decide) ?_
    exact retR_z E hr hlk hP hD hS (vz_n vz_0) h dX10_begins_18
def l_X10_listOf_6 (Q : Int32 → St → Prop) (c3 : Int32) (K : Int64 → St → Prop) : Nat → Int64 → Int32 → St → Prop
  | 0, _, _, _ => False
  | n + 1, x4, x6, u => ((c3 ≤ x6 → K x4 u) ∧ (¬ c3 ≤ x6 → wp_X10_isPair x4 (fun (r1 : Int32) => ((r1 = 0 → Q (0 : Int32) u) ∧ (¬ r1 = 0 → wp_X10_behind x4 u (fun (r2 : Int64) (u3 : St) => l_X10_listOf_6 Q c3 K n r2 (x6 + (1 : Int32)) u3))))))
def wp_X10_listOf (p0 : Int64) (p1 : Int32) (u : St) (Q : Int32 → St → Prop) : Prop := (∃ k6 : Nat, l_X10_listOf_6 Q p1 (fun (y4 : Int64) (u5 : St) => ((y4 = (4294967296 : Int64) → Q (1 : Int32) u5) ∧ (¬ y4 = (4294967296 : Int64) → Q (0 : Int32) u5))) k6 p0 (0 : Int32) u)
abbrev rm_X10_listOf : Room := { frames := 1, cells := 0, slots := 0, locals := 22 }
set_option maxHeartbeats 4000000 in
set_option maxRecDepth 100000 in
theorem t_X10_listOf (l : Launch) (D : va_G) (G : Gd) (p0 : Int64) (p1 : Int32) (u : St) (Q : Int32 → St → Prop) (h : wp_X10_listOf p0 p1 u Q) : MRi l D G yX10_listOf cX10_listOf 7 (some .boolean) rm_X10_listOf [.ref (G.1 0), .long p0, .int p1] u Q := by
  refine startR_i (by decide) ?_
  intro p e s m args below meth c E hr hlk hml hP hD hS hA
  have hx := E.1
  have hb := E.2.1
  have hown := E.2.2.1
  have hW := E.2.2.2.1
  have hl := lv_entry ([.ref (G.1 0), .long p0, .int p1]) (n := 7) (Nat.le_of_ble_eq_true rfl)
  rw [lg_entry_eq]
  generalize (lg_sl ([.ref (G.1 0), .long p0, .int p1]) ++ List.replicate (7 - (lg_sl ([.ref (G.1 0), .long p0, .int p1])).length) Slot.unset).toArray = ls at hl ⊢
  have hl : lv_has ls 7 [(0, .ref (G.1 0)), (1, .long p0), (3, .int p1)] := hl
  have L_6 : ∀ (c3 : Int32) (K : Int64 → St → Prop), (∀ (x4 : Int64) (u : St) (H : Heap) (locs : List Loc) (ls : Array Slot), K x4 u → va_P D vwCl (wR G u) H → va_D (AR G s.heap.size) (wR G u) → va_S (AR G s.heap.size) s.heap H locs → lv_has ls 7 [(4, .long x4)] → W p l e rm_X10_listOf s m args below meth c H locs 0 0 (MQ below (va_Qi Q (BR D G s.heap.size) (AR G s.heap.size)) args s 0 0 (AR G s.heap.size)) (F0 m 36 ls [])) → ∀ (n : Nat) (x4 : Int64) (x6 : Int32) (u : St) (H : Heap) (locs : List Loc) (ls : Array Slot), l_X10_listOf_6 Q c3 K n x4 x6 u → va_P D vwCl (wR G u) H → va_D (AR G s.heap.size) (wR G u) → va_S (AR G s.heap.size) s.heap H locs → lv_has ls 7 [(0, .ref (G.1 0)), (3, .int c3), (4, .long x4), (6, .int x6)] → W p l e rm_X10_listOf s m args below meth c H locs 0 0 (MQ below (va_Qi Q (BR D G s.heap.size) (AR G s.heap.size)) args s 0 0 (AR G s.heap.size)) (F0 m 6 ls []) := by
    intro c3 K hK n
    induction n with
    | zero => intro x4 x6 u H locs ls h; exact False.elim h
    | succ n ih =>
      intro x4 x6 u H locs ls h hP hD hS hl
      unfold l_X10_listOf_6 at h
      refine lv_iload hx hb dX10_listOf_6 (lv_at hl 3 rfl) ?_
      refine lv_iload_n hx hb dX10_listOf_8 rfl (lv_at hl 1 rfl) ?_
      refine lv_icmp_ge (tgt := 36) hx hb dX10_listOf_9 (by decide) (fun hc => ?_) (fun hc => ?_)
      · have h := h.1 hc
        exact hK x4 u _ _ _ h hP hD hS (lv_sub hl [2] rfl)
      · have h := h.2 hc
        refine lv_lload hx hb dX10_listOf_12 (lv_at hl 2 rfl) ?_
        refine c0_i (As := [.long x4]) (rest := []) hx hb hml hown hW hP hS hA (t_X10_isPair l x4 _ h) kmX10_205 mwyX10_isPair ⟨⟨rfl, rfl⟩, Nat.le_of_ble_eq_true rfl, Nat.le_of_ble_eq_true rfl⟩ rfl hl.1 rfl (Nat.le_of_ble_eq_true rfl) dX10_listOf_14 ⟨Nat.zero_le _, Nat.zero_le _⟩ (fun r1 H locs hP hS h => ?_)
        refine lv_if_ne (tgt := 22) hx hb dX10_listOf_17 (by decide) (fun hc => ?_) (fun hc => ?_)
        · have h := h.2 hc
          refine lv_aload_n hx hb dX10_listOf_22 rfl (lv_at hl 0 rfl) ?_
          refine lv_lload hx hb dX10_listOf_23 (lv_at hl 2 rfl) ?_
          refine cR_l (ci := 9) (q0 := 0) (As := [.long x4]) (rest := []) E hml hP hD hS hA (t_X10_behind l D G x4 u _ h) kmX10_216 mwyX10_behind rfl rfl ⟨⟨rfl, rfl⟩, Nat.le_of_ble_eq_true rfl, Nat.le_of_ble_eq_true rfl⟩ rfl hl.1 rfl (Nat.le_of_ble_eq_true rfl) dX10_listOf_25 ⟨Nat.zero_le _, Nat.zero_le _⟩ (fun r2 u3 H locs hP hD hS h => ?_)
          refine lv_lstore (lv' := [(4, .long r2), (0, .ref (G.1 0)), (3, .int c3), (6, .int x6)]) hx hb dX10_listOf_28 hl (by decide) rfl (fun ls hl => ?_)
          refine lv_iinc (v := (x6 + (1 : Int32))) (lv' := [(6, .int (x6 + (1 : Int32))), (4, .long r2), (0, .ref (G.1 0)), (3, .int c3)]) hx hb dX10_listOf_30 hl (k := 3) rfl rfl (by decide) rfl (fun ls hl => ?_)
          refine lv_goto (tgt := 6) hx hb dX10_listOf_33 (by decide) ?_
          exact ih r2 (x6 + (1 : Int32)) u3 _ _ _ h hP hD hS (lv_sub hl [2, 3, 1, 0] rfl)
        · have h := h.1 hc
          refine lv_iconst (v := (0 : Int32)) hx hb dX10_listOf_20 (by decide) ?_
          exact retR_z E hr hlk hP hD hS (vz_n vz_0) h dX10_listOf_21
  unfold wp_X10_listOf at h
  refine lv_lload_n hx hb dX10_listOf_0 rfl (lv_at hl 1 rfl) ?_
  refine lv_lstore (lv' := [(4, .long p0), (0, .ref (G.1 0)), (1, .long p0), (3, .int p1)]) hx hb dX10_listOf_1 hl (by decide) rfl (fun ls hl => ?_)
  refine lv_iconst (v := (0 : Int32)) hx hb dX10_listOf_3 (by decide) ?_
  refine lv_istore (lv' := [(6, .int (0 : Int32)), (4, .long p0), (0, .ref (G.1 0)), (1, .long p0), (3, .int p1)]) hx hb dX10_listOf_4 hl (by decide) rfl (fun ls hl => ?_)
  obtain ⟨n, h⟩ := h
  refine L_6 p1 _ (fun y4 u5 H locs ls h hP hD hS hl => ?_) n p0 (0 : Int32) u _ _ _ h hP hD hS (lv_sub hl [2, 4, 1, 0] rfl)
  refine lv_lload hx hb dX10_listOf_36 (lv_at hl 0 rfl) ?_
  refine lv_ldc2 (v := (4294967296 : Int64)) hx hb hown (hW _ kcX10_199) dX10_listOf_38 ?_
  refine lq_ne (tgt := 49) hx hb dX10_listOf_41 dX10_listOf_42 (by decide) (fun hc => ?_) (fun hc => ?_)
  · have h := h.2 hc
    refine lv_iconst (v := (0 : Int32)) hx hb dX10_listOf_49 (by decide) ?_
    exact retR_z E hr hlk hP hD hS (vz_n vz_0) h dX10_listOf_50
  · have h := h.1 hc
    refine lv_iconst (v := (1 : Int32)) hx hb dX10_listOf_45 (by decide) ?_
    refine lv_goto (tgt := 50) hx hb dX10_listOf_46 (by decide) ?_
    exact retR_z E hr hlk hP hD hS (vz_n vz_1) h dX10_listOf_50
