def wp_X6_isCharacter (p0 : Int32) (Q : Int32 → Prop) : Prop := ((p0 = (10 : Int32) → Q (1 : Int32)) ∧ (¬ p0 = (10 : Int32) → ((p0 < (32 : Int32) → Q (0 : Int32)) ∧ (¬ p0 < (32 : Int32) → (((126 : Int32) < p0 → Q (0 : Int32)) ∧ (¬ (126 : Int32) < p0 → Q (1 : Int32)))))))
abbrev rm_X6_isCharacter : Room := { frames := 0, cells := 0, slots := 0, locals := 0 }
set_option maxHeartbeats 4000000 in
set_option maxRecDepth 100000 in
theorem t_X6_isCharacter (l : Launch) (p0 : Int32) (Q : Int32 → Prop) (h : wp_X6_isCharacter p0 Q) : M0i l yX6_isCharacter cX6_isCharacter 1 (some .boolean) rm_X6_isCharacter [.int p0] Q := by
  refine start0_i (by decide) ?_
  intro p e s m args below meth c hx hb hown hW hr hlk hml hS
  have hP : va_P ((fun _ => 0), (fun _ _ => 0)) vwCl [] s.heap := fun k q h => by simp at h
  have hA : ∀ q, s.heap.size ≤ q → (fun q => s.heap.size ≤ q) q := fun _ h => h
  have hl := lv_entry ([.int p0]) (n := 1) (Nat.le_of_ble_eq_true rfl)
  rw [lg_entry_eq]
  generalize (lg_sl ([.int p0]) ++ List.replicate (1 - (lg_sl ([.int p0])).length) Slot.unset).toArray = ls at hl ⊢
  have hl : lv_has ls 1 [(0, .int p0)] := hl
  unfold wp_X6_isCharacter at h
  refine lv_iload_n hx hb dX6_isCharacter_0 rfl (lv_at hl 0 rfl) ?_
  refine lv_bipush (v := (10 : Int32)) hx hb dX6_isCharacter_1 (by decide) ?_
  refine lv_icmp_eq (tgt := 18) hx hb dX6_isCharacter_3 (by decide) (fun hc => ?_) (fun hc => ?_)
  · have h := h.1 hc
    refine lv_iconst (v := (1 : Int32)) hx hb dX6_isCharacter_18 (by decide) ?_
    refine lv_goto (tgt := 23) hx hb dX6_isCharacter_19 (by decide) ?_
    exact ret0_z hx hb hr hlk hS (vz_n vz_1) h dX6_isCharacter_23
  · have h := h.2 hc
    refine lv_iload_n hx hb dX6_isCharacter_6 rfl (lv_at hl 0 rfl) ?_
    refine lv_bipush (v := (32 : Int32)) hx hb dX6_isCharacter_7 (by decide) ?_
    refine lv_icmp_lt (tgt := 22) hx hb dX6_isCharacter_9 (by decide) (fun hc => ?_) (fun hc => ?_)
    · have h := h.1 hc
      refine lv_iconst (v := (0 : Int32)) hx hb dX6_isCharacter_22 (by decide) ?_
      exact ret0_z hx hb hr hlk hS (vz_n vz_0) h dX6_isCharacter_23
    · have h := h.2 hc
      refine lv_iload_n hx hb dX6_isCharacter_12 rfl (lv_at hl 0 rfl) ?_
      refine lv_bipush (v := (126 : Int32)) hx hb dX6_isCharacter_13 (by decide) ?_
      refine lv_icmp_gt (tgt := 22) hx hb dX6_isCharacter_15 (by decide) (fun hc => ?_) (fun hc => ?_)
      · have h := h.1 hc
        refine lv_iconst (v := (0 : Int32)) hx hb dX6_isCharacter_22 (by decide) ?_
        exact ret0_z hx hb hr hlk hS (vz_n vz_0) h dX6_isCharacter_23
      · have h := h.2 hc
        refine lv_iconst (v := (1 : Int32)) hx hb dX6_isCharacter_18 (by decide) ?_
        refine lv_goto (tgt := 23) hx hb dX6_isCharacter_19 (by decide) ?_
        exact ret0_z hx hb hr hlk hS (vz_n vz_1) h dX6_isCharacter_23
def l_X6_append_9 (N : Nat → Nat) (Q : Int32 → St → Prop) (c1 : Int64) (K : Int32 → St → Prop) : Nat → Int32 → Int32 → St → Prop
  | 0, _, _, _ => False
  | n + 1, x3, x4, u => ((x4 < 0 → K x3 u) ∧ (¬ x4 < 0 → ((((((c1).toUInt64 >>> ((x4).toInt64.toUInt64 &&& Int64.toUInt64 63)).toInt64).toInt32 &&& (255 : Int32)) = 0 → l_X6_append_9 N Q c1 K n x3 (x4 + (-8 : Int32)) u) ∧ (¬ ((((c1).toUInt64 >>> ((x4).toInt64.toUInt64 &&& Int64.toUInt64 63)).toInt64).toInt32 &&& (255 : Int32)) = 0 → wp_X6_isCharacter ((((c1).toUInt64 >>> ((x4).toInt64.toUInt64 &&& Int64.toUInt64 63)).toInt64).toInt32 &&& (255 : Int32)) (fun (r1 : Int32) => ((r1 = 0 → Q (0 : Int32) u) ∧ (¬ r1 = 0 → ((x3 < (2000 : Int32) → vp_in x3 2000 ∧ l_X6_append_9 N Q c1 K n (x3 + (1 : Int32)) (x4 + (-8 : Int32)) (sA u 100 (upd (gA u 100) (x3).toNatClampNeg (vp_nar .char ((((((c1).toUInt64 >>> ((x4).toInt64.toUInt64 &&& Int64.toUInt64 63)).toInt64).toInt32 &&& (255 : Int32))).toUInt32 % 65536).toInt32)))) ∧ (¬ x3 < (2000 : Int32) → Q (0 : Int32) u)))))))))
def wp_X6_append (N : Nat → Nat) (p0 : Int64) (u : St) (Q : Int32 → St → Prop) : Prop := (∃ k4 : Nat, l_X6_append_9 N Q p0 (fun (y2 : Int32) (u3 : St) => Q (1 : Int32) (sI u3 101 y2)) k4 (gI u 101) (56 : Int32) u)
abbrev rm_X6_append : Room := { frames := 1, cells := 0, slots := 0, locals := 20 }
set_option maxHeartbeats 4000000 in
set_option maxRecDepth 100000 in
theorem t_X6_append (l : Launch) (D : va_G) (G : Gd) (p0 : Int64) (u : St) (Q : Int32 → St → Prop) (h : wp_X6_append G.2.1 p0 u Q) : MCi l D G yX6_append cX6_append 6 (some .boolean) rm_X6_append [.ref (G.1 1), .long p0] u Q := by
  refine startC_i (by decide) ?_
  intro p e s m args below meth c E hr hlk hml hP hD hS hA
  have hx := E.1
  have hb := E.2.1
  have hown := E.2.2.1
  have hW := E.2.2.2.1
  have hl := lv_entry ([.ref (G.1 1), .long p0]) (n := 6) (Nat.le_of_ble_eq_true rfl)
  rw [lg_entry_eq]
  generalize (lg_sl ([.ref (G.1 1), .long p0]) ++ List.replicate (6 - (lg_sl ([.ref (G.1 1), .long p0])).length) Slot.unset).toArray = ls at hl ⊢
  have hl : lv_has ls 6 [(0, .ref (G.1 1)), (1, .long p0)] := hl
  have L_9 : ∀ (c1 : Int64) (K : Int32 → St → Prop), (∀ (x3 : Int32) (u : St) (H : Heap) (locs : List Loc) (ls : Array Slot), K x3 u → va_P D vwCl (wC G u) H → va_D (AC G s.heap.size) (wC G u) → va_S (AC G s.heap.size) s.heap H locs → lv_has ls 6 [(0, .ref (G.1 1)), (3, .int x3)] → W p l e rm_X6_append s m args below meth c H locs 0 0 (MQ below (va_Qi Q (BC D G s.heap.size) (AC G s.heap.size)) args s 0 0 (AC G s.heap.size)) (F0 m 68 ls [])) → ∀ (n : Nat) (x3 : Int32) (x4 : Int32) (u : St) (H : Heap) (locs : List Loc) (ls : Array Slot), l_X6_append_9 G.2.1 Q c1 K n x3 x4 u → va_P D vwCl (wC G u) H → va_D (AC G s.heap.size) (wC G u) → va_S (AC G s.heap.size) s.heap H locs → lv_has ls 6 [(0, .ref (G.1 1)), (1, .long c1), (3, .int x3), (4, .int x4)] → W p l e rm_X6_append s m args below meth c H locs 0 0 (MQ below (va_Qi Q (BC D G s.heap.size) (AC G s.heap.size)) args s 0 0 (AC G s.heap.size)) (F0 m 9 ls []) := by
    intro c1 K hK n
    induction n with
    | zero => intro x3 x4 u H locs ls h; exact False.elim h
    | succ n ih =>
      intro x3 x4 u H locs ls h hP hD hS hl
      unfold l_X6_append_9 at h
      refine lv_iload hx hb dX6_append_9 (lv_at hl 3 rfl) ?_
      refine lv_if_lt (tgt := 68) hx hb dX6_append_11 (by decide) (fun hc => ?_) (fun hc => ?_)
      · have h := h.1 hc
        exact hK x3 u _ _ _ h hP hD hS (lv_sub hl [0, 2] rfl)
      · have h := h.2 hc
        refine lv_lload_n hx hb dX6_append_14 rfl (lv_at hl 1 rfl) ?_
        refine lv_iload hx hb dX6_append_15 (lv_at hl 3 rfl) ?_
        refine lv_lushr (v := ((c1).toUInt64 >>> ((x4).toInt64.toUInt64 &&& Int64.toUInt64 63)).toInt64) hx hb dX6_append_17 rfl ?_
        refine lv_l2i (v := (((c1).toUInt64 >>> ((x4).toInt64.toUInt64 &&& Int64.toUInt64 63)).toInt64).toInt32) hx hb dX6_append_18 rfl ?_
        refine lv_sipush (v := (255 : Int32)) hx hb dX6_append_19 (by decide) ?_
        refine lv_iand hx hb dX6_append_22 ?_
        refine lv_istore (lv' := [(5, .int ((((c1).toUInt64 >>> ((x4).toInt64.toUInt64 &&& Int64.toUInt64 63)).toInt64).toInt32 &&& (255 : Int32))), (0, .ref (G.1 1)), (1, .long c1), (3, .int x3), (4, .int x4)]) hx hb dX6_append_23 hl (by decide) rfl (fun ls hl => ?_)
        refine lv_iload hx hb dX6_append_25 (lv_at hl 0 rfl) ?_
        refine lv_if_ne (tgt := 33) hx hb dX6_append_27 (by decide) (fun hc => ?_) (fun hc => ?_)
        · have h := h.2 hc
          refine lv_iload hx hb dX6_append_33 (lv_at hl 0 rfl) ?_
          refine c0_i (As := [.int ((((c1).toUInt64 >>> ((x4).toInt64.toUInt64 &&& Int64.toUInt64 63)).toInt64).toInt32 &&& (255 : Int32))]) (rest := []) hx hb hml hown hW hP hS hA (t_X6_isCharacter l ((((c1).toUInt64 >>> ((x4).toInt64.toUInt64 &&& Int64.toUInt64 63)).toInt64).toInt32 &&& (255 : Int32)) _ h) kmX6_25 mwyX6_isCharacter ⟨⟨rfl, rfl⟩, Nat.le_of_ble_eq_true rfl, Nat.le_of_ble_eq_true rfl⟩ rfl hl.1 rfl (Nat.le_of_ble_eq_true rfl) dX6_append_35 ⟨Nat.zero_le _, Nat.zero_le _⟩ (fun r1 H locs hP hS h => ?_)
          refine lv_if_eq (tgt := 48) hx hb dX6_append_38 (by decide) (fun hc => ?_) (fun hc => ?_)
          · have h := h.1 hc
            refine lv_iconst (v := (0 : Int32)) hx hb dX6_append_48 (by decide) ?_
            exact retC_z E hr hlk hP hD hS (vz_n vz_0) h dX6_append_49
          · have h := h.2 hc
            refine lv_iload_n hx hb dX6_append_41 rfl (lv_at hl 3 rfl) ?_
            refine lv_sipush (v := (2000 : Int32)) hx hb dX6_append_42 (by decide) ?_
            refine lv_icmp_lt (tgt := 50) hx hb dX6_append_45 (by decide) (fun hc => ?_) (fun hc => ?_)
            · have h := h.1 hc
              refine lv_aload_n hx hb dX6_append_50 rfl (lv_at hl 1 rfl) ?_
              refine gC_100 E hP kfX6_9 dX6_append_51 ?_
              refine lv_iload_n hx hb dX6_append_54 rfl (lv_at hl 3 rfl) ?_
              refine lv_iload hx hb dX6_append_55 (lv_at hl 0 rfl) ?_
              refine lv_i2c (v := ((((((c1).toUInt64 >>> ((x4).toInt64.toUInt64 &&& Int64.toUInt64 63)).toInt64).toInt32 &&& (255 : Int32))).toUInt32 % 65536).toInt32) hx hb dX6_append_57 rfl ?_
              obtain ⟨h9, h⟩ := h
              refine yC_100 E hP hD hS h9 (f := (gA u 100)) rfl dX6_append_58 (fun H locs hP hD hS => ?_)
              refine lv_iinc (v := (x3 + (1 : Int32))) (lv' := [(3, .int (x3 + (1 : Int32))), (5, .int ((((c1).toUInt64 >>> ((x4).toInt64.toUInt64 &&& Int64.toUInt64 63)).toInt64).toInt32 &&& (255 : Int32))), (0, .ref (G.1 1)), (1, .long c1), (4, .int x4)]) hx hb dX6_append_59 hl (k := 3) rfl rfl (by decide) rfl (fun ls hl => ?_)
              refine lv_iinc (v := (x4 + (-8 : Int32))) (lv' := [(4, .int (x4 + (-8 : Int32))), (3, .int (x3 + (1 : Int32))), (5, .int ((((c1).toUInt64 >>> ((x4).toInt64.toUInt64 &&& Int64.toUInt64 63)).toInt64).toInt32 &&& (255 : Int32))), (0, .ref (G.1 1)), (1, .long c1)]) hx hb dX6_append_62 hl (k := 4) rfl rfl (by decide) rfl (fun ls hl => ?_)
              refine lv_goto (tgt := 9) hx hb dX6_append_65 (by decide) ?_
              exact ih (x3 + (1 : Int32)) (x4 + (-8 : Int32)) (sA u 100 (upd (gA u 100) (x3).toNatClampNeg (vp_nar .char ((((((c1).toUInt64 >>> ((x4).toInt64.toUInt64 &&& Int64.toUInt64 63)).toInt64).toInt32 &&& (255 : Int32))).toUInt32 % 65536).toInt32))) _ _ _ h hP hD hS (lv_sub hl [3, 4, 1, 0] rfl)
            · have h := h.2 hc
              refine lv_iconst (v := (0 : Int32)) hx hb dX6_append_48 (by decide) ?_
              exact retC_z E hr hlk hP hD hS (vz_n vz_0) h dX6_append_49
        · have h := h.1 hc
          refine lv_goto (tgt := 62) hx hb dX6_append_30 (by decide) ?_
          refine lv_iinc (v := (x4 + (-8 : Int32))) (lv' := [(4, .int (x4 + (-8 : Int32))), (5, .int ((((c1).toUInt64 >>> ((x4).toInt64.toUInt64 &&& Int64.toUInt64 63)).toInt64).toInt32 &&& (255 : Int32))), (0, .ref (G.1 1)), (1, .long c1), (3, .int x3)]) hx hb dX6_append_62 hl (k := 4) rfl rfl (by decide) rfl (fun ls hl => ?_)
          refine lv_goto (tgt := 9) hx hb dX6_append_65 (by decide) ?_
          exact ih x3 (x4 + (-8 : Int32)) u _ _ _ h hP hD hS (lv_sub hl [2, 3, 4, 0] rfl)
  unfold wp_X6_append at h
  refine lv_aload_n hx hb dX6_append_0 rfl (lv_at hl 0 rfl) ?_
  refine gC_101 E hP kfX6_15 (v := (gI u 101)) rfl dX6_append_1 ?_
  refine lv_istore_n (lv' := [(3, .int (gI u 101)), (0, .ref (G.1 1)), (1, .long p0)]) hx hb dX6_append_4 rfl hl (by decide) rfl (fun ls hl => ?_)
  refine lv_bipush (v := (56 : Int32)) hx hb dX6_append_5 (by decide) ?_
  refine lv_istore (lv' := [(4, .int (56 : Int32)), (3, .int (gI u 101)), (0, .ref (G.1 1)), (1, .long p0)]) hx hb dX6_append_7 hl (by decide) rfl (fun ls hl => ?_)
  obtain ⟨n, h⟩ := h
  refine L_9 p0 _ (fun y2 u3 H locs ls h hP hD hS hl => ?_) n (gI u 101) (56 : Int32) u _ _ _ h hP hD hS (lv_sub hl [2, 3, 1, 0] rfl)
  refine lv_aload_n hx hb dX6_append_68 rfl (lv_at hl 0 rfl) ?_
  refine lv_iload_n hx hb dX6_append_69 rfl (lv_at hl 1 rfl) ?_
  refine pC_101 E hP hD hS kfX6_15 dX6_append_70 (fun H locs hP hD hS => ?_)
  refine lv_iconst (v := (1 : Int32)) hx hb dX6_append_73 (by decide) ?_
  exact retC_z E hr hlk hP hD hS (vz_n vz_1) h dX6_append_74
def wp_X9_write (N : Nat → Nat) (p0 : Int64) (u : St) (Q : Int32 → St → Prop) : Prop := wp_X6_append N p0 u (fun (r1 : Int32) (u2 : St) => vz r1 ∧ Q r1 u2)
abbrev rm_X9_write : Room := { frames := 2, cells := 0, slots := 0, locals := 45 }
set_option maxHeartbeats 4000000 in
set_option maxRecDepth 100000 in
theorem t_X9_write (l : Launch) (D : va_G) (G : Gd) (p0 : Int64) (u : St) (Q : Int32 → St → Prop) (h : wp_X9_write G.2.1 p0 u Q) : MCi l D G yX9_write cX9_write 3 (some .boolean) rm_X9_write [.ref (G.1 0), .long p0] u Q := by
  refine startC_i (by decide) ?_
  intro p e s m args below meth c E hr hlk hml hP hD hS hA
  have hx := E.1
  have hb := E.2.1
  have hown := E.2.2.1
  have hW := E.2.2.2.1
  have hl := lv_entry ([.ref (G.1 0), .long p0]) (n := 3) (Nat.le_of_ble_eq_true rfl)
  rw [lg_entry_eq]
  generalize (lg_sl ([.ref (G.1 0), .long p0]) ++ List.replicate (3 - (lg_sl ([.ref (G.1 0), .long p0])).length) Slot.unset).toArray = ls at hl ⊢
  have hl : lv_has ls 3 [(0, .ref (G.1 0)), (1, .long p0)] := hl
  unfold wp_X9_write at h
  refine lv_aload_n hx hb dX9_write_0 rfl (lv_at hl 0 rfl) ?_
  refine gC_0 E hP kfX9_21 dX9_write_1 ?_
  refine lv_lload_n hx hb dX9_write_4 rfl (lv_at hl 1 rfl) ?_
  refine cC_i (ci := 6) (q0 := 1) (As := [.long p0]) (rest := []) E hml hP hD hS hA (t_X6_append l D G p0 u _ h) kmX9_79 mwyX6_append rfl rfl ⟨⟨rfl, rfl⟩, Nat.le_of_ble_eq_true rfl, Nat.le_of_ble_eq_true rfl⟩ rfl hl.1 rfl (Nat.le_of_ble_eq_true rfl) dX9_write_5 ⟨Nat.zero_le _, Nat.zero_le _⟩ (fun r1 u2 H locs hP hD hS h => ?_)
  exact retC_z E hr hlk hP hD hS (vz_n h.1) h.2 dX9_write_8
def wp_X9_clear (N : Nat → Nat)  (u : St) (Q : St → Prop) : Prop := Q (sI (sI (sI u 101 (0 : Int32)) 102 (0 : Int32)) 103 (-1 : Int32))
abbrev rm_X9_clear : Room := { frames := 0, cells := 0, slots := 0, locals := 0 }
set_option maxHeartbeats 4000000 in
set_option maxRecDepth 100000 in
theorem t_X9_clear (l : Launch) (D : va_G) (G : Gd)  (u : St) (Q : St → Prop) (h : wp_X9_clear G.2.1  u Q) : MCv l D G yX9_clear cX9_clear 1 none rm_X9_clear [.ref (G.1 0)] u Q := by
  refine startC_v (by decide) ?_
  intro p e s m args below meth c E hr hlk hml hP hD hS hA
  have hx := E.1
  have hb := E.2.1
  have hown := E.2.2.1
  have hW := E.2.2.2.1
  have hl := lv_entry ([.ref (G.1 0)]) (n := 1) (Nat.le_of_ble_eq_true rfl)
  rw [lg_entry_eq]
  generalize (lg_sl ([.ref (G.1 0)]) ++ List.replicate (1 - (lg_sl ([.ref (G.1 0)])).length) Slot.unset).toArray = ls at hl ⊢
  have hl : lv_has ls 1 [(0, .ref (G.1 0))] := hl
  unfold wp_X9_clear at h
  refine lv_aload_n hx hb dX9_clear_0 rfl (lv_at hl 0 rfl) ?_
  refine gC_0 E hP kfX9_21 dX9_clear_1 ?_
  refine lv_iconst (v := (0 : Int32)) hx hb dX9_clear_4 (by decide) ?_
  refine pC_101 E hP hD hS kfX9_83 dX9_clear_5 (fun H locs hP hD hS => ?_)
  refine lv_aload_n hx hb dX9_clear_8 rfl (lv_at hl 0 rfl) ?_
  refine gC_0 E hP kfX9_21 dX9_clear_9 ?_
  refine lv_iconst (v := (0 : Int32)) hx hb dX9_clear_12 (by decide) ?_
  refine pC_102 E hP hD hS kfX9_86 dX9_clear_13 (fun H locs hP hD hS => ?_)
  refine lv_aload_n hx hb dX9_clear_16 rfl (lv_at hl 0 rfl) ?_
  refine gC_0 E hP kfX9_21 dX9_clear_17 ?_
  refine lv_iconst (v := (-1 : Int32)) hx hb dX9_clear_20 (by decide) ?_
  refine pC_103 E hP hD hS kfX9_89 dX9_clear_21 (fun H locs hP hD hS => ?_)
  exact retC_v E hr hlk hP hD hS h dX9_clear_24
def wp_X9_fault (N : Nat → Nat)  (u : St) (Q : Int32 → St → Prop) : Prop := Q (gI u 7) u
abbrev rm_X9_fault : Room := { frames := 0, cells := 0, slots := 0, locals := 0 }
set_option maxHeartbeats 4000000 in
set_option maxRecDepth 100000 in
theorem t_X9_fault (l : Launch) (D : va_G) (G : Gd)  (u : St) (Q : Int32 → St → Prop) (h : wp_X9_fault G.2.1  u Q) : MCi l D G yX9_fault cX9_fault 1 (some .int) rm_X9_fault [.ref (G.1 0)] u Q := by
  refine startC_i (by decide) ?_
  intro p e s m args below meth c E hr hlk hml hP hD hS hA
  have hx := E.1
  have hb := E.2.1
  have hown := E.2.2.1
  have hW := E.2.2.2.1
  have hl := lv_entry ([.ref (G.1 0)]) (n := 1) (Nat.le_of_ble_eq_true rfl)
  rw [lg_entry_eq]
  generalize (lg_sl ([.ref (G.1 0)]) ++ List.replicate (1 - (lg_sl ([.ref (G.1 0)])).length) Slot.unset).toArray = ls at hl ⊢
  have hl : lv_has ls 1 [(0, .ref (G.1 0))] := hl
  unfold wp_X9_fault at h
  refine lv_aload_n hx hb dX9_fault_0 rfl (lv_at hl 0 rfl) ?_
  refine gC_7 E hP kfX9_75 (v := (gI u 7)) rfl dX9_fault_1 ?_
  exact retC_i E hr hlk hP hD hS h dX9_fault_4
def wp_X9_place (N : Nat → Nat)  (u : St) (Q : Int32 → St → Prop) : Prop := (((gI u 103) = (-1 : Int32) → Q (gI u 102) u) ∧ (¬ (gI u 103) = (-1 : Int32) → Q (gI u 103) u))
abbrev rm_X9_place : Room := { frames := 0, cells := 0, slots := 0, locals := 0 }
set_option maxHeartbeats 4000000 in
set_option maxRecDepth 100000 in
theorem t_X9_place (l : Launch) (D : va_G) (G : Gd)  (u : St) (Q : Int32 → St → Prop) (h : wp_X9_place G.2.1  u Q) : MCi l D G yX9_place cX9_place 1 (some .int) rm_X9_place [.ref (G.1 0)] u Q := by
  refine startC_i (by decide) ?_
  intro p e s m args below meth c E hr hlk hml hP hD hS hA
  have hx := E.1
  have hb := E.2.1
  have hown := E.2.2.1
  have hW := E.2.2.2.1
  have hl := lv_entry ([.ref (G.1 0)]) (n := 1) (Nat.le_of_ble_eq_true rfl)
  rw [lg_entry_eq]
  generalize (lg_sl ([.ref (G.1 0)]) ++ List.replicate (1 - (lg_sl ([.ref (G.1 0)])).length) Slot.unset).toArray = ls at hl ⊢
  have hl : lv_has ls 1 [(0, .ref (G.1 0))] := hl
  unfold wp_X9_place at h
  refine lv_aload_n hx hb dX9_place_0 rfl (lv_at hl 0 rfl) ?_
  refine gC_0 E hP kfX9_21 dX9_place_1 ?_
  refine gC_103 E hP kfX9_89 (v := (gI u 103)) rfl dX9_place_4 ?_
  refine lv_iconst (v := (-1 : Int32)) hx hb dX9_place_7 (by decide) ?_
  refine lv_icmp_ne (tgt := 21) hx hb dX9_place_8 (by decide) (fun hc => ?_) (fun hc => ?_)
  · have h := h.2 hc
    refine lv_aload_n hx hb dX9_place_21 rfl (lv_at hl 0 rfl) ?_
    refine gC_0 E hP kfX9_21 dX9_place_22 ?_
    refine gC_103 E hP kfX9_89 (v := (gI u 103)) rfl dX9_place_25 ?_
    exact retC_i E hr hlk hP hD hS h dX9_place_28
  · have h := h.1 hc
    refine lv_aload_n hx hb dX9_place_11 rfl (lv_at hl 0 rfl) ?_
    refine gC_0 E hP kfX9_21 dX9_place_12 ?_
    refine gC_102 E hP kfX9_86 (v := (gI u 102)) rfl dX9_place_15 ?_
    refine lv_goto (tgt := 28) hx hb dX9_place_18 (by decide) ?_
    exact retC_i E hr hlk hP hD hS h dX9_place_28
def wp_X9_size (N : Nat → Nat)  (u : St) (Q : Int32 → St → Prop) : Prop := Q (gI u 706) u
abbrev rm_X9_size : Room := { frames := 0, cells := 0, slots := 0, locals := 0 }
set_option maxHeartbeats 4000000 in
set_option maxRecDepth 100000 in
theorem t_X9_size (l : Launch) (D : va_G) (G : Gd)  (u : St) (Q : Int32 → St → Prop) (h : wp_X9_size G.2.1  u Q) : MCi l D G yX9_size cX9_size 1 (some .int) rm_X9_size [.ref (G.1 0)] u Q := by
  refine startC_i (by decide) ?_
  intro p e s m args below meth c E hr hlk hml hP hD hS hA
  have hx := E.1
  have hb := E.2.1
  have hown := E.2.2.1
  have hW := E.2.2.2.1
  have hl := lv_entry ([.ref (G.1 0)]) (n := 1) (Nat.le_of_ble_eq_true rfl)
  rw [lg_entry_eq]
  generalize (lg_sl ([.ref (G.1 0)]) ++ List.replicate (1 - (lg_sl ([.ref (G.1 0)])).length) Slot.unset).toArray = ls at hl ⊢
  have hl : lv_has ls 1 [(0, .ref (G.1 0))] := hl
  unfold wp_X9_size at h
  refine lv_aload_n hx hb dX9_size_0 rfl (lv_at hl 0 rfl) ?_
  refine gC_6 E hP kfX9_71 dX9_size_1 ?_
  refine gC_706 E hP kfX9_92 (v := (gI u 706)) rfl dX9_size_4 ?_
  exact retC_i E hr hlk hP hD hS h dX9_size_7
def wp_X9_out (N : Nat → Nat) (p0 : Int32) (u : St) (Q : Int32 → St → Prop) : Prop := ((p0 < 0 → Q (-1 : Int32) u) ∧ (¬ p0 < 0 → ((p0 < (gI u 706) → vp_in p0 400 ∧ Q ((gA u 702) (p0).toNatClampNeg) u) ∧ (¬ p0 < (gI u 706) → Q (-1 : Int32) u))))
abbrev rm_X9_out : Room := { frames := 0, cells := 0, slots := 0, locals := 0 }
set_option maxHeartbeats 4000000 in
set_option maxRecDepth 100000 in
theorem t_X9_out (l : Launch) (D : va_G) (G : Gd) (p0 : Int32) (u : St) (Q : Int32 → St → Prop) (h : wp_X9_out G.2.1 p0 u Q) : MCi l D G yX9_out cX9_out 2 (some .int) rm_X9_out [.ref (G.1 0), .int p0] u Q := by
  refine startC_i (by decide) ?_
  intro p e s m args below meth c E hr hlk hml hP hD hS hA
  have hx := E.1
  have hb := E.2.1
  have hown := E.2.2.1
  have hW := E.2.2.2.1
  have hl := lv_entry ([.ref (G.1 0), .int p0]) (n := 2) (Nat.le_of_ble_eq_true rfl)
  rw [lg_entry_eq]
  generalize (lg_sl ([.ref (G.1 0), .int p0]) ++ List.replicate (2 - (lg_sl ([.ref (G.1 0), .int p0])).length) Slot.unset).toArray = ls at hl ⊢
  have hl : lv_has ls 2 [(0, .ref (G.1 0)), (1, .int p0)] := hl
  unfold wp_X9_out at h
  refine lv_iload_n hx hb dX9_out_0 rfl (lv_at hl 1 rfl) ?_
  refine lv_if_lt (tgt := 15) hx hb dX9_out_1 (by decide) (fun hc => ?_) (fun hc => ?_)
  · have h := h.1 hc
    refine lv_iconst (v := (-1 : Int32)) hx hb dX9_out_15 (by decide) ?_
    refine lv_goto (tgt := 28) hx hb dX9_out_16 (by decide) ?_
    exact retC_i E hr hlk hP hD hS h dX9_out_28
  · have h := h.2 hc
    refine lv_iload_n hx hb dX9_out_4 rfl (lv_at hl 1 rfl) ?_
    refine lv_aload_n hx hb dX9_out_5 rfl (lv_at hl 0 rfl) ?_
    refine gC_6 E hP kfX9_71 dX9_out_6 ?_
    refine gC_706 E hP kfX9_92 (v := (gI u 706)) rfl dX9_out_9 ?_
    refine lv_icmp_lt (tgt := 19) hx hb dX9_out_12 (by decide) (fun hc => ?_) (fun hc => ?_)
    · have h := h.1 hc
      refine lv_aload_n hx hb dX9_out_19 rfl (lv_at hl 0 rfl) ?_
      refine gC_6 E hP kfX9_71 dX9_out_20 ?_
      refine gC_702 E hP kfX9_137 dX9_out_23 ?_
      refine lv_iload_n hx hb dX9_out_26 rfl (lv_at hl 1 rfl) ?_
      obtain ⟨h9, h⟩ := h
      refine xC_702 E hP h9 (v := ((gA u 702) (p0).toNatClampNeg)) rfl dX9_out_27 ?_
      exact retC_i E hr hlk hP hD hS h dX9_out_28
    · have h := h.2 hc
      refine lv_iconst (v := (-1 : Int32)) hx hb dX9_out_15 (by decide) ?_
      refine lv_goto (tgt := 28) hx hb dX9_out_16 (by decide) ?_
      exact retC_i E hr hlk hP hD hS h dX9_out_28
def wp_X0_beginMarking (N : Nat → Nat)  (u : St) (Q : St → Prop) : Prop := Q (sI (sI u 806 ((gI u 806) + (1 : Int32))) 807 (0 : Int32))
abbrev rm_X0_beginMarking : Room := { frames := 0, cells := 0, slots := 0, locals := 0 }
set_option maxHeartbeats 4000000 in
set_option maxRecDepth 100000 in
theorem t_X0_beginMarking (l : Launch) (D : va_G) (G : Gd)  (u : St) (Q : St → Prop) (h : wp_X0_beginMarking G.2.1  u Q) : MCv l D G yX0_beginMarking cX0_beginMarking 1 none rm_X0_beginMarking [.ref (G.1 8)] u Q := by
  refine startC_v (by decide) ?_
  intro p e s m args below meth c E hr hlk hml hP hD hS hA
  have hx := E.1
  have hb := E.2.1
  have hown := E.2.2.1
  have hW := E.2.2.2.1
  have hl := lv_entry ([.ref (G.1 8)]) (n := 1) (Nat.le_of_ble_eq_true rfl)
  rw [lg_entry_eq]
  generalize (lg_sl ([.ref (G.1 8)]) ++ List.replicate (1 - (lg_sl ([.ref (G.1 8)])).length) Slot.unset).toArray = ls at hl ⊢
  have hl : lv_has ls 1 [(0, .ref (G.1 8))] := hl
  unfold wp_X0_beginMarking at h
  refine lv_aload_n hx hb dX0_beginMarking_0 rfl (lv_at hl 0 rfl) ?_
  refine lv_dup hx hb dX0_beginMarking_1 rfl ?_
  refine gC_806 E hP kfX0_9 (v := (gI u 806)) rfl dX0_beginMarking_2 ?_
  refine lv_iconst (v := (1 : Int32)) hx hb dX0_beginMarking_5 (by decide) ?_
  refine lv_iadd hx hb dX0_beginMarking_6 ?_
  refine pC_806 E hP hD hS kfX0_9 dX0_beginMarking_7 (fun H locs hP hD hS => ?_)
  refine lv_aload_n hx hb dX0_beginMarking_10 rfl (lv_at hl 0 rfl) ?_
  refine lv_iconst (v := (0 : Int32)) hx hb dX0_beginMarking_11 (by decide) ?_
  refine pC_807 E hP hD hS kfX0_15 dX0_beginMarking_12 (fun H locs hP hD hS => ?_)
  exact retC_v E hr hlk hP hD hS h dX0_beginMarking_15
def l_X0_mark_11_28 (N : Nat → Nat) (c2 : Int32) (c3 : Int32) (K : St → Prop) : Nat → Int32 → Int32 → St → Prop
  | 0, _, _, _ => False
  | n + 1, x4, x5, u => ((((2 : Int32) * (Int32.ofNat (N 800))) < x5 → K u) ∧ (¬ ((2 : Int32) * (Int32.ofNat (N 800))) < x5 → ((x4 ≤ 0 → K u) ∧ (¬ x4 ≤ 0 → vp_in (x4 + (-1 : Int32)) (N 803) ∧ ((((gB u 803) ((x4 + (-1 : Int32))).toNatClampNeg) < (2199023255552 : Int64) → l_X0_mark_11_28 N  c2 c3 K n (x4 + (-1 : Int32)) (x5 + (1 : Int32)) u) ∧ (¬ ((gB u 803) ((x4 + (-1 : Int32))).toNatClampNeg) < (2199023255552 : Int64) → ((((2199023255552 : Int64) + ((Int32.ofNat (N 800))).toInt64) ≤ ((gB u 803) ((x4 + (-1 : Int32))).toNatClampNeg) → l_X0_mark_11_28 N  c2 c3 K n (x4 + (-1 : Int32)) (x5 + (1 : Int32)) u) ∧ (¬ ((2199023255552 : Int64) + ((Int32.ofNat (N 800))).toInt64) ≤ ((gB u 803) ((x4 + (-1 : Int32))).toNatClampNeg) → vp_in (((((gB u 803) ((x4 + (-1 : Int32))).toNatClampNeg) - (2199023255552 : Int64))).toInt32) (N 802) ∧ ((((gA u 802) (((((gB u 803) ((x4 + (-1 : Int32))).toNatClampNeg) - (2199023255552 : Int64))).toInt32).toNatClampNeg) = (gI u 806) → l_X0_mark_11_28 N  c2 c3 K n (x4 + (-1 : Int32)) (x5 + (1 : Int32)) u) ∧ (¬ ((gA u 802) (((((gB u 803) ((x4 + (-1 : Int32))).toNatClampNeg) - (2199023255552 : Int64))).toInt32).toNatClampNeg) = (gI u 806) → (((Int32.ofNat (N 803)) ≤ ((x4 + (-1 : Int32)) + (1 : Int32)) → l_X0_mark_11_28 N  c2 c3 K n (x4 + (-1 : Int32)) (x5 + (1 : Int32)) u) ∧ (¬ (Int32.ofNat (N 803)) ≤ ((x4 + (-1 : Int32)) + (1 : Int32)) → vp_in (((((gB u 803) ((x4 + (-1 : Int32))).toNatClampNeg) - (2199023255552 : Int64))).toInt32) (N 802) ∧ vp_in (((((gB u 803) ((x4 + (-1 : Int32))).toNatClampNeg) - (2199023255552 : Int64))).toInt32) (N 801) ∧ vp_in (x4 + (-1 : Int32)) (N 803) ∧ vp_in (((((gB u 803) ((x4 + (-1 : Int32))).toNatClampNeg) - (2199023255552 : Int64))).toInt32) (N 800) ∧ vp_in ((x4 + (-1 : Int32)) + (1 : Int32)) (N 803) ∧ l_X0_mark_11_28 N  c2 c3 K n ((x4 + (-1 : Int32)) + (2 : Int32)) (x5 + (1 : Int32)) (sB (sB (sI (sA u 802 (upd (gA u 802) (((((gB u 803) ((x4 + (-1 : Int32))).toNatClampNeg) - (2199023255552 : Int64))).toInt32).toNatClampNeg (gI u 806))) 807 ((gI u 807) + (1 : Int32))) 803 (vp_updL (gB u 803) ((x4 + (-1 : Int32))).toNatClampNeg ((gB u 801) (((((gB u 803) ((x4 + (-1 : Int32))).toNatClampNeg) - (2199023255552 : Int64))).toInt32).toNatClampNeg))) 803 (vp_updL (vp_updL (gB u 803) ((x4 + (-1 : Int32))).toNatClampNeg ((gB u 801) (((((gB u 803) ((x4 + (-1 : Int32))).toNatClampNeg) - (2199023255552 : Int64))).toInt32).toNatClampNeg)) (((x4 + (-1 : Int32)) + (1 : Int32))).toNatClampNeg ((gB u 800) (((((gB u 803) ((x4 + (-1 : Int32))).toNatClampNeg) - (2199023255552 : Int64))).toInt32).toNatClampNeg)))))))))))))))
def l_X0_mark_11_2 (N : Nat → Nat) (c2 : Int32) (K : St → Prop) : Nat → Int32 → St → Prop
  | 0, _, _ => False
  | n + 1, x3, u => ((c2 ≤ x3 → K u) ∧ (¬ c2 ≤ x3 → (((Int32.ofNat 150) ≤ x3 → K u) ∧ (¬ (Int32.ofNat 150) ≤ x3 → vp_in x3 150 ∧ vp_in (0 : Int32) (N 803) ∧ (∃ k2 : Nat, l_X0_mark_11_28 N  c2 x3 (fun (u1 : St) => l_X0_mark_11_2 N  c2 K n (x3 + (1 : Int32)) u1) k2 (1 : Int32) (0 : Int32) (sB u 803 (vp_updL (gB u 803) ((0 : Int32)).toNatClampNeg ((gB u 201) (x3).toNatClampNeg))))))))
def wp_X0_mark_11 (N : Nat → Nat) (p1 : Int32) (u : St) (Q : St → Prop) : Prop := (∃ k4 : Nat, l_X0_mark_11_2 N  p1 (fun (u3 : St) => Q u3) k4 (0 : Int32) u)
abbrev rm_X0_mark_11 : Room := { frames := 0, cells := 0, slots := 0, locals := 0 }
set_option maxHeartbeats 4000000 in
set_option maxRecDepth 100000 in
theorem t_X0_mark_11 (l : Launch) (D : va_G) (G : Gd) (p1 : Int32) (u : St) (Q : St → Prop) (h : wp_X0_mark_11 G.2.1 p1 u Q) : MCv l D G yX0_mark cX0_mark 10 none rm_X0_mark_11 [.ref (G.1 8), .ref (G.1 11), .int p1] u Q := by
  refine startC_v (by decide) ?_
  intro p e s m args below meth c E hr hlk hml hP hD hS hA
  have hx := E.1
  have hb := E.2.1
  have hown := E.2.2.1
  have hW := E.2.2.2.1
  have hl := lv_entry ([.ref (G.1 8), .ref (G.1 11), .int p1]) (n := 10) (Nat.le_of_ble_eq_true rfl)
  rw [lg_entry_eq]
  generalize (lg_sl ([.ref (G.1 8), .ref (G.1 11), .int p1]) ++ List.replicate (10 - (lg_sl ([.ref (G.1 8), .ref (G.1 11), .int p1])).length) Slot.unset).toArray = ls at hl ⊢
  have hl : lv_has ls 10 [(0, .ref (G.1 8)), (1, .ref (G.1 11)), (2, .int p1)] := hl
  have L_28 : ∀ (c2 : Int32) (c3 : Int32) (K : St → Prop), (∀  (u : St) (H : Heap) (locs : List Loc) (ls : Array Slot), K  u → va_P D vwCl (wC G u) H → va_D (AC G s.heap.size) (wC G u) → va_S (AC G s.heap.size) s.heap H locs → lv_has ls 10 [(0, .ref (G.1 8)), (1, .ref (G.1 11)), (2, .int c2), (3, .int c3)] → W p l e rm_X0_mark_11 s m args below meth c H locs 0 0 (MQ below (va_Qv Q (BC D G s.heap.size) (AC G s.heap.size)) args s 0 0 (AC G s.heap.size)) (F0 m 198 ls [])) → ∀ (n : Nat) (x4 : Int32) (x5 : Int32) (u : St) (H : Heap) (locs : List Loc) (ls : Array Slot), l_X0_mark_11_28 G.2.1  c2 c3 K n x4 x5 u → va_P D vwCl (wC G u) H → va_D (AC G s.heap.size) (wC G u) → va_S (AC G s.heap.size) s.heap H locs → lv_has ls 10 [(0, .ref (G.1 8)), (1, .ref (G.1 11)), (2, .int c2), (3, .int c3), (4, .int x4), (5, .int x5)] → W p l e rm_X0_mark_11 s m args below meth c H locs 0 0 (MQ below (va_Qv Q (BC D G s.heap.size) (AC G s.heap.size)) args s 0 0 (AC G s.heap.size)) (F0 m 28 ls []) := by
    intro c2 c3 K hK n
    induction n with
    | zero => intro x4 x5 u H locs ls h; exact False.elim h
    | succ n ih =>
      intro x4 x5 u H locs ls h hP hD hS hl
      unfold l_X0_mark_11_28 at h
      refine lv_iload hx hb dX0_mark_28 (lv_at hl 5 rfl) ?_
      refine lv_iconst (v := (2 : Int32)) hx hb dX0_mark_30 (by decide) ?_
      refine lv_aload_n hx hb dX0_mark_31 rfl (lv_at hl 0 rfl) ?_
      refine gC_800 E hP kfX0_18 dX0_mark_32 ?_
      refine zC_800 E hP dX0_mark_35 ?_
      refine lv_imul hx hb dX0_mark_36 ?_
      refine lv_icmp_gt (tgt := 198) hx hb dX0_mark_37 (by decide) (fun hc => ?_) (fun hc => ?_)
      · have h := h.1 hc
        exact hK u _ _ _ h hP hD hS (lv_sub hl [0, 1, 2, 3] rfl)
      · have h := h.2 hc
        refine lv_iload hx hb dX0_mark_40 (lv_at hl 4 rfl) ?_
        refine lv_if_le (tgt := 198) hx hb dX0_mark_42 (by decide) (fun hc => ?_) (fun hc => ?_)
        · have h := h.1 hc
          exact hK u _ _ _ h hP hD hS (lv_sub hl [0, 1, 2, 3] rfl)
        · have h := h.2 hc
          refine lv_iinc (v := (x4 + (-1 : Int32))) (lv' := [(4, .int (x4 + (-1 : Int32))), (0, .ref (G.1 8)), (1, .ref (G.1 11)), (2, .int c2), (3, .int c3), (5, .int x5)]) hx hb dX0_mark_45 hl (k := 4) rfl rfl (by decide) rfl (fun ls hl => ?_)
          refine lv_aload_n hx hb dX0_mark_48 rfl (lv_at hl 1 rfl) ?_
          refine gC_803 E hP kfX0_29 dX0_mark_49 ?_
          refine lv_iload hx hb dX0_mark_52 (lv_at hl 0 rfl) ?_
          obtain ⟨h9, h⟩ := h
          refine xC_803 E hP h9 (v := ((gB u 803) ((x4 + (-1 : Int32))).toNatClampNeg)) rfl dX0_mark_54 ?_
          refine lv_lstore (lv' := [(6, .long ((gB u 803) ((x4 + (-1 : Int32))).toNatClampNeg)), (4, .int (x4 + (-1 : Int32))), (0, .ref (G.1 8)), (1, .ref (G.1 11)), (2, .int c2), (3, .int c3), (5, .int x5)]) hx hb dX0_mark_55 hl (by decide) rfl (fun ls hl => ?_)
          refine lv_lload hx hb dX0_mark_57 (lv_at hl 0 rfl) ?_
          refine lv_ldc2 (v := (2199023255552 : Int64)) hx hb hown (hW _ kcX0_38) dX0_mark_59 ?_
          refine lq_lt (tgt := 86) hx hb dX0_mark_62 dX0_mark_63 (by decide) (fun hc => ?_) (fun hc => ?_)
          · have h := h.1 hc
            refine lv_iconst (v := (0 : Int32)) hx hb dX0_mark_86 (by decide) ?_
            refine lv_istore (lv' := [(8, .int (0 : Int32)), (6, .long ((gB u 803) ((x4 + (-1 : Int32))).toNatClampNeg)), (4, .int (x4 + (-1 : Int32))), (0, .ref (G.1 8)), (1, .ref (G.1 11)), (2, .int c2), (3, .int c3), (5, .int x5)]) hx hb dX0_mark_87 hl (by decide) rfl (fun ls hl => ?_)
            refine lv_iload hx hb dX0_mark_89 (lv_at hl 0 rfl) ?_
            refine lv_if_eq (tgt := 104) hx hb dX0_mark_91 (by decide) (fun _ => ?_) (fun hc => absurd (by decide) hc)
            refine lv_iconst (v := (0 : Int32)) hx hb dX0_mark_104 (by decide) ?_
            refine lv_istore (lv' := [(9, .int (0 : Int32)), (8, .int (0 : Int32)), (6, .long ((gB u 803) ((x4 + (-1 : Int32))).toNatClampNeg)), (4, .int (x4 + (-1 : Int32))), (0, .ref (G.1 8)), (1, .ref (G.1 11)), (2, .int c2), (3, .int c3), (5, .int x5)]) hx hb dX0_mark_105 hl (by decide) rfl (fun ls hl => ?_)
            refine lv_iload hx hb dX0_mark_107 (lv_at hl 1 rfl) ?_
            refine lv_if_eq (tgt := 192) hx hb dX0_mark_109 (by decide) (fun _ => ?_) (fun hc => absurd (by decide) hc)
            refine lv_iinc (v := (x5 + (1 : Int32))) (lv' := [(5, .int (x5 + (1 : Int32))), (9, .int (0 : Int32)), (8, .int (0 : Int32)), (6, .long ((gB u 803) ((x4 + (-1 : Int32))).toNatClampNeg)), (4, .int (x4 + (-1 : Int32))), (0, .ref (G.1 8)), (1, .ref (G.1 11)), (2, .int c2), (3, .int c3)]) hx hb dX0_mark_192 hl (k := 8) rfl rfl (by decide) rfl (fun ls hl => ?_)
            refine lv_goto (tgt := 28) hx hb dX0_mark_195 (by decide) ?_
            exact ih (x4 + (-1 : Int32)) (x5 + (1 : Int32)) u _ _ _ h hP hD hS (lv_sub hl [5, 6, 7, 8, 4, 0] rfl)
          · have h := h.2 hc
            refine lv_lload hx hb dX0_mark_66 (lv_at hl 0 rfl) ?_
            refine lv_ldc2 (v := (2199023255552 : Int64)) hx hb hown (hW _ kcX0_38) dX0_mark_68 ?_
            refine lv_aload_n hx hb dX0_mark_71 rfl (lv_at hl 2 rfl) ?_
            refine gC_800 E hP kfX0_18 dX0_mark_72 ?_
            refine zC_800 E hP dX0_mark_75 ?_
            refine lv_i2l (v := ((Int32.ofNat (G.2.1 800))).toInt64) hx hb dX0_mark_76 rfl ?_
            refine lv_ladd hx hb dX0_mark_77 ?_
            refine lq_ge (tgt := 86) hx hb dX0_mark_78 dX0_mark_79 (by decide) (fun hc => ?_) (fun hc => ?_)
            · have h := h.1 hc
              refine lv_iconst (v := (0 : Int32)) hx hb dX0_mark_86 (by decide) ?_
              refine lv_istore (lv' := [(8, .int (0 : Int32)), (6, .long ((gB u 803) ((x4 + (-1 : Int32))).toNatClampNeg)), (4, .int (x4 + (-1 : Int32))), (0, .ref (G.1 8)), (1, .ref (G.1 11)), (2, .int c2), (3, .int c3), (5, .int x5)]) hx hb dX0_mark_87 hl (by decide) rfl (fun ls hl => ?_)
              refine lv_iload hx hb dX0_mark_89 (lv_at hl 0 rfl) ?_
              refine lv_if_eq (tgt := 104) hx hb dX0_mark_91 (by decide) (fun _ => ?_) (fun hc => absurd (by decide) hc)
              refine lv_iconst (v := (0 : Int32)) hx hb dX0_mark_104 (by decide) ?_
              refine lv_istore (lv' := [(9, .int (0 : Int32)), (8, .int (0 : Int32)), (6, .long ((gB u 803) ((x4 + (-1 : Int32))).toNatClampNeg)), (4, .int (x4 + (-1 : Int32))), (0, .ref (G.1 8)), (1, .ref (G.1 11)), (2, .int c2), (3, .int c3), (5, .int x5)]) hx hb dX0_mark_105 hl (by decide) rfl (fun ls hl => ?_)
              refine lv_iload hx hb dX0_mark_107 (lv_at hl 1 rfl) ?_
              refine lv_if_eq (tgt := 192) hx hb dX0_mark_109 (by decide) (fun _ => ?_) (fun hc => absurd (by decide) hc)
              refine lv_iinc (v := (x5 + (1 : Int32))) (lv' := [(5, .int (x5 + (1 : Int32))), (9, .int (0 : Int32)), (8, .int (0 : Int32)), (6, .long ((gB u 803) ((x4 + (-1 : Int32))).toNatClampNeg)), (4, .int (x4 + (-1 : Int32))), (0, .ref (G.1 8)), (1, .ref (G.1 11)), (2, .int c2), (3, .int c3)]) hx hb dX0_mark_192 hl (k := 8) rfl rfl (by decide) rfl (fun ls hl => ?_)
              refine lv_goto (tgt := 28) hx hb dX0_mark_195 (by decide) ?_
              exact ih (x4 + (-1 : Int32)) (x5 + (1 : Int32)) u _ _ _ h hP hD hS (lv_sub hl [5, 6, 7, 8, 4, 0] rfl)
            · have h := h.2 hc
              refine lv_iconst (v := (1 : Int32)) hx hb dX0_mark_82 (by decide) ?_
              refine lv_goto (tgt := 87) hx hb dX0_mark_83 (by decide) ?_
              refine lv_istore (lv' := [(8, .int (1 : Int32)), (6, .long ((gB u 803) ((x4 + (-1 : Int32))).toNatClampNeg)), (4, .int (x4 + (-1 : Int32))), (0, .ref (G.1 8)), (1, .ref (G.1 11)), (2, .int c2), (3, .int c3), (5, .int x5)]) hx hb dX0_mark_87 hl (by decide) rfl (fun ls hl => ?_)
              refine lv_iload hx hb dX0_mark_89 (lv_at hl 0 rfl) ?_
              refine lv_if_eq (tgt := 104) hx hb dX0_mark_91 (by decide) (fun hc => absurd hc (by decide)) (fun _ => ?_)
              refine lv_lload hx hb dX0_mark_94 (lv_at hl 1 rfl) ?_
              refine lv_ldc2 (v := (2199023255552 : Int64)) hx hb hown (hW _ kcX0_38) dX0_mark_96 ?_
              refine lv_lsub hx hb dX0_mark_99 ?_
              refine lv_l2i (v := ((((gB u 803) ((x4 + (-1 : Int32))).toNatClampNeg) - (2199023255552 : Int64))).toInt32) hx hb dX0_mark_100 rfl ?_
              refine lv_goto (tgt := 105) hx hb dX0_mark_101 (by decide) ?_
              refine lv_istore (lv' := [(9, .int ((((gB u 803) ((x4 + (-1 : Int32))).toNatClampNeg) - (2199023255552 : Int64))).toInt32), (8, .int (1 : Int32)), (6, .long ((gB u 803) ((x4 + (-1 : Int32))).toNatClampNeg)), (4, .int (x4 + (-1 : Int32))), (0, .ref (G.1 8)), (1, .ref (G.1 11)), (2, .int c2), (3, .int c3), (5, .int x5)]) hx hb dX0_mark_105 hl (by decide) rfl (fun ls hl => ?_)
              refine lv_iload hx hb dX0_mark_107 (lv_at hl 1 rfl) ?_
              refine lv_if_eq (tgt := 192) hx hb dX0_mark_109 (by decide) (fun hc => absurd hc (by decide)) (fun _ => ?_)
              refine lv_aload_n hx hb dX0_mark_112 rfl (lv_at hl 4 rfl) ?_
              refine gC_802 E hP kfX0_25 dX0_mark_113 ?_
              refine lv_iload hx hb dX0_mark_116 (lv_at hl 0 rfl) ?_
              obtain ⟨h9, h⟩ := h
              refine xC_802 E hP h9 (v := ((gA u 802) (((((gB u 803) ((x4 + (-1 : Int32))).toNatClampNeg) - (2199023255552 : Int64))).toInt32).toNatClampNeg)) rfl dX0_mark_118 ?_
              refine lv_aload_n hx hb dX0_mark_119 rfl (lv_at hl 4 rfl) ?_
              refine gC_806 E hP kfX0_9 (v := (gI u 806)) rfl dX0_mark_120 ?_
              refine lv_icmp_eq (tgt := 192) hx hb dX0_mark_123 (by decide) (fun hc => ?_) (fun hc => ?_)
              · have h := h.1 hc
                refine lv_iinc (v := (x5 + (1 : Int32))) (lv' := [(5, .int (x5 + (1 : Int32))), (9, .int ((((gB u 803) ((x4 + (-1 : Int32))).toNatClampNeg) - (2199023255552 : Int64))).toInt32), (8, .int (1 : Int32)), (6, .long ((gB u 803) ((x4 + (-1 : Int32))).toNatClampNeg)), (4, .int (x4 + (-1 : Int32))), (0, .ref (G.1 8)), (1, .ref (G.1 11)), (2, .int c2), (3, .int c3)]) hx hb dX0_mark_192 hl (k := 8) rfl rfl (by decide) rfl (fun ls hl => ?_)
                refine lv_goto (tgt := 28) hx hb dX0_mark_195 (by decide) ?_
                exact ih (x4 + (-1 : Int32)) (x5 + (1 : Int32)) u _ _ _ h hP hD hS (lv_sub hl [5, 6, 7, 8, 4, 0] rfl)
              · have h := h.2 hc
                refine lv_iload hx hb dX0_mark_126 (lv_at hl 3 rfl) ?_
                refine lv_iconst (v := (1 : Int32)) hx hb dX0_mark_128 (by decide) ?_
                refine lv_iadd hx hb dX0_mark_129 ?_
                refine lv_aload_n hx hb dX0_mark_130 rfl (lv_at hl 4 rfl) ?_
                refine gC_803 E hP kfX0_29 dX0_mark_131 ?_
                refine zC_803 E hP dX0_mark_134 ?_
                refine lv_icmp_ge (tgt := 192) hx hb dX0_mark_135 (by decide) (fun hc => ?_) (fun hc => ?_)
                · have h := h.1 hc
                  refine lv_iinc (v := (x5 + (1 : Int32))) (lv' := [(5, .int (x5 + (1 : Int32))), (9, .int ((((gB u 803) ((x4 + (-1 : Int32))).toNatClampNeg) - (2199023255552 : Int64))).toInt32), (8, .int (1 : Int32)), (6, .long ((gB u 803) ((x4 + (-1 : Int32))).toNatClampNeg)), (4, .int (x4 + (-1 : Int32))), (0, .ref (G.1 8)), (1, .ref (G.1 11)), (2, .int c2), (3, .int c3)]) hx hb dX0_mark_192 hl (k := 8) rfl rfl (by decide) rfl (fun ls hl => ?_)
                  refine lv_goto (tgt := 28) hx hb dX0_mark_195 (by decide) ?_
                  exact ih (x4 + (-1 : Int32)) (x5 + (1 : Int32)) u _ _ _ h hP hD hS (lv_sub hl [5, 6, 7, 8, 4, 0] rfl)
                · have h := h.2 hc
                  refine lv_aload_n hx hb dX0_mark_138 rfl (lv_at hl 4 rfl) ?_
                  refine gC_802 E hP kfX0_25 dX0_mark_139 ?_
                  refine lv_iload hx hb dX0_mark_142 (lv_at hl 0 rfl) ?_
                  refine lv_aload_n hx hb dX0_mark_144 rfl (lv_at hl 4 rfl) ?_
                  refine gC_806 E hP kfX0_9 (v := (gI u 806)) rfl dX0_mark_145 ?_
                  obtain ⟨h9, h⟩ := h
                  refine yC_802 E hP hD hS h9 (f := (gA u 802)) rfl dX0_mark_148 (fun H locs hP hD hS => ?_)
                  refine lv_aload_n hx hb dX0_mark_149 rfl (lv_at hl 4 rfl) ?_
                  refine lv_dup hx hb dX0_mark_150 rfl ?_
                  refine gC_807 E hP kfX0_15 (v := (gI u 807)) rfl dX0_mark_151 ?_
                  refine lv_iconst (v := (1 : Int32)) hx hb dX0_mark_154 (by decide) ?_
                  refine lv_iadd hx hb dX0_mark_155 ?_
                  refine pC_807 E hP hD hS kfX0_15 dX0_mark_156 (fun H locs hP hD hS => ?_)
                  refine lv_aload_n hx hb dX0_mark_159 rfl (lv_at hl 4 rfl) ?_
                  refine gC_803 E hP kfX0_29 dX0_mark_160 ?_
                  refine lv_iload hx hb dX0_mark_163 (lv_at hl 3 rfl) ?_
                  refine lv_aload_n hx hb dX0_mark_165 rfl (lv_at hl 4 rfl) ?_
                  refine gC_801 E hP kfX0_22 dX0_mark_166 ?_
                  refine lv_iload hx hb dX0_mark_169 (lv_at hl 0 rfl) ?_
                  obtain ⟨h9, h⟩ := h
                  refine xC_801 E hP h9 (v := ((gB u 801) (((((gB u 803) ((x4 + (-1 : Int32))).toNatClampNeg) - (2199023255552 : Int64))).toInt32).toNatClampNeg)) rfl dX0_mark_171 ?_
                  obtain ⟨h9, h⟩ := h
                  refine yC_803 E hP hD hS h9 (f := (gB u 803)) rfl dX0_mark_172 (fun H locs hP hD hS => ?_)
                  refine lv_aload_n hx hb dX0_mark_173 rfl (lv_at hl 4 rfl) ?_
                  refine gC_803 E hP kfX0_29 dX0_mark_174 ?_
                  refine lv_iload hx hb dX0_mark_177 (lv_at hl 3 rfl) ?_
                  refine lv_iconst (v := (1 : Int32)) hx hb dX0_mark_179 (by decide) ?_
                  refine lv_iadd hx hb dX0_mark_180 ?_
                  refine lv_aload_n hx hb dX0_mark_181 rfl (lv_at hl 4 rfl) ?_
                  refine gC_800 E hP kfX0_18 dX0_mark_182 ?_
                  refine lv_iload hx hb dX0_mark_185 (lv_at hl 0 rfl) ?_
                  obtain ⟨h9, h⟩ := h
                  refine xC_800 E hP h9 (v := ((gB u 800) (((((gB u 803) ((x4 + (-1 : Int32))).toNatClampNeg) - (2199023255552 : Int64))).toInt32).toNatClampNeg)) rfl dX0_mark_187 ?_
                  obtain ⟨h9, h⟩ := h
                  refine yC_803 E hP hD hS h9 (f := (vp_updL (gB u 803) ((x4 + (-1 : Int32))).toNatClampNeg ((gB u 801) (((((gB u 803) ((x4 + (-1 : Int32))).toNatClampNeg) - (2199023255552 : Int64))).toInt32).toNatClampNeg))) rfl dX0_mark_188 (fun H locs hP hD hS => ?_)
                  refine lv_iinc (v := ((x4 + (-1 : Int32)) + (2 : Int32))) (lv' := [(4, .int ((x4 + (-1 : Int32)) + (2 : Int32))), (9, .int ((((gB u 803) ((x4 + (-1 : Int32))).toNatClampNeg) - (2199023255552 : Int64))).toInt32), (8, .int (1 : Int32)), (6, .long ((gB u 803) ((x4 + (-1 : Int32))).toNatClampNeg)), (0, .ref (G.1 8)), (1, .ref (G.1 11)), (2, .int c2), (3, .int c3), (5, .int x5)]) hx hb dX0_mark_189 hl (k := 3) rfl rfl (by decide) rfl (fun ls hl => ?_)
                  refine lv_iinc (v := (x5 + (1 : Int32))) (lv' := [(5, .int (x5 + (1 : Int32))), (4, .int ((x4 + (-1 : Int32)) + (2 : Int32))), (9, .int ((((gB u 803) ((x4 + (-1 : Int32))).toNatClampNeg) - (2199023255552 : Int64))).toInt32), (8, .int (1 : Int32)), (6, .long ((gB u 803) ((x4 + (-1 : Int32))).toNatClampNeg)), (0, .ref (G.1 8)), (1, .ref (G.1 11)), (2, .int c2), (3, .int c3)]) hx hb dX0_mark_192 hl (k := 8) rfl rfl (by decide) rfl (fun ls hl => ?_)
                  refine lv_goto (tgt := 28) hx hb dX0_mark_195 (by decide) ?_
                  exact ih ((x4 + (-1 : Int32)) + (2 : Int32)) (x5 + (1 : Int32)) (sB (sB (sI (sA u 802 (upd (gA u 802) (((((gB u 803) ((x4 + (-1 : Int32))).toNatClampNeg) - (2199023255552 : Int64))).toInt32).toNatClampNeg (gI u 806))) 807 ((gI u 807) + (1 : Int32))) 803 (vp_updL (gB u 803) ((x4 + (-1 : Int32))).toNatClampNeg ((gB u 801) (((((gB u 803) ((x4 + (-1 : Int32))).toNatClampNeg) - (2199023255552 : Int64))).toInt32).toNatClampNeg))) 803 (vp_updL (vp_updL (gB u 803) ((x4 + (-1 : Int32))).toNatClampNeg ((gB u 801) (((((gB u 803) ((x4 + (-1 : Int32))).toNatClampNeg) - (2199023255552 : Int64))).toInt32).toNatClampNeg)) (((x4 + (-1 : Int32)) + (1 : Int32))).toNatClampNeg ((gB u 800) (((((gB u 803) ((x4 + (-1 : Int32))).toNatClampNeg) - (2199023255552 : Int64))).toInt32).toNatClampNeg))) _ _ _ h hP hD hS (lv_sub hl [5, 6, 7, 8, 1, 0] rfl)
  have L_2 : ∀ (c2 : Int32) (K : St → Prop), (∀  (u : St) (H : Heap) (locs : List Loc) (ls : Array Slot), K  u → va_P D vwCl (wC G u) H → va_D (AC G s.heap.size) (wC G u) → va_S (AC G s.heap.size) s.heap H locs → lv_has ls 10 [] → W p l e rm_X0_mark_11 s m args below meth c H locs 0 0 (MQ below (va_Qv Q (BC D G s.heap.size) (AC G s.heap.size)) args s 0 0 (AC G s.heap.size)) (F0 m 204 ls [])) → ∀ (n : Nat) (x3 : Int32) (u : St) (H : Heap) (locs : List Loc) (ls : Array Slot), l_X0_mark_11_2 G.2.1  c2 K n x3 u → va_P D vwCl (wC G u) H → va_D (AC G s.heap.size) (wC G u) → va_S (AC G s.heap.size) s.heap H locs → lv_has ls 10 [(0, .ref (G.1 8)), (1, .ref (G.1 11)), (2, .int c2), (3, .int x3)] → W p l e rm_X0_mark_11 s m args below meth c H locs 0 0 (MQ below (va_Qv Q (BC D G s.heap.size) (AC G s.heap.size)) args s 0 0 (AC G s.heap.size)) (F0 m 2 ls []) := by
    intro c2 K hK n
    induction n with
    | zero => intro x3 u H locs ls h; exact False.elim h
    | succ n ih =>
      intro x3 u H locs ls h hP hD hS hl
      unfold l_X0_mark_11_2 at h
      refine lv_iload_n hx hb dX0_mark_2 rfl (lv_at hl 3 rfl) ?_
      refine lv_iload_n hx hb dX0_mark_3 rfl (lv_at hl 2 rfl) ?_
      refine lv_icmp_ge (tgt := 204) hx hb dX0_mark_4 (by decide) (fun hc => ?_) (fun hc => ?_)
      · have h := h.1 hc
        exact hK u _ _ _ h hP hD hS (lv_sub hl [] rfl)
      · have h := h.2 hc
        refine lv_iload_n hx hb dX0_mark_7 rfl (lv_at hl 3 rfl) ?_
        refine lv_aload_n hx hb dX0_mark_8 rfl (lv_at hl 1 rfl) ?_
        refine zC_201 E hP dX0_mark_9 ?_
        refine lv_icmp_ge (tgt := 204) hx hb dX0_mark_10 (by decide) (fun hc => ?_) (fun hc => ?_)
        · have h := h.1 hc
          exact hK u _ _ _ h hP hD hS (lv_sub hl [] rfl)
        · have h := h.2 hc
          refine lv_aload_n hx hb dX0_mark_13 rfl (lv_at hl 0 rfl) ?_
          refine gC_803 E hP kfX0_29 dX0_mark_14 ?_
          refine lv_iconst (v := (0 : Int32)) hx hb dX0_mark_17 (by decide) ?_
          refine lv_aload_n hx hb dX0_mark_18 rfl (lv_at hl 1 rfl) ?_
          refine lv_iload_n hx hb dX0_mark_19 rfl (lv_at hl 3 rfl) ?_
          obtain ⟨h9, h⟩ := h
          refine xC_201 E hP h9 (v := ((gB u 201) (x3).toNatClampNeg)) rfl dX0_mark_20 ?_
          obtain ⟨h9, h⟩ := h
          refine yC_803 E hP hD hS h9 (f := (gB u 803)) rfl dX0_mark_21 (fun H locs hP hD hS => ?_)
          refine lv_iconst (v := (1 : Int32)) hx hb dX0_mark_22 (by decide) ?_
          refine lv_istore (lv' := [(4, .int (1 : Int32)), (0, .ref (G.1 8)), (1, .ref (G.1 11)), (2, .int c2), (3, .int x3)]) hx hb dX0_mark_23 hl (by decide) rfl (fun ls hl => ?_)
          refine lv_iconst (v := (0 : Int32)) hx hb dX0_mark_25 (by decide) ?_
          refine lv_istore (lv' := [(5, .int (0 : Int32)), (4, .int (1 : Int32)), (0, .ref (G.1 8)), (1, .ref (G.1 11)), (2, .int c2), (3, .int x3)]) hx hb dX0_mark_26 hl (by decide) rfl (fun ls hl => ?_)
          obtain ⟨n, h⟩ := h
          refine L_28 c2 x3 _ (fun u1 H locs ls h hP hD hS hl => ?_) n (1 : Int32) (0 : Int32) (sB u 803 (vp_updL (gB u 803) ((0 : Int32)).toNatClampNeg ((gB u 201) (x3).toNatClampNeg))) _ _ _ h hP hD hS (lv_sub hl [2, 3, 4, 5, 1, 0] rfl)
          refine lv_iinc (v := (x3 + (1 : Int32))) (lv' := [(3, .int (x3 + (1 : Int32))), (0, .ref (G.1 8)), (1, .ref (G.1 11)), (2, .int c2)]) hx hb dX0_mark_198 hl (k := 3) rfl rfl (by decide) rfl (fun ls hl => ?_)
          refine lv_goto (tgt := 2) hx hb dX0_mark_201 (by decide) ?_
          exact ih (x3 + (1 : Int32)) u1 _ _ _ h hP hD hS (lv_sub hl [1, 2, 3, 0] rfl)
  unfold wp_X0_mark_11 at h
  refine lv_iconst (v := (0 : Int32)) hx hb dX0_mark_0 (by decide) ?_
  refine lv_istore_n (lv' := [(3, .int (0 : Int32)), (0, .ref (G.1 8)), (1, .ref (G.1 11)), (2, .int p1)]) hx hb dX0_mark_1 rfl hl (by decide) rfl (fun ls hl => ?_)
  obtain ⟨n, h⟩ := h
  refine L_2 p1 _ (fun u3 H locs ls h hP hD hS hl => ?_) n (0 : Int32) u _ _ _ h hP hD hS (lv_sub hl [1, 2, 3, 0] rfl)
  exact retC_v E hr hlk hP hD hS h dX0_mark_204
def wp_X1_pairsOfGlobals (N : Nat → Nat)  (u : St) (Q : Int32 → St → Prop) : Prop := wp_X0_beginMarking N  u (fun (u1 : St) => wp_X0_mark_11 N (gI u1 202) u1 (fun (u2 : St) => Q (gI u2 807) u2))
abbrev rm_X1_pairsOfGlobals : Room := { frames := 1, cells := 0, slots := 0, locals := 29 }
set_option maxHeartbeats 4000000 in
set_option maxRecDepth 100000 in
theorem t_X1_pairsOfGlobals (l : Launch) (D : va_G) (G : Gd)  (u : St) (Q : Int32 → St → Prop) (h : wp_X1_pairsOfGlobals G.2.1  u Q) : MCi l D G yX1_pairsOfGlobals cX1_pairsOfGlobals 1 (some .int) rm_X1_pairsOfGlobals [.ref (G.1 4)] u Q := by
  refine startC_i (by decide) ?_
  intro p e s m args below meth c E hr hlk hml hP hD hS hA
  have hx := E.1
  have hb := E.2.1
  have hown := E.2.2.1
  have hW := E.2.2.2.1
  have hl := lv_entry ([.ref (G.1 4)]) (n := 1) (Nat.le_of_ble_eq_true rfl)
  rw [lg_entry_eq]
  generalize (lg_sl ([.ref (G.1 4)]) ++ List.replicate (1 - (lg_sl ([.ref (G.1 4)])).length) Slot.unset).toArray = ls at hl ⊢
  have hl : lv_has ls 1 [(0, .ref (G.1 4))] := hl
  unfold wp_X1_pairsOfGlobals at h
  refine lv_aload_n hx hb dX1_pairsOfGlobals_0 rfl (lv_at hl 0 rfl) ?_
  refine gC_400 E hP kfX1_13 dX1_pairsOfGlobals_1 ?_
  refine cC_v (ci := 0) (q0 := 8) (As := []) (rest := []) E hml hP hD hS hA (t_X0_beginMarking l D G  u _ h) kmX1_25 mwyX0_beginMarking rfl rfl ⟨⟨rfl, rfl⟩, Nat.le_of_ble_eq_true rfl, Nat.le_of_ble_eq_true rfl⟩ rfl hl.1 rfl (Nat.le_of_ble_eq_true rfl) dX1_pairsOfGlobals_4 ⟨Nat.zero_le _, Nat.zero_le _⟩ (fun u1 H locs hP hD hS h => ?_)
  refine lv_aload_n hx hb dX1_pairsOfGlobals_7 rfl (lv_at hl 0 rfl) ?_
  refine gC_400 E hP kfX1_13 dX1_pairsOfGlobals_8 ?_
  refine lv_aload_n hx hb dX1_pairsOfGlobals_11 rfl (lv_at hl 0 rfl) ?_
  refine gC_401 E hP kfX1_17 dX1_pairsOfGlobals_12 ?_
  refine gC_201 E hP kfX1_30 dX1_pairsOfGlobals_15 ?_
  refine lv_aload_n hx hb dX1_pairsOfGlobals_18 rfl (lv_at hl 0 rfl) ?_
  refine gC_401 E hP kfX1_17 dX1_pairsOfGlobals_19 ?_
  refine gC_202 E hP kfX1_35 (v := (gI u1 202)) rfl dX1_pairsOfGlobals_22 ?_
  refine cC_v (ci := 0) (q0 := 8) (As := [.ref (G.1 11), .int (gI u1 202)]) (rest := []) E hml hP hD hS hA (t_X0_mark_11 l D G (gI u1 202) u1 _ h) kmX1_39 mwyX0_mark rfl rfl ⟨⟨rfl, rfl⟩, Nat.le_of_ble_eq_true rfl, Nat.le_of_ble_eq_true rfl⟩ rfl hl.1 rfl (Nat.le_of_ble_eq_true rfl) dX1_pairsOfGlobals_25 ⟨Nat.zero_le _, Nat.zero_le _⟩ (fun u2 H locs hP hD hS h => ?_)
  refine lv_aload_n hx hb dX1_pairsOfGlobals_28 rfl (lv_at hl 0 rfl) ?_
  refine gC_400 E hP kfX1_13 dX1_pairsOfGlobals_29 ?_
  refine gC_807 E hP kfX1_43 (v := (gI u2 807)) rfl dX1_pairsOfGlobals_32 ?_
  exact retC_i E hr hlk hP hD hS h dX1_pairsOfGlobals_35
def wp_X9_count (N : Nat → Nat) (p0 : Int32) (u : St) (Q : Int32 → St → Prop) : Prop := ((p0 = (0 : Int32) → Q (gI u 607) u) ∧ (¬ p0 = (0 : Int32) → ((p0 = (1 : Int32) → wp_X1_pairsOfGlobals N  u (fun (r1 : Int32) (u2 : St) => Q r1 u2)) ∧ (¬ p0 = (1 : Int32) → ((p0 = (2 : Int32) → Q (gI u 202) u) ∧ (¬ p0 = (2 : Int32) → ((p0 = (3 : Int32) → Q (gI u 304) u) ∧ (¬ p0 = (3 : Int32) → Q (-1 : Int32) u))))))))
abbrev rm_X9_count : Room := { frames := 2, cells := 0, slots := 0, locals := 49 }
set_option maxHeartbeats 4000000 in
set_option maxRecDepth 100000 in
theorem t_X9_count (l : Launch) (D : va_G) (G : Gd) (p0 : Int32) (u : St) (Q : Int32 → St → Prop) (h : wp_X9_count G.2.1 p0 u Q) : MCi l D G yX9_count cX9_count 2 (some .int) rm_X9_count [.ref (G.1 0), .int p0] u Q := by
  refine startC_i (by decide) ?_
  intro p e s m args below meth c E hr hlk hml hP hD hS hA
  have hx := E.1
  have hb := E.2.1
  have hown := E.2.2.1
  have hW := E.2.2.2.1
  have hl := lv_entry ([.ref (G.1 0), .int p0]) (n := 2) (Nat.le_of_ble_eq_true rfl)
  rw [lg_entry_eq]
  generalize (lg_sl ([.ref (G.1 0), .int p0]) ++ List.replicate (2 - (lg_sl ([.ref (G.1 0), .int p0])).length) Slot.unset).toArray = ls at hl ⊢
  have hl : lv_has ls 2 [(0, .ref (G.1 0)), (1, .int p0)] := hl
  unfold wp_X9_count at h
  refine lv_iload_n hx hb dX9_count_0 rfl (lv_at hl 1 rfl) ?_
  rcases Decidable.em (p0 = (0 : Int32)) with hc0 | hc0
  · have h := h.1 hc0
    refine lv_tableIn (off := (31 : Int)) (tgt := 32) hx hb dX9_count_1 (by rw [hc0]; decide) (by rw [hc0]; decide) (by rw [hc0]; decide) (by decide) ?_
    refine lv_aload_n hx hb dX9_count_32 rfl (lv_at hl 0 rfl) ?_
    refine gC_5 E hP kfX9_62 dX9_count_33 ?_
    refine gC_607 E hP kfX9_93 (v := (gI u 607)) rfl dX9_count_36 ?_
    exact retC_i E hr hlk hP hD hS h dX9_count_39
  · have h := h.2 hc0
    rcases Decidable.em (p0 = (1 : Int32)) with hc1 | hc1
    · have h := h.1 hc1
      refine lv_tableIn (off := (39 : Int)) (tgt := 40) hx hb dX9_count_1 (by rw [hc1]; decide) (by rw [hc1]; decide) (by rw [hc1]; decide) (by decide) ?_
      refine lv_aload_n hx hb dX9_count_40 rfl (lv_at hl 0 rfl) ?_
      refine gC_3 E hP kfX9_44 dX9_count_41 ?_
      refine cC_i (ci := 1) (q0 := 4) (As := []) (rest := []) E hml hP hD hS hA (t_X1_pairsOfGlobals l D G  u _ h) kmX9_141 mwyX1_pairsOfGlobals rfl rfl ⟨⟨rfl, rfl⟩, Nat.le_of_ble_eq_true rfl, Nat.le_of_ble_eq_true rfl⟩ rfl hl.1 rfl (Nat.le_of_ble_eq_true rfl) dX9_count_44 ⟨Nat.zero_le _, Nat.zero_le _⟩ (fun r1 u2 H locs hP hD hS h => ?_)
      exact retC_i E hr hlk hP hD hS h dX9_count_47
    · have h := h.2 hc1
      rcases Decidable.em (p0 = (2 : Int32)) with hc2 | hc2
      · have h := h.1 hc2
        refine lv_tableIn (off := (47 : Int)) (tgt := 48) hx hb dX9_count_1 (by rw [hc2]; decide) (by rw [hc2]; decide) (by rw [hc2]; decide) (by decide) ?_
        refine lv_aload_n hx hb dX9_count_48 rfl (lv_at hl 0 rfl) ?_
        refine gC_1 E hP kfX9_28 dX9_count_49 ?_
        refine gC_202 E hP kfX9_144 (v := (gI u 202)) rfl dX9_count_52 ?_
        exact retC_i E hr hlk hP hD hS h dX9_count_55
      · have h := h.2 hc2
        rcases Decidable.em (p0 = (3 : Int32)) with hc3 | hc3
        · have h := h.1 hc3
          refine lv_tableIn (off := (55 : Int)) (tgt := 56) hx hb dX9_count_1 (by rw [hc3]; decide) (by rw [hc3]; decide) (by rw [hc3]; decide) (by decide) ?_
          refine lv_aload_n hx hb dX9_count_56 rfl (lv_at hl 0 rfl) ?_
          refine gC_2 E hP kfX9_35 dX9_count_57 ?_
          refine gC_304 E hP kfX9_99 (v := (gI u 304)) rfl dX9_count_60 ?_
          exact retC_i E hr hlk hP hD hS h dX9_count_63
        · have h := h.2 hc3
          refine lv_tableOut (tgt := 64) hx hb dX9_count_1 (i32_out (lo := 0) (hi := 3) (fun z h1 h2 => by rcases (show z = 0 ∨ z = 1 ∨ z = 2 ∨ z = 3 by omega) with rfl | rfl | rfl | rfl <;> first | exact i32_ne (by decide) hc0 | exact i32_ne (by decide) hc1 | exact i32_ne (by decide) hc2 | exact i32_ne (by decide) hc3)) (by decide) ?_
          refine lv_iconst (v := (-1 : Int32)) hx hb dX9_count_64 (by decide) ?_
          exact retC_i E hr hlk hP hD hS h dX9_count_65
def wp_X6_at (N : Nat → Nat) (p0 : Int32) (u : St) (Q : Int32 → St → Prop) : Prop := ((p0 < 0 → Q (-1 : Int32) u) ∧ (¬ p0 < 0 → ((p0 < (gI u 101) → vp_in p0 2000 ∧ Q ((gA u 100) (p0).toNatClampNeg) u) ∧ (¬ p0 < (gI u 101) → Q (-1 : Int32) u))))
abbrev rm_X6_at : Room := { frames := 0, cells := 0, slots := 0, locals := 0 }
set_option maxHeartbeats 4000000 in
set_option maxRecDepth 100000 in
theorem t_X6_at (l : Launch) (D : va_G) (G : Gd) (p0 : Int32) (u : St) (Q : Int32 → St → Prop) (h : wp_X6_at G.2.1 p0 u Q) : MCi l D G yX6_at cX6_at 2 (some .int) rm_X6_at [.ref (G.1 1), .int p0] u Q := by
  refine startC_i (by decide) ?_
  intro p e s m args below meth c E hr hlk hml hP hD hS hA
  have hx := E.1
  have hb := E.2.1
  have hown := E.2.2.1
  have hW := E.2.2.2.1
  have hl := lv_entry ([.ref (G.1 1), .int p0]) (n := 2) (Nat.le_of_ble_eq_true rfl)
  rw [lg_entry_eq]
  generalize (lg_sl ([.ref (G.1 1), .int p0]) ++ List.replicate (2 - (lg_sl ([.ref (G.1 1), .int p0])).length) Slot.unset).toArray = ls at hl ⊢
  have hl : lv_has ls 2 [(0, .ref (G.1 1)), (1, .int p0)] := hl
  unfold wp_X6_at at h
  refine lv_iload_n hx hb dX6_at_0 rfl (lv_at hl 1 rfl) ?_
  refine lv_if_lt (tgt := 12) hx hb dX6_at_1 (by decide) (fun hc => ?_) (fun hc => ?_)
  · have h := h.1 hc
    refine lv_iconst (v := (-1 : Int32)) hx hb dX6_at_12 (by decide) ?_
    refine lv_goto (tgt := 22) hx hb dX6_at_13 (by decide) ?_
    exact retC_i E hr hlk hP hD hS h dX6_at_22
  · have h := h.2 hc
    refine lv_iload_n hx hb dX6_at_4 rfl (lv_at hl 1 rfl) ?_
    refine lv_aload_n hx hb dX6_at_5 rfl (lv_at hl 0 rfl) ?_
    refine gC_101 E hP kfX6_15 (v := (gI u 101)) rfl dX6_at_6 ?_
    refine lv_icmp_lt (tgt := 16) hx hb dX6_at_9 (by decide) (fun hc => ?_) (fun hc => ?_)
    · have h := h.1 hc
      refine lv_aload_n hx hb dX6_at_16 rfl (lv_at hl 0 rfl) ?_
      refine gC_100 E hP kfX6_9 dX6_at_17 ?_
      refine lv_iload_n hx hb dX6_at_20 rfl (lv_at hl 1 rfl) ?_
      obtain ⟨h9, h⟩ := h
      refine xC_100 E hP h9 (v := ((gA u 100) (p0).toNatClampNeg)) rfl dX6_at_21 ?_
      exact retC_i E hr hlk hP hD hS h dX6_at_22
    · have h := h.2 hc
      refine lv_iconst (v := (-1 : Int32)) hx hb dX6_at_12 (by decide) ?_
      refine lv_goto (tgt := 22) hx hb dX6_at_13 (by decide) ?_
      exact retC_i E hr hlk hP hD hS h dX6_at_22
def l_X6_behindBlanks_2 (N : Nat → Nat)  (K : Int32 → St → Prop) : Nat → Int32 → St → Prop
  | 0, _, _ => False
  | n + 1, x2, u => (((gI u 101) ≤ x2 → K x2 u) ∧ (¬ (gI u 101) ≤ x2 → wp_X6_at N x2 u (fun (r1 : Int32) (u2 : St) => ((r1 = (32 : Int32) → l_X6_behindBlanks_2 N  K n (x2 + (1 : Int32)) u2) ∧ (¬ r1 = (32 : Int32) → wp_X6_at N x2 u2 (fun (r3 : Int32) (u4 : St) => ((r3 = (10 : Int32) → l_X6_behindBlanks_2 N  K n (x2 + (1 : Int32)) u4) ∧ (¬ r3 = (10 : Int32) → K x2 u4))))))))
def wp_X6_behindBlanks (N : Nat → Nat) (p0 : Int32) (u : St) (Q : Int32 → St → Prop) : Prop := (∃ k7 : Nat, l_X6_behindBlanks_2 N   (fun (y5 : Int32) (u6 : St) => Q y5 u6) k7 p0 u)
abbrev rm_X6_behindBlanks : Room := { frames := 1, cells := 0, slots := 0, locals := 21 }
set_option maxHeartbeats 4000000 in
set_option maxRecDepth 100000 in
theorem t_X6_behindBlanks (l : Launch) (D : va_G) (G : Gd) (p0 : Int32) (u : St) (Q : Int32 → St → Prop) (h : wp_X6_behindBlanks G.2.1 p0 u Q) : MCi l D G yX6_behindBlanks cX6_behindBlanks 3 (some .int) rm_X6_behindBlanks [.ref (G.1 1), .int p0] u Q := by
  refine startC_i (by decide) ?_
  intro p e s m args below meth c E hr hlk hml hP hD hS hA
  have hx := E.1
  have hb := E.2.1
  have hown := E.2.2.1
  have hW := E.2.2.2.1
  have hl := lv_entry ([.ref (G.1 1), .int p0]) (n := 3) (Nat.le_of_ble_eq_true rfl)
  rw [lg_entry_eq]
  generalize (lg_sl ([.ref (G.1 1), .int p0]) ++ List.replicate (3 - (lg_sl ([.ref (G.1 1), .int p0])).length) Slot.unset).toArray = ls at hl ⊢
  have hl : lv_has ls 3 [(0, .ref (G.1 1)), (1, .int p0)] := hl
  have L_2 : ∀  (K : Int32 → St → Prop), (∀ (x2 : Int32) (u : St) (H : Heap) (locs : List Loc) (ls : Array Slot), K x2 u → va_P D vwCl (wC G u) H → va_D (AC G s.heap.size) (wC G u) → va_S (AC G s.heap.size) s.heap H locs → lv_has ls 3 [(2, .int x2)] → W p l e rm_X6_behindBlanks s m args below meth c H locs 0 0 (MQ below (va_Qi Q (BC D G s.heap.size) (AC G s.heap.size)) args s 0 0 (AC G s.heap.size)) (F0 m 36 ls [])) → ∀ (n : Nat) (x2 : Int32) (u : St) (H : Heap) (locs : List Loc) (ls : Array Slot), l_X6_behindBlanks_2 G.2.1  K n x2 u → va_P D vwCl (wC G u) H → va_D (AC G s.heap.size) (wC G u) → va_S (AC G s.heap.size) s.heap H locs → lv_has ls 3 [(0, .ref (G.1 1)), (2, .int x2)] → W p l e rm_X6_behindBlanks s m args below meth c H locs 0 0 (MQ below (va_Qi Q (BC D G s.heap.size) (AC G s.heap.size)) args s 0 0 (AC G s.heap.size)) (F0 m 2 ls []) := by
    intro  K hK n
    induction n with
    | zero => intro x2 u H locs ls h; exact False.elim h
    | succ n ih =>
      intro x2 u H locs ls h hP hD hS hl
      unfold l_X6_behindBlanks_2 at h
      refine lv_iload_n hx hb dX6_behindBlanks_2 rfl (lv_at hl 1 rfl) ?_
      refine lv_aload_n hx hb dX6_behindBlanks_3 rfl (lv_at hl 0 rfl) ?_
      refine gC_101 E hP kfX6_15 (v := (gI u 101)) rfl dX6_behindBlanks_4 ?_
      refine lv_icmp_ge (tgt := 36) hx hb dX6_behindBlanks_7 (by decide) (fun hc => ?_) (fun hc => ?_)
      · have h := h.1 hc
        exact hK x2 u _ _ _ h hP hD hS (lv_sub hl [1] rfl)
      · have h := h.2 hc
        refine lv_aload_n hx hb dX6_behindBlanks_10 rfl (lv_at hl 0 rfl) ?_
        refine lv_iload_n hx hb dX6_behindBlanks_11 rfl (lv_at hl 1 rfl) ?_
        refine cC_i (ci := 6) (q0 := 1) (As := [.int x2]) (rest := []) E hml hP hD hS hA (t_X6_at l D G x2 u _ h) kmX6_29 mwyX6_at rfl rfl ⟨⟨rfl, rfl⟩, Nat.le_of_ble_eq_true rfl, Nat.le_of_ble_eq_true rfl⟩ rfl hl.1 rfl (Nat.le_of_ble_eq_true rfl) dX6_behindBlanks_12 ⟨Nat.zero_le _, Nat.zero_le _⟩ (fun r1 u2 H locs hP hD hS h => ?_)
        refine lv_bipush (v := (32 : Int32)) hx hb dX6_behindBlanks_15 (by decide) ?_
        refine lv_icmp_eq (tgt := 30) hx hb dX6_behindBlanks_17 (by decide) (fun hc => ?_) (fun hc => ?_)
        · have h := h.1 hc
          refine lv_iinc (v := (x2 + (1 : Int32))) (lv' := [(2, .int (x2 + (1 : Int32))), (0, .ref (G.1 1))]) hx hb dX6_behindBlanks_30 hl (k := 1) rfl rfl (by decide) rfl (fun ls hl => ?_)
          refine lv_goto (tgt := 2) hx hb dX6_behindBlanks_33 (by decide) ?_
          exact ih (x2 + (1 : Int32)) u2 _ _ _ h hP hD hS (lv_sub hl [1, 0] rfl)
        · have h := h.2 hc
          refine lv_aload_n hx hb dX6_behindBlanks_20 rfl (lv_at hl 0 rfl) ?_
          refine lv_iload_n hx hb dX6_behindBlanks_21 rfl (lv_at hl 1 rfl) ?_
          refine cC_i (ci := 6) (q0 := 1) (As := [.int x2]) (rest := []) E hml hP hD hS hA (t_X6_at l D G x2 u2 _ h) kmX6_29 mwyX6_at rfl rfl ⟨⟨rfl, rfl⟩, Nat.le_of_ble_eq_true rfl, Nat.le_of_ble_eq_true rfl⟩ rfl hl.1 rfl (Nat.le_of_ble_eq_true rfl) dX6_behindBlanks_22 ⟨Nat.zero_le _, Nat.zero_le _⟩ (fun r3 u4 H locs hP hD hS h => ?_)
          refine lv_bipush (v := (10 : Int32)) hx hb dX6_behindBlanks_25 (by decide) ?_
          refine lv_icmp_ne (tgt := 36) hx hb dX6_behindBlanks_27 (by decide) (fun hc => ?_) (fun hc => ?_)
          · have h := h.2 hc
            exact hK x2 u4 _ _ _ h hP hD hS (lv_sub hl [1] rfl)
          · have h := h.1 hc
            refine lv_iinc (v := (x2 + (1 : Int32))) (lv' := [(2, .int (x2 + (1 : Int32))), (0, .ref (G.1 1))]) hx hb dX6_behindBlanks_30 hl (k := 1) rfl rfl (by decide) rfl (fun ls hl => ?_)
            refine lv_goto (tgt := 2) hx hb dX6_behindBlanks_33 (by decide) ?_
            exact ih (x2 + (1 : Int32)) u4 _ _ _ h hP hD hS (lv_sub hl [1, 0] rfl)
  unfold wp_X6_behindBlanks at h
  refine lv_iload_n hx hb dX6_behindBlanks_0 rfl (lv_at hl 1 rfl) ?_
  refine lv_istore_n (lv' := [(2, .int p0), (0, .ref (G.1 1)), (1, .int p0)]) hx hb dX6_behindBlanks_1 rfl hl (by decide) rfl (fun ls hl => ?_)
  obtain ⟨n, h⟩ := h
  refine L_2  _ (fun y5 u6 H locs ls h hP hD hS hl => ?_) n p0 u _ _ _ h hP hD hS (lv_sub hl [1, 0] rfl)
  refine lv_iload_n hx hb dX6_behindBlanks_36 rfl (lv_at hl 0 rfl) ?_
  exact retC_i E hr hlk hP hD hS h dX6_behindBlanks_37
def wp_X5_state (N : Nat → Nat)  (u : St) (Q : Int32 → St → Prop) : Prop := (((gI u 510) ≤ 0 → Q (0 : Int32) u) ∧ (¬ (gI u 510) ≤ 0 → vp_in ((gI u 510) - (1 : Int32)) 60 ∧ Q ((gA u 505) (((gI u 510) - (1 : Int32))).toNatClampNeg) u))
abbrev rm_X5_state : Room := { frames := 0, cells := 0, slots := 0, locals := 0 }
set_option maxHeartbeats 4000000 in
set_option maxRecDepth 100000 in
theorem t_X5_state (l : Launch) (D : va_G) (G : Gd)  (u : St) (Q : Int32 → St → Prop) (h : wp_X5_state G.2.1  u Q) : MCi l D G yX5_state cX5_state 1 (some .int) rm_X5_state [.ref (G.1 5)] u Q := by
  refine startC_i (by decide) ?_
  intro p e s m args below meth c E hr hlk hml hP hD hS hA
  have hx := E.1
  have hb := E.2.1
  have hown := E.2.2.1
  have hW := E.2.2.2.1
  have hl := lv_entry ([.ref (G.1 5)]) (n := 1) (Nat.le_of_ble_eq_true rfl)
  rw [lg_entry_eq]
  generalize (lg_sl ([.ref (G.1 5)]) ++ List.replicate (1 - (lg_sl ([.ref (G.1 5)])).length) Slot.unset).toArray = ls at hl ⊢
  have hl : lv_has ls 1 [(0, .ref (G.1 5))] := hl
  unfold wp_X5_state at h
  refine lv_aload_n hx hb dX5_state_0 rfl (lv_at hl 0 rfl) ?_
  refine gC_510 E hP kfX5_32 (v := (gI u 510)) rfl dX5_state_1 ?_
  refine lv_if_le (tgt := 21) hx hb dX5_state_4 (by decide) (fun hc => ?_) (fun hc => ?_)
  · have h := h.1 hc
    refine lv_iconst (v := (0 : Int32)) hx hb dX5_state_21 (by decide) ?_
    exact retC_i E hr hlk hP hD hS h dX5_state_22
  · have h := h.2 hc
    refine lv_aload_n hx hb dX5_state_7 rfl (lv_at hl 0 rfl) ?_
    refine gC_505 E hP kfX5_15 dX5_state_8 ?_
    refine lv_aload_n hx hb dX5_state_11 rfl (lv_at hl 0 rfl) ?_
    refine gC_510 E hP kfX5_32 (v := (gI u 510)) rfl dX5_state_12 ?_
    refine lv_iconst (v := (1 : Int32)) hx hb dX5_state_15 (by decide) ?_
    refine lv_isub hx hb dX5_state_16 ?_
    obtain ⟨h9, h⟩ := h
    refine xC_505 E hP h9 (v := ((gA u 505) (((gI u 510) - (1 : Int32))).toNatClampNeg)) rfl dX5_state_17 ?_
    refine lv_goto (tgt := 22) hx hb dX5_state_18 (by decide) ?_
    exact retC_i E hr hlk hP hD hS h dX5_state_22
def wp_X5_isDigit (p0 : Int32) (Q : Int32 → Prop) : Prop := ((p0 < (48 : Int32) → Q (0 : Int32)) ∧ (¬ p0 < (48 : Int32) → (((57 : Int32) < p0 → Q (0 : Int32)) ∧ (¬ (57 : Int32) < p0 → Q (1 : Int32)))))
abbrev rm_X5_isDigit : Room := { frames := 0, cells := 0, slots := 0, locals := 0 }
set_option maxHeartbeats 4000000 in
set_option maxRecDepth 100000 in
theorem t_X5_isDigit (l : Launch) (p0 : Int32) (Q : Int32 → Prop) (h : wp_X5_isDigit p0 Q) : M0i l yX5_isDigit cX5_isDigit 1 (some .boolean) rm_X5_isDigit [.int p0] Q := by
  refine start0_i (by decide) ?_
  intro p e s m args below meth c hx hb hown hW hr hlk hml hS
  have hP : va_P ((fun _ => 0), (fun _ _ => 0)) vwCl [] s.heap := fun k q h => by simp at h
  have hA : ∀ q, s.heap.size ≤ q → (fun q => s.heap.size ≤ q) q := fun _ h => h
  have hl := lv_entry ([.int p0]) (n := 1) (Nat.le_of_ble_eq_true rfl)
  rw [lg_entry_eq]
  generalize (lg_sl ([.int p0]) ++ List.replicate (1 - (lg_sl ([.int p0])).length) Slot.unset).toArray = ls at hl ⊢
  have hl : lv_has ls 1 [(0, .int p0)] := hl
  unfold wp_X5_isDigit at h
  refine lv_iload_n hx hb dX5_isDigit_0 rfl (lv_at hl 0 rfl) ?_
  refine lv_bipush (v := (48 : Int32)) hx hb dX5_isDigit_1 (by decide) ?_
  refine lv_icmp_lt (tgt := 16) hx hb dX5_isDigit_3 (by decide) (fun hc => ?_) (fun hc => ?_)
  · have h := h.1 hc
    refine lv_iconst (v := (0 : Int32)) hx hb dX5_isDigit_16 (by decide) ?_
    exact ret0_z hx hb hr hlk hS (vz_n vz_0) h dX5_isDigit_17
  · have h := h.2 hc
    refine lv_iload_n hx hb dX5_isDigit_6 rfl (lv_at hl 0 rfl) ?_
    refine lv_bipush (v := (57 : Int32)) hx hb dX5_isDigit_7 (by decide) ?_
    refine lv_icmp_gt (tgt := 16) hx hb dX5_isDigit_9 (by decide) (fun hc => ?_) (fun hc => ?_)
    · have h := h.1 hc
      refine lv_iconst (v := (0 : Int32)) hx hb dX5_isDigit_16 (by decide) ?_
      exact ret0_z hx hb hr hlk hS (vz_n vz_0) h dX5_isDigit_17
    · have h := h.2 hc
      refine lv_iconst (v := (1 : Int32)) hx hb dX5_isDigit_12 (by decide) ?_
      refine lv_goto (tgt := 17) hx hb dX5_isDigit_13 (by decide) ?_
      exact ret0_z hx hb hr hlk hS (vz_n vz_1) h dX5_isDigit_17
def wp_X5_noteExpression (N : Nat → Nat)  (u : St) (Q : St → Prop) : Prop := (((gI u 510) = 0 → Q u) ∧ (¬ (gI u 510) = 0 → wp_X5_state N  u (fun (r1 : Int32) (u2 : St) => ((r1 = (2 : Int32) → vp_in ((gI u2 510) - (1 : Int32)) 60 ∧ Q (sA u2 505 (upd (gA u2 505) (((gI u2 510) - (1 : Int32))).toNatClampNeg (3 : Int32)))) ∧ (¬ r1 = (2 : Int32) → vp_in ((gI u2 510) - (1 : Int32)) 60 ∧ Q (sI (sA u2 505 (upd (gA u2 505) (((gI u2 510) - (1 : Int32))).toNatClampNeg (1 : Int32))) 511 ((gI u2 511) + (1 : Int32))))))))
abbrev rm_X5_noteExpression : Room := { frames := 1, cells := 0, slots := 0, locals := 20 }
set_option maxHeartbeats 4000000 in
set_option maxRecDepth 100000 in
theorem t_X5_noteExpression (l : Launch) (D : va_G) (G : Gd)  (u : St) (Q : St → Prop) (h : wp_X5_noteExpression G.2.1  u Q) : MCv l D G yX5_noteExpression cX5_noteExpression 1 none rm_X5_noteExpression [.ref (G.1 5)] u Q := by
  refine startC_v (by decide) ?_
  intro p e s m args below meth c E hr hlk hml hP hD hS hA
  have hx := E.1
  have hb := E.2.1
  have hown := E.2.2.1
  have hW := E.2.2.2.1
  have hl := lv_entry ([.ref (G.1 5)]) (n := 1) (Nat.le_of_ble_eq_true rfl)
  rw [lg_entry_eq]
  generalize (lg_sl ([.ref (G.1 5)]) ++ List.replicate (1 - (lg_sl ([.ref (G.1 5)])).length) Slot.unset).toArray = ls at hl ⊢
  have hl : lv_has ls 1 [(0, .ref (G.1 5))] := hl
  unfold wp_X5_noteExpression at h
  refine lv_aload_n hx hb dX5_noteExpression_0 rfl (lv_at hl 0 rfl) ?_
  refine gC_510 E hP kfX5_32 (v := (gI u 510)) rfl dX5_noteExpression_1 ?_
  refine lv_if_ne (tgt := 8) hx hb dX5_noteExpression_4 (by decide) (fun hc => ?_) (fun hc => ?_)
  · have h := h.2 hc
    refine lv_aload_n hx hb dX5_noteExpression_8 rfl (lv_at hl 0 rfl) ?_
    refine cC_i (ci := 5) (q0 := 5) (As := []) (rest := []) E hml hP hD hS hA (t_X5_state l D G  u _ h) kmX5_112 mwyX5_state rfl rfl ⟨⟨rfl, rfl⟩, Nat.le_of_ble_eq_true rfl, Nat.le_of_ble_eq_true rfl⟩ rfl hl.1 rfl (Nat.le_of_ble_eq_true rfl) dX5_noteExpression_9 ⟨Nat.zero_le _, Nat.zero_le _⟩ (fun r1 u2 H locs hP hD hS h => ?_)
    refine lv_iconst (v := (2 : Int32)) hx hb dX5_noteExpression_12 (by decide) ?_
    refine lv_icmp_ne (tgt := 31) hx hb dX5_noteExpression_13 (by decide) (fun hc => ?_) (fun hc => ?_)
    · have h := h.2 hc
      refine lv_aload_n hx hb dX5_noteExpression_31 rfl (lv_at hl 0 rfl) ?_
      refine gC_505 E hP kfX5_15 dX5_noteExpression_32 ?_
      refine lv_aload_n hx hb dX5_noteExpression_35 rfl (lv_at hl 0 rfl) ?_
      refine gC_510 E hP kfX5_32 (v := (gI u2 510)) rfl dX5_noteExpression_36 ?_
      refine lv_iconst (v := (1 : Int32)) hx hb dX5_noteExpression_39 (by decide) ?_
      refine lv_isub hx hb dX5_noteExpression_40 ?_
      refine lv_iconst (v := (1 : Int32)) hx hb dX5_noteExpression_41 (by decide) ?_
      obtain ⟨h9, h⟩ := h
      refine yC_505 E hP hD hS h9 (f := (gA u2 505)) rfl dX5_noteExpression_42 (fun H locs hP hD hS => ?_)
      refine lv_aload_n hx hb dX5_noteExpression_43 rfl (lv_at hl 0 rfl) ?_
      refine lv_dup hx hb dX5_noteExpression_44 rfl ?_
      refine gC_511 E hP kfX5_35 (v := (gI u2 511)) rfl dX5_noteExpression_45 ?_
      refine lv_iconst (v := (1 : Int32)) hx hb dX5_noteExpression_48 (by decide) ?_
      refine lv_iadd hx hb dX5_noteExpression_49 ?_
      refine pC_511 E hP hD hS kfX5_35 dX5_noteExpression_50 (fun H locs hP hD hS => ?_)
      exact retC_v E hr hlk hP hD hS h dX5_noteExpression_53
    · have h := h.1 hc
      refine lv_aload_n hx hb dX5_noteExpression_16 rfl (lv_at hl 0 rfl) ?_
      refine gC_505 E hP kfX5_15 dX5_noteExpression_17 ?_
      refine lv_aload_n hx hb dX5_noteExpression_20 rfl (lv_at hl 0 rfl) ?_
      refine gC_510 E hP kfX5_32 (v := (gI u2 510)) rfl dX5_noteExpression_21 ?_
      refine lv_iconst (v := (1 : Int32)) hx hb dX5_noteExpression_24 (by decide) ?_
      refine lv_isub hx hb dX5_noteExpression_25 ?_
      refine lv_iconst (v := (3 : Int32)) hx hb dX5_noteExpression_26 (by decide) ?_
      obtain ⟨h9, h⟩ := h
      refine yC_505 E hP hD hS h9 (f := (gA u2 505)) rfl dX5_noteExpression_27 (fun H locs hP hD hS => ?_)
      refine lv_goto (tgt := 53) hx hb dX5_noteExpression_28 (by decide) ?_
      exact retC_v E hr hlk hP hD hS h dX5_noteExpression_53
  · have h := h.1 hc
    exact retC_v E hr hlk hP hD hS h dX5_noteExpression_7
def wp_X5_keep (N : Nat → Nat) (p0 : Int64) (u : St) (Q : Int32 → St → Prop) : Prop := (((gI u 509) < (2000 : Int32) → vp_in (gI u 509) 2000 ∧ Q (1 : Int32) (sI (sB u 504 (vp_updL (gB u 504) ((gI u 509)).toNatClampNeg p0)) 509 ((gI u 509) + (1 : Int32)))) ∧ (¬ (gI u 509) < (2000 : Int32) → Q (0 : Int32) u))
abbrev rm_X5_keep : Room := { frames := 0, cells := 0, slots := 0, locals := 0 }
set_option maxHeartbeats 4000000 in
set_option maxRecDepth 100000 in
theorem t_X5_keep (l : Launch) (D : va_G) (G : Gd) (p0 : Int64) (u : St) (Q : Int32 → St → Prop) (h : wp_X5_keep G.2.1 p0 u Q) : MCi l D G yX5_keep cX5_keep 3 (some .boolean) rm_X5_keep [.ref (G.1 5), .long p0] u Q := by
  refine startC_i (by decide) ?_
  intro p e s m args below meth c E hr hlk hml hP hD hS hA
  have hx := E.1
  have hb := E.2.1
  have hown := E.2.2.1
  have hW := E.2.2.2.1
  have hl := lv_entry ([.ref (G.1 5), .long p0]) (n := 3) (Nat.le_of_ble_eq_true rfl)
  rw [lg_entry_eq]
  generalize (lg_sl ([.ref (G.1 5), .long p0]) ++ List.replicate (3 - (lg_sl ([.ref (G.1 5), .long p0])).length) Slot.unset).toArray = ls at hl ⊢
  have hl : lv_has ls 3 [(0, .ref (G.1 5)), (1, .long p0)] := hl
  unfold wp_X5_keep at h
  refine lv_aload_n hx hb dX5_keep_0 rfl (lv_at hl 0 rfl) ?_
  refine gC_509 E hP kfX5_28 (v := (gI u 509)) rfl dX5_keep_1 ?_
  refine lv_sipush (v := (2000 : Int32)) hx hb dX5_keep_4 (by decide) ?_
  refine lv_icmp_lt (tgt := 12) hx hb dX5_keep_7 (by decide) (fun hc => ?_) (fun hc => ?_)
  · have h := h.1 hc
    refine lv_aload_n hx hb dX5_keep_12 rfl (lv_at hl 0 rfl) ?_
    refine gC_504 E hP kfX5_9 dX5_keep_13 ?_
    refine lv_aload_n hx hb dX5_keep_16 rfl (lv_at hl 0 rfl) ?_
    refine gC_509 E hP kfX5_28 (v := (gI u 509)) rfl dX5_keep_17 ?_
    refine lv_lload_n hx hb dX5_keep_20 rfl (lv_at hl 1 rfl) ?_
    obtain ⟨h9, h⟩ := h
    refine yC_504 E hP hD hS h9 (f := (gB u 504)) rfl dX5_keep_21 (fun H locs hP hD hS => ?_)
    refine lv_aload_n hx hb dX5_keep_22 rfl (lv_at hl 0 rfl) ?_
    refine lv_dup hx hb dX5_keep_23 rfl ?_
    refine gC_509 E hP kfX5_28 (v := (gI u 509)) rfl dX5_keep_24 ?_
    refine lv_iconst (v := (1 : Int32)) hx hb dX5_keep_27 (by decide) ?_
    refine lv_iadd hx hb dX5_keep_28 ?_
    refine pC_509 E hP hD hS kfX5_28 dX5_keep_29 (fun H locs hP hD hS => ?_)
    refine lv_iconst (v := (1 : Int32)) hx hb dX5_keep_32 (by decide) ?_
    exact retC_z E hr hlk hP hD hS (vz_n vz_1) h dX5_keep_33
  · have h := h.2 hc
    refine lv_iconst (v := (0 : Int32)) hx hb dX5_keep_10 (by decide) ?_
    exact retC_z E hr hlk hP hD hS (vz_n vz_0) h dX5_keep_11
def l_X5_takeNumber_18 (N : Nat → Nat) (c1 : Int32) (K : Int32 → Int32 → St → Prop) : Nat → Int32 → Int32 → St → Prop
  | 0, _, _, _ => False
  | n + 1, x2, x3, u => (((9 : Int32) ≤ x2 → K x2 x3 u) ∧ (¬ (9 : Int32) ≤ x2 → wp_X6_at N (gI u 512) u (fun (r1 : Int32) (u2 : St) => wp_X5_isDigit r1 (fun (r3 : Int32) => ((r3 = 0 → K x2 x3 u2) ∧ (¬ r3 = 0 → wp_X6_at N (gI u2 512) u2 (fun (r4 : Int32) (u5 : St) => l_X5_takeNumber_18 N  c1 K n (x2 + (1 : Int32)) (((x3 * (10 : Int32)) + r4) - (48 : Int32)) (sI u5 512 ((gI u5 512) + (1 : Int32))))))))))
def wp_X5_takeNumber (N : Nat → Nat) (p0 : Int32) (u : St) (Q : Int32 → St → Prop) : Prop := ((p0 = 0 → (∃ k17 : Nat, l_X5_takeNumber_18 N  p0 (fun (y6 : Int32) (y7 : Int32) (u8 : St) => ((y6 = 0 → Q (0 : Int32) u8) ∧ (¬ y6 = 0 → wp_X6_at N (gI u8 512) u8 (fun (r9 : Int32) (u10 : St) => wp_X5_isDigit r9 (fun (r11 : Int32) => ((r11 = 0 → wp_X5_noteExpression N  u10 (fun (u12 : St) => ((p0 = 0 → wp_X5_keep N ((y7).toInt64) u12 (fun (r13 : Int32) (u14 : St) => vz r13 ∧ Q r13 u14)) ∧ (¬ p0 = 0 → wp_X5_keep N (((-y7)).toInt64) u12 (fun (r15 : Int32) (u16 : St) => vz r15 ∧ Q r15 u16))))) ∧ (¬ r11 = 0 → Q (0 : Int32) u10))))))) k17 (0 : Int32) (0 : Int32) u)) ∧ (¬ p0 = 0 → (∃ k29 : Nat, l_X5_takeNumber_18 N  p0 (fun (y18 : Int32) (y19 : Int32) (u20 : St) => ((y18 = 0 → Q (0 : Int32) u20) ∧ (¬ y18 = 0 → wp_X6_at N (gI u20 512) u20 (fun (r21 : Int32) (u22 : St) => wp_X5_isDigit r21 (fun (r23 : Int32) => ((r23 = 0 → wp_X5_noteExpression N  u22 (fun (u24 : St) => ((p0 = 0 → wp_X5_keep N ((y19).toInt64) u24 (fun (r25 : Int32) (u26 : St) => vz r25 ∧ Q r25 u26)) ∧ (¬ p0 = 0 → wp_X5_keep N (((-y19)).toInt64) u24 (fun (r27 : Int32) (u28 : St) => vz r27 ∧ Q r27 u28))))) ∧ (¬ r23 = 0 → Q (0 : Int32) u22))))))) k29 (0 : Int32) (0 : Int32) (sI u 512 ((gI u 512) + (1 : Int32))))))
abbrev rm_X5_takeNumber : Room := { frames := 2, cells := 0, slots := 0, locals := 40 }
set_option maxHeartbeats 4000000 in
set_option maxRecDepth 100000 in
theorem t_X5_takeNumber (l : Launch) (D : va_G) (G : Gd) (p0 : Int32) (u : St) (Q : Int32 → St → Prop) (h : wp_X5_takeNumber G.2.1 p0 u Q) : MCi l D G yX5_takeNumber cX5_takeNumber 4 (some .boolean) rm_X5_takeNumber [.ref (G.1 5), .int p0] u Q := by
  refine startC_i (by decide) ?_
  intro p e s m args below meth c E hr hlk hml hP hD hS hA
  have hx := E.1
  have hb := E.2.1
  have hown := E.2.2.1
  have hW := E.2.2.2.1
  have hl := lv_entry ([.ref (G.1 5), .int p0]) (n := 4) (Nat.le_of_ble_eq_true rfl)
  rw [lg_entry_eq]
  generalize (lg_sl ([.ref (G.1 5), .int p0]) ++ List.replicate (4 - (lg_sl ([.ref (G.1 5), .int p0])).length) Slot.unset).toArray = ls at hl ⊢
  have hl : lv_has ls 4 [(0, .ref (G.1 5)), (1, .int p0)] := hl
  have L_18 : ∀ (c1 : Int32) (K : Int32 → Int32 → St → Prop), (∀ (x2 : Int32) (x3 : Int32) (u : St) (H : Heap) (locs : List Loc) (ls : Array Slot), K x2 x3 u → va_P D vwCl (wC G u) H → va_D (AC G s.heap.size) (wC G u) → va_S (AC G s.heap.size) s.heap H locs → lv_has ls 4 [(0, .ref (G.1 5)), (1, .int c1), (2, .int x2), (3, .int x3)] → W p l e rm_X5_takeNumber s m args below meth c H locs 0 0 (MQ below (va_Qi Q (BC D G s.heap.size) (AC G s.heap.size)) args s 0 0 (AC G s.heap.size)) (F0 m 77 ls [])) → ∀ (n : Nat) (x2 : Int32) (x3 : Int32) (u : St) (H : Heap) (locs : List Loc) (ls : Array Slot), l_X5_takeNumber_18 G.2.1  c1 K n x2 x3 u → va_P D vwCl (wC G u) H → va_D (AC G s.heap.size) (wC G u) → va_S (AC G s.heap.size) s.heap H locs → lv_has ls 4 [(0, .ref (G.1 5)), (1, .int c1), (2, .int x2), (3, .int x3)] → W p l e rm_X5_takeNumber s m args below meth c H locs 0 0 (MQ below (va_Qi Q (BC D G s.heap.size) (AC G s.heap.size)) args s 0 0 (AC G s.heap.size)) (F0 m 18 ls []) := by
    intro c1 K hK n
    induction n with
    | zero => intro x2 x3 u H locs ls h; exact False.elim h
    | succ n ih =>
      intro x2 x3 u H locs ls h hP hD hS hl
      unfold l_X5_takeNumber_18 at h
      refine lv_iload_n hx hb dX5_takeNumber_18 rfl (lv_at hl 2 rfl) ?_
      refine lv_bipush (v := (9 : Int32)) hx hb dX5_takeNumber_19 (by decide) ?_
      refine lv_icmp_ge (tgt := 77) hx hb dX5_takeNumber_21 (by decide) (fun hc => ?_) (fun hc => ?_)
      · have h := h.1 hc
        exact hK x2 x3 u _ _ _ h hP hD hS (lv_sub hl [0, 1, 2, 3] rfl)
      · have h := h.2 hc
        refine lv_aload_n hx hb dX5_takeNumber_24 rfl (lv_at hl 0 rfl) ?_
        refine gC_500 E hP kfX5_47 dX5_takeNumber_25 ?_
        refine lv_aload_n hx hb dX5_takeNumber_28 rfl (lv_at hl 0 rfl) ?_
        refine gC_512 E hP kfX5_38 (v := (gI u 512)) rfl dX5_takeNumber_29 ?_
        refine cC_i (ci := 6) (q0 := 1) (As := [.int (gI u 512)]) (rest := []) E hml hP hD hS hA (t_X6_at l D G (gI u 512) u _ h) kmX5_100 mwyX6_at rfl rfl ⟨⟨rfl, rfl⟩, Nat.le_of_ble_eq_true rfl, Nat.le_of_ble_eq_true rfl⟩ rfl hl.1 rfl (Nat.le_of_ble_eq_true rfl) dX5_takeNumber_32 ⟨Nat.zero_le _, Nat.zero_le _⟩ (fun r1 u2 H locs hP hD hS h => ?_)
        refine c0_i (As := [.int r1]) (rest := []) hx hb hml hown hW hP hS hA (t_X5_isDigit l r1 _ h) kmX5_119 mwyX5_isDigit ⟨⟨rfl, rfl⟩, Nat.le_of_ble_eq_true rfl, Nat.le_of_ble_eq_true rfl⟩ rfl hl.1 rfl (Nat.le_of_ble_eq_true rfl) dX5_takeNumber_35 ⟨Nat.zero_le _, Nat.zero_le _⟩ (fun r3 H locs hP hS h => ?_)
        refine lv_if_eq (tgt := 77) hx hb dX5_takeNumber_38 (by decide) (fun hc => ?_) (fun hc => ?_)
        · have h := h.1 hc
          exact hK x2 x3 u2 _ _ _ h hP hD hS (lv_sub hl [0, 1, 2, 3] rfl)
        · have h := h.2 hc
          refine lv_iload_n hx hb dX5_takeNumber_41 rfl (lv_at hl 3 rfl) ?_
          refine lv_bipush (v := (10 : Int32)) hx hb dX5_takeNumber_42 (by decide) ?_
          refine lv_imul hx hb dX5_takeNumber_44 ?_
          refine lv_aload_n hx hb dX5_takeNumber_45 rfl (lv_at hl 0 rfl) ?_
          refine gC_500 E hP kfX5_47 dX5_takeNumber_46 ?_
          refine lv_aload_n hx hb dX5_takeNumber_49 rfl (lv_at hl 0 rfl) ?_
          refine gC_512 E hP kfX5_38 (v := (gI u2 512)) rfl dX5_takeNumber_50 ?_
          refine cC_i (ci := 6) (q0 := 1) (As := [.int (gI u2 512)]) (rest := [.int (x3 * (10 : Int32))]) E hml hP hD hS hA (t_X6_at l D G (gI u2 512) u2 _ h) kmX5_100 mwyX6_at rfl rfl ⟨⟨rfl, rfl⟩, Nat.le_of_ble_eq_true rfl, Nat.le_of_ble_eq_true rfl⟩ rfl hl.1 rfl (Nat.le_of_ble_eq_true rfl) dX5_takeNumber_53 ⟨Nat.zero_le _, Nat.zero_le _⟩ (fun r4 u5 H locs hP hD hS h => ?_)
          refine lv_iadd hx hb dX5_takeNumber_56 ?_
          refine lv_bipush (v := (48 : Int32)) hx hb dX5_takeNumber_57 (by decide) ?_
          refine lv_isub hx hb dX5_takeNumber_59 ?_
          refine lv_istore_n (lv' := [(3, .int (((x3 * (10 : Int32)) + r4) - (48 : Int32))), (0, .ref (G.1 5)), (1, .int c1), (2, .int x2)]) hx hb dX5_takeNumber_60 rfl hl (by decide) rfl (fun ls hl => ?_)
          refine lv_iinc (v := (x2 + (1 : Int32))) (lv' := [(2, .int (x2 + (1 : Int32))), (3, .int (((x3 * (10 : Int32)) + r4) - (48 : Int32))), (0, .ref (G.1 5)), (1, .int c1)]) hx hb dX5_takeNumber_61 hl (k := 3) rfl rfl (by decide) rfl (fun ls hl => ?_)
          refine lv_aload_n hx hb dX5_takeNumber_64 rfl (lv_at hl 2 rfl) ?_
          refine lv_dup hx hb dX5_takeNumber_65 rfl ?_
          refine gC_512 E hP kfX5_38 (v := (gI u5 512)) rfl dX5_takeNumber_66 ?_
          refine lv_iconst (v := (1 : Int32)) hx hb dX5_takeNumber_69 (by decide) ?_
          refine lv_iadd hx hb dX5_takeNumber_70 ?_
          refine pC_512 E hP hD hS kfX5_38 dX5_takeNumber_71 (fun H locs hP hD hS => ?_)
          refine lv_goto (tgt := 18) hx hb dX5_takeNumber_74 (by decide) ?_
          exact ih (x2 + (1 : Int32)) (((x3 * (10 : Int32)) + r4) - (48 : Int32)) (sI u5 512 ((gI u5 512) + (1 : Int32))) _ _ _ h hP hD hS (lv_sub hl [2, 3, 0, 1] rfl)
  unfold wp_X5_takeNumber at h
  refine lv_iload_n hx hb dX5_takeNumber_0 rfl (lv_at hl 1 rfl) ?_
  refine lv_if_eq (tgt := 14) hx hb dX5_takeNumber_1 (by decide) (fun hc => ?_) (fun hc => ?_)
  · have h := h.1 hc
    refine lv_iconst (v := (0 : Int32)) hx hb dX5_takeNumber_14 (by decide) ?_
    refine lv_istore_n (lv' := [(2, .int (0 : Int32)), (0, .ref (G.1 5)), (1, .int p0)]) hx hb dX5_takeNumber_15 rfl hl (by decide) rfl (fun ls hl => ?_)
    refine lv_iconst (v := (0 : Int32)) hx hb dX5_takeNumber_16 (by decide) ?_
    refine lv_istore_n (lv' := [(3, .int (0 : Int32)), (2, .int (0 : Int32)), (0, .ref (G.1 5)), (1, .int p0)]) hx hb dX5_takeNumber_17 rfl hl (by decide) rfl (fun ls hl => ?_)
    obtain ⟨n, h⟩ := h
    refine L_18 p0 _ (fun y6 y7 u8 H locs ls h hP hD hS hl => ?_) n (0 : Int32) (0 : Int32) u _ _ _ h hP hD hS (lv_sub hl [2, 3, 1, 0] rfl)
    refine lv_iload_n hx hb dX5_takeNumber_77 rfl (lv_at hl 2 rfl) ?_
    refine lv_if_eq (tgt := 98) hx hb dX5_takeNumber_78 (by decide) (fun hc => ?_) (fun hc => ?_)
    · have h := h.1 hc
      refine lv_iconst (v := (0 : Int32)) hx hb dX5_takeNumber_98 (by decide) ?_
      exact retC_z E hr hlk hP hD hS (vz_n vz_0) h dX5_takeNumber_99
    · have h := h.2 hc
      refine lv_aload_n hx hb dX5_takeNumber_81 rfl (lv_at hl 0 rfl) ?_
      refine gC_500 E hP kfX5_47 dX5_takeNumber_82 ?_
      refine lv_aload_n hx hb dX5_takeNumber_85 rfl (lv_at hl 0 rfl) ?_
      refine gC_512 E hP kfX5_38 (v := (gI u8 512)) rfl dX5_takeNumber_86 ?_
      refine cC_i (ci := 6) (q0 := 1) (As := [.int (gI u8 512)]) (rest := []) E hml hP hD hS hA (t_X6_at l D G (gI u8 512) u8 _ h) kmX5_100 mwyX6_at rfl rfl ⟨⟨rfl, rfl⟩, Nat.le_of_ble_eq_true rfl, Nat.le_of_ble_eq_true rfl⟩ rfl hl.1 rfl (Nat.le_of_ble_eq_true rfl) dX5_takeNumber_89 ⟨Nat.zero_le _, Nat.zero_le _⟩ (fun r9 u10 H locs hP hD hS h => ?_)
      refine c0_i (As := [.int r9]) (rest := []) hx hb hml hown hW hP hS hA (t_X5_isDigit l r9 _ h) kmX5_119 mwyX5_isDigit ⟨⟨rfl, rfl⟩, Nat.le_of_ble_eq_true rfl, Nat.le_of_ble_eq_true rfl⟩ rfl hl.1 rfl (Nat.le_of_ble_eq_true rfl) dX5_takeNumber_92 ⟨Nat.zero_le _, Nat.zero_le _⟩ (fun r11 H locs hP hS h => ?_)
      refine lv_if_eq (tgt := 100) hx hb dX5_takeNumber_95 (by decide) (fun hc => ?_) (fun hc => ?_)
      · have h := h.1 hc
        refine lv_aload_n hx hb dX5_takeNumber_100 rfl (lv_at hl 0 rfl) ?_
        refine cC_v (ci := 5) (q0 := 5) (As := []) (rest := []) E hml hP hD hS hA (t_X5_noteExpression l D G  u10 _ h) kmX5_138 mwyX5_noteExpression rfl rfl ⟨⟨rfl, rfl⟩, Nat.le_of_ble_eq_true rfl, Nat.le_of_ble_eq_true rfl⟩ rfl hl.1 rfl (Nat.le_of_ble_eq_true rfl) dX5_takeNumber_101 ⟨Nat.zero_le _, Nat.zero_le _⟩ (fun u12 H locs hP hD hS h => ?_)
        refine lv_aload_n hx hb dX5_takeNumber_104 rfl (lv_at hl 0 rfl) ?_
        refine lv_iload_n hx hb dX5_takeNumber_105 rfl (lv_at hl 1 rfl) ?_
        refine lv_if_eq (tgt := 115) hx hb dX5_takeNumber_106 (by decide) (fun hc => ?_) (fun hc => ?_)
        · have h := h.1 hc
          refine lv_iload_n hx hb dX5_takeNumber_115 rfl (lv_at hl 3 rfl) ?_
          refine lv_i2l (v := (y7).toInt64) hx hb dX5_takeNumber_116 rfl ?_
          refine cC_i (ci := 5) (q0 := 5) (As := [.long (y7).toInt64]) (rest := []) E hml hP hD hS hA (t_X5_keep l D G ((y7).toInt64) u12 _ h) kmX5_134 mwyX5_keep rfl rfl ⟨⟨rfl, rfl⟩, Nat.le_of_ble_eq_true rfl, Nat.le_of_ble_eq_true rfl⟩ rfl hl.1 rfl (Nat.le_of_ble_eq_true rfl) dX5_takeNumber_117 ⟨Nat.zero_le _, Nat.zero_le _⟩ (fun r13 u14 H locs hP hD hS h => ?_)
          exact retC_z E hr hlk hP hD hS (vz_n h.1) h.2 dX5_takeNumber_120
        · have h := h.2 hc
          refine lv_iload_n hx hb dX5_takeNumber_109 rfl (lv_at hl 3 rfl) ?_
          refine lv_ineg hx hb dX5_takeNumber_110 ?_
          refine lv_i2l (v := ((-y7)).toInt64) hx hb dX5_takeNumber_111 rfl ?_
          refine lv_goto (tgt := 117) hx hb dX5_takeNumber_112 (by decide) ?_
          refine cC_i (ci := 5) (q0 := 5) (As := [.long ((-y7)).toInt64]) (rest := []) E hml hP hD hS hA (t_X5_keep l D G (((-y7)).toInt64) u12 _ h) kmX5_134 mwyX5_keep rfl rfl ⟨⟨rfl, rfl⟩, Nat.le_of_ble_eq_true rfl, Nat.le_of_ble_eq_true rfl⟩ rfl hl.1 rfl (Nat.le_of_ble_eq_true rfl) dX5_takeNumber_117 ⟨Nat.zero_le _, Nat.zero_le _⟩ (fun r15 u16 H locs hP hD hS h => ?_)
          exact retC_z E hr hlk hP hD hS (vz_n h.1) h.2 dX5_takeNumber_120
      · have h := h.2 hc
        refine lv_iconst (v := (0 : Int32)) hx hb dX5_takeNumber_98 (by decide) ?_
        exact retC_z E hr hlk hP hD hS (vz_n vz_0) h dX5_takeNumber_99
  · have h := h.2 hc
    refine lv_aload_n hx hb dX5_takeNumber_4 rfl (lv_at hl 0 rfl) ?_
    refine lv_dup hx hb dX5_takeNumber_5 rfl ?_
    refine gC_512 E hP kfX5_38 (v := (gI u 512)) rfl dX5_takeNumber_6 ?_
    refine lv_iconst (v := (1 : Int32)) hx hb dX5_takeNumber_9 (by decide) ?_
    refine lv_iadd hx hb dX5_takeNumber_10 ?_
    refine pC_512 E hP hD hS kfX5_38 dX5_takeNumber_11 (fun H locs hP hD hS => ?_)
    refine lv_iconst (v := (0 : Int32)) hx hb dX5_takeNumber_14 (by decide) ?_
    refine lv_istore_n (lv' := [(2, .int (0 : Int32)), (0, .ref (G.1 5)), (1, .int p0)]) hx hb dX5_takeNumber_15 rfl hl (by decide) rfl (fun ls hl => ?_)
    refine lv_iconst (v := (0 : Int32)) hx hb dX5_takeNumber_16 (by decide) ?_
    refine lv_istore_n (lv' := [(3, .int (0 : Int32)), (2, .int (0 : Int32)), (0, .ref (G.1 5)), (1, .int p0)]) hx hb dX5_takeNumber_17 rfl hl (by decide) rfl (fun ls hl => ?_)
    obtain ⟨n, h⟩ := h
    refine L_18 p0 _ (fun y18 y19 u20 H locs ls h hP hD hS hl => ?_) n (0 : Int32) (0 : Int32) (sI u 512 ((gI u 512) + (1 : Int32))) _ _ _ h hP hD hS (lv_sub hl [2, 3, 1, 0] rfl)
    refine lv_iload_n hx hb dX5_takeNumber_77 rfl (lv_at hl 2 rfl) ?_
    refine lv_if_eq (tgt := 98) hx hb dX5_takeNumber_78 (by decide) (fun hc => ?_) (fun hc => ?_)
    · have h := h.1 hc
      refine lv_iconst (v := (0 : Int32)) hx hb dX5_takeNumber_98 (by decide) ?_
      exact retC_z E hr hlk hP hD hS (vz_n vz_0) h dX5_takeNumber_99
    · have h := h.2 hc
      refine lv_aload_n hx hb dX5_takeNumber_81 rfl (lv_at hl 0 rfl) ?_
      refine gC_500 E hP kfX5_47 dX5_takeNumber_82 ?_
      refine lv_aload_n hx hb dX5_takeNumber_85 rfl (lv_at hl 0 rfl) ?_
      refine gC_512 E hP kfX5_38 (v := (gI u20 512)) rfl dX5_takeNumber_86 ?_
      refine cC_i (ci := 6) (q0 := 1) (As := [.int (gI u20 512)]) (rest := []) E hml hP hD hS hA (t_X6_at l D G (gI u20 512) u20 _ h) kmX5_100 mwyX6_at rfl rfl ⟨⟨rfl, rfl⟩, Nat.le_of_ble_eq_true rfl, Nat.le_of_ble_eq_true rfl⟩ rfl hl.1 rfl (Nat.le_of_ble_eq_true rfl) dX5_takeNumber_89 ⟨Nat.zero_le _, Nat.zero_le _⟩ (fun r21 u22 H locs hP hD hS h => ?_)
      refine c0_i (As := [.int r21]) (rest := []) hx hb hml hown hW hP hS hA (t_X5_isDigit l r21 _ h) kmX5_119 mwyX5_isDigit ⟨⟨rfl, rfl⟩, Nat.le_of_ble_eq_true rfl, Nat.le_of_ble_eq_true rfl⟩ rfl hl.1 rfl (Nat.le_of_ble_eq_true rfl) dX5_takeNumber_92 ⟨Nat.zero_le _, Nat.zero_le _⟩ (fun r23 H locs hP hS h => ?_)
      refine lv_if_eq (tgt := 100) hx hb dX5_takeNumber_95 (by decide) (fun hc => ?_) (fun hc => ?_)
      · have h := h.1 hc
        refine lv_aload_n hx hb dX5_takeNumber_100 rfl (lv_at hl 0 rfl) ?_
        refine cC_v (ci := 5) (q0 := 5) (As := []) (rest := []) E hml hP hD hS hA (t_X5_noteExpression l D G  u22 _ h) kmX5_138 mwyX5_noteExpression rfl rfl ⟨⟨rfl, rfl⟩, Nat.le_of_ble_eq_true rfl, Nat.le_of_ble_eq_true rfl⟩ rfl hl.1 rfl (Nat.le_of_ble_eq_true rfl) dX5_takeNumber_101 ⟨Nat.zero_le _, Nat.zero_le _⟩ (fun u24 H locs hP hD hS h => ?_)
        refine lv_aload_n hx hb dX5_takeNumber_104 rfl (lv_at hl 0 rfl) ?_
        refine lv_iload_n hx hb dX5_takeNumber_105 rfl (lv_at hl 1 rfl) ?_
        refine lv_if_eq (tgt := 115) hx hb dX5_takeNumber_106 (by decide) (fun hc => ?_) (fun hc => ?_)
        · have h := h.1 hc
          refine lv_iload_n hx hb dX5_takeNumber_115 rfl (lv_at hl 3 rfl) ?_
          refine lv_i2l (v := (y19).toInt64) hx hb dX5_takeNumber_116 rfl ?_
          refine cC_i (ci := 5) (q0 := 5) (As := [.long (y19).toInt64]) (rest := []) E hml hP hD hS hA (t_X5_keep l D G ((y19).toInt64) u24 _ h) kmX5_134 mwyX5_keep rfl rfl ⟨⟨rfl, rfl⟩, Nat.le_of_ble_eq_true rfl, Nat.le_of_ble_eq_true rfl⟩ rfl hl.1 rfl (Nat.le_of_ble_eq_true rfl) dX5_takeNumber_117 ⟨Nat.zero_le _, Nat.zero_le _⟩ (fun r25 u26 H locs hP hD hS h => ?_)
          exact retC_z E hr hlk hP hD hS (vz_n h.1) h.2 dX5_takeNumber_120
        · have h := h.2 hc
          refine lv_iload_n hx hb dX5_takeNumber_109 rfl (lv_at hl 3 rfl) ?_
          refine lv_ineg hx hb dX5_takeNumber_110 ?_
          refine lv_i2l (v := ((-y19)).toInt64) hx hb dX5_takeNumber_111 rfl ?_
          refine lv_goto (tgt := 117) hx hb dX5_takeNumber_112 (by decide) ?_
          refine cC_i (ci := 5) (q0 := 5) (As := [.long ((-y19)).toInt64]) (rest := []) E hml hP hD hS hA (t_X5_keep l D G (((-y19)).toInt64) u24 _ h) kmX5_134 mwyX5_keep rfl rfl ⟨⟨rfl, rfl⟩, Nat.le_of_ble_eq_true rfl, Nat.le_of_ble_eq_true rfl⟩ rfl hl.1 rfl (Nat.le_of_ble_eq_true rfl) dX5_takeNumber_117 ⟨Nat.zero_le _, Nat.zero_le _⟩ (fun r27 u28 H locs hP hD hS h => ?_)
          exact retC_z E hr hlk hP hD hS (vz_n h.1) h.2 dX5_takeNumber_120
      · have h := h.2 hc
        refine lv_iconst (v := (0 : Int32)) hx hb dX5_takeNumber_98 (by decide) ?_
        exact retC_z E hr hlk hP hD hS (vz_n vz_0) h dX5_takeNumber_99
def wp_X3_digitOf (p0 : Int32) (Q : Int32 → Prop) : Prop := ((p0 < (65 : Int32) → ((p0 < (48 : Int32) → Q (0 : Int32)) ∧ (¬ p0 < (48 : Int32) → (((57 : Int32) < p0 → Q (0 : Int32)) ∧ (¬ (57 : Int32) < p0 → Q ((p0 - (48 : Int32)) + (27 : Int32))))))) ∧ (¬ p0 < (65 : Int32) → (((90 : Int32) < p0 → ((p0 < (48 : Int32) → Q (0 : Int32)) ∧ (¬ p0 < (48 : Int32) → (((57 : Int32) < p0 → Q (0 : Int32)) ∧ (¬ (57 : Int32) < p0 → Q ((p0 - (48 : Int32)) + (27 : Int32))))))) ∧ (¬ (90 : Int32) < p0 → Q ((p0 - (65 : Int32)) + (1 : Int32))))))
abbrev rm_X3_digitOf : Room := { frames := 0, cells := 0, slots := 0, locals := 0 }
set_option maxHeartbeats 4000000 in
set_option maxRecDepth 100000 in
theorem t_X3_digitOf (l : Launch) (p0 : Int32) (Q : Int32 → Prop) (h : wp_X3_digitOf p0 Q) : M0i l yX3_digitOf cX3_digitOf 1 (some .int) rm_X3_digitOf [.int p0] Q := by
  refine start0_i (by decide) ?_
  intro p e s m args below meth c hx hb hown hW hr hlk hml hS
  have hP : va_P ((fun _ => 0), (fun _ _ => 0)) vwCl [] s.heap := fun k q h => by simp at h
  have hA : ∀ q, s.heap.size ≤ q → (fun q => s.heap.size ≤ q) q := fun _ h => h
  have hl := lv_entry ([.int p0]) (n := 1) (Nat.le_of_ble_eq_true rfl)
  rw [lg_entry_eq]
  generalize (lg_sl ([.int p0]) ++ List.replicate (1 - (lg_sl ([.int p0])).length) Slot.unset).toArray = ls at hl ⊢
  have hl : lv_has ls 1 [(0, .int p0)] := hl
  unfold wp_X3_digitOf at h
  refine lv_iload_n hx hb dX3_digitOf_0 rfl (lv_at hl 0 rfl) ?_
  refine lv_bipush (v := (65 : Int32)) hx hb dX3_digitOf_1 (by decide) ?_
  refine lv_icmp_lt (tgt := 19) hx hb dX3_digitOf_3 (by decide) (fun hc => ?_) (fun hc => ?_)
  · have h := h.1 hc
    refine lv_iload_n hx hb dX3_digitOf_19 rfl (lv_at hl 0 rfl) ?_
    refine lv_bipush (v := (48 : Int32)) hx hb dX3_digitOf_20 (by decide) ?_
    refine lv_icmp_lt (tgt := 41) hx hb dX3_digitOf_22 (by decide) (fun hc => ?_) (fun hc => ?_)
    · have h := h.1 hc
      refine lv_iconst (v := (0 : Int32)) hx hb dX3_digitOf_41 (by decide) ?_
      exact ret0_i hx hb hr hlk hS h dX3_digitOf_42
    · have h := h.2 hc
      refine lv_iload_n hx hb dX3_digitOf_25 rfl (lv_at hl 0 rfl) ?_
      refine lv_bipush (v := (57 : Int32)) hx hb dX3_digitOf_26 (by decide) ?_
      refine lv_icmp_gt (tgt := 41) hx hb dX3_digitOf_28 (by decide) (fun hc => ?_) (fun hc => ?_)
      · have h := h.1 hc
        refine lv_iconst (v := (0 : Int32)) hx hb dX3_digitOf_41 (by decide) ?_
        exact ret0_i hx hb hr hlk hS h dX3_digitOf_42
      · have h := h.2 hc
        refine lv_iload_n hx hb dX3_digitOf_31 rfl (lv_at hl 0 rfl) ?_
        refine lv_bipush (v := (48 : Int32)) hx hb dX3_digitOf_32 (by decide) ?_
        refine lv_isub hx hb dX3_digitOf_34 ?_
        refine lv_bipush (v := (27 : Int32)) hx hb dX3_digitOf_35 (by decide) ?_
        refine lv_iadd hx hb dX3_digitOf_37 ?_
        refine lv_goto (tgt := 42) hx hb dX3_digitOf_38 (by decide) ?_
        exact ret0_i hx hb hr hlk hS h dX3_digitOf_42
  · have h := h.2 hc
    refine lv_iload_n hx hb dX3_digitOf_6 rfl (lv_at hl 0 rfl) ?_
    refine lv_bipush (v := (90 : Int32)) hx hb dX3_digitOf_7 (by decide) ?_
    refine lv_icmp_gt (tgt := 19) hx hb dX3_digitOf_9 (by decide) (fun hc => ?_) (fun hc => ?_)
    · have h := h.1 hc
      refine lv_iload_n hx hb dX3_digitOf_19 rfl (lv_at hl 0 rfl) ?_
      refine lv_bipush (v := (48 : Int32)) hx hb dX3_digitOf_20 (by decide) ?_
      refine lv_icmp_lt (tgt := 41) hx hb dX3_digitOf_22 (by decide) (fun hc => ?_) (fun hc => ?_)
      · have h := h.1 hc
        refine lv_iconst (v := (0 : Int32)) hx hb dX3_digitOf_41 (by decide) ?_
        exact ret0_i hx hb hr hlk hS h dX3_digitOf_42
      · have h := h.2 hc
        refine lv_iload_n hx hb dX3_digitOf_25 rfl (lv_at hl 0 rfl) ?_
        refine lv_bipush (v := (57 : Int32)) hx hb dX3_digitOf_26 (by decide) ?_
        refine lv_icmp_gt (tgt := 41) hx hb dX3_digitOf_28 (by decide) (fun hc => ?_) (fun hc => ?_)
        · have h := h.1 hc
          refine lv_iconst (v := (0 : Int32)) hx hb dX3_digitOf_41 (by decide) ?_
          exact ret0_i hx hb hr hlk hS h dX3_digitOf_42
        · have h := h.2 hc
          refine lv_iload_n hx hb dX3_digitOf_31 rfl (lv_at hl 0 rfl) ?_
          refine lv_bipush (v := (48 : Int32)) hx hb dX3_digitOf_32 (by decide) ?_
          refine lv_isub hx hb dX3_digitOf_34 ?_
          refine lv_bipush (v := (27 : Int32)) hx hb dX3_digitOf_35 (by decide) ?_
          refine lv_iadd hx hb dX3_digitOf_37 ?_
          refine lv_goto (tgt := 42) hx hb dX3_digitOf_38 (by decide) ?_
          exact ret0_i hx hb hr hlk hS h dX3_digitOf_42
    · have h := h.2 hc
      refine lv_iload_n hx hb dX3_digitOf_12 rfl (lv_at hl 0 rfl) ?_
      refine lv_bipush (v := (65 : Int32)) hx hb dX3_digitOf_13 (by decide) ?_
      refine lv_isub hx hb dX3_digitOf_15 ?_
      refine lv_iconst (v := (1 : Int32)) hx hb dX3_digitOf_16 (by decide) ?_
      refine lv_iadd hx hb dX3_digitOf_17 ?_
      exact ret0_i hx hb hr hlk hS h dX3_digitOf_18
def l_X3_wordOf_2 (N : Nat → Nat) (Q : Int64 → St → Prop) (c1 : Int64) (K : St → Prop) : Nat → Int32 → St → Prop
  | 0, _, _ => False
  | n + 1, x3, u => (((gI u 202) ≤ x3 → K u) ∧ (¬ (gI u 202) ≤ x3 → vp_in x3 150 ∧ ((((gB u 200) (x3).toNatClampNeg) = c1 → Q ((1099511627776 : Int64) + (x3).toInt64) u) ∧ (¬ ((gB u 200) (x3).toNatClampNeg) = c1 → l_X3_wordOf_2 N Q c1 K n (x3 + (1 : Int32)) u))))
def wp_X3_wordOf (N : Nat → Nat) (p0 : Int64) (u : St) (Q : Int64 → St → Prop) : Prop := (∃ k2 : Nat, l_X3_wordOf_2 N Q p0 (fun (u1 : St) => (((gI u1 202) < (150 : Int32) → vp_in (gI u1 202) 150 ∧ Q (((1099511627776 : Int64) + (((gI u1 202) + (1 : Int32))).toInt64) - (1 : Int64)) (sI (sB u1 200 (vp_updL (gB u1 200) ((gI u1 202)).toNatClampNeg p0)) 202 ((gI u1 202) + (1 : Int32)))) ∧ (¬ (gI u1 202) < (150 : Int32) → Q (1099511627776 : Int64) (sI u1 203 (1 : Int32))))) k2 (0 : Int32) u)
abbrev rm_X3_wordOf : Room := { frames := 0, cells := 0, slots := 0, locals := 0 }
set_option maxHeartbeats 4000000 in
set_option maxRecDepth 100000 in
theorem t_X3_wordOf (l : Launch) (D : va_G) (G : Gd) (p0 : Int64) (u : St) (Q : Int64 → St → Prop) (h : wp_X3_wordOf G.2.1 p0 u Q) : MCl l D G yX3_wordOf cX3_wordOf 4 (some .long) rm_X3_wordOf [.ref (G.1 2), .long p0] u Q := by
  refine startC_l (by decide) ?_
  intro p e s m args below meth c E hr hlk hml hP hD hS hA
  have hx := E.1
  have hb := E.2.1
  have hown := E.2.2.1
  have hW := E.2.2.2.1
  have hl := lv_entry ([.ref (G.1 2), .long p0]) (n := 4) (Nat.le_of_ble_eq_true rfl)
  rw [lg_entry_eq]
  generalize (lg_sl ([.ref (G.1 2), .long p0]) ++ List.replicate (4 - (lg_sl ([.ref (G.1 2), .long p0])).length) Slot.unset).toArray = ls at hl ⊢
  have hl : lv_has ls 4 [(0, .ref (G.1 2)), (1, .long p0)] := hl
  have L_2 : ∀ (c1 : Int64) (K : St → Prop), (∀  (u : St) (H : Heap) (locs : List Loc) (ls : Array Slot), K  u → va_P D vwCl (wC G u) H → va_D (AC G s.heap.size) (wC G u) → va_S (AC G s.heap.size) s.heap H locs → lv_has ls 4 [(0, .ref (G.1 2)), (1, .long c1)] → W p l e rm_X3_wordOf s m args below meth c H locs 0 0 (MQ below (va_Ql Q (BC D G s.heap.size) (AC G s.heap.size)) args s 0 0 (AC G s.heap.size)) (F0 m 34 ls [])) → ∀ (n : Nat) (x3 : Int32) (u : St) (H : Heap) (locs : List Loc) (ls : Array Slot), l_X3_wordOf_2 G.2.1 Q c1 K n x3 u → va_P D vwCl (wC G u) H → va_D (AC G s.heap.size) (wC G u) → va_S (AC G s.heap.size) s.heap H locs → lv_has ls 4 [(0, .ref (G.1 2)), (1, .long c1), (3, .int x3)] → W p l e rm_X3_wordOf s m args below meth c H locs 0 0 (MQ below (va_Ql Q (BC D G s.heap.size) (AC G s.heap.size)) args s 0 0 (AC G s.heap.size)) (F0 m 2 ls []) := by
    intro c1 K hK n
    induction n with
    | zero => intro x3 u H locs ls h; exact False.elim h
    | succ n ih =>
      intro x3 u H locs ls h hP hD hS hl
      unfold l_X3_wordOf_2 at h
      refine lv_iload_n hx hb dX3_wordOf_2 rfl (lv_at hl 2 rfl) ?_
      refine lv_aload_n hx hb dX3_wordOf_3 rfl (lv_at hl 0 rfl) ?_
      refine gC_202 E hP kfX3_18 (v := (gI u 202)) rfl dX3_wordOf_4 ?_
      refine lv_icmp_ge (tgt := 34) hx hb dX3_wordOf_7 (by decide) (fun hc => ?_) (fun hc => ?_)
      · have h := h.1 hc
        exact hK u _ _ _ h hP hD hS (lv_sub hl [0, 1] rfl)
      · have h := h.2 hc
        refine lv_aload_n hx hb dX3_wordOf_10 rfl (lv_at hl 0 rfl) ?_
        refine gC_200 E hP kfX3_9 dX3_wordOf_11 ?_
        refine lv_iload_n hx hb dX3_wordOf_14 rfl (lv_at hl 2 rfl) ?_
        obtain ⟨h9, h⟩ := h
        refine xC_200 E hP h9 (v := ((gB u 200) (x3).toNatClampNeg)) rfl dX3_wordOf_15 ?_
        refine lv_lload_n hx hb dX3_wordOf_16 rfl (lv_at hl 1 rfl) ?_
        refine lq_ne (tgt := 28) hx hb dX3_wordOf_17 dX3_wordOf_18 (by decide) (fun hc => ?_) (fun hc => ?_)
        · have h := h.2 hc
          refine lv_iinc (v := (x3 + (1 : Int32))) (lv' := [(3, .int (x3 + (1 : Int32))), (0, .ref (G.1 2)), (1, .long c1)]) hx hb dX3_wordOf_28 hl (k := 2) rfl rfl (by decide) rfl (fun ls hl => ?_)
          refine lv_goto (tgt := 2) hx hb dX3_wordOf_31 (by decide) ?_
          exact ih (x3 + (1 : Int32)) u _ _ _ h hP hD hS (lv_sub hl [1, 2, 0] rfl)
        · have h := h.1 hc
          refine lv_ldc2 (v := (1099511627776 : Int64)) hx hb hown (hW _ kcX3_50) dX3_wordOf_21 ?_
          refine lv_iload_n hx hb dX3_wordOf_24 rfl (lv_at hl 2 rfl) ?_
          refine lv_i2l (v := (x3).toInt64) hx hb dX3_wordOf_25 rfl ?_
          refine lv_ladd hx hb dX3_wordOf_26 ?_
          exact retC_l E hr hlk hP hD hS h dX3_wordOf_27
  unfold wp_X3_wordOf at h
  refine lv_iconst (v := (0 : Int32)) hx hb dX3_wordOf_0 (by decide) ?_
  refine lv_istore_n (lv' := [(3, .int (0 : Int32)), (0, .ref (G.1 2)), (1, .long p0)]) hx hb dX3_wordOf_1 rfl hl (by decide) rfl (fun ls hl => ?_)
  obtain ⟨n, h⟩ := h
  refine L_2 p0 _ (fun u1 H locs ls h hP hD hS hl => ?_) n (0 : Int32) u _ _ _ h hP hD hS (lv_sub hl [1, 2, 0] rfl)
  refine lv_aload_n hx hb dX3_wordOf_34 rfl (lv_at hl 0 rfl) ?_
  refine gC_202 E hP kfX3_18 (v := (gI u1 202)) rfl dX3_wordOf_35 ?_
  refine lv_sipush (v := (150 : Int32)) hx hb dX3_wordOf_38 (by decide) ?_
  refine lv_icmp_lt (tgt := 53) hx hb dX3_wordOf_41 (by decide) (fun hc => ?_) (fun hc => ?_)
  · have h := h.1 hc
    refine lv_aload_n hx hb dX3_wordOf_53 rfl (lv_at hl 0 rfl) ?_
    refine gC_200 E hP kfX3_9 dX3_wordOf_54 ?_
    refine lv_aload_n hx hb dX3_wordOf_57 rfl (lv_at hl 0 rfl) ?_
    refine gC_202 E hP kfX3_18 (v := (gI u1 202)) rfl dX3_wordOf_58 ?_
    refine lv_lload_n hx hb dX3_wordOf_61 rfl (lv_at hl 1 rfl) ?_
    obtain ⟨h9, h⟩ := h
    refine yC_200 E hP hD hS h9 (f := (gB u1 200)) rfl dX3_wordOf_62 (fun H locs hP hD hS => ?_)
    refine lv_aload_n hx hb dX3_wordOf_63 rfl (lv_at hl 0 rfl) ?_
    refine lv_dup hx hb dX3_wordOf_64 rfl ?_
    refine gC_202 E hP kfX3_18 (v := (gI u1 202)) rfl dX3_wordOf_65 ?_
    refine lv_iconst (v := (1 : Int32)) hx hb dX3_wordOf_68 (by decide) ?_
    refine lv_iadd hx hb dX3_wordOf_69 ?_
    refine pC_202 E hP hD hS kfX3_18 dX3_wordOf_70 (fun H locs hP hD hS => ?_)
    refine lv_ldc2 (v := (1099511627776 : Int64)) hx hb hown (hW _ kcX3_50) dX3_wordOf_73 ?_
    refine lv_aload_n hx hb dX3_wordOf_76 rfl (lv_at hl 0 rfl) ?_
    refine gC_202 E hP kfX3_18 (v := ((gI u1 202) + (1 : Int32))) rfl dX3_wordOf_77 ?_
    refine lv_i2l (v := (((gI u1 202) + (1 : Int32))).toInt64) hx hb dX3_wordOf_80 rfl ?_
    refine lv_ladd hx hb dX3_wordOf_81 ?_
    refine lv_lconst (v := (1 : Int64)) hx hb dX3_wordOf_82 (by decide) ?_
    refine lv_lsub hx hb dX3_wordOf_83 ?_
    exact retC_l E hr hlk hP hD hS h dX3_wordOf_84
  · have h := h.2 hc
    refine lv_aload_n hx hb dX3_wordOf_44 rfl (lv_at hl 0 rfl) ?_
    refine lv_iconst (v := (1 : Int32)) hx hb dX3_wordOf_45 (by decide) ?_
    refine pC_203 E hP hD hS kfX3_22 vz_1 dX3_wordOf_46 (fun H locs hP hD hS => ?_)
    refine lv_ldc2 (v := (1099511627776 : Int64)) hx hb hown (hW _ kcX3_50) dX3_wordOf_49 ?_
    exact retC_l E hr hlk hP hD hS h dX3_wordOf_52
def l_X5_takeName_4 (N : Nat → Nat)  (K : Int64 → St → Prop) : Nat → Int32 → Int64 → St → Prop
  | 0, _, _, _ => False
  | n + 1, x1, x2, u => (((12 : Int32) ≤ x1 → K x2 u) ∧ (¬ (12 : Int32) ≤ x1 → wp_X6_at N (gI u 512) u (fun (r1 : Int32) (u2 : St) => wp_X3_digitOf r1 (fun (r3 : Int32) => ((r3 ≤ 0 → K x2 u2) ∧ (¬ r3 ≤ 0 → wp_X6_at N (gI u2 512) u2 (fun (r4 : Int32) (u5 : St) => wp_X3_digitOf r4 (fun (r6 : Int32) => l_X5_takeName_4 N  K n (x1 + (1 : Int32)) ((x2 * (37 : Int64)) + (r6).toInt64) (sI u5 512 ((gI u5 512) + (1 : Int32)))))))))))
def wp_X5_takeName (N : Nat → Nat)  (u : St) (Q : Int32 → St → Prop) : Prop := (∃ k17 : Nat, l_X5_takeName_4 N   (fun (y7 : Int64) (u8 : St) => wp_X6_at N (gI u8 512) u8 (fun (r9 : Int32) (u10 : St) => wp_X3_digitOf r9 (fun (r11 : Int32) => ((r11 ≤ 0 → wp_X5_noteExpression N  u10 (fun (u12 : St) => wp_X3_wordOf N y7 u12 (fun (r13 : Int64) (u14 : St) => wp_X5_keep N r13 u14 (fun (r15 : Int32) (u16 : St) => vz r15 ∧ Q r15 u16)))) ∧ (¬ r11 ≤ 0 → Q (0 : Int32) u10))))) k17 (0 : Int32) (0 : Int64) u)
abbrev rm_X5_takeName : Room := { frames := 2, cells := 0, slots := 0, locals := 40 }
set_option maxHeartbeats 4000000 in
set_option maxRecDepth 100000 in
theorem t_X5_takeName (l : Launch) (D : va_G) (G : Gd)  (u : St) (Q : Int32 → St → Prop) (h : wp_X5_takeName G.2.1  u Q) : MCi l D G yX5_takeName cX5_takeName 4 (some .boolean) rm_X5_takeName [.ref (G.1 5)] u Q := by
  refine startC_i (by decide) ?_
  intro p e s m args below meth c E hr hlk hml hP hD hS hA
  have hx := E.1
  have hb := E.2.1
  have hown := E.2.2.1
  have hW := E.2.2.2.1
  have hl := lv_entry ([.ref (G.1 5)]) (n := 4) (Nat.le_of_ble_eq_true rfl)
  rw [lg_entry_eq]
  generalize (lg_sl ([.ref (G.1 5)]) ++ List.replicate (4 - (lg_sl ([.ref (G.1 5)])).length) Slot.unset).toArray = ls at hl ⊢
  have hl : lv_has ls 4 [(0, .ref (G.1 5))] := hl
  have L_4 : ∀  (K : Int64 → St → Prop), (∀ (x2 : Int64) (u : St) (H : Heap) (locs : List Loc) (ls : Array Slot), K x2 u → va_P D vwCl (wC G u) H → va_D (AC G s.heap.size) (wC G u) → va_S (AC G s.heap.size) s.heap H locs → lv_has ls 4 [(0, .ref (G.1 5)), (2, .long x2)] → W p l e rm_X5_takeName s m args below meth c H locs 0 0 (MQ below (va_Qi Q (BC D G s.heap.size) (AC G s.heap.size)) args s 0 0 (AC G s.heap.size)) (F0 m 65 ls [])) → ∀ (n : Nat) (x1 : Int32) (x2 : Int64) (u : St) (H : Heap) (locs : List Loc) (ls : Array Slot), l_X5_takeName_4 G.2.1  K n x1 x2 u → va_P D vwCl (wC G u) H → va_D (AC G s.heap.size) (wC G u) → va_S (AC G s.heap.size) s.heap H locs → lv_has ls 4 [(0, .ref (G.1 5)), (1, .int x1), (2, .long x2)] → W p l e rm_X5_takeName s m args below meth c H locs 0 0 (MQ below (va_Qi Q (BC D G s.heap.size) (AC G s.heap.size)) args s 0 0 (AC G s.heap.size)) (F0 m 4 ls []) := by
    intro  K hK n
    induction n with
    | zero => intro x1 x2 u H locs ls h; exact False.elim h
    | succ n ih =>
      intro x1 x2 u H locs ls h hP hD hS hl
      unfold l_X5_takeName_4 at h
      refine lv_iload_n hx hb dX5_takeName_4 rfl (lv_at hl 1 rfl) ?_
      refine lv_bipush (v := (12 : Int32)) hx hb dX5_takeName_5 (by decide) ?_
      refine lv_icmp_ge (tgt := 65) hx hb dX5_takeName_7 (by decide) (fun hc => ?_) (fun hc => ?_)
      · have h := h.1 hc
        exact hK x2 u _ _ _ h hP hD hS (lv_sub hl [0, 2] rfl)
      · have h := h.2 hc
        refine lv_aload_n hx hb dX5_takeName_10 rfl (lv_at hl 0 rfl) ?_
        refine gC_500 E hP kfX5_47 dX5_takeName_11 ?_
        refine lv_aload_n hx hb dX5_takeName_14 rfl (lv_at hl 0 rfl) ?_
        refine gC_512 E hP kfX5_38 (v := (gI u 512)) rfl dX5_takeName_15 ?_
        refine cC_i (ci := 6) (q0 := 1) (As := [.int (gI u 512)]) (rest := []) E hml hP hD hS hA (t_X6_at l D G (gI u 512) u _ h) kmX5_100 mwyX6_at rfl rfl ⟨⟨rfl, rfl⟩, Nat.le_of_ble_eq_true rfl, Nat.le_of_ble_eq_true rfl⟩ rfl hl.1 rfl (Nat.le_of_ble_eq_true rfl) dX5_takeName_18 ⟨Nat.zero_le _, Nat.zero_le _⟩ (fun r1 u2 H locs hP hD hS h => ?_)
        refine c0_i (As := [.int r1]) (rest := []) hx hb hml hown hW hP hS hA (t_X3_digitOf l r1 _ h) kmX5_126 mwyX3_digitOf ⟨⟨rfl, rfl⟩, Nat.le_of_ble_eq_true rfl, Nat.le_of_ble_eq_true rfl⟩ rfl hl.1 rfl (Nat.le_of_ble_eq_true rfl) dX5_takeName_21 ⟨Nat.zero_le _, Nat.zero_le _⟩ (fun r3 H locs hP hS h => ?_)
        refine lv_if_le (tgt := 65) hx hb dX5_takeName_24 (by decide) (fun hc => ?_) (fun hc => ?_)
        · have h := h.1 hc
          exact hK x2 u2 _ _ _ h hP hD hS (lv_sub hl [0, 2] rfl)
        · have h := h.2 hc
          refine lv_lload_n hx hb dX5_takeName_27 rfl (lv_at hl 2 rfl) ?_
          refine lv_ldc2 (v := (37 : Int64)) hx hb hown (hW _ kcX5_145) dX5_takeName_28 ?_
          refine lv_lmul hx hb dX5_takeName_31 ?_
          refine lv_aload_n hx hb dX5_takeName_32 rfl (lv_at hl 0 rfl) ?_
          refine gC_500 E hP kfX5_47 dX5_takeName_33 ?_
          refine lv_aload_n hx hb dX5_takeName_36 rfl (lv_at hl 0 rfl) ?_
          refine gC_512 E hP kfX5_38 (v := (gI u2 512)) rfl dX5_takeName_37 ?_
          refine cC_i (ci := 6) (q0 := 1) (As := [.int (gI u2 512)]) (rest := [.long (x2 * (37 : Int64))]) E hml hP hD hS hA (t_X6_at l D G (gI u2 512) u2 _ h) kmX5_100 mwyX6_at rfl rfl ⟨⟨rfl, rfl⟩, Nat.le_of_ble_eq_true rfl, Nat.le_of_ble_eq_true rfl⟩ rfl hl.1 rfl (Nat.le_of_ble_eq_true rfl) dX5_takeName_40 ⟨Nat.zero_le _, Nat.zero_le _⟩ (fun r4 u5 H locs hP hD hS h => ?_)
          refine c0_i (As := [.int r4]) (rest := [.long (x2 * (37 : Int64))]) hx hb hml hown hW hP hS hA (t_X3_digitOf l r4 _ h) kmX5_126 mwyX3_digitOf ⟨⟨rfl, rfl⟩, Nat.le_of_ble_eq_true rfl, Nat.le_of_ble_eq_true rfl⟩ rfl hl.1 rfl (Nat.le_of_ble_eq_true rfl) dX5_takeName_43 ⟨Nat.zero_le _, Nat.zero_le _⟩ (fun r6 H locs hP hS h => ?_)
          refine lv_i2l (v := (r6).toInt64) hx hb dX5_takeName_46 rfl ?_
          refine lv_ladd hx hb dX5_takeName_47 ?_
          refine lv_lstore_n (lv' := [(2, .long ((x2 * (37 : Int64)) + (r6).toInt64)), (0, .ref (G.1 5)), (1, .int x1)]) hx hb dX5_takeName_48 rfl hl (by decide) rfl (fun ls hl => ?_)
          refine lv_iinc (v := (x1 + (1 : Int32))) (lv' := [(1, .int (x1 + (1 : Int32))), (2, .long ((x2 * (37 : Int64)) + (r6).toInt64)), (0, .ref (G.1 5))]) hx hb dX5_takeName_49 hl (k := 2) rfl rfl (by decide) rfl (fun ls hl => ?_)
          refine lv_aload_n hx hb dX5_takeName_52 rfl (lv_at hl 2 rfl) ?_
          refine lv_dup hx hb dX5_takeName_53 rfl ?_
          refine gC_512 E hP kfX5_38 (v := (gI u5 512)) rfl dX5_takeName_54 ?_
          refine lv_iconst (v := (1 : Int32)) hx hb dX5_takeName_57 (by decide) ?_
          refine lv_iadd hx hb dX5_takeName_58 ?_
          refine pC_512 E hP hD hS kfX5_38 dX5_takeName_59 (fun H locs hP hD hS => ?_)
          refine lv_goto (tgt := 4) hx hb dX5_takeName_62 (by decide) ?_
          exact ih (x1 + (1 : Int32)) ((x2 * (37 : Int64)) + (r6).toInt64) (sI u5 512 ((gI u5 512) + (1 : Int32))) _ _ _ h hP hD hS (lv_sub hl [2, 0, 1] rfl)
  unfold wp_X5_takeName at h
  refine lv_iconst (v := (0 : Int32)) hx hb dX5_takeName_0 (by decide) ?_
  refine lv_istore_n (lv' := [(1, .int (0 : Int32)), (0, .ref (G.1 5))]) hx hb dX5_takeName_1 rfl hl (by decide) rfl (fun ls hl => ?_)
  refine lv_lconst (v := (0 : Int64)) hx hb dX5_takeName_2 (by decide) ?_
  refine lv_lstore_n (lv' := [(2, .long (0 : Int64)), (1, .int (0 : Int32)), (0, .ref (G.1 5))]) hx hb dX5_takeName_3 rfl hl (by decide) rfl (fun ls hl => ?_)
  obtain ⟨n, h⟩ := h
  refine L_4  _ (fun y7 u8 H locs ls h hP hD hS hl => ?_) n (0 : Int32) (0 : Int64) u _ _ _ h hP hD hS (lv_sub hl [2, 1, 0] rfl)
  refine lv_aload_n hx hb dX5_takeName_65 rfl (lv_at hl 0 rfl) ?_
  refine gC_500 E hP kfX5_47 dX5_takeName_66 ?_
  refine lv_aload_n hx hb dX5_takeName_69 rfl (lv_at hl 0 rfl) ?_
  refine gC_512 E hP kfX5_38 (v := (gI u8 512)) rfl dX5_takeName_70 ?_
  refine cC_i (ci := 6) (q0 := 1) (As := [.int (gI u8 512)]) (rest := []) E hml hP hD hS hA (t_X6_at l D G (gI u8 512) u8 _ h) kmX5_100 mwyX6_at rfl rfl ⟨⟨rfl, rfl⟩, Nat.le_of_ble_eq_true rfl, Nat.le_of_ble_eq_true rfl⟩ rfl hl.1 rfl (Nat.le_of_ble_eq_true rfl) dX5_takeName_73 ⟨Nat.zero_le _, Nat.zero_le _⟩ (fun r9 u10 H locs hP hD hS h => ?_)
  refine c0_i (As := [.int r9]) (rest := []) hx hb hml hown hW hP hS hA (t_X3_digitOf l r9 _ h) kmX5_126 mwyX3_digitOf ⟨⟨rfl, rfl⟩, Nat.le_of_ble_eq_true rfl, Nat.le_of_ble_eq_true rfl⟩ rfl hl.1 rfl (Nat.le_of_ble_eq_true rfl) dX5_takeName_76 ⟨Nat.zero_le _, Nat.zero_le _⟩ (fun r11 H locs hP hS h => ?_)
  refine lv_if_le (tgt := 84) hx hb dX5_takeName_79 (by decide) (fun hc => ?_) (fun hc => ?_)
  · have h := h.1 hc
    refine lv_aload_n hx hb dX5_takeName_84 rfl (lv_at hl 0 rfl) ?_
    refine cC_v (ci := 5) (q0 := 5) (As := []) (rest := []) E hml hP hD hS hA (t_X5_noteExpression l D G  u10 _ h) kmX5_138 mwyX5_noteExpression rfl rfl ⟨⟨rfl, rfl⟩, Nat.le_of_ble_eq_true rfl, Nat.le_of_ble_eq_true rfl⟩ rfl hl.1 rfl (Nat.le_of_ble_eq_true rfl) dX5_takeName_85 ⟨Nat.zero_le _, Nat.zero_le _⟩ (fun u12 H locs hP hD hS h => ?_)
    refine lv_aload_n hx hb dX5_takeName_88 rfl (lv_at hl 0 rfl) ?_
    refine lv_aload_n hx hb dX5_takeName_89 rfl (lv_at hl 0 rfl) ?_
    refine gC_501 E hP kfX5_51 dX5_takeName_90 ?_
    refine lv_lload_n hx hb dX5_takeName_93 rfl (lv_at hl 1 rfl) ?_
    refine cC_l (ci := 3) (q0 := 2) (As := [.long y7]) (rest := [.ref (G.1 5)]) E hml hP hD hS hA (t_X3_wordOf l D G y7 u12 _ h) kmX5_147 mwyX3_wordOf rfl rfl ⟨⟨rfl, rfl⟩, Nat.le_of_ble_eq_true rfl, Nat.le_of_ble_eq_true rfl⟩ rfl hl.1 rfl (Nat.le_of_ble_eq_true rfl) dX5_takeName_94 ⟨Nat.zero_le _, Nat.zero_le _⟩ (fun r13 u14 H locs hP hD hS h => ?_)
    refine cC_i (ci := 5) (q0 := 5) (As := [.long r13]) (rest := []) E hml hP hD hS hA (t_X5_keep l D G r13 u14 _ h) kmX5_134 mwyX5_keep rfl rfl ⟨⟨rfl, rfl⟩, Nat.le_of_ble_eq_true rfl, Nat.le_of_ble_eq_true rfl⟩ rfl hl.1 rfl (Nat.le_of_ble_eq_true rfl) dX5_takeName_97 ⟨Nat.zero_le _, Nat.zero_le _⟩ (fun r15 u16 H locs hP hD hS h => ?_)
    exact retC_z E hr hlk hP hD hS (vz_n h.1) h.2 dX5_takeName_100
  · have h := h.2 hc
    refine lv_iconst (v := (0 : Int32)) hx hb dX5_takeName_82 (by decide) ?_
    exact retC_z E hr hlk hP hD hS (vz_n vz_0) h dX5_takeName_83
def wp_X5_takeOpen (N : Nat → Nat)  (u : St) (Q : Int32 → St → Prop) : Prop := (((gI u 510) < (60 : Int32) → vp_in (gI u 510) 60 ∧ wp_X5_keep N (3298534883328 : Int64) (sI (sI (sA u 505 (upd (gA u 505) ((gI u 510)).toNatClampNeg (0 : Int32))) 510 ((gI u 510) + (1 : Int32))) 512 ((gI u 512) + (1 : Int32))) (fun (r1 : Int32) (u2 : St) => vz r1 ∧ Q r1 u2)) ∧ (¬ (gI u 510) < (60 : Int32) → Q (0 : Int32) u))
abbrev rm_X5_takeOpen : Room := { frames := 1, cells := 0, slots := 0, locals := 22 }
set_option maxHeartbeats 4000000 in
set_option maxRecDepth 100000 in
theorem t_X5_takeOpen (l : Launch) (D : va_G) (G : Gd)  (u : St) (Q : Int32 → St → Prop) (h : wp_X5_takeOpen G.2.1  u Q) : MCi l D G yX5_takeOpen cX5_takeOpen 1 (some .boolean) rm_X5_takeOpen [.ref (G.1 5)] u Q := by
  refine startC_i (by decide) ?_
  intro p e s m args below meth c E hr hlk hml hP hD hS hA
  have hx := E.1
  have hb := E.2.1
  have hown := E.2.2.1
  have hW := E.2.2.2.1
  have hl := lv_entry ([.ref (G.1 5)]) (n := 1) (Nat.le_of_ble_eq_true rfl)
  rw [lg_entry_eq]
  generalize (lg_sl ([.ref (G.1 5)]) ++ List.replicate (1 - (lg_sl ([.ref (G.1 5)])).length) Slot.unset).toArray = ls at hl ⊢
  have hl : lv_has ls 1 [(0, .ref (G.1 5))] := hl
  unfold wp_X5_takeOpen at h
  refine lv_aload_n hx hb dX5_takeOpen_0 rfl (lv_at hl 0 rfl) ?_
  refine gC_510 E hP kfX5_32 (v := (gI u 510)) rfl dX5_takeOpen_1 ?_
  refine lv_bipush (v := (60 : Int32)) hx hb dX5_takeOpen_4 (by decide) ?_
  refine lv_icmp_lt (tgt := 11) hx hb dX5_takeOpen_6 (by decide) (fun hc => ?_) (fun hc => ?_)
  · have h := h.1 hc
    refine lv_aload_n hx hb dX5_takeOpen_11 rfl (lv_at hl 0 rfl) ?_
    refine gC_505 E hP kfX5_15 dX5_takeOpen_12 ?_
    refine lv_aload_n hx hb dX5_takeOpen_15 rfl (lv_at hl 0 rfl) ?_
    refine gC_510 E hP kfX5_32 (v := (gI u 510)) rfl dX5_takeOpen_16 ?_
    refine lv_iconst (v := (0 : Int32)) hx hb dX5_takeOpen_19 (by decide) ?_
    obtain ⟨h9, h⟩ := h
    refine yC_505 E hP hD hS h9 (f := (gA u 505)) rfl dX5_takeOpen_20 (fun H locs hP hD hS => ?_)
    refine lv_aload_n hx hb dX5_takeOpen_21 rfl (lv_at hl 0 rfl) ?_
    refine lv_dup hx hb dX5_takeOpen_22 rfl ?_
    refine gC_510 E hP kfX5_32 (v := (gI u 510)) rfl dX5_takeOpen_23 ?_
    refine lv_iconst (v := (1 : Int32)) hx hb dX5_takeOpen_26 (by decide) ?_
    refine lv_iadd hx hb dX5_takeOpen_27 ?_
    refine pC_510 E hP hD hS kfX5_32 dX5_takeOpen_28 (fun H locs hP hD hS => ?_)
    refine lv_aload_n hx hb dX5_takeOpen_31 rfl (lv_at hl 0 rfl) ?_
    refine lv_dup hx hb dX5_takeOpen_32 rfl ?_
    refine gC_512 E hP kfX5_38 (v := (gI u 512)) rfl dX5_takeOpen_33 ?_
    refine lv_iconst (v := (1 : Int32)) hx hb dX5_takeOpen_36 (by decide) ?_
    refine lv_iadd hx hb dX5_takeOpen_37 ?_
    refine pC_512 E hP hD hS kfX5_38 dX5_takeOpen_38 (fun H locs hP hD hS => ?_)
    refine lv_aload_n hx hb dX5_takeOpen_41 rfl (lv_at hl 0 rfl) ?_
    refine lv_ldc2 (v := (3298534883328 : Int64)) hx hb hown (hW _ kcX5_132) dX5_takeOpen_42 ?_
    refine cC_i (ci := 5) (q0 := 5) (As := [.long (3298534883328 : Int64)]) (rest := []) E hml hP hD hS hA (t_X5_keep l D G (3298534883328 : Int64) (sI (sI (sA u 505 (upd (gA u 505) ((gI u 510)).toNatClampNeg (0 : Int32))) 510 ((gI u 510) + (1 : Int32))) 512 ((gI u 512) + (1 : Int32))) _ h) kmX5_134 mwyX5_keep rfl rfl ⟨⟨rfl, rfl⟩, Nat.le_of_ble_eq_true rfl, Nat.le_of_ble_eq_true rfl⟩ rfl hl.1 rfl (Nat.le_of_ble_eq_true rfl) dX5_takeOpen_45 ⟨Nat.zero_le _, Nat.zero_le _⟩ (fun r1 u2 H locs hP hD hS h => ?_)
    exact retC_z E hr hlk hP hD hS (vz_n h.1) h.2 dX5_takeOpen_48
  · have h := h.2 hc
    refine lv_iconst (v := (0 : Int32)) hx hb dX5_takeOpen_9 (by decide) ?_
    exact retC_z E hr hlk hP hD hS (vz_n vz_0) h dX5_takeOpen_10
def wp_X5_takeDot (N : Nat → Nat)  (u : St) (Q : Int32 → St → Prop) : Prop := (((gI u 510) = 0 → Q (0 : Int32) u) ∧ (¬ (gI u 510) = 0 → wp_X5_state N  u (fun (r1 : Int32) (u2 : St) => ((r1 = (1 : Int32) → vp_in ((gI u2 510) - (1 : Int32)) 60 ∧ wp_X5_keep N (3298534883330 : Int64) (sI (sA u2 505 (upd (gA u2 505) (((gI u2 510) - (1 : Int32))).toNatClampNeg (2 : Int32))) 512 ((gI u2 512) + (1 : Int32))) (fun (r3 : Int32) (u4 : St) => vz r3 ∧ Q r3 u4)) ∧ (¬ r1 = (1 : Int32) → Q (0 : Int32) u2)))))
abbrev rm_X5_takeDot : Room := { frames := 1, cells := 0, slots := 0, locals := 22 }
set_option maxHeartbeats 4000000 in
set_option maxRecDepth 100000 in
theorem t_X5_takeDot (l : Launch) (D : va_G) (G : Gd)  (u : St) (Q : Int32 → St → Prop) (h : wp_X5_takeDot G.2.1  u Q) : MCi l D G yX5_takeDot cX5_takeDot 1 (some .boolean) rm_X5_takeDot [.ref (G.1 5)] u Q := by
  refine startC_i (by decide) ?_
  intro p e s m args below meth c E hr hlk hml hP hD hS hA
  have hx := E.1
  have hb := E.2.1
  have hown := E.2.2.1
  have hW := E.2.2.2.1
  have hl := lv_entry ([.ref (G.1 5)]) (n := 1) (Nat.le_of_ble_eq_true rfl)
  rw [lg_entry_eq]
  generalize (lg_sl ([.ref (G.1 5)]) ++ List.replicate (1 - (lg_sl ([.ref (G.1 5)])).length) Slot.unset).toArray = ls at hl ⊢
  have hl : lv_has ls 1 [(0, .ref (G.1 5))] := hl
  unfold wp_X5_takeDot at h
  refine lv_aload_n hx hb dX5_takeDot_0 rfl (lv_at hl 0 rfl) ?_
  refine gC_510 E hP kfX5_32 (v := (gI u 510)) rfl dX5_takeDot_1 ?_
  refine lv_if_eq (tgt := 15) hx hb dX5_takeDot_4 (by decide) (fun hc => ?_) (fun hc => ?_)
  · have h := h.1 hc
    refine lv_iconst (v := (0 : Int32)) hx hb dX5_takeDot_15 (by decide) ?_
    exact retC_z E hr hlk hP hD hS (vz_n vz_0) h dX5_takeDot_16
  · have h := h.2 hc
    refine lv_aload_n hx hb dX5_takeDot_7 rfl (lv_at hl 0 rfl) ?_
    refine cC_i (ci := 5) (q0 := 5) (As := []) (rest := []) E hml hP hD hS hA (t_X5_state l D G  u _ h) kmX5_112 mwyX5_state rfl rfl ⟨⟨rfl, rfl⟩, Nat.le_of_ble_eq_true rfl, Nat.le_of_ble_eq_true rfl⟩ rfl hl.1 rfl (Nat.le_of_ble_eq_true rfl) dX5_takeDot_8 ⟨Nat.zero_le _, Nat.zero_le _⟩ (fun r1 u2 H locs hP hD hS h => ?_)
    refine lv_iconst (v := (1 : Int32)) hx hb dX5_takeDot_11 (by decide) ?_
    refine lv_icmp_eq (tgt := 17) hx hb dX5_takeDot_12 (by decide) (fun hc => ?_) (fun hc => ?_)
    · have h := h.1 hc
      refine lv_aload_n hx hb dX5_takeDot_17 rfl (lv_at hl 0 rfl) ?_
      refine gC_505 E hP kfX5_15 dX5_takeDot_18 ?_
      refine lv_aload_n hx hb dX5_takeDot_21 rfl (lv_at hl 0 rfl) ?_
      refine gC_510 E hP kfX5_32 (v := (gI u2 510)) rfl dX5_takeDot_22 ?_
      refine lv_iconst (v := (1 : Int32)) hx hb dX5_takeDot_25 (by decide) ?_
      refine lv_isub hx hb dX5_takeDot_26 ?_
      refine lv_iconst (v := (2 : Int32)) hx hb dX5_takeDot_27 (by decide) ?_
      obtain ⟨h9, h⟩ := h
      refine yC_505 E hP hD hS h9 (f := (gA u2 505)) rfl dX5_takeDot_28 (fun H locs hP hD hS => ?_)
      refine lv_aload_n hx hb dX5_takeDot_29 rfl (lv_at hl 0 rfl) ?_
      refine lv_dup hx hb dX5_takeDot_30 rfl ?_
      refine gC_512 E hP kfX5_38 (v := (gI u2 512)) rfl dX5_takeDot_31 ?_
      refine lv_iconst (v := (1 : Int32)) hx hb dX5_takeDot_34 (by decide) ?_
      refine lv_iadd hx hb dX5_takeDot_35 ?_
      refine pC_512 E hP hD hS kfX5_38 dX5_takeDot_36 (fun H locs hP hD hS => ?_)
      refine lv_aload_n hx hb dX5_takeDot_39 rfl (lv_at hl 0 rfl) ?_
      refine lv_ldc2 (v := (3298534883330 : Int64)) hx hb hown (hW _ kcX5_143) dX5_takeDot_40 ?_
      refine cC_i (ci := 5) (q0 := 5) (As := [.long (3298534883330 : Int64)]) (rest := []) E hml hP hD hS hA (t_X5_keep l D G (3298534883330 : Int64) (sI (sA u2 505 (upd (gA u2 505) (((gI u2 510) - (1 : Int32))).toNatClampNeg (2 : Int32))) 512 ((gI u2 512) + (1 : Int32))) _ h) kmX5_134 mwyX5_keep rfl rfl ⟨⟨rfl, rfl⟩, Nat.le_of_ble_eq_true rfl, Nat.le_of_ble_eq_true rfl⟩ rfl hl.1 rfl (Nat.le_of_ble_eq_true rfl) dX5_takeDot_43 ⟨Nat.zero_le _, Nat.zero_le _⟩ (fun r3 u4 H locs hP hD hS h => ?_)
      exact retC_z E hr hlk hP hD hS (vz_n h.1) h.2 dX5_takeDot_46
    · have h := h.2 hc
      refine lv_iconst (v := (0 : Int32)) hx hb dX5_takeDot_15 (by decide) ?_
      exact retC_z E hr hlk hP hD hS (vz_n vz_0) h dX5_takeDot_16
def wp_X5_takeClose (N : Nat → Nat)  (u : St) (Q : Int32 → St → Prop) : Prop := (((gI u 510) = 0 → Q (0 : Int32) u) ∧ (¬ (gI u 510) = 0 → wp_X5_state N  u (fun (r1 : Int32) (u2 : St) => ((r1 = (2 : Int32) → Q (0 : Int32) u2) ∧ (¬ r1 = (2 : Int32) → wp_X5_noteExpression N  (sI (sI u2 510 ((gI u2 510) - (1 : Int32))) 512 ((gI u2 512) + (1 : Int32))) (fun (u3 : St) => wp_X5_keep N (3298534883329 : Int64) u3 (fun (r4 : Int32) (u5 : St) => vz r4 ∧ Q r4 u5)))))))
abbrev rm_X5_takeClose : Room := { frames := 2, cells := 0, slots := 0, locals := 40 }
set_option maxHeartbeats 4000000 in
set_option maxRecDepth 100000 in
theorem t_X5_takeClose (l : Launch) (D : va_G) (G : Gd)  (u : St) (Q : Int32 → St → Prop) (h : wp_X5_takeClose G.2.1  u Q) : MCi l D G yX5_takeClose cX5_takeClose 1 (some .boolean) rm_X5_takeClose [.ref (G.1 5)] u Q := by
  refine startC_i (by decide) ?_
  intro p e s m args below meth c E hr hlk hml hP hD hS hA
  have hx := E.1
  have hb := E.2.1
  have hown := E.2.2.1
  have hW := E.2.2.2.1
  have hl := lv_entry ([.ref (G.1 5)]) (n := 1) (Nat.le_of_ble_eq_true rfl)
  rw [lg_entry_eq]
  generalize (lg_sl ([.ref (G.1 5)]) ++ List.replicate (1 - (lg_sl ([.ref (G.1 5)])).length) Slot.unset).toArray = ls at hl ⊢
  have hl : lv_has ls 1 [(0, .ref (G.1 5))] := hl
  unfold wp_X5_takeClose at h
  refine lv_aload_n hx hb dX5_takeClose_0 rfl (lv_at hl 0 rfl) ?_
  refine gC_510 E hP kfX5_32 (v := (gI u 510)) rfl dX5_takeClose_1 ?_
  refine lv_if_eq (tgt := 15) hx hb dX5_takeClose_4 (by decide) (fun hc => ?_) (fun hc => ?_)
  · have h := h.1 hc
    refine lv_iconst (v := (0 : Int32)) hx hb dX5_takeClose_15 (by decide) ?_
    exact retC_z E hr hlk hP hD hS (vz_n vz_0) h dX5_takeClose_16
  · have h := h.2 hc
    refine lv_aload_n hx hb dX5_takeClose_7 rfl (lv_at hl 0 rfl) ?_
    refine cC_i (ci := 5) (q0 := 5) (As := []) (rest := []) E hml hP hD hS hA (t_X5_state l D G  u _ h) kmX5_112 mwyX5_state rfl rfl ⟨⟨rfl, rfl⟩, Nat.le_of_ble_eq_true rfl, Nat.le_of_ble_eq_true rfl⟩ rfl hl.1 rfl (Nat.le_of_ble_eq_true rfl) dX5_takeClose_8 ⟨Nat.zero_le _, Nat.zero_le _⟩ (fun r1 u2 H locs hP hD hS h => ?_)
    refine lv_iconst (v := (2 : Int32)) hx hb dX5_takeClose_11 (by decide) ?_
    refine lv_icmp_ne (tgt := 17) hx hb dX5_takeClose_12 (by decide) (fun hc => ?_) (fun hc => ?_)
    · have h := h.2 hc
      refine lv_aload_n hx hb dX5_takeClose_17 rfl (lv_at hl 0 rfl) ?_
      refine lv_dup hx hb dX5_takeClose_18 rfl ?_
      refine gC_510 E hP kfX5_32 (v := (gI u2 510)) rfl dX5_takeClose_19 ?_
      refine lv_iconst (v := (1 : Int32)) hx hb dX5_takeClose_22 (by decide) ?_
      refine lv_isub hx hb dX5_takeClose_23 ?_
      refine pC_510 E hP hD hS kfX5_32 dX5_takeClose_24 (fun H locs hP hD hS => ?_)
      refine lv_aload_n hx hb dX5_takeClose_27 rfl (lv_at hl 0 rfl) ?_
      refine lv_dup hx hb dX5_takeClose_28 rfl ?_
      refine gC_512 E hP kfX5_38 (v := (gI u2 512)) rfl dX5_takeClose_29 ?_
      refine lv_iconst (v := (1 : Int32)) hx hb dX5_takeClose_32 (by decide) ?_
      refine lv_iadd hx hb dX5_takeClose_33 ?_
      refine pC_512 E hP hD hS kfX5_38 dX5_takeClose_34 (fun H locs hP hD hS => ?_)
      refine lv_aload_n hx hb dX5_takeClose_37 rfl (lv_at hl 0 rfl) ?_
      refine cC_v (ci := 5) (q0 := 5) (As := []) (rest := []) E hml hP hD hS hA (t_X5_noteExpression l D G  (sI (sI u2 510 ((gI u2 510) - (1 : Int32))) 512 ((gI u2 512) + (1 : Int32))) _ h) kmX5_138 mwyX5_noteExpression rfl rfl ⟨⟨rfl, rfl⟩, Nat.le_of_ble_eq_true rfl, Nat.le_of_ble_eq_true rfl⟩ rfl hl.1 rfl (Nat.le_of_ble_eq_true rfl) dX5_takeClose_38 ⟨Nat.zero_le _, Nat.zero_le _⟩ (fun u3 H locs hP hD hS h => ?_)
      refine lv_aload_n hx hb dX5_takeClose_41 rfl (lv_at hl 0 rfl) ?_
      refine lv_ldc2 (v := (3298534883329 : Int64)) hx hb hown (hW _ kcX5_141) dX5_takeClose_42 ?_
      refine cC_i (ci := 5) (q0 := 5) (As := [.long (3298534883329 : Int64)]) (rest := []) E hml hP hD hS hA (t_X5_keep l D G (3298534883329 : Int64) u3 _ h) kmX5_134 mwyX5_keep rfl rfl ⟨⟨rfl, rfl⟩, Nat.le_of_ble_eq_true rfl, Nat.le_of_ble_eq_true rfl⟩ rfl hl.1 rfl (Nat.le_of_ble_eq_true rfl) dX5_takeClose_45 ⟨Nat.zero_le _, Nat.zero_le _⟩ (fun r4 u5 H locs hP hD hS h => ?_)
      exact retC_z E hr hlk hP hD hS (vz_n h.1) h.2 dX5_takeClose_48
    · have h := h.1 hc
      refine lv_iconst (v := (0 : Int32)) hx hb dX5_takeClose_15 (by decide) ?_
      exact retC_z E hr hlk hP hD hS (vz_n vz_0) h dX5_takeClose_16
def wp_X5_takeToken (N : Nat → Nat) (p0 : Int32) (u : St) (Q : Int32 → St → Prop) : Prop := ((p0 = (41 : Int32) → wp_X5_takeClose N  u (fun (r19 : Int32) (u20 : St) => vz r19 ∧ Q r19 u20)) ∧ (¬ p0 = (41 : Int32) → ((p0 = (46 : Int32) → wp_X5_takeDot N  u (fun (r17 : Int32) (u18 : St) => vz r17 ∧ Q r17 u18)) ∧ (¬ p0 = (46 : Int32) → wp_X5_state N  u (fun (r1 : Int32) (u2 : St) => ((r1 = (3 : Int32) → Q (0 : Int32) u2) ∧ (¬ r1 = (3 : Int32) → ((p0 = (40 : Int32) → wp_X5_takeOpen N  u2 (fun (r15 : Int32) (u16 : St) => vz r15 ∧ Q r15 u16)) ∧ (¬ p0 = (40 : Int32) → ((p0 = (45 : Int32) → ((p0 = (45 : Int32) → wp_X5_takeNumber N (1 : Int32) u2 (fun (r5 : Int32) (u6 : St) => vz r5 ∧ Q r5 u6)) ∧ (¬ p0 = (45 : Int32) → wp_X5_takeNumber N (0 : Int32) u2 (fun (r3 : Int32) (u4 : St) => vz r3 ∧ Q r3 u4)))) ∧ (¬ p0 = (45 : Int32) → wp_X5_isDigit p0 (fun (r7 : Int32) => ((r7 = 0 → wp_X3_digitOf p0 (fun (r8 : Int32) => ((r8 ≤ 0 → Q (0 : Int32) u2) ∧ (¬ r8 ≤ 0 → wp_X5_takeName N  u2 (fun (r9 : Int32) (u10 : St) => ((r9 = 0 → Q (0 : Int32) u10) ∧ (¬ r9 = 0 → Q (1 : Int32) u10))))))) ∧ (¬ r7 = 0 → ((p0 = (45 : Int32) → wp_X5_takeNumber N (1 : Int32) u2 (fun (r13 : Int32) (u14 : St) => vz r13 ∧ Q r13 u14)) ∧ (¬ p0 = (45 : Int32) → wp_X5_takeNumber N (0 : Int32) u2 (fun (r11 : Int32) (u12 : St) => vz r11 ∧ Q r11 u12)))))))))))))))))
abbrev rm_X5_takeToken : Room := { frames := 3, cells := 0, slots := 0, locals := 63 }
set_option maxHeartbeats 4000000 in
set_option maxRecDepth 100000 in
theorem t_X5_takeToken (l : Launch) (D : va_G) (G : Gd) (p0 : Int32) (u : St) (Q : Int32 → St → Prop) (h : wp_X5_takeToken G.2.1 p0 u Q) : MCi l D G yX5_takeToken cX5_takeToken 2 (some .boolean) rm_X5_takeToken [.ref (G.1 5), .int p0] u Q := by
  refine startC_i (by decide) ?_
  intro p e s m args below meth c E hr hlk hml hP hD hS hA
  have hx := E.1
  have hb := E.2.1
  have hown := E.2.2.1
  have hW := E.2.2.2.1
  have hl := lv_entry ([.ref (G.1 5), .int p0]) (n := 2) (Nat.le_of_ble_eq_true rfl)
  rw [lg_entry_eq]
  generalize (lg_sl ([.ref (G.1 5), .int p0]) ++ List.replicate (2 - (lg_sl ([.ref (G.1 5), .int p0])).length) Slot.unset).toArray = ls at hl ⊢
  have hl : lv_has ls 2 [(0, .ref (G.1 5)), (1, .int p0)] := hl
  unfold wp_X5_takeToken at h
  refine lv_iload_n hx hb dX5_takeToken_0 rfl (lv_at hl 1 rfl) ?_
  refine lv_bipush (v := (41 : Int32)) hx hb dX5_takeToken_1 (by decide) ?_
  refine lv_icmp_ne (tgt := 11) hx hb dX5_takeToken_3 (by decide) (fun hc => ?_) (fun hc => ?_)
  · have h := h.2 hc
    refine lv_iload_n hx hb dX5_takeToken_11 rfl (lv_at hl 1 rfl) ?_
    refine lv_bipush (v := (46 : Int32)) hx hb dX5_takeToken_12 (by decide) ?_
    refine lv_icmp_ne (tgt := 22) hx hb dX5_takeToken_14 (by decide) (fun hc => ?_) (fun hc => ?_)
    · have h := h.2 hc
      refine lv_aload_n hx hb dX5_takeToken_22 rfl (lv_at hl 0 rfl) ?_
      refine cC_i (ci := 5) (q0 := 5) (As := []) (rest := []) E hml hP hD hS hA (t_X5_state l D G  u _ h) kmX5_112 mwyX5_state rfl rfl ⟨⟨rfl, rfl⟩, Nat.le_of_ble_eq_true rfl, Nat.le_of_ble_eq_true rfl⟩ rfl hl.1 rfl (Nat.le_of_ble_eq_true rfl) dX5_takeToken_23 ⟨Nat.zero_le _, Nat.zero_le _⟩ (fun r1 u2 H locs hP hD hS h => ?_)
      refine lv_iconst (v := (3 : Int32)) hx hb dX5_takeToken_26 (by decide) ?_
      refine lv_icmp_ne (tgt := 32) hx hb dX5_takeToken_27 (by decide) (fun hc => ?_) (fun hc => ?_)
      · have h := h.2 hc
        refine lv_iload_n hx hb dX5_takeToken_32 rfl (lv_at hl 1 rfl) ?_
        refine lv_bipush (v := (40 : Int32)) hx hb dX5_takeToken_33 (by decide) ?_
        refine lv_icmp_ne (tgt := 43) hx hb dX5_takeToken_35 (by decide) (fun hc => ?_) (fun hc => ?_)
        · have h := h.2 hc
          refine lv_iload_n hx hb dX5_takeToken_43 rfl (lv_at hl 1 rfl) ?_
          refine lv_bipush (v := (45 : Int32)) hx hb dX5_takeToken_44 (by decide) ?_
          refine lv_icmp_eq (tgt := 56) hx hb dX5_takeToken_46 (by decide) (fun hc => ?_) (fun hc => ?_)
          · have h := h.1 hc
            refine lv_aload_n hx hb dX5_takeToken_56 rfl (lv_at hl 0 rfl) ?_
            refine lv_iload_n hx hb dX5_takeToken_57 rfl (lv_at hl 1 rfl) ?_
            refine lv_bipush (v := (45 : Int32)) hx hb dX5_takeToken_58 (by decide) ?_
            refine lv_icmp_ne (tgt := 67) hx hb dX5_takeToken_60 (by decide) (fun hc => ?_) (fun hc => ?_)
            · have h := h.2 hc
              refine lv_iconst (v := (0 : Int32)) hx hb dX5_takeToken_67 (by decide) ?_
              refine cC_i (ci := 5) (q0 := 5) (As := [.int (0 : Int32)]) (rest := []) E hml hP hD hS hA (t_X5_takeNumber l D G (0 : Int32) u2 _ h) kmX5_122 mwyX5_takeNumber rfl rfl ⟨⟨rfl, rfl⟩, Nat.le_of_ble_eq_true rfl, Nat.le_of_ble_eq_true rfl⟩ rfl hl.1 rfl (Nat.le_of_ble_eq_true rfl) dX5_takeToken_68 ⟨Nat.zero_le _, Nat.zero_le _⟩ (fun r3 u4 H locs hP hD hS h => ?_)
              exact retC_z E hr hlk hP hD hS (vz_n h.1) h.2 dX5_takeToken_71
            · have h := h.1 hc
              refine lv_iconst (v := (1 : Int32)) hx hb dX5_takeToken_63 (by decide) ?_
              refine lv_goto (tgt := 68) hx hb dX5_takeToken_64 (by decide) ?_
              refine cC_i (ci := 5) (q0 := 5) (As := [.int (1 : Int32)]) (rest := []) E hml hP hD hS hA (t_X5_takeNumber l D G (1 : Int32) u2 _ h) kmX5_122 mwyX5_takeNumber rfl rfl ⟨⟨rfl, rfl⟩, Nat.le_of_ble_eq_true rfl, Nat.le_of_ble_eq_true rfl⟩ rfl hl.1 rfl (Nat.le_of_ble_eq_true rfl) dX5_takeToken_68 ⟨Nat.zero_le _, Nat.zero_le _⟩ (fun r5 u6 H locs hP hD hS h => ?_)
              exact retC_z E hr hlk hP hD hS (vz_n h.1) h.2 dX5_takeToken_71
          · have h := h.2 hc
            refine lv_iload_n hx hb dX5_takeToken_49 rfl (lv_at hl 1 rfl) ?_
            refine c0_i (As := [.int p0]) (rest := []) hx hb hml hown hW hP hS hA (t_X5_isDigit l p0 _ h) kmX5_119 mwyX5_isDigit ⟨⟨rfl, rfl⟩, Nat.le_of_ble_eq_true rfl, Nat.le_of_ble_eq_true rfl⟩ rfl hl.1 rfl (Nat.le_of_ble_eq_true rfl) dX5_takeToken_50 ⟨Nat.zero_le _, Nat.zero_le _⟩ (fun r7 H locs hP hS h => ?_)
            refine lv_if_eq (tgt := 72) hx hb dX5_takeToken_53 (by decide) (fun hc => ?_) (fun hc => ?_)
            · have h := h.1 hc
              refine lv_iload_n hx hb dX5_takeToken_72 rfl (lv_at hl 1 rfl) ?_
              refine c0_i (As := [.int p0]) (rest := []) hx hb hml hown hW hP hS hA (t_X3_digitOf l p0 _ h) kmX5_126 mwyX3_digitOf ⟨⟨rfl, rfl⟩, Nat.le_of_ble_eq_true rfl, Nat.le_of_ble_eq_true rfl⟩ rfl hl.1 rfl (Nat.le_of_ble_eq_true rfl) dX5_takeToken_73 ⟨Nat.zero_le _, Nat.zero_le _⟩ (fun r8 H locs hP hS h => ?_)
              refine lv_if_le (tgt := 90) hx hb dX5_takeToken_76 (by decide) (fun hc => ?_) (fun hc => ?_)
              · have h := h.1 hc
                refine lv_iconst (v := (0 : Int32)) hx hb dX5_takeToken_90 (by decide) ?_
                exact retC_z E hr hlk hP hD hS (vz_n vz_0) h dX5_takeToken_91
              · have h := h.2 hc
                refine lv_aload_n hx hb dX5_takeToken_79 rfl (lv_at hl 0 rfl) ?_
                refine cC_i (ci := 5) (q0 := 5) (As := []) (rest := []) E hml hP hD hS hA (t_X5_takeName l D G  u2 _ h) kmX5_129 mwyX5_takeName rfl rfl ⟨⟨rfl, rfl⟩, Nat.le_of_ble_eq_true rfl, Nat.le_of_ble_eq_true rfl⟩ rfl hl.1 rfl (Nat.le_of_ble_eq_true rfl) dX5_takeToken_80 ⟨Nat.zero_le _, Nat.zero_le _⟩ (fun r9 u10 H locs hP hD hS h => ?_)
                refine lv_if_eq (tgt := 90) hx hb dX5_takeToken_83 (by decide) (fun hc => ?_) (fun hc => ?_)
                · have h := h.1 hc
                  refine lv_iconst (v := (0 : Int32)) hx hb dX5_takeToken_90 (by decide) ?_
                  exact retC_z E hr hlk hP hD hS (vz_n vz_0) h dX5_takeToken_91
                · have h := h.2 hc
                  refine lv_iconst (v := (1 : Int32)) hx hb dX5_takeToken_86 (by decide) ?_
                  refine lv_goto (tgt := 91) hx hb dX5_takeToken_87 (by decide) ?_
                  exact retC_z E hr hlk hP hD hS (vz_n vz_1) h dX5_takeToken_91
            · have h := h.2 hc
              refine lv_aload_n hx hb dX5_takeToken_56 rfl (lv_at hl 0 rfl) ?_
              refine lv_iload_n hx hb dX5_takeToken_57 rfl (lv_at hl 1 rfl) ?_
              refine lv_bipush (v := (45 : Int32)) hx hb dX5_takeToken_58 (by decide) ?_
              refine lv_icmp_ne (tgt := 67) hx hb dX5_takeToken_60 (by decide) (fun hc => ?_) (fun hc => ?_)
              · have h := h.2 hc
                refine lv_iconst (v := (0 : Int32)) hx hb dX5_takeToken_67 (by decide) ?_
                refine cC_i (ci := 5) (q0 := 5) (As := [.int (0 : Int32)]) (rest := []) E hml hP hD hS hA (t_X5_takeNumber l D G (0 : Int32) u2 _ h) kmX5_122 mwyX5_takeNumber rfl rfl ⟨⟨rfl, rfl⟩, Nat.le_of_ble_eq_true rfl, Nat.le_of_ble_eq_true rfl⟩ rfl hl.1 rfl (Nat.le_of_ble_eq_true rfl) dX5_takeToken_68 ⟨Nat.zero_le _, Nat.zero_le _⟩ (fun r11 u12 H locs hP hD hS h => ?_)
                exact retC_z E hr hlk hP hD hS (vz_n h.1) h.2 dX5_takeToken_71
              · have h := h.1 hc
                refine lv_iconst (v := (1 : Int32)) hx hb dX5_takeToken_63 (by decide) ?_
                refine lv_goto (tgt := 68) hx hb dX5_takeToken_64 (by decide) ?_
                refine cC_i (ci := 5) (q0 := 5) (As := [.int (1 : Int32)]) (rest := []) E hml hP hD hS hA (t_X5_takeNumber l D G (1 : Int32) u2 _ h) kmX5_122 mwyX5_takeNumber rfl rfl ⟨⟨rfl, rfl⟩, Nat.le_of_ble_eq_true rfl, Nat.le_of_ble_eq_true rfl⟩ rfl hl.1 rfl (Nat.le_of_ble_eq_true rfl) dX5_takeToken_68 ⟨Nat.zero_le _, Nat.zero_le _⟩ (fun r13 u14 H locs hP hD hS h => ?_)
                exact retC_z E hr hlk hP hD hS (vz_n h.1) h.2 dX5_takeToken_71
        · have h := h.1 hc
          refine lv_aload_n hx hb dX5_takeToken_38 rfl (lv_at hl 0 rfl) ?_
          refine cC_i (ci := 5) (q0 := 5) (As := []) (rest := []) E hml hP hD hS hA (t_X5_takeOpen l D G  u2 _ h) kmX5_116 mwyX5_takeOpen rfl rfl ⟨⟨rfl, rfl⟩, Nat.le_of_ble_eq_true rfl, Nat.le_of_ble_eq_true rfl⟩ rfl hl.1 rfl (Nat.le_of_ble_eq_true rfl) dX5_takeToken_39 ⟨Nat.zero_le _, Nat.zero_le _⟩ (fun r15 u16 H locs hP hD hS h => ?_)
          exact retC_z E hr hlk hP hD hS (vz_n h.1) h.2 dX5_takeToken_42
      · have h := h.1 hc
        refine lv_iconst (v := (0 : Int32)) hx hb dX5_takeToken_30 (by decide) ?_
        exact retC_z E hr hlk hP hD hS (vz_n vz_0) h dX5_takeToken_31
    · have h := h.1 hc
      refine lv_aload_n hx hb dX5_takeToken_17 rfl (lv_at hl 0 rfl) ?_
      refine cC_i (ci := 5) (q0 := 5) (As := []) (rest := []) E hml hP hD hS hA (t_X5_takeDot l D G  u _ h) kmX5_109 mwyX5_takeDot rfl rfl ⟨⟨rfl, rfl⟩, Nat.le_of_ble_eq_true rfl, Nat.le_of_ble_eq_true rfl⟩ rfl hl.1 rfl (Nat.le_of_ble_eq_true rfl) dX5_takeToken_18 ⟨Nat.zero_le _, Nat.zero_le _⟩ (fun r17 u18 H locs hP hD hS h => ?_)
      exact retC_z E hr hlk hP hD hS (vz_n h.1) h.2 dX5_takeToken_21
  · have h := h.1 hc
    refine lv_aload_n hx hb dX5_takeToken_6 rfl (lv_at hl 0 rfl) ?_
    refine cC_i (ci := 5) (q0 := 5) (As := []) (rest := []) E hml hP hD hS hA (t_X5_takeClose l D G  u _ h) kmX5_106 mwyX5_takeClose rfl rfl ⟨⟨rfl, rfl⟩, Nat.le_of_ble_eq_true rfl, Nat.le_of_ble_eq_true rfl⟩ rfl hl.1 rfl (Nat.le_of_ble_eq_true rfl) dX5_takeToken_7 ⟨Nat.zero_le _, Nat.zero_le _⟩ (fun r19 u20 H locs hP hD hS h => ?_)
    exact retC_z E hr hlk hP hD hS (vz_n h.1) h.2 dX5_takeToken_10
def l_X5_scan_28 (N : Nat → Nat) (Q : Int32 → St → Prop)  (K : St → Prop) : Nat → Int32 → St → Prop
  | 0, _, _ => False
  | n + 1, x1, u => (((2000 : Int32) ≤ x1 → K u) ∧ (¬ (2000 : Int32) ≤ x1 → wp_X6_behindBlanks N (gI u 512) u (fun (r1 : Int32) (u2 : St) => wp_X6_at N r1 (sI u2 512 r1) (fun (r3 : Int32) (u4 : St) => wp_X5_takeToken N r3 u4 (fun (r5 : Int32) (u6 : St) => ((r5 = 0 → Q (0 : Int32) u6) ∧ (¬ r5 = 0 → (((gI u6 510) = 0 → Q (1 : Int32) u6) ∧ (¬ (gI u6 510) = 0 → l_X5_scan_28 N Q K n (x1 + (1 : Int32)) u6)))))))))
def wp_X5_scan (N : Nat → Nat)  (u : St) (Q : Int32 → St → Prop) : Prop := (∃ k8 : Nat, l_X5_scan_28 N Q  (fun (u7 : St) => Q (0 : Int32) u7) k8 (0 : Int32) (sI (sI (sI (sI u 509 (0 : Int32)) 510 (0 : Int32)) 511 (0 : Int32)) 512 (gI u 102)))
abbrev rm_X5_scan : Room := { frames := 4, cells := 0, slots := 0, locals := 84 }
set_option maxHeartbeats 4000000 in
set_option maxRecDepth 100000 in
theorem t_X5_scan (l : Launch) (D : va_G) (G : Gd)  (u : St) (Q : Int32 → St → Prop) (h : wp_X5_scan G.2.1  u Q) : MCi l D G yX5_scan cX5_scan 2 (some .boolean) rm_X5_scan [.ref (G.1 5)] u Q := by
  refine startC_i (by decide) ?_
  intro p e s m args below meth c E hr hlk hml hP hD hS hA
  have hx := E.1
  have hb := E.2.1
  have hown := E.2.2.1
  have hW := E.2.2.2.1
  have hl := lv_entry ([.ref (G.1 5)]) (n := 2) (Nat.le_of_ble_eq_true rfl)
  rw [lg_entry_eq]
  generalize (lg_sl ([.ref (G.1 5)]) ++ List.replicate (2 - (lg_sl ([.ref (G.1 5)])).length) Slot.unset).toArray = ls at hl ⊢
  have hl : lv_has ls 2 [(0, .ref (G.1 5))] := hl
  have L_28 : ∀  (K : St → Prop), (∀  (u : St) (H : Heap) (locs : List Loc) (ls : Array Slot), K  u → va_P D vwCl (wC G u) H → va_D (AC G s.heap.size) (wC G u) → va_S (AC G s.heap.size) s.heap H locs → lv_has ls 2 [] → W p l e rm_X5_scan s m args below meth c H locs 0 0 (MQ below (va_Qi Q (BC D G s.heap.size) (AC G s.heap.size)) args s 0 0 (AC G s.heap.size)) (F0 m 85 ls [])) → ∀ (n : Nat) (x1 : Int32) (u : St) (H : Heap) (locs : List Loc) (ls : Array Slot), l_X5_scan_28 G.2.1 Q K n x1 u → va_P D vwCl (wC G u) H → va_D (AC G s.heap.size) (wC G u) → va_S (AC G s.heap.size) s.heap H locs → lv_has ls 2 [(0, .ref (G.1 5)), (1, .int x1)] → W p l e rm_X5_scan s m args below meth c H locs 0 0 (MQ below (va_Qi Q (BC D G s.heap.size) (AC G s.heap.size)) args s 0 0 (AC G s.heap.size)) (F0 m 28 ls []) := by
    intro  K hK n
    induction n with
    | zero => intro x1 u H locs ls h; exact False.elim h
    | succ n ih =>
      intro x1 u H locs ls h hP hD hS hl
      unfold l_X5_scan_28 at h
      refine lv_iload_n hx hb dX5_scan_28 rfl (lv_at hl 1 rfl) ?_
      refine lv_sipush (v := (2000 : Int32)) hx hb dX5_scan_29 (by decide) ?_
      refine lv_icmp_ge (tgt := 85) hx hb dX5_scan_32 (by decide) (fun hc => ?_) (fun hc => ?_)
      · have h := h.1 hc
        exact hK u _ _ _ h hP hD hS (lv_sub hl [] rfl)
      · have h := h.2 hc
        refine lv_aload_n hx hb dX5_scan_35 rfl (lv_at hl 0 rfl) ?_
        refine lv_aload_n hx hb dX5_scan_36 rfl (lv_at hl 0 rfl) ?_
        refine gC_500 E hP kfX5_47 dX5_scan_37 ?_
        refine lv_aload_n hx hb dX5_scan_40 rfl (lv_at hl 0 rfl) ?_
        refine gC_512 E hP kfX5_38 (v := (gI u 512)) rfl dX5_scan_41 ?_
        refine cC_i (ci := 6) (q0 := 1) (As := [.int (gI u 512)]) (rest := [.ref (G.1 5)]) E hml hP hD hS hA (t_X6_behindBlanks l D G (gI u 512) u _ h) kmX5_96 mwyX6_behindBlanks rfl rfl ⟨⟨rfl, rfl⟩, Nat.le_of_ble_eq_true rfl, Nat.le_of_ble_eq_true rfl⟩ rfl hl.1 rfl (Nat.le_of_ble_eq_true rfl) dX5_scan_44 ⟨Nat.zero_le _, Nat.zero_le _⟩ (fun r1 u2 H locs hP hD hS h => ?_)
        refine pC_512 E hP hD hS kfX5_38 dX5_scan_47 (fun H locs hP hD hS => ?_)
        refine lv_aload_n hx hb dX5_scan_50 rfl (lv_at hl 0 rfl) ?_
        refine lv_aload_n hx hb dX5_scan_51 rfl (lv_at hl 0 rfl) ?_
        refine gC_500 E hP kfX5_47 dX5_scan_52 ?_
        refine lv_aload_n hx hb dX5_scan_55 rfl (lv_at hl 0 rfl) ?_
        refine gC_512 E hP kfX5_38 (v := r1) rfl dX5_scan_56 ?_
        refine cC_i (ci := 6) (q0 := 1) (As := [.int r1]) (rest := [.ref (G.1 5)]) E hml hP hD hS hA (t_X6_at l D G r1 (sI u2 512 r1) _ h) kmX5_100 mwyX6_at rfl rfl ⟨⟨rfl, rfl⟩, Nat.le_of_ble_eq_true rfl, Nat.le_of_ble_eq_true rfl⟩ rfl hl.1 rfl (Nat.le_of_ble_eq_true rfl) dX5_scan_59 ⟨Nat.zero_le _, Nat.zero_le _⟩ (fun r3 u4 H locs hP hD hS h => ?_)
        refine cC_i (ci := 5) (q0 := 5) (As := [.int r3]) (rest := []) E hml hP hD hS hA (t_X5_takeToken l D G r3 u4 _ h) kmX5_102 mwyX5_takeToken rfl rfl ⟨⟨rfl, rfl⟩, Nat.le_of_ble_eq_true rfl, Nat.le_of_ble_eq_true rfl⟩ rfl hl.1 rfl (Nat.le_of_ble_eq_true rfl) dX5_scan_62 ⟨Nat.zero_le _, Nat.zero_le _⟩ (fun r5 u6 H locs hP hD hS h => ?_)
        refine lv_if_ne (tgt := 70) hx hb dX5_scan_65 (by decide) (fun hc => ?_) (fun hc => ?_)
        · have h := h.2 hc
          refine lv_aload_n hx hb dX5_scan_70 rfl (lv_at hl 0 rfl) ?_
          refine gC_510 E hP kfX5_32 (v := (gI u6 510)) rfl dX5_scan_71 ?_
          refine lv_if_ne (tgt := 79) hx hb dX5_scan_74 (by decide) (fun hc => ?_) (fun hc => ?_)
          · have h := h.2 hc
            refine lv_iinc (v := (x1 + (1 : Int32))) (lv' := [(1, .int (x1 + (1 : Int32))), (0, .ref (G.1 5))]) hx hb dX5_scan_79 hl (k := 1) rfl rfl (by decide) rfl (fun ls hl => ?_)
            refine lv_goto (tgt := 28) hx hb dX5_scan_82 (by decide) ?_
            exact ih (x1 + (1 : Int32)) u6 _ _ _ h hP hD hS (lv_sub hl [1, 0] rfl)
          · have h := h.1 hc
            refine lv_iconst (v := (1 : Int32)) hx hb dX5_scan_77 (by decide) ?_
            exact retC_z E hr hlk hP hD hS (vz_n vz_1) h dX5_scan_78
        · have h := h.1 hc
          refine lv_iconst (v := (0 : Int32)) hx hb dX5_scan_68 (by decide) ?_
          exact retC_z E hr hlk hP hD hS (vz_n vz_0) h dX5_scan_69
  unfold wp_X5_scan at h
  refine lv_aload_n hx hb dX5_scan_0 rfl (lv_at hl 0 rfl) ?_
  refine lv_iconst (v := (0 : Int32)) hx hb dX5_scan_1 (by decide) ?_
  refine pC_509 E hP hD hS kfX5_28 dX5_scan_2 (fun H locs hP hD hS => ?_)
  refine lv_aload_n hx hb dX5_scan_5 rfl (lv_at hl 0 rfl) ?_
  refine lv_iconst (v := (0 : Int32)) hx hb dX5_scan_6 (by decide) ?_
  refine pC_510 E hP hD hS kfX5_32 dX5_scan_7 (fun H locs hP hD hS => ?_)
  refine lv_aload_n hx hb dX5_scan_10 rfl (lv_at hl 0 rfl) ?_
  refine lv_iconst (v := (0 : Int32)) hx hb dX5_scan_11 (by decide) ?_
  refine pC_511 E hP hD hS kfX5_35 dX5_scan_12 (fun H locs hP hD hS => ?_)
  refine lv_aload_n hx hb dX5_scan_15 rfl (lv_at hl 0 rfl) ?_
  refine lv_aload_n hx hb dX5_scan_16 rfl (lv_at hl 0 rfl) ?_
  refine gC_500 E hP kfX5_47 dX5_scan_17 ?_
  refine gC_102 E hP kfX5_84 (v := (gI u 102)) rfl dX5_scan_20 ?_
  refine pC_512 E hP hD hS kfX5_38 dX5_scan_23 (fun H locs hP hD hS => ?_)
  refine lv_iconst (v := (0 : Int32)) hx hb dX5_scan_26 (by decide) ?_
  refine lv_istore_n (lv' := [(1, .int (0 : Int32)), (0, .ref (G.1 5))]) hx hb dX5_scan_27 rfl hl (by decide) rfl (fun ls hl => ?_)
  obtain ⟨n, h⟩ := h
  refine L_28  _ (fun u7 H locs ls h hP hD hS hl => ?_) n (0 : Int32) (sI (sI (sI (sI u 509 (0 : Int32)) 510 (0 : Int32)) 511 (0 : Int32)) 512 (gI u 102)) _ _ _ h hP hD hS (lv_sub hl [1, 0] rfl)
  refine lv_iconst (v := (0 : Int32)) hx hb dX5_scan_85 (by decide) ?_
  exact retC_z E hr hlk hP hD hS (vz_n vz_0) h dX5_scan_86
def l_X0_mark_14_28 (N : Nat → Nat) (c2 : Int32) (c3 : Int32) (K : St → Prop) : Nat → Int32 → Int32 → St → Prop
  | 0, _, _, _ => False
  | n + 1, x4, x5, u => ((((2 : Int32) * (Int32.ofNat (N 800))) < x5 → K u) ∧ (¬ ((2 : Int32) * (Int32.ofNat (N 800))) < x5 → ((x4 ≤ 0 → K u) ∧ (¬ x4 ≤ 0 → vp_in (x4 + (-1 : Int32)) (N 803) ∧ ((((gB u 803) ((x4 + (-1 : Int32))).toNatClampNeg) < (2199023255552 : Int64) → l_X0_mark_14_28 N  c2 c3 K n (x4 + (-1 : Int32)) (x5 + (1 : Int32)) u) ∧ (¬ ((gB u 803) ((x4 + (-1 : Int32))).toNatClampNeg) < (2199023255552 : Int64) → ((((2199023255552 : Int64) + ((Int32.ofNat (N 800))).toInt64) ≤ ((gB u 803) ((x4 + (-1 : Int32))).toNatClampNeg) → l_X0_mark_14_28 N  c2 c3 K n (x4 + (-1 : Int32)) (x5 + (1 : Int32)) u) ∧ (¬ ((2199023255552 : Int64) + ((Int32.ofNat (N 800))).toInt64) ≤ ((gB u 803) ((x4 + (-1 : Int32))).toNatClampNeg) → vp_in (((((gB u 803) ((x4 + (-1 : Int32))).toNatClampNeg) - (2199023255552 : Int64))).toInt32) (N 802) ∧ ((((gA u 802) (((((gB u 803) ((x4 + (-1 : Int32))).toNatClampNeg) - (2199023255552 : Int64))).toInt32).toNatClampNeg) = (gI u 806) → l_X0_mark_14_28 N  c2 c3 K n (x4 + (-1 : Int32)) (x5 + (1 : Int32)) u) ∧ (¬ ((gA u 802) (((((gB u 803) ((x4 + (-1 : Int32))).toNatClampNeg) - (2199023255552 : Int64))).toInt32).toNatClampNeg) = (gI u 806) → (((Int32.ofNat (N 803)) ≤ ((x4 + (-1 : Int32)) + (1 : Int32)) → l_X0_mark_14_28 N  c2 c3 K n (x4 + (-1 : Int32)) (x5 + (1 : Int32)) u) ∧ (¬ (Int32.ofNat (N 803)) ≤ ((x4 + (-1 : Int32)) + (1 : Int32)) → vp_in (((((gB u 803) ((x4 + (-1 : Int32))).toNatClampNeg) - (2199023255552 : Int64))).toInt32) (N 802) ∧ vp_in (((((gB u 803) ((x4 + (-1 : Int32))).toNatClampNeg) - (2199023255552 : Int64))).toInt32) (N 801) ∧ vp_in (x4 + (-1 : Int32)) (N 803) ∧ vp_in (((((gB u 803) ((x4 + (-1 : Int32))).toNatClampNeg) - (2199023255552 : Int64))).toInt32) (N 800) ∧ vp_in ((x4 + (-1 : Int32)) + (1 : Int32)) (N 803) ∧ l_X0_mark_14_28 N  c2 c3 K n ((x4 + (-1 : Int32)) + (2 : Int32)) (x5 + (1 : Int32)) (sB (sB (sI (sA u 802 (upd (gA u 802) (((((gB u 803) ((x4 + (-1 : Int32))).toNatClampNeg) - (2199023255552 : Int64))).toInt32).toNatClampNeg (gI u 806))) 807 ((gI u 807) + (1 : Int32))) 803 (vp_updL (gB u 803) ((x4 + (-1 : Int32))).toNatClampNeg ((gB u 801) (((((gB u 803) ((x4 + (-1 : Int32))).toNatClampNeg) - (2199023255552 : Int64))).toInt32).toNatClampNeg))) 803 (vp_updL (vp_updL (gB u 803) ((x4 + (-1 : Int32))).toNatClampNeg ((gB u 801) (((((gB u 803) ((x4 + (-1 : Int32))).toNatClampNeg) - (2199023255552 : Int64))).toInt32).toNatClampNeg)) (((x4 + (-1 : Int32)) + (1 : Int32))).toNatClampNeg ((gB u 800) (((((gB u 803) ((x4 + (-1 : Int32))).toNatClampNeg) - (2199023255552 : Int64))).toInt32).toNatClampNeg)))))))))))))))
def l_X0_mark_14_2 (N : Nat → Nat) (c2 : Int32) (K : St → Prop) : Nat → Int32 → St → Prop
  | 0, _, _ => False
  | n + 1, x3, u => ((c2 ≤ x3 → K u) ∧ (¬ c2 ≤ x3 → (((Int32.ofNat (N 302)) ≤ x3 → K u) ∧ (¬ (Int32.ofNat (N 302)) ≤ x3 → vp_in x3 (N 302) ∧ vp_in (0 : Int32) (N 803) ∧ (∃ k2 : Nat, l_X0_mark_14_28 N  c2 x3 (fun (u1 : St) => l_X0_mark_14_2 N  c2 K n (x3 + (1 : Int32)) u1) k2 (1 : Int32) (0 : Int32) (sB u 803 (vp_updL (gB u 803) ((0 : Int32)).toNatClampNeg ((gB u 302) (x3).toNatClampNeg))))))))
def wp_X0_mark_14 (N : Nat → Nat) (p1 : Int32) (u : St) (Q : St → Prop) : Prop := (∃ k4 : Nat, l_X0_mark_14_2 N  p1 (fun (u3 : St) => Q u3) k4 (0 : Int32) u)
abbrev rm_X0_mark_14 : Room := { frames := 0, cells := 0, slots := 0, locals := 0 }
set_option maxHeartbeats 4000000 in
set_option maxRecDepth 100000 in
theorem t_X0_mark_14 (l : Launch) (D : va_G) (G : Gd) (p1 : Int32) (u : St) (Q : St → Prop) (h : wp_X0_mark_14 G.2.1 p1 u Q) : MCv l D G yX0_mark cX0_mark 10 none rm_X0_mark_14 [.ref (G.1 8), .ref (G.1 14), .int p1] u Q := by
  refine startC_v (by decide) ?_
  intro p e s m args below meth c E hr hlk hml hP hD hS hA
  have hx := E.1
  have hb := E.2.1
  have hown := E.2.2.1
  have hW := E.2.2.2.1
  have hl := lv_entry ([.ref (G.1 8), .ref (G.1 14), .int p1]) (n := 10) (Nat.le_of_ble_eq_true rfl)
  rw [lg_entry_eq]
  generalize (lg_sl ([.ref (G.1 8), .ref (G.1 14), .int p1]) ++ List.replicate (10 - (lg_sl ([.ref (G.1 8), .ref (G.1 14), .int p1])).length) Slot.unset).toArray = ls at hl ⊢
  have hl : lv_has ls 10 [(0, .ref (G.1 8)), (1, .ref (G.1 14)), (2, .int p1)] := hl
  have L_28 : ∀ (c2 : Int32) (c3 : Int32) (K : St → Prop), (∀  (u : St) (H : Heap) (locs : List Loc) (ls : Array Slot), K  u → va_P D vwCl (wC G u) H → va_D (AC G s.heap.size) (wC G u) → va_S (AC G s.heap.size) s.heap H locs → lv_has ls 10 [(0, .ref (G.1 8)), (1, .ref (G.1 14)), (2, .int c2), (3, .int c3)] → W p l e rm_X0_mark_14 s m args below meth c H locs 0 0 (MQ below (va_Qv Q (BC D G s.heap.size) (AC G s.heap.size)) args s 0 0 (AC G s.heap.size)) (F0 m 198 ls [])) → ∀ (n : Nat) (x4 : Int32) (x5 : Int32) (u : St) (H : Heap) (locs : List Loc) (ls : Array Slot), l_X0_mark_14_28 G.2.1  c2 c3 K n x4 x5 u → va_P D vwCl (wC G u) H → va_D (AC G s.heap.size) (wC G u) → va_S (AC G s.heap.size) s.heap H locs → lv_has ls 10 [(0, .ref (G.1 8)), (1, .ref (G.1 14)), (2, .int c2), (3, .int c3), (4, .int x4), (5, .int x5)] → W p l e rm_X0_mark_14 s m args below meth c H locs 0 0 (MQ below (va_Qv Q (BC D G s.heap.size) (AC G s.heap.size)) args s 0 0 (AC G s.heap.size)) (F0 m 28 ls []) := by
    intro c2 c3 K hK n
    induction n with
    | zero => intro x4 x5 u H locs ls h; exact False.elim h
    | succ n ih =>
      intro x4 x5 u H locs ls h hP hD hS hl
      unfold l_X0_mark_14_28 at h
      refine lv_iload hx hb dX0_mark_28 (lv_at hl 5 rfl) ?_
      refine lv_iconst (v := (2 : Int32)) hx hb dX0_mark_30 (by decide) ?_
      refine lv_aload_n hx hb dX0_mark_31 rfl (lv_at hl 0 rfl) ?_
      refine gC_800 E hP kfX0_18 dX0_mark_32 ?_
      refine zC_800 E hP dX0_mark_35 ?_
      refine lv_imul hx hb dX0_mark_36 ?_
      refine lv_icmp_gt (tgt := 198) hx hb dX0_mark_37 (by decide) (fun hc => ?_) (fun hc => ?_)
      · have h := h.1 hc
        exact hK u _ _ _ h hP hD hS (lv_sub hl [0, 1, 2, 3] rfl)
      · have h := h.2 hc
        refine lv_iload hx hb dX0_mark_40 (lv_at hl 4 rfl) ?_
        refine lv_if_le (tgt := 198) hx hb dX0_mark_42 (by decide) (fun hc => ?_) (fun hc => ?_)
        · have h := h.1 hc
          exact hK u _ _ _ h hP hD hS (lv_sub hl [0, 1, 2, 3] rfl)
        · have h := h.2 hc
          refine lv_iinc (v := (x4 + (-1 : Int32))) (lv' := [(4, .int (x4 + (-1 : Int32))), (0, .ref (G.1 8)), (1, .ref (G.1 14)), (2, .int c2), (3, .int c3), (5, .int x5)]) hx hb dX0_mark_45 hl (k := 4) rfl rfl (by decide) rfl (fun ls hl => ?_)
          refine lv_aload_n hx hb dX0_mark_48 rfl (lv_at hl 1 rfl) ?_
          refine gC_803 E hP kfX0_29 dX0_mark_49 ?_
          refine lv_iload hx hb dX0_mark_52 (lv_at hl 0 rfl) ?_
          obtain ⟨h9, h⟩ := h
          refine xC_803 E hP h9 (v := ((gB u 803) ((x4 + (-1 : Int32))).toNatClampNeg)) rfl dX0_mark_54 ?_
          refine lv_lstore (lv' := [(6, .long ((gB u 803) ((x4 + (-1 : Int32))).toNatClampNeg)), (4, .int (x4 + (-1 : Int32))), (0, .ref (G.1 8)), (1, .ref (G.1 14)), (2, .int c2), (3, .int c3), (5, .int x5)]) hx hb dX0_mark_55 hl (by decide) rfl (fun ls hl => ?_)
          refine lv_lload hx hb dX0_mark_57 (lv_at hl 0 rfl) ?_
          refine lv_ldc2 (v := (2199023255552 : Int64)) hx hb hown (hW _ kcX0_38) dX0_mark_59 ?_
          refine lq_lt (tgt := 86) hx hb dX0_mark_62 dX0_mark_63 (by decide) (fun hc => ?_) (fun hc => ?_)
          · have h := h.1 hc
            refine lv_iconst (v := (0 : Int32)) hx hb dX0_mark_86 (by decide) ?_
            refine lv_istore (lv' := [(8, .int (0 : Int32)), (6, .long ((gB u 803) ((x4 + (-1 : Int32))).toNatClampNeg)), (4, .int (x4 + (-1 : Int32))), (0, .ref (G.1 8)), (1, .ref (G.1 14)), (2, .int c2), (3, .int c3), (5, .int x5)]) hx hb dX0_mark_87 hl (by decide) rfl (fun ls hl => ?_)
            refine lv_iload hx hb dX0_mark_89 (lv_at hl 0 rfl) ?_
            refine lv_if_eq (tgt := 104) hx hb dX0_mark_91 (by decide) (fun _ => ?_) (fun hc => absurd (by decide) hc)
            refine lv_iconst (v := (0 : Int32)) hx hb dX0_mark_104 (by decide) ?_
            refine lv_istore (lv' := [(9, .int (0 : Int32)), (8, .int (0 : Int32)), (6, .long ((gB u 803) ((x4 + (-1 : Int32))).toNatClampNeg)), (4, .int (x4 + (-1 : Int32))), (0, .ref (G.1 8)), (1, .ref (G.1 14)), (2, .int c2), (3, .int c3), (5, .int x5)]) hx hb dX0_mark_105 hl (by decide) rfl (fun ls hl => ?_)
            refine lv_iload hx hb dX0_mark_107 (lv_at hl 1 rfl) ?_
            refine lv_if_eq (tgt := 192) hx hb dX0_mark_109 (by decide) (fun _ => ?_) (fun hc => absurd (by decide) hc)
            refine lv_iinc (v := (x5 + (1 : Int32))) (lv' := [(5, .int (x5 + (1 : Int32))), (9, .int (0 : Int32)), (8, .int (0 : Int32)), (6, .long ((gB u 803) ((x4 + (-1 : Int32))).toNatClampNeg)), (4, .int (x4 + (-1 : Int32))), (0, .ref (G.1 8)), (1, .ref (G.1 14)), (2, .int c2), (3, .int c3)]) hx hb dX0_mark_192 hl (k := 8) rfl rfl (by decide) rfl (fun ls hl => ?_)
            refine lv_goto (tgt := 28) hx hb dX0_mark_195 (by decide) ?_
            exact ih (x4 + (-1 : Int32)) (x5 + (1 : Int32)) u _ _ _ h hP hD hS (lv_sub hl [5, 6, 7, 8, 4, 0] rfl)
          · have h := h.2 hc
            refine lv_lload hx hb dX0_mark_66 (lv_at hl 0 rfl) ?_
            refine lv_ldc2 (v := (2199023255552 : Int64)) hx hb hown (hW _ kcX0_38) dX0_mark_68 ?_
            refine lv_aload_n hx hb dX0_mark_71 rfl (lv_at hl 2 rfl) ?_
            refine gC_800 E hP kfX0_18 dX0_mark_72 ?_
            refine zC_800 E hP dX0_mark_75 ?_
            refine lv_i2l (v := ((Int32.ofNat (G.2.1 800))).toInt64) hx hb dX0_mark_76 rfl ?_
            refine lv_ladd hx hb dX0_mark_77 ?_
            refine lq_ge (tgt := 86) hx hb dX0_mark_78 dX0_mark_79 (by decide) (fun hc => ?_) (fun hc => ?_)
            · have h := h.1 hc
              refine lv_iconst (v := (0 : Int32)) hx hb dX0_mark_86 (by decide) ?_
              refine lv_istore (lv' := [(8, .int (0 : Int32)), (6, .long ((gB u 803) ((x4 + (-1 : Int32))).toNatClampNeg)), (4, .int (x4 + (-1 : Int32))), (0, .ref (G.1 8)), (1, .ref (G.1 14)), (2, .int c2), (3, .int c3), (5, .int x5)]) hx hb dX0_mark_87 hl (by decide) rfl (fun ls hl => ?_)
              refine lv_iload hx hb dX0_mark_89 (lv_at hl 0 rfl) ?_
              refine lv_if_eq (tgt := 104) hx hb dX0_mark_91 (by decide) (fun _ => ?_) (fun hc => absurd (by decide) hc)
              refine lv_iconst (v := (0 : Int32)) hx hb dX0_mark_104 (by decide) ?_
              refine lv_istore (lv' := [(9, .int (0 : Int32)), (8, .int (0 : Int32)), (6, .long ((gB u 803) ((x4 + (-1 : Int32))).toNatClampNeg)), (4, .int (x4 + (-1 : Int32))), (0, .ref (G.1 8)), (1, .ref (G.1 14)), (2, .int c2), (3, .int c3), (5, .int x5)]) hx hb dX0_mark_105 hl (by decide) rfl (fun ls hl => ?_)
              refine lv_iload hx hb dX0_mark_107 (lv_at hl 1 rfl) ?_
              refine lv_if_eq (tgt := 192) hx hb dX0_mark_109 (by decide) (fun _ => ?_) (fun hc => absurd (by decide) hc)
              refine lv_iinc (v := (x5 + (1 : Int32))) (lv' := [(5, .int (x5 + (1 : Int32))), (9, .int (0 : Int32)), (8, .int (0 : Int32)), (6, .long ((gB u 803) ((x4 + (-1 : Int32))).toNatClampNeg)), (4, .int (x4 + (-1 : Int32))), (0, .ref (G.1 8)), (1, .ref (G.1 14)), (2, .int c2), (3, .int c3)]) hx hb dX0_mark_192 hl (k := 8) rfl rfl (by decide) rfl (fun ls hl => ?_)
              refine lv_goto (tgt := 28) hx hb dX0_mark_195 (by decide) ?_
              exact ih (x4 + (-1 : Int32)) (x5 + (1 : Int32)) u _ _ _ h hP hD hS (lv_sub hl [5, 6, 7, 8, 4, 0] rfl)
            · have h := h.2 hc
              refine lv_iconst (v := (1 : Int32)) hx hb dX0_mark_82 (by decide) ?_
              refine lv_goto (tgt := 87) hx hb dX0_mark_83 (by decide) ?_
              refine lv_istore (lv' := [(8, .int (1 : Int32)), (6, .long ((gB u 803) ((x4 + (-1 : Int32))).toNatClampNeg)), (4, .int (x4 + (-1 : Int32))), (0, .ref (G.1 8)), (1, .ref (G.1 14)), (2, .int c2), (3, .int c3), (5, .int x5)]) hx hb dX0_mark_87 hl (by decide) rfl (fun ls hl => ?_)
              refine lv_iload hx hb dX0_mark_89 (lv_at hl 0 rfl) ?_
              refine lv_if_eq (tgt := 104) hx hb dX0_mark_91 (by decide) (fun hc => absurd hc (by decide)) (fun _ => ?_)
              refine lv_lload hx hb dX0_mark_94 (lv_at hl 1 rfl) ?_
              refine lv_ldc2 (v := (2199023255552 : Int64)) hx hb hown (hW _ kcX0_38) dX0_mark_96 ?_
              refine lv_lsub hx hb dX0_mark_99 ?_
              refine lv_l2i (v := ((((gB u 803) ((x4 + (-1 : Int32))).toNatClampNeg) - (2199023255552 : Int64))).toInt32) hx hb dX0_mark_100 rfl ?_
              refine lv_goto (tgt := 105) hx hb dX0_mark_101 (by decide) ?_
              refine lv_istore (lv' := [(9, .int ((((gB u 803) ((x4 + (-1 : Int32))).toNatClampNeg) - (2199023255552 : Int64))).toInt32), (8, .int (1 : Int32)), (6, .long ((gB u 803) ((x4 + (-1 : Int32))).toNatClampNeg)), (4, .int (x4 + (-1 : Int32))), (0, .ref (G.1 8)), (1, .ref (G.1 14)), (2, .int c2), (3, .int c3), (5, .int x5)]) hx hb dX0_mark_105 hl (by decide) rfl (fun ls hl => ?_)
              refine lv_iload hx hb dX0_mark_107 (lv_at hl 1 rfl) ?_
              refine lv_if_eq (tgt := 192) hx hb dX0_mark_109 (by decide) (fun hc => absurd hc (by decide)) (fun _ => ?_)
              refine lv_aload_n hx hb dX0_mark_112 rfl (lv_at hl 4 rfl) ?_
              refine gC_802 E hP kfX0_25 dX0_mark_113 ?_
              refine lv_iload hx hb dX0_mark_116 (lv_at hl 0 rfl) ?_
              obtain ⟨h9, h⟩ := h
              refine xC_802 E hP h9 (v := ((gA u 802) (((((gB u 803) ((x4 + (-1 : Int32))).toNatClampNeg) - (2199023255552 : Int64))).toInt32).toNatClampNeg)) rfl dX0_mark_118 ?_
              refine lv_aload_n hx hb dX0_mark_119 rfl (lv_at hl 4 rfl) ?_
              refine gC_806 E hP kfX0_9 (v := (gI u 806)) rfl dX0_mark_120 ?_
              refine lv_icmp_eq (tgt := 192) hx hb dX0_mark_123 (by decide) (fun hc => ?_) (fun hc => ?_)
              · have h := h.1 hc
                refine lv_iinc (v := (x5 + (1 : Int32))) (lv' := [(5, .int (x5 + (1 : Int32))), (9, .int ((((gB u 803) ((x4 + (-1 : Int32))).toNatClampNeg) - (2199023255552 : Int64))).toInt32), (8, .int (1 : Int32)), (6, .long ((gB u 803) ((x4 + (-1 : Int32))).toNatClampNeg)), (4, .int (x4 + (-1 : Int32))), (0, .ref (G.1 8)), (1, .ref (G.1 14)), (2, .int c2), (3, .int c3)]) hx hb dX0_mark_192 hl (k := 8) rfl rfl (by decide) rfl (fun ls hl => ?_)
                refine lv_goto (tgt := 28) hx hb dX0_mark_195 (by decide) ?_
                exact ih (x4 + (-1 : Int32)) (x5 + (1 : Int32)) u _ _ _ h hP hD hS (lv_sub hl [5, 6, 7, 8, 4, 0] rfl)
              · have h := h.2 hc
                refine lv_iload hx hb dX0_mark_126 (lv_at hl 3 rfl) ?_
                refine lv_iconst (v := (1 : Int32)) hx hb dX0_mark_128 (by decide) ?_
                refine lv_iadd hx hb dX0_mark_129 ?_
                refine lv_aload_n hx hb dX0_mark_130 rfl (lv_at hl 4 rfl) ?_
                refine gC_803 E hP kfX0_29 dX0_mark_131 ?_
                refine zC_803 E hP dX0_mark_134 ?_
                refine lv_icmp_ge (tgt := 192) hx hb dX0_mark_135 (by decide) (fun hc => ?_) (fun hc => ?_)
                · have h := h.1 hc
                  refine lv_iinc (v := (x5 + (1 : Int32))) (lv' := [(5, .int (x5 + (1 : Int32))), (9, .int ((((gB u 803) ((x4 + (-1 : Int32))).toNatClampNeg) - (2199023255552 : Int64))).toInt32), (8, .int (1 : Int32)), (6, .long ((gB u 803) ((x4 + (-1 : Int32))).toNatClampNeg)), (4, .int (x4 + (-1 : Int32))), (0, .ref (G.1 8)), (1, .ref (G.1 14)), (2, .int c2), (3, .int c3)]) hx hb dX0_mark_192 hl (k := 8) rfl rfl (by decide) rfl (fun ls hl => ?_)
                  refine lv_goto (tgt := 28) hx hb dX0_mark_195 (by decide) ?_
                  exact ih (x4 + (-1 : Int32)) (x5 + (1 : Int32)) u _ _ _ h hP hD hS (lv_sub hl [5, 6, 7, 8, 4, 0] rfl)
                · have h := h.2 hc
                  refine lv_aload_n hx hb dX0_mark_138 rfl (lv_at hl 4 rfl) ?_
                  refine gC_802 E hP kfX0_25 dX0_mark_139 ?_
                  refine lv_iload hx hb dX0_mark_142 (lv_at hl 0 rfl) ?_
                  refine lv_aload_n hx hb dX0_mark_144 rfl (lv_at hl 4 rfl) ?_
                  refine gC_806 E hP kfX0_9 (v := (gI u 806)) rfl dX0_mark_145 ?_
                  obtain ⟨h9, h⟩ := h
                  refine yC_802 E hP hD hS h9 (f := (gA u 802)) rfl dX0_mark_148 (fun H locs hP hD hS => ?_)
                  refine lv_aload_n hx hb dX0_mark_149 rfl (lv_at hl 4 rfl) ?_
                  refine lv_dup hx hb dX0_mark_150 rfl ?_
                  refine gC_807 E hP kfX0_15 (v := (gI u 807)) rfl dX0_mark_151 ?_
                  refine lv_iconst (v := (1 : Int32)) hx hb dX0_mark_154 (by decide) ?_
                  refine lv_iadd hx hb dX0_mark_155 ?_
                  refine pC_807 E hP hD hS kfX0_15 dX0_mark_156 (fun H locs hP hD hS => ?_)
                  refine lv_aload_n hx hb dX0_mark_159 rfl (lv_at hl 4 rfl) ?_
                  refine gC_803 E hP kfX0_29 dX0_mark_160 ?_
                  refine lv_iload hx hb dX0_mark_163 (lv_at hl 3 rfl) ?_
                  refine lv_aload_n hx hb dX0_mark_165 rfl (lv_at hl 4 rfl) ?_
                  refine gC_801 E hP kfX0_22 dX0_mark_166 ?_
                  refine lv_iload hx hb dX0_mark_169 (lv_at hl 0 rfl) ?_
                  obtain ⟨h9, h⟩ := h
                  refine xC_801 E hP h9 (v := ((gB u 801) (((((gB u 803) ((x4 + (-1 : Int32))).toNatClampNeg) - (2199023255552 : Int64))).toInt32).toNatClampNeg)) rfl dX0_mark_171 ?_
                  obtain ⟨h9, h⟩ := h
                  refine yC_803 E hP hD hS h9 (f := (gB u 803)) rfl dX0_mark_172 (fun H locs hP hD hS => ?_)
                  refine lv_aload_n hx hb dX0_mark_173 rfl (lv_at hl 4 rfl) ?_
                  refine gC_803 E hP kfX0_29 dX0_mark_174 ?_
                  refine lv_iload hx hb dX0_mark_177 (lv_at hl 3 rfl) ?_
                  refine lv_iconst (v := (1 : Int32)) hx hb dX0_mark_179 (by decide) ?_
                  refine lv_iadd hx hb dX0_mark_180 ?_
                  refine lv_aload_n hx hb dX0_mark_181 rfl (lv_at hl 4 rfl) ?_
                  refine gC_800 E hP kfX0_18 dX0_mark_182 ?_
                  refine lv_iload hx hb dX0_mark_185 (lv_at hl 0 rfl) ?_
                  obtain ⟨h9, h⟩ := h
                  refine xC_800 E hP h9 (v := ((gB u 800) (((((gB u 803) ((x4 + (-1 : Int32))).toNatClampNeg) - (2199023255552 : Int64))).toInt32).toNatClampNeg)) rfl dX0_mark_187 ?_
                  obtain ⟨h9, h⟩ := h
                  refine yC_803 E hP hD hS h9 (f := (vp_updL (gB u 803) ((x4 + (-1 : Int32))).toNatClampNeg ((gB u 801) (((((gB u 803) ((x4 + (-1 : Int32))).toNatClampNeg) - (2199023255552 : Int64))).toInt32).toNatClampNeg))) rfl dX0_mark_188 (fun H locs hP hD hS => ?_)
                  refine lv_iinc (v := ((x4 + (-1 : Int32)) + (2 : Int32))) (lv' := [(4, .int ((x4 + (-1 : Int32)) + (2 : Int32))), (9, .int ((((gB u 803) ((x4 + (-1 : Int32))).toNatClampNeg) - (2199023255552 : Int64))).toInt32), (8, .int (1 : Int32)), (6, .long ((gB u 803) ((x4 + (-1 : Int32))).toNatClampNeg)), (0, .ref (G.1 8)), (1, .ref (G.1 14)), (2, .int c2), (3, .int c3), (5, .int x5)]) hx hb dX0_mark_189 hl (k := 3) rfl rfl (by decide) rfl (fun ls hl => ?_)
                  refine lv_iinc (v := (x5 + (1 : Int32))) (lv' := [(5, .int (x5 + (1 : Int32))), (4, .int ((x4 + (-1 : Int32)) + (2 : Int32))), (9, .int ((((gB u 803) ((x4 + (-1 : Int32))).toNatClampNeg) - (2199023255552 : Int64))).toInt32), (8, .int (1 : Int32)), (6, .long ((gB u 803) ((x4 + (-1 : Int32))).toNatClampNeg)), (0, .ref (G.1 8)), (1, .ref (G.1 14)), (2, .int c2), (3, .int c3)]) hx hb dX0_mark_192 hl (k := 8) rfl rfl (by decide) rfl (fun ls hl => ?_)
                  refine lv_goto (tgt := 28) hx hb dX0_mark_195 (by decide) ?_
                  exact ih ((x4 + (-1 : Int32)) + (2 : Int32)) (x5 + (1 : Int32)) (sB (sB (sI (sA u 802 (upd (gA u 802) (((((gB u 803) ((x4 + (-1 : Int32))).toNatClampNeg) - (2199023255552 : Int64))).toInt32).toNatClampNeg (gI u 806))) 807 ((gI u 807) + (1 : Int32))) 803 (vp_updL (gB u 803) ((x4 + (-1 : Int32))).toNatClampNeg ((gB u 801) (((((gB u 803) ((x4 + (-1 : Int32))).toNatClampNeg) - (2199023255552 : Int64))).toInt32).toNatClampNeg))) 803 (vp_updL (vp_updL (gB u 803) ((x4 + (-1 : Int32))).toNatClampNeg ((gB u 801) (((((gB u 803) ((x4 + (-1 : Int32))).toNatClampNeg) - (2199023255552 : Int64))).toInt32).toNatClampNeg)) (((x4 + (-1 : Int32)) + (1 : Int32))).toNatClampNeg ((gB u 800) (((((gB u 803) ((x4 + (-1 : Int32))).toNatClampNeg) - (2199023255552 : Int64))).toInt32).toNatClampNeg))) _ _ _ h hP hD hS (lv_sub hl [5, 6, 7, 8, 1, 0] rfl)
  have L_2 : ∀ (c2 : Int32) (K : St → Prop), (∀  (u : St) (H : Heap) (locs : List Loc) (ls : Array Slot), K  u → va_P D vwCl (wC G u) H → va_D (AC G s.heap.size) (wC G u) → va_S (AC G s.heap.size) s.heap H locs → lv_has ls 10 [] → W p l e rm_X0_mark_14 s m args below meth c H locs 0 0 (MQ below (va_Qv Q (BC D G s.heap.size) (AC G s.heap.size)) args s 0 0 (AC G s.heap.size)) (F0 m 204 ls [])) → ∀ (n : Nat) (x3 : Int32) (u : St) (H : Heap) (locs : List Loc) (ls : Array Slot), l_X0_mark_14_2 G.2.1  c2 K n x3 u → va_P D vwCl (wC G u) H → va_D (AC G s.heap.size) (wC G u) → va_S (AC G s.heap.size) s.heap H locs → lv_has ls 10 [(0, .ref (G.1 8)), (1, .ref (G.1 14)), (2, .int c2), (3, .int x3)] → W p l e rm_X0_mark_14 s m args below meth c H locs 0 0 (MQ below (va_Qv Q (BC D G s.heap.size) (AC G s.heap.size)) args s 0 0 (AC G s.heap.size)) (F0 m 2 ls []) := by
    intro c2 K hK n
    induction n with
    | zero => intro x3 u H locs ls h; exact False.elim h
    | succ n ih =>
      intro x3 u H locs ls h hP hD hS hl
      unfold l_X0_mark_14_2 at h
      refine lv_iload_n hx hb dX0_mark_2 rfl (lv_at hl 3 rfl) ?_
      refine lv_iload_n hx hb dX0_mark_3 rfl (lv_at hl 2 rfl) ?_
      refine lv_icmp_ge (tgt := 204) hx hb dX0_mark_4 (by decide) (fun hc => ?_) (fun hc => ?_)
      · have h := h.1 hc
        exact hK u _ _ _ h hP hD hS (lv_sub hl [] rfl)
      · have h := h.2 hc
        refine lv_iload_n hx hb dX0_mark_7 rfl (lv_at hl 3 rfl) ?_
        refine lv_aload_n hx hb dX0_mark_8 rfl (lv_at hl 1 rfl) ?_
        refine zC_302 E hP dX0_mark_9 ?_
        refine lv_icmp_ge (tgt := 204) hx hb dX0_mark_10 (by decide) (fun hc => ?_) (fun hc => ?_)
        · have h := h.1 hc
          exact hK u _ _ _ h hP hD hS (lv_sub hl [] rfl)
        · have h := h.2 hc
          refine lv_aload_n hx hb dX0_mark_13 rfl (lv_at hl 0 rfl) ?_
          refine gC_803 E hP kfX0_29 dX0_mark_14 ?_
          refine lv_iconst (v := (0 : Int32)) hx hb dX0_mark_17 (by decide) ?_
          refine lv_aload_n hx hb dX0_mark_18 rfl (lv_at hl 1 rfl) ?_
          refine lv_iload_n hx hb dX0_mark_19 rfl (lv_at hl 3 rfl) ?_
          obtain ⟨h9, h⟩ := h
          refine xC_302 E hP h9 (v := ((gB u 302) (x3).toNatClampNeg)) rfl dX0_mark_20 ?_
          obtain ⟨h9, h⟩ := h
          refine yC_803 E hP hD hS h9 (f := (gB u 803)) rfl dX0_mark_21 (fun H locs hP hD hS => ?_)
          refine lv_iconst (v := (1 : Int32)) hx hb dX0_mark_22 (by decide) ?_
          refine lv_istore (lv' := [(4, .int (1 : Int32)), (0, .ref (G.1 8)), (1, .ref (G.1 14)), (2, .int c2), (3, .int x3)]) hx hb dX0_mark_23 hl (by decide) rfl (fun ls hl => ?_)
          refine lv_iconst (v := (0 : Int32)) hx hb dX0_mark_25 (by decide) ?_
          refine lv_istore (lv' := [(5, .int (0 : Int32)), (4, .int (1 : Int32)), (0, .ref (G.1 8)), (1, .ref (G.1 14)), (2, .int c2), (3, .int x3)]) hx hb dX0_mark_26 hl (by decide) rfl (fun ls hl => ?_)
          obtain ⟨n, h⟩ := h
          refine L_28 c2 x3 _ (fun u1 H locs ls h hP hD hS hl => ?_) n (1 : Int32) (0 : Int32) (sB u 803 (vp_updL (gB u 803) ((0 : Int32)).toNatClampNeg ((gB u 302) (x3).toNatClampNeg))) _ _ _ h hP hD hS (lv_sub hl [2, 3, 4, 5, 1, 0] rfl)
          refine lv_iinc (v := (x3 + (1 : Int32))) (lv' := [(3, .int (x3 + (1 : Int32))), (0, .ref (G.1 8)), (1, .ref (G.1 14)), (2, .int c2)]) hx hb dX0_mark_198 hl (k := 3) rfl rfl (by decide) rfl (fun ls hl => ?_)
          refine lv_goto (tgt := 2) hx hb dX0_mark_201 (by decide) ?_
          exact ih (x3 + (1 : Int32)) u1 _ _ _ h hP hD hS (lv_sub hl [1, 2, 3, 0] rfl)
  unfold wp_X0_mark_14 at h
  refine lv_iconst (v := (0 : Int32)) hx hb dX0_mark_0 (by decide) ?_
  refine lv_istore_n (lv' := [(3, .int (0 : Int32)), (0, .ref (G.1 8)), (1, .ref (G.1 14)), (2, .int p1)]) hx hb dX0_mark_1 rfl hl (by decide) rfl (fun ls hl => ?_)
  obtain ⟨n, h⟩ := h
  refine L_2 p1 _ (fun u3 H locs ls h hP hD hS hl => ?_) n (0 : Int32) u _ _ _ h hP hD hS (lv_sub hl [1, 2, 3, 0] rfl)
  exact retC_v E hr hlk hP hD hS h dX0_mark_204
def l_X0_mark_20_28 (N : Nat → Nat) (c2 : Int32) (c3 : Int32) (K : St → Prop) : Nat → Int32 → Int32 → St → Prop
  | 0, _, _, _ => False
  | n + 1, x4, x5, u => ((((2 : Int32) * (Int32.ofNat (N 800))) < x5 → K u) ∧ (¬ ((2 : Int32) * (Int32.ofNat (N 800))) < x5 → ((x4 ≤ 0 → K u) ∧ (¬ x4 ≤ 0 → vp_in (x4 + (-1 : Int32)) (N 803) ∧ ((((gB u 803) ((x4 + (-1 : Int32))).toNatClampNeg) < (2199023255552 : Int64) → l_X0_mark_20_28 N  c2 c3 K n (x4 + (-1 : Int32)) (x5 + (1 : Int32)) u) ∧ (¬ ((gB u 803) ((x4 + (-1 : Int32))).toNatClampNeg) < (2199023255552 : Int64) → ((((2199023255552 : Int64) + ((Int32.ofNat (N 800))).toInt64) ≤ ((gB u 803) ((x4 + (-1 : Int32))).toNatClampNeg) → l_X0_mark_20_28 N  c2 c3 K n (x4 + (-1 : Int32)) (x5 + (1 : Int32)) u) ∧ (¬ ((2199023255552 : Int64) + ((Int32.ofNat (N 800))).toInt64) ≤ ((gB u 803) ((x4 + (-1 : Int32))).toNatClampNeg) → vp_in (((((gB u 803) ((x4 + (-1 : Int32))).toNatClampNeg) - (2199023255552 : Int64))).toInt32) (N 802) ∧ ((((gA u 802) (((((gB u 803) ((x4 + (-1 : Int32))).toNatClampNeg) - (2199023255552 : Int64))).toInt32).toNatClampNeg) = (gI u 806) → l_X0_mark_20_28 N  c2 c3 K n (x4 + (-1 : Int32)) (x5 + (1 : Int32)) u) ∧ (¬ ((gA u 802) (((((gB u 803) ((x4 + (-1 : Int32))).toNatClampNeg) - (2199023255552 : Int64))).toInt32).toNatClampNeg) = (gI u 806) → (((Int32.ofNat (N 803)) ≤ ((x4 + (-1 : Int32)) + (1 : Int32)) → l_X0_mark_20_28 N  c2 c3 K n (x4 + (-1 : Int32)) (x5 + (1 : Int32)) u) ∧ (¬ (Int32.ofNat (N 803)) ≤ ((x4 + (-1 : Int32)) + (1 : Int32)) → vp_in (((((gB u 803) ((x4 + (-1 : Int32))).toNatClampNeg) - (2199023255552 : Int64))).toInt32) (N 802) ∧ vp_in (((((gB u 803) ((x4 + (-1 : Int32))).toNatClampNeg) - (2199023255552 : Int64))).toInt32) (N 801) ∧ vp_in (x4 + (-1 : Int32)) (N 803) ∧ vp_in (((((gB u 803) ((x4 + (-1 : Int32))).toNatClampNeg) - (2199023255552 : Int64))).toInt32) (N 800) ∧ vp_in ((x4 + (-1 : Int32)) + (1 : Int32)) (N 803) ∧ l_X0_mark_20_28 N  c2 c3 K n ((x4 + (-1 : Int32)) + (2 : Int32)) (x5 + (1 : Int32)) (sB (sB (sI (sA u 802 (upd (gA u 802) (((((gB u 803) ((x4 + (-1 : Int32))).toNatClampNeg) - (2199023255552 : Int64))).toInt32).toNatClampNeg (gI u 806))) 807 ((gI u 807) + (1 : Int32))) 803 (vp_updL (gB u 803) ((x4 + (-1 : Int32))).toNatClampNeg ((gB u 801) (((((gB u 803) ((x4 + (-1 : Int32))).toNatClampNeg) - (2199023255552 : Int64))).toInt32).toNatClampNeg))) 803 (vp_updL (vp_updL (gB u 803) ((x4 + (-1 : Int32))).toNatClampNeg ((gB u 801) (((((gB u 803) ((x4 + (-1 : Int32))).toNatClampNeg) - (2199023255552 : Int64))).toInt32).toNatClampNeg)) (((x4 + (-1 : Int32)) + (1 : Int32))).toNatClampNeg ((gB u 800) (((((gB u 803) ((x4 + (-1 : Int32))).toNatClampNeg) - (2199023255552 : Int64))).toInt32).toNatClampNeg)))))))))))))))
def l_X0_mark_20_2 (N : Nat → Nat) (c2 : Int32) (K : St → Prop) : Nat → Int32 → St → Prop
  | 0, _, _ => False
  | n + 1, x3, u => ((c2 ≤ x3 → K u) ∧ (¬ c2 ≤ x3 → (((Int32.ofNat 0) ≤ x3 → K u) ∧ (¬ (Int32.ofNat 0) ≤ x3 → vp_in x3 0 ∧ vp_in (0 : Int32) (N 803) ∧ (∃ k2 : Nat, l_X0_mark_20_28 N  c2 x3 (fun (u1 : St) => l_X0_mark_20_2 N  c2 K n (x3 + (1 : Int32)) u1) k2 (1 : Int32) (0 : Int32) (sB u 803 (vp_updL (gB u 803) ((0 : Int32)).toNatClampNeg ((gB u 508) (x3).toNatClampNeg))))))))
def wp_X0_mark_20 (N : Nat → Nat) (p1 : Int32) (u : St) (Q : St → Prop) : Prop := (∃ k4 : Nat, l_X0_mark_20_2 N  p1 (fun (u3 : St) => Q u3) k4 (0 : Int32) u)
abbrev rm_X0_mark_20 : Room := { frames := 0, cells := 0, slots := 0, locals := 0 }
set_option maxHeartbeats 4000000 in
set_option maxRecDepth 100000 in
theorem t_X0_mark_20 (l : Launch) (D : va_G) (G : Gd) (p1 : Int32) (u : St) (Q : St → Prop) (h : wp_X0_mark_20 G.2.1 p1 u Q) : MCv l D G yX0_mark cX0_mark 10 none rm_X0_mark_20 [.ref (G.1 8), .ref (G.1 20), .int p1] u Q := by
  refine startC_v (by decide) ?_
  intro p e s m args below meth c E hr hlk hml hP hD hS hA
  have hx := E.1
  have hb := E.2.1
  have hown := E.2.2.1
  have hW := E.2.2.2.1
  have hl := lv_entry ([.ref (G.1 8), .ref (G.1 20), .int p1]) (n := 10) (Nat.le_of_ble_eq_true rfl)
  rw [lg_entry_eq]
  generalize (lg_sl ([.ref (G.1 8), .ref (G.1 20), .int p1]) ++ List.replicate (10 - (lg_sl ([.ref (G.1 8), .ref (G.1 20), .int p1])).length) Slot.unset).toArray = ls at hl ⊢
  have hl : lv_has ls 10 [(0, .ref (G.1 8)), (1, .ref (G.1 20)), (2, .int p1)] := hl
  have L_28 : ∀ (c2 : Int32) (c3 : Int32) (K : St → Prop), (∀  (u : St) (H : Heap) (locs : List Loc) (ls : Array Slot), K  u → va_P D vwCl (wC G u) H → va_D (AC G s.heap.size) (wC G u) → va_S (AC G s.heap.size) s.heap H locs → lv_has ls 10 [(0, .ref (G.1 8)), (1, .ref (G.1 20)), (2, .int c2), (3, .int c3)] → W p l e rm_X0_mark_20 s m args below meth c H locs 0 0 (MQ below (va_Qv Q (BC D G s.heap.size) (AC G s.heap.size)) args s 0 0 (AC G s.heap.size)) (F0 m 198 ls [])) → ∀ (n : Nat) (x4 : Int32) (x5 : Int32) (u : St) (H : Heap) (locs : List Loc) (ls : Array Slot), l_X0_mark_20_28 G.2.1  c2 c3 K n x4 x5 u → va_P D vwCl (wC G u) H → va_D (AC G s.heap.size) (wC G u) → va_S (AC G s.heap.size) s.heap H locs → lv_has ls 10 [(0, .ref (G.1 8)), (1, .ref (G.1 20)), (2, .int c2), (3, .int c3), (4, .int x4), (5, .int x5)] → W p l e rm_X0_mark_20 s m args below meth c H locs 0 0 (MQ below (va_Qv Q (BC D G s.heap.size) (AC G s.heap.size)) args s 0 0 (AC G s.heap.size)) (F0 m 28 ls []) := by
    intro c2 c3 K hK n
    induction n with
    | zero => intro x4 x5 u H locs ls h; exact False.elim h
    | succ n ih =>
      intro x4 x5 u H locs ls h hP hD hS hl
      unfold l_X0_mark_20_28 at h
      refine lv_iload hx hb dX0_mark_28 (lv_at hl 5 rfl) ?_
      refine lv_iconst (v := (2 : Int32)) hx hb dX0_mark_30 (by decide) ?_
      refine lv_aload_n hx hb dX0_mark_31 rfl (lv_at hl 0 rfl) ?_
      refine gC_800 E hP kfX0_18 dX0_mark_32 ?_
      refine zC_800 E hP dX0_mark_35 ?_
      refine lv_imul hx hb dX0_mark_36 ?_
      refine lv_icmp_gt (tgt := 198) hx hb dX0_mark_37 (by decide) (fun hc => ?_) (fun hc => ?_)
      · have h := h.1 hc
        exact hK u _ _ _ h hP hD hS (lv_sub hl [0, 1, 2, 3] rfl)
      · have h := h.2 hc
        refine lv_iload hx hb dX0_mark_40 (lv_at hl 4 rfl) ?_
        refine lv_if_le (tgt := 198) hx hb dX0_mark_42 (by decide) (fun hc => ?_) (fun hc => ?_)
        · have h := h.1 hc
          exact hK u _ _ _ h hP hD hS (lv_sub hl [0, 1, 2, 3] rfl)
        · have h := h.2 hc
          refine lv_iinc (v := (x4 + (-1 : Int32))) (lv' := [(4, .int (x4 + (-1 : Int32))), (0, .ref (G.1 8)), (1, .ref (G.1 20)), (2, .int c2), (3, .int c3), (5, .int x5)]) hx hb dX0_mark_45 hl (k := 4) rfl rfl (by decide) rfl (fun ls hl => ?_)
          refine lv_aload_n hx hb dX0_mark_48 rfl (lv_at hl 1 rfl) ?_
          refine gC_803 E hP kfX0_29 dX0_mark_49 ?_
          refine lv_iload hx hb dX0_mark_52 (lv_at hl 0 rfl) ?_
          obtain ⟨h9, h⟩ := h
          refine xC_803 E hP h9 (v := ((gB u 803) ((x4 + (-1 : Int32))).toNatClampNeg)) rfl dX0_mark_54 ?_
          refine lv_lstore (lv' := [(6, .long ((gB u 803) ((x4 + (-1 : Int32))).toNatClampNeg)), (4, .int (x4 + (-1 : Int32))), (0, .ref (G.1 8)), (1, .ref (G.1 20)), (2, .int c2), (3, .int c3), (5, .int x5)]) hx hb dX0_mark_55 hl (by decide) rfl (fun ls hl => ?_)
          refine lv_lload hx hb dX0_mark_57 (lv_at hl 0 rfl) ?_
          refine lv_ldc2 (v := (2199023255552 : Int64)) hx hb hown (hW _ kcX0_38) dX0_mark_59 ?_
          refine lq_lt (tgt := 86) hx hb dX0_mark_62 dX0_mark_63 (by decide) (fun hc => ?_) (fun hc => ?_)
          · have h := h.1 hc
            refine lv_iconst (v := (0 : Int32)) hx hb dX0_mark_86 (by decide) ?_
            refine lv_istore (lv' := [(8, .int (0 : Int32)), (6, .long ((gB u 803) ((x4 + (-1 : Int32))).toNatClampNeg)), (4, .int (x4 + (-1 : Int32))), (0, .ref (G.1 8)), (1, .ref (G.1 20)), (2, .int c2), (3, .int c3), (5, .int x5)]) hx hb dX0_mark_87 hl (by decide) rfl (fun ls hl => ?_)
            refine lv_iload hx hb dX0_mark_89 (lv_at hl 0 rfl) ?_
            refine lv_if_eq (tgt := 104) hx hb dX0_mark_91 (by decide) (fun _ => ?_) (fun hc => absurd (by decide) hc)
            refine lv_iconst (v := (0 : Int32)) hx hb dX0_mark_104 (by decide) ?_
            refine lv_istore (lv' := [(9, .int (0 : Int32)), (8, .int (0 : Int32)), (6, .long ((gB u 803) ((x4 + (-1 : Int32))).toNatClampNeg)), (4, .int (x4 + (-1 : Int32))), (0, .ref (G.1 8)), (1, .ref (G.1 20)), (2, .int c2), (3, .int c3), (5, .int x5)]) hx hb dX0_mark_105 hl (by decide) rfl (fun ls hl => ?_)
            refine lv_iload hx hb dX0_mark_107 (lv_at hl 1 rfl) ?_
            refine lv_if_eq (tgt := 192) hx hb dX0_mark_109 (by decide) (fun _ => ?_) (fun hc => absurd (by decide) hc)
            refine lv_iinc (v := (x5 + (1 : Int32))) (lv' := [(5, .int (x5 + (1 : Int32))), (9, .int (0 : Int32)), (8, .int (0 : Int32)), (6, .long ((gB u 803) ((x4 + (-1 : Int32))).toNatClampNeg)), (4, .int (x4 + (-1 : Int32))), (0, .ref (G.1 8)), (1, .ref (G.1 20)), (2, .int c2), (3, .int c3)]) hx hb dX0_mark_192 hl (k := 8) rfl rfl (by decide) rfl (fun ls hl => ?_)
            refine lv_goto (tgt := 28) hx hb dX0_mark_195 (by decide) ?_
            exact ih (x4 + (-1 : Int32)) (x5 + (1 : Int32)) u _ _ _ h hP hD hS (lv_sub hl [5, 6, 7, 8, 4, 0] rfl)
          · have h := h.2 hc
            refine lv_lload hx hb dX0_mark_66 (lv_at hl 0 rfl) ?_
            refine lv_ldc2 (v := (2199023255552 : Int64)) hx hb hown (hW _ kcX0_38) dX0_mark_68 ?_
            refine lv_aload_n hx hb dX0_mark_71 rfl (lv_at hl 2 rfl) ?_
            refine gC_800 E hP kfX0_18 dX0_mark_72 ?_
            refine zC_800 E hP dX0_mark_75 ?_
            refine lv_i2l (v := ((Int32.ofNat (G.2.1 800))).toInt64) hx hb dX0_mark_76 rfl ?_
            refine lv_ladd hx hb dX0_mark_77 ?_
            refine lq_ge (tgt := 86) hx hb dX0_mark_78 dX0_mark_79 (by decide) (fun hc => ?_) (fun hc => ?_)
            · have h := h.1 hc
              refine lv_iconst (v := (0 : Int32)) hx hb dX0_mark_86 (by decide) ?_
              refine lv_istore (lv' := [(8, .int (0 : Int32)), (6, .long ((gB u 803) ((x4 + (-1 : Int32))).toNatClampNeg)), (4, .int (x4 + (-1 : Int32))), (0, .ref (G.1 8)), (1, .ref (G.1 20)), (2, .int c2), (3, .int c3), (5, .int x5)]) hx hb dX0_mark_87 hl (by decide) rfl (fun ls hl => ?_)
              refine lv_iload hx hb dX0_mark_89 (lv_at hl 0 rfl) ?_
              refine lv_if_eq (tgt := 104) hx hb dX0_mark_91 (by decide) (fun _ => ?_) (fun hc => absurd (by decide) hc)
              refine lv_iconst (v := (0 : Int32)) hx hb dX0_mark_104 (by decide) ?_
              refine lv_istore (lv' := [(9, .int (0 : Int32)), (8, .int (0 : Int32)), (6, .long ((gB u 803) ((x4 + (-1 : Int32))).toNatClampNeg)), (4, .int (x4 + (-1 : Int32))), (0, .ref (G.1 8)), (1, .ref (G.1 20)), (2, .int c2), (3, .int c3), (5, .int x5)]) hx hb dX0_mark_105 hl (by decide) rfl (fun ls hl => ?_)
              refine lv_iload hx hb dX0_mark_107 (lv_at hl 1 rfl) ?_
              refine lv_if_eq (tgt := 192) hx hb dX0_mark_109 (by decide) (fun _ => ?_) (fun hc => absurd (by decide) hc)
              refine lv_iinc (v := (x5 + (1 : Int32))) (lv' := [(5, .int (x5 + (1 : Int32))), (9, .int (0 : Int32)), (8, .int (0 : Int32)), (6, .long ((gB u 803) ((x4 + (-1 : Int32))).toNatClampNeg)), (4, .int (x4 + (-1 : Int32))), (0, .ref (G.1 8)), (1, .ref (G.1 20)), (2, .int c2), (3, .int c3)]) hx hb dX0_mark_192 hl (k := 8) rfl rfl (by decide) rfl (fun ls hl => ?_)
              refine lv_goto (tgt := 28) hx hb dX0_mark_195 (by decide) ?_
              exact ih (x4 + (-1 : Int32)) (x5 + (1 : Int32)) u _ _ _ h hP hD hS (lv_sub hl [5, 6, 7, 8, 4, 0] rfl)
            · have h := h.2 hc
              refine lv_iconst (v := (1 : Int32)) hx hb dX0_mark_82 (by decide) ?_
              refine lv_goto (tgt := 87) hx hb dX0_mark_83 (by decide) ?_
              refine lv_istore (lv' := [(8, .int (1 : Int32)), (6, .long ((gB u 803) ((x4 + (-1 : Int32))).toNatClampNeg)), (4, .int (x4 + (-1 : Int32))), (0, .ref (G.1 8)), (1, .ref (G.1 20)), (2, .int c2), (3, .int c3), (5, .int x5)]) hx hb dX0_mark_87 hl (by decide) rfl (fun ls hl => ?_)
              refine lv_iload hx hb dX0_mark_89 (lv_at hl 0 rfl) ?_
              refine lv_if_eq (tgt := 104) hx hb dX0_mark_91 (by decide) (fun hc => absurd hc (by decide)) (fun _ => ?_)
              refine lv_lload hx hb dX0_mark_94 (lv_at hl 1 rfl) ?_
              refine lv_ldc2 (v := (2199023255552 : Int64)) hx hb hown (hW _ kcX0_38) dX0_mark_96 ?_
              refine lv_lsub hx hb dX0_mark_99 ?_
              refine lv_l2i (v := ((((gB u 803) ((x4 + (-1 : Int32))).toNatClampNeg) - (2199023255552 : Int64))).toInt32) hx hb dX0_mark_100 rfl ?_
              refine lv_goto (tgt := 105) hx hb dX0_mark_101 (by decide) ?_
              refine lv_istore (lv' := [(9, .int ((((gB u 803) ((x4 + (-1 : Int32))).toNatClampNeg) - (2199023255552 : Int64))).toInt32), (8, .int (1 : Int32)), (6, .long ((gB u 803) ((x4 + (-1 : Int32))).toNatClampNeg)), (4, .int (x4 + (-1 : Int32))), (0, .ref (G.1 8)), (1, .ref (G.1 20)), (2, .int c2), (3, .int c3), (5, .int x5)]) hx hb dX0_mark_105 hl (by decide) rfl (fun ls hl => ?_)
              refine lv_iload hx hb dX0_mark_107 (lv_at hl 1 rfl) ?_
              refine lv_if_eq (tgt := 192) hx hb dX0_mark_109 (by decide) (fun hc => absurd hc (by decide)) (fun _ => ?_)
              refine lv_aload_n hx hb dX0_mark_112 rfl (lv_at hl 4 rfl) ?_
              refine gC_802 E hP kfX0_25 dX0_mark_113 ?_
              refine lv_iload hx hb dX0_mark_116 (lv_at hl 0 rfl) ?_
              obtain ⟨h9, h⟩ := h
              refine xC_802 E hP h9 (v := ((gA u 802) (((((gB u 803) ((x4 + (-1 : Int32))).toNatClampNeg) - (2199023255552 : Int64))).toInt32).toNatClampNeg)) rfl dX0_mark_118 ?_
              refine lv_aload_n hx hb dX0_mark_119 rfl (lv_at hl 4 rfl) ?_
              refine gC_806 E hP kfX0_9 (v := (gI u 806)) rfl dX0_mark_120 ?_
              refine lv_icmp_eq (tgt := 192) hx hb dX0_mark_123 (by decide) (fun hc => ?_) (fun hc => ?_)
              · have h := h.1 hc
                refine lv_iinc (v := (x5 + (1 : Int32))) (lv' := [(5, .int (x5 + (1 : Int32))), (9, .int ((((gB u 803) ((x4 + (-1 : Int32))).toNatClampNeg) - (2199023255552 : Int64))).toInt32), (8, .int (1 : Int32)), (6, .long ((gB u 803) ((x4 + (-1 : Int32))).toNatClampNeg)), (4, .int (x4 + (-1 : Int32))), (0, .ref (G.1 8)), (1, .ref (G.1 20)), (2, .int c2), (3, .int c3)]) hx hb dX0_mark_192 hl (k := 8) rfl rfl (by decide) rfl (fun ls hl => ?_)
                refine lv_goto (tgt := 28) hx hb dX0_mark_195 (by decide) ?_
                exact ih (x4 + (-1 : Int32)) (x5 + (1 : Int32)) u _ _ _ h hP hD hS (lv_sub hl [5, 6, 7, 8, 4, 0] rfl)
              · have h := h.2 hc
                refine lv_iload hx hb dX0_mark_126 (lv_at hl 3 rfl) ?_
                refine lv_iconst (v := (1 : Int32)) hx hb dX0_mark_128 (by decide) ?_
                refine lv_iadd hx hb dX0_mark_129 ?_
                refine lv_aload_n hx hb dX0_mark_130 rfl (lv_at hl 4 rfl) ?_
                refine gC_803 E hP kfX0_29 dX0_mark_131 ?_
                refine zC_803 E hP dX0_mark_134 ?_
                refine lv_icmp_ge (tgt := 192) hx hb dX0_mark_135 (by decide) (fun hc => ?_) (fun hc => ?_)
                · have h := h.1 hc
                  refine lv_iinc (v := (x5 + (1 : Int32))) (lv' := [(5, .int (x5 + (1 : Int32))), (9, .int ((((gB u 803) ((x4 + (-1 : Int32))).toNatClampNeg) - (2199023255552 : Int64))).toInt32), (8, .int (1 : Int32)), (6, .long ((gB u 803) ((x4 + (-1 : Int32))).toNatClampNeg)), (4, .int (x4 + (-1 : Int32))), (0, .ref (G.1 8)), (1, .ref (G.1 20)), (2, .int c2), (3, .int c3)]) hx hb dX0_mark_192 hl (k := 8) rfl rfl (by decide) rfl (fun ls hl => ?_)
                  refine lv_goto (tgt := 28) hx hb dX0_mark_195 (by decide) ?_
                  exact ih (x4 + (-1 : Int32)) (x5 + (1 : Int32)) u _ _ _ h hP hD hS (lv_sub hl [5, 6, 7, 8, 4, 0] rfl)
                · have h := h.2 hc
                  refine lv_aload_n hx hb dX0_mark_138 rfl (lv_at hl 4 rfl) ?_
                  refine gC_802 E hP kfX0_25 dX0_mark_139 ?_
                  refine lv_iload hx hb dX0_mark_142 (lv_at hl 0 rfl) ?_
                  refine lv_aload_n hx hb dX0_mark_144 rfl (lv_at hl 4 rfl) ?_
                  refine gC_806 E hP kfX0_9 (v := (gI u 806)) rfl dX0_mark_145 ?_
                  obtain ⟨h9, h⟩ := h
                  refine yC_802 E hP hD hS h9 (f := (gA u 802)) rfl dX0_mark_148 (fun H locs hP hD hS => ?_)
                  refine lv_aload_n hx hb dX0_mark_149 rfl (lv_at hl 4 rfl) ?_
                  refine lv_dup hx hb dX0_mark_150 rfl ?_
                  refine gC_807 E hP kfX0_15 (v := (gI u 807)) rfl dX0_mark_151 ?_
                  refine lv_iconst (v := (1 : Int32)) hx hb dX0_mark_154 (by decide) ?_
                  refine lv_iadd hx hb dX0_mark_155 ?_
                  refine pC_807 E hP hD hS kfX0_15 dX0_mark_156 (fun H locs hP hD hS => ?_)
                  refine lv_aload_n hx hb dX0_mark_159 rfl (lv_at hl 4 rfl) ?_
                  refine gC_803 E hP kfX0_29 dX0_mark_160 ?_
                  refine lv_iload hx hb dX0_mark_163 (lv_at hl 3 rfl) ?_
                  refine lv_aload_n hx hb dX0_mark_165 rfl (lv_at hl 4 rfl) ?_
                  refine gC_801 E hP kfX0_22 dX0_mark_166 ?_
                  refine lv_iload hx hb dX0_mark_169 (lv_at hl 0 rfl) ?_
                  obtain ⟨h9, h⟩ := h
                  refine xC_801 E hP h9 (v := ((gB u 801) (((((gB u 803) ((x4 + (-1 : Int32))).toNatClampNeg) - (2199023255552 : Int64))).toInt32).toNatClampNeg)) rfl dX0_mark_171 ?_
                  obtain ⟨h9, h⟩ := h
                  refine yC_803 E hP hD hS h9 (f := (gB u 803)) rfl dX0_mark_172 (fun H locs hP hD hS => ?_)
                  refine lv_aload_n hx hb dX0_mark_173 rfl (lv_at hl 4 rfl) ?_
                  refine gC_803 E hP kfX0_29 dX0_mark_174 ?_
                  refine lv_iload hx hb dX0_mark_177 (lv_at hl 3 rfl) ?_
                  refine lv_iconst (v := (1 : Int32)) hx hb dX0_mark_179 (by decide) ?_
                  refine lv_iadd hx hb dX0_mark_180 ?_
                  refine lv_aload_n hx hb dX0_mark_181 rfl (lv_at hl 4 rfl) ?_
                  refine gC_800 E hP kfX0_18 dX0_mark_182 ?_
                  refine lv_iload hx hb dX0_mark_185 (lv_at hl 0 rfl) ?_
                  obtain ⟨h9, h⟩ := h
                  refine xC_800 E hP h9 (v := ((gB u 800) (((((gB u 803) ((x4 + (-1 : Int32))).toNatClampNeg) - (2199023255552 : Int64))).toInt32).toNatClampNeg)) rfl dX0_mark_187 ?_
                  obtain ⟨h9, h⟩ := h
                  refine yC_803 E hP hD hS h9 (f := (vp_updL (gB u 803) ((x4 + (-1 : Int32))).toNatClampNeg ((gB u 801) (((((gB u 803) ((x4 + (-1 : Int32))).toNatClampNeg) - (2199023255552 : Int64))).toInt32).toNatClampNeg))) rfl dX0_mark_188 (fun H locs hP hD hS => ?_)
                  refine lv_iinc (v := ((x4 + (-1 : Int32)) + (2 : Int32))) (lv' := [(4, .int ((x4 + (-1 : Int32)) + (2 : Int32))), (9, .int ((((gB u 803) ((x4 + (-1 : Int32))).toNatClampNeg) - (2199023255552 : Int64))).toInt32), (8, .int (1 : Int32)), (6, .long ((gB u 803) ((x4 + (-1 : Int32))).toNatClampNeg)), (0, .ref (G.1 8)), (1, .ref (G.1 20)), (2, .int c2), (3, .int c3), (5, .int x5)]) hx hb dX0_mark_189 hl (k := 3) rfl rfl (by decide) rfl (fun ls hl => ?_)
                  refine lv_iinc (v := (x5 + (1 : Int32))) (lv' := [(5, .int (x5 + (1 : Int32))), (4, .int ((x4 + (-1 : Int32)) + (2 : Int32))), (9, .int ((((gB u 803) ((x4 + (-1 : Int32))).toNatClampNeg) - (2199023255552 : Int64))).toInt32), (8, .int (1 : Int32)), (6, .long ((gB u 803) ((x4 + (-1 : Int32))).toNatClampNeg)), (0, .ref (G.1 8)), (1, .ref (G.1 20)), (2, .int c2), (3, .int c3)]) hx hb dX0_mark_192 hl (k := 8) rfl rfl (by decide) rfl (fun ls hl => ?_)
                  refine lv_goto (tgt := 28) hx hb dX0_mark_195 (by decide) ?_
                  exact ih ((x4 + (-1 : Int32)) + (2 : Int32)) (x5 + (1 : Int32)) (sB (sB (sI (sA u 802 (upd (gA u 802) (((((gB u 803) ((x4 + (-1 : Int32))).toNatClampNeg) - (2199023255552 : Int64))).toInt32).toNatClampNeg (gI u 806))) 807 ((gI u 807) + (1 : Int32))) 803 (vp_updL (gB u 803) ((x4 + (-1 : Int32))).toNatClampNeg ((gB u 801) (((((gB u 803) ((x4 + (-1 : Int32))).toNatClampNeg) - (2199023255552 : Int64))).toInt32).toNatClampNeg))) 803 (vp_updL (vp_updL (gB u 803) ((x4 + (-1 : Int32))).toNatClampNeg ((gB u 801) (((((gB u 803) ((x4 + (-1 : Int32))).toNatClampNeg) - (2199023255552 : Int64))).toInt32).toNatClampNeg)) (((x4 + (-1 : Int32)) + (1 : Int32))).toNatClampNeg ((gB u 800) (((((gB u 803) ((x4 + (-1 : Int32))).toNatClampNeg) - (2199023255552 : Int64))).toInt32).toNatClampNeg))) _ _ _ h hP hD hS (lv_sub hl [5, 6, 7, 8, 1, 0] rfl)
  have L_2 : ∀ (c2 : Int32) (K : St → Prop), (∀  (u : St) (H : Heap) (locs : List Loc) (ls : Array Slot), K  u → va_P D vwCl (wC G u) H → va_D (AC G s.heap.size) (wC G u) → va_S (AC G s.heap.size) s.heap H locs → lv_has ls 10 [] → W p l e rm_X0_mark_20 s m args below meth c H locs 0 0 (MQ below (va_Qv Q (BC D G s.heap.size) (AC G s.heap.size)) args s 0 0 (AC G s.heap.size)) (F0 m 204 ls [])) → ∀ (n : Nat) (x3 : Int32) (u : St) (H : Heap) (locs : List Loc) (ls : Array Slot), l_X0_mark_20_2 G.2.1  c2 K n x3 u → va_P D vwCl (wC G u) H → va_D (AC G s.heap.size) (wC G u) → va_S (AC G s.heap.size) s.heap H locs → lv_has ls 10 [(0, .ref (G.1 8)), (1, .ref (G.1 20)), (2, .int c2), (3, .int x3)] → W p l e rm_X0_mark_20 s m args below meth c H locs 0 0 (MQ below (va_Qv Q (BC D G s.heap.size) (AC G s.heap.size)) args s 0 0 (AC G s.heap.size)) (F0 m 2 ls []) := by
    intro c2 K hK n
    induction n with
    | zero => intro x3 u H locs ls h; exact False.elim h
    | succ n ih =>
      intro x3 u H locs ls h hP hD hS hl
      unfold l_X0_mark_20_2 at h
      refine lv_iload_n hx hb dX0_mark_2 rfl (lv_at hl 3 rfl) ?_
      refine lv_iload_n hx hb dX0_mark_3 rfl (lv_at hl 2 rfl) ?_
      refine lv_icmp_ge (tgt := 204) hx hb dX0_mark_4 (by decide) (fun hc => ?_) (fun hc => ?_)
      · have h := h.1 hc
        exact hK u _ _ _ h hP hD hS (lv_sub hl [] rfl)
      · have h := h.2 hc
        refine lv_iload_n hx hb dX0_mark_7 rfl (lv_at hl 3 rfl) ?_
        refine lv_aload_n hx hb dX0_mark_8 rfl (lv_at hl 1 rfl) ?_
        refine zC_508 E hP dX0_mark_9 ?_
        refine lv_icmp_ge (tgt := 204) hx hb dX0_mark_10 (by decide) (fun hc => ?_) (fun hc => ?_)
        · have h := h.1 hc
          exact hK u _ _ _ h hP hD hS (lv_sub hl [] rfl)
        · have h := h.2 hc
          refine lv_aload_n hx hb dX0_mark_13 rfl (lv_at hl 0 rfl) ?_
          refine gC_803 E hP kfX0_29 dX0_mark_14 ?_
          refine lv_iconst (v := (0 : Int32)) hx hb dX0_mark_17 (by decide) ?_
          refine lv_aload_n hx hb dX0_mark_18 rfl (lv_at hl 1 rfl) ?_
          refine lv_iload_n hx hb dX0_mark_19 rfl (lv_at hl 3 rfl) ?_
          obtain ⟨h9, h⟩ := h
          refine xC_508 E hP h9 (v := ((gB u 508) (x3).toNatClampNeg)) rfl dX0_mark_20 ?_
          obtain ⟨h9, h⟩ := h
          refine yC_803 E hP hD hS h9 (f := (gB u 803)) rfl dX0_mark_21 (fun H locs hP hD hS => ?_)
          refine lv_iconst (v := (1 : Int32)) hx hb dX0_mark_22 (by decide) ?_
          refine lv_istore (lv' := [(4, .int (1 : Int32)), (0, .ref (G.1 8)), (1, .ref (G.1 20)), (2, .int c2), (3, .int x3)]) hx hb dX0_mark_23 hl (by decide) rfl (fun ls hl => ?_)
          refine lv_iconst (v := (0 : Int32)) hx hb dX0_mark_25 (by decide) ?_
          refine lv_istore (lv' := [(5, .int (0 : Int32)), (4, .int (1 : Int32)), (0, .ref (G.1 8)), (1, .ref (G.1 20)), (2, .int c2), (3, .int x3)]) hx hb dX0_mark_26 hl (by decide) rfl (fun ls hl => ?_)
          obtain ⟨n, h⟩ := h
          refine L_28 c2 x3 _ (fun u1 H locs ls h hP hD hS hl => ?_) n (1 : Int32) (0 : Int32) (sB u 803 (vp_updL (gB u 803) ((0 : Int32)).toNatClampNeg ((gB u 508) (x3).toNatClampNeg))) _ _ _ h hP hD hS (lv_sub hl [2, 3, 4, 5, 1, 0] rfl)
          refine lv_iinc (v := (x3 + (1 : Int32))) (lv' := [(3, .int (x3 + (1 : Int32))), (0, .ref (G.1 8)), (1, .ref (G.1 20)), (2, .int c2)]) hx hb dX0_mark_198 hl (k := 3) rfl rfl (by decide) rfl (fun ls hl => ?_)
          refine lv_goto (tgt := 2) hx hb dX0_mark_201 (by decide) ?_
          exact ih (x3 + (1 : Int32)) u1 _ _ _ h hP hD hS (lv_sub hl [1, 2, 3, 0] rfl)
  unfold wp_X0_mark_20 at h
  refine lv_iconst (v := (0 : Int32)) hx hb dX0_mark_0 (by decide) ?_
  refine lv_istore_n (lv' := [(3, .int (0 : Int32)), (0, .ref (G.1 8)), (1, .ref (G.1 20)), (2, .int p1)]) hx hb dX0_mark_1 rfl hl (by decide) rfl (fun ls hl => ?_)
  obtain ⟨n, h⟩ := h
  refine L_2 p1 _ (fun u3 H locs ls h hP hD hS hl => ?_) n (0 : Int32) u _ _ _ h hP hD hS (lv_sub hl [1, 2, 3, 0] rfl)
  exact retC_v E hr hlk hP hD hS h dX0_mark_204
def l_X0_mark_15_28 (N : Nat → Nat) (c2 : Int32) (c3 : Int32) (K : St → Prop) : Nat → Int32 → Int32 → St → Prop
  | 0, _, _, _ => False
  | n + 1, x4, x5, u => ((((2 : Int32) * (Int32.ofNat (N 800))) < x5 → K u) ∧ (¬ ((2 : Int32) * (Int32.ofNat (N 800))) < x5 → ((x4 ≤ 0 → K u) ∧ (¬ x4 ≤ 0 → vp_in (x4 + (-1 : Int32)) (N 803) ∧ ((((gB u 803) ((x4 + (-1 : Int32))).toNatClampNeg) < (2199023255552 : Int64) → l_X0_mark_15_28 N  c2 c3 K n (x4 + (-1 : Int32)) (x5 + (1 : Int32)) u) ∧ (¬ ((gB u 803) ((x4 + (-1 : Int32))).toNatClampNeg) < (2199023255552 : Int64) → ((((2199023255552 : Int64) + ((Int32.ofNat (N 800))).toInt64) ≤ ((gB u 803) ((x4 + (-1 : Int32))).toNatClampNeg) → l_X0_mark_15_28 N  c2 c3 K n (x4 + (-1 : Int32)) (x5 + (1 : Int32)) u) ∧ (¬ ((2199023255552 : Int64) + ((Int32.ofNat (N 800))).toInt64) ≤ ((gB u 803) ((x4 + (-1 : Int32))).toNatClampNeg) → vp_in (((((gB u 803) ((x4 + (-1 : Int32))).toNatClampNeg) - (2199023255552 : Int64))).toInt32) (N 802) ∧ ((((gA u 802) (((((gB u 803) ((x4 + (-1 : Int32))).toNatClampNeg) - (2199023255552 : Int64))).toInt32).toNatClampNeg) = (gI u 806) → l_X0_mark_15_28 N  c2 c3 K n (x4 + (-1 : Int32)) (x5 + (1 : Int32)) u) ∧ (¬ ((gA u 802) (((((gB u 803) ((x4 + (-1 : Int32))).toNatClampNeg) - (2199023255552 : Int64))).toInt32).toNatClampNeg) = (gI u 806) → (((Int32.ofNat (N 803)) ≤ ((x4 + (-1 : Int32)) + (1 : Int32)) → l_X0_mark_15_28 N  c2 c3 K n (x4 + (-1 : Int32)) (x5 + (1 : Int32)) u) ∧ (¬ (Int32.ofNat (N 803)) ≤ ((x4 + (-1 : Int32)) + (1 : Int32)) → vp_in (((((gB u 803) ((x4 + (-1 : Int32))).toNatClampNeg) - (2199023255552 : Int64))).toInt32) (N 802) ∧ vp_in (((((gB u 803) ((x4 + (-1 : Int32))).toNatClampNeg) - (2199023255552 : Int64))).toInt32) (N 801) ∧ vp_in (x4 + (-1 : Int32)) (N 803) ∧ vp_in (((((gB u 803) ((x4 + (-1 : Int32))).toNatClampNeg) - (2199023255552 : Int64))).toInt32) (N 800) ∧ vp_in ((x4 + (-1 : Int32)) + (1 : Int32)) (N 803) ∧ l_X0_mark_15_28 N  c2 c3 K n ((x4 + (-1 : Int32)) + (2 : Int32)) (x5 + (1 : Int32)) (sB (sB (sI (sA u 802 (upd (gA u 802) (((((gB u 803) ((x4 + (-1 : Int32))).toNatClampNeg) - (2199023255552 : Int64))).toInt32).toNatClampNeg (gI u 806))) 807 ((gI u 807) + (1 : Int32))) 803 (vp_updL (gB u 803) ((x4 + (-1 : Int32))).toNatClampNeg ((gB u 801) (((((gB u 803) ((x4 + (-1 : Int32))).toNatClampNeg) - (2199023255552 : Int64))).toInt32).toNatClampNeg))) 803 (vp_updL (vp_updL (gB u 803) ((x4 + (-1 : Int32))).toNatClampNeg ((gB u 801) (((((gB u 803) ((x4 + (-1 : Int32))).toNatClampNeg) - (2199023255552 : Int64))).toInt32).toNatClampNeg)) (((x4 + (-1 : Int32)) + (1 : Int32))).toNatClampNeg ((gB u 800) (((((gB u 803) ((x4 + (-1 : Int32))).toNatClampNeg) - (2199023255552 : Int64))).toInt32).toNatClampNeg)))))))))))))))
def l_X0_mark_15_2 (N : Nat → Nat) (c2 : Int32) (K : St → Prop) : Nat → Int32 → St → Prop
  | 0, _, _ => False
  | n + 1, x3, u => ((c2 ≤ x3 → K u) ∧ (¬ c2 ≤ x3 → (((Int32.ofNat 2) ≤ x3 → K u) ∧ (¬ (Int32.ofNat 2) ≤ x3 → vp_in x3 2 ∧ vp_in (0 : Int32) (N 803) ∧ (∃ k2 : Nat, l_X0_mark_15_28 N  c2 x3 (fun (u1 : St) => l_X0_mark_15_2 N  c2 K n (x3 + (1 : Int32)) u1) k2 (1 : Int32) (0 : Int32) (sB u 803 (vp_updL (gB u 803) ((0 : Int32)).toNatClampNeg ((gB u 403) (x3).toNatClampNeg))))))))
def wp_X0_mark_15 (N : Nat → Nat) (p1 : Int32) (u : St) (Q : St → Prop) : Prop := (∃ k4 : Nat, l_X0_mark_15_2 N  p1 (fun (u3 : St) => Q u3) k4 (0 : Int32) u)
abbrev rm_X0_mark_15 : Room := { frames := 0, cells := 0, slots := 0, locals := 0 }
set_option maxHeartbeats 4000000 in
set_option maxRecDepth 100000 in
theorem t_X0_mark_15 (l : Launch) (D : va_G) (G : Gd) (p1 : Int32) (u : St) (Q : St → Prop) (h : wp_X0_mark_15 G.2.1 p1 u Q) : MCv l D G yX0_mark cX0_mark 10 none rm_X0_mark_15 [.ref (G.1 8), .ref (G.1 15), .int p1] u Q := by
  refine startC_v (by decide) ?_
  intro p e s m args below meth c E hr hlk hml hP hD hS hA
  have hx := E.1
  have hb := E.2.1
  have hown := E.2.2.1
  have hW := E.2.2.2.1
  have hl := lv_entry ([.ref (G.1 8), .ref (G.1 15), .int p1]) (n := 10) (Nat.le_of_ble_eq_true rfl)
  rw [lg_entry_eq]
  generalize (lg_sl ([.ref (G.1 8), .ref (G.1 15), .int p1]) ++ List.replicate (10 - (lg_sl ([.ref (G.1 8), .ref (G.1 15), .int p1])).length) Slot.unset).toArray = ls at hl ⊢
  have hl : lv_has ls 10 [(0, .ref (G.1 8)), (1, .ref (G.1 15)), (2, .int p1)] := hl
  have L_28 : ∀ (c2 : Int32) (c3 : Int32) (K : St → Prop), (∀  (u : St) (H : Heap) (locs : List Loc) (ls : Array Slot), K  u → va_P D vwCl (wC G u) H → va_D (AC G s.heap.size) (wC G u) → va_S (AC G s.heap.size) s.heap H locs → lv_has ls 10 [(0, .ref (G.1 8)), (1, .ref (G.1 15)), (2, .int c2), (3, .int c3)] → W p l e rm_X0_mark_15 s m args below meth c H locs 0 0 (MQ below (va_Qv Q (BC D G s.heap.size) (AC G s.heap.size)) args s 0 0 (AC G s.heap.size)) (F0 m 198 ls [])) → ∀ (n : Nat) (x4 : Int32) (x5 : Int32) (u : St) (H : Heap) (locs : List Loc) (ls : Array Slot), l_X0_mark_15_28 G.2.1  c2 c3 K n x4 x5 u → va_P D vwCl (wC G u) H → va_D (AC G s.heap.size) (wC G u) → va_S (AC G s.heap.size) s.heap H locs → lv_has ls 10 [(0, .ref (G.1 8)), (1, .ref (G.1 15)), (2, .int c2), (3, .int c3), (4, .int x4), (5, .int x5)] → W p l e rm_X0_mark_15 s m args below meth c H locs 0 0 (MQ below (va_Qv Q (BC D G s.heap.size) (AC G s.heap.size)) args s 0 0 (AC G s.heap.size)) (F0 m 28 ls []) := by
    intro c2 c3 K hK n
    induction n with
    | zero => intro x4 x5 u H locs ls h; exact False.elim h
    | succ n ih =>
      intro x4 x5 u H locs ls h hP hD hS hl
      unfold l_X0_mark_15_28 at h
      refine lv_iload hx hb dX0_mark_28 (lv_at hl 5 rfl) ?_
      refine lv_iconst (v := (2 : Int32)) hx hb dX0_mark_30 (by decide) ?_
      refine lv_aload_n hx hb dX0_mark_31 rfl (lv_at hl 0 rfl) ?_
      refine gC_800 E hP kfX0_18 dX0_mark_32 ?_
      refine zC_800 E hP dX0_mark_35 ?_
      refine lv_imul hx hb dX0_mark_36 ?_
      refine lv_icmp_gt (tgt := 198) hx hb dX0_mark_37 (by decide) (fun hc => ?_) (fun hc => ?_)
      · have h := h.1 hc
        exact hK u _ _ _ h hP hD hS (lv_sub hl [0, 1, 2, 3] rfl)
      · have h := h.2 hc
        refine lv_iload hx hb dX0_mark_40 (lv_at hl 4 rfl) ?_
        refine lv_if_le (tgt := 198) hx hb dX0_mark_42 (by decide) (fun hc => ?_) (fun hc => ?_)
        · have h := h.1 hc
          exact hK u _ _ _ h hP hD hS (lv_sub hl [0, 1, 2, 3] rfl)
        · have h := h.2 hc
          refine lv_iinc (v := (x4 + (-1 : Int32))) (lv' := [(4, .int (x4 + (-1 : Int32))), (0, .ref (G.1 8)), (1, .ref (G.1 15)), (2, .int c2), (3, .int c3), (5, .int x5)]) hx hb dX0_mark_45 hl (k := 4) rfl rfl (by decide) rfl (fun ls hl => ?_)
          refine lv_aload_n hx hb dX0_mark_48 rfl (lv_at hl 1 rfl) ?_
          refine gC_803 E hP kfX0_29 dX0_mark_49 ?_
          refine lv_iload hx hb dX0_mark_52 (lv_at hl 0 rfl) ?_
          obtain ⟨h9, h⟩ := h
          refine xC_803 E hP h9 (v := ((gB u 803) ((x4 + (-1 : Int32))).toNatClampNeg)) rfl dX0_mark_54 ?_
          refine lv_lstore (lv' := [(6, .long ((gB u 803) ((x4 + (-1 : Int32))).toNatClampNeg)), (4, .int (x4 + (-1 : Int32))), (0, .ref (G.1 8)), (1, .ref (G.1 15)), (2, .int c2), (3, .int c3), (5, .int x5)]) hx hb dX0_mark_55 hl (by decide) rfl (fun ls hl => ?_)
          refine lv_lload hx hb dX0_mark_57 (lv_at hl 0 rfl) ?_
          refine lv_ldc2 (v := (2199023255552 : Int64)) hx hb hown (hW _ kcX0_38) dX0_mark_59 ?_
          refine lq_lt (tgt := 86) hx hb dX0_mark_62 dX0_mark_63 (by decide) (fun hc => ?_) (fun hc => ?_)
          · have h := h.1 hc
            refine lv_iconst (v := (0 : Int32)) hx hb dX0_mark_86 (by decide) ?_
            refine lv_istore (lv' := [(8, .int (0 : Int32)), (6, .long ((gB u 803) ((x4 + (-1 : Int32))).toNatClampNeg)), (4, .int (x4 + (-1 : Int32))), (0, .ref (G.1 8)), (1, .ref (G.1 15)), (2, .int c2), (3, .int c3), (5, .int x5)]) hx hb dX0_mark_87 hl (by decide) rfl (fun ls hl => ?_)
            refine lv_iload hx hb dX0_mark_89 (lv_at hl 0 rfl) ?_
            refine lv_if_eq (tgt := 104) hx hb dX0_mark_91 (by decide) (fun _ => ?_) (fun hc => absurd (by decide) hc)
            refine lv_iconst (v := (0 : Int32)) hx hb dX0_mark_104 (by decide) ?_
            refine lv_istore (lv' := [(9, .int (0 : Int32)), (8, .int (0 : Int32)), (6, .long ((gB u 803) ((x4 + (-1 : Int32))).toNatClampNeg)), (4, .int (x4 + (-1 : Int32))), (0, .ref (G.1 8)), (1, .ref (G.1 15)), (2, .int c2), (3, .int c3), (5, .int x5)]) hx hb dX0_mark_105 hl (by decide) rfl (fun ls hl => ?_)
            refine lv_iload hx hb dX0_mark_107 (lv_at hl 1 rfl) ?_
            refine lv_if_eq (tgt := 192) hx hb dX0_mark_109 (by decide) (fun _ => ?_) (fun hc => absurd (by decide) hc)
            refine lv_iinc (v := (x5 + (1 : Int32))) (lv' := [(5, .int (x5 + (1 : Int32))), (9, .int (0 : Int32)), (8, .int (0 : Int32)), (6, .long ((gB u 803) ((x4 + (-1 : Int32))).toNatClampNeg)), (4, .int (x4 + (-1 : Int32))), (0, .ref (G.1 8)), (1, .ref (G.1 15)), (2, .int c2), (3, .int c3)]) hx hb dX0_mark_192 hl (k := 8) rfl rfl (by decide) rfl (fun ls hl => ?_)
            refine lv_goto (tgt := 28) hx hb dX0_mark_195 (by decide) ?_
            exact ih (x4 + (-1 : Int32)) (x5 + (1 : Int32)) u _ _ _ h hP hD hS (lv_sub hl [5, 6, 7, 8, 4, 0] rfl)
          · have h := h.2 hc
            refine lv_lload hx hb dX0_mark_66 (lv_at hl 0 rfl) ?_
            refine lv_ldc2 (v := (2199023255552 : Int64)) hx hb hown (hW _ kcX0_38) dX0_mark_68 ?_
            refine lv_aload_n hx hb dX0_mark_71 rfl (lv_at hl 2 rfl) ?_
            refine gC_800 E hP kfX0_18 dX0_mark_72 ?_
            refine zC_800 E hP dX0_mark_75 ?_
            refine lv_i2l (v := ((Int32.ofNat (G.2.1 800))).toInt64) hx hb dX0_mark_76 rfl ?_
            refine lv_ladd hx hb dX0_mark_77 ?_
            refine lq_ge (tgt := 86) hx hb dX0_mark_78 dX0_mark_79 (by decide) (fun hc => ?_) (fun hc => ?_)
            · have h := h.1 hc
              refine lv_iconst (v := (0 : Int32)) hx hb dX0_mark_86 (by decide) ?_
              refine lv_istore (lv' := [(8, .int (0 : Int32)), (6, .long ((gB u 803) ((x4 + (-1 : Int32))).toNatClampNeg)), (4, .int (x4 + (-1 : Int32))), (0, .ref (G.1 8)), (1, .ref (G.1 15)), (2, .int c2), (3, .int c3), (5, .int x5)]) hx hb dX0_mark_87 hl (by decide) rfl (fun ls hl => ?_)
              refine lv_iload hx hb dX0_mark_89 (lv_at hl 0 rfl) ?_
              refine lv_if_eq (tgt := 104) hx hb dX0_mark_91 (by decide) (fun _ => ?_) (fun hc => absurd (by decide) hc)
              refine lv_iconst (v := (0 : Int32)) hx hb dX0_mark_104 (by decide) ?_
              refine lv_istore (lv' := [(9, .int (0 : Int32)), (8, .int (0 : Int32)), (6, .long ((gB u 803) ((x4 + (-1 : Int32))).toNatClampNeg)), (4, .int (x4 + (-1 : Int32))), (0, .ref (G.1 8)), (1, .ref (G.1 15)), (2, .int c2), (3, .int c3), (5, .int x5)]) hx hb dX0_mark_105 hl (by decide) rfl (fun ls hl => ?_)
              refine lv_iload hx hb dX0_mark_107 (lv_at hl 1 rfl) ?_
              refine lv_if_eq (tgt := 192) hx hb dX0_mark_109 (by decide) (fun _ => ?_) (fun hc => absurd (by decide) hc)
              refine lv_iinc (v := (x5 + (1 : Int32))) (lv' := [(5, .int (x5 + (1 : Int32))), (9, .int (0 : Int32)), (8, .int (0 : Int32)), (6, .long ((gB u 803) ((x4 + (-1 : Int32))).toNatClampNeg)), (4, .int (x4 + (-1 : Int32))), (0, .ref (G.1 8)), (1, .ref (G.1 15)), (2, .int c2), (3, .int c3)]) hx hb dX0_mark_192 hl (k := 8) rfl rfl (by decide) rfl (fun ls hl => ?_)
              refine lv_goto (tgt := 28) hx hb dX0_mark_195 (by decide) ?_
              exact ih (x4 + (-1 : Int32)) (x5 + (1 : Int32)) u _ _ _ h hP hD hS (lv_sub hl [5, 6, 7, 8, 4, 0] rfl)
            · have h := h.2 hc
              refine lv_iconst (v := (1 : Int32)) hx hb dX0_mark_82 (by decide) ?_
              refine lv_goto (tgt := 87) hx hb dX0_mark_83 (by decide) ?_
              refine lv_istore (lv' := [(8, .int (1 : Int32)), (6, .long ((gB u 803) ((x4 + (-1 : Int32))).toNatClampNeg)), (4, .int (x4 + (-1 : Int32))), (0, .ref (G.1 8)), (1, .ref (G.1 15)), (2, .int c2), (3, .int c3), (5, .int x5)]) hx hb dX0_mark_87 hl (by decide) rfl (fun ls hl => ?_)
              refine lv_iload hx hb dX0_mark_89 (lv_at hl 0 rfl) ?_
              refine lv_if_eq (tgt := 104) hx hb dX0_mark_91 (by decide) (fun hc => absurd hc (by decide)) (fun _ => ?_)
              refine lv_lload hx hb dX0_mark_94 (lv_at hl 1 rfl) ?_
              refine lv_ldc2 (v := (2199023255552 : Int64)) hx hb hown (hW _ kcX0_38) dX0_mark_96 ?_
              refine lv_lsub hx hb dX0_mark_99 ?_
              refine lv_l2i (v := ((((gB u 803) ((x4 + (-1 : Int32))).toNatClampNeg) - (2199023255552 : Int64))).toInt32) hx hb dX0_mark_100 rfl ?_
              refine lv_goto (tgt := 105) hx hb dX0_mark_101 (by decide) ?_
              refine lv_istore (lv' := [(9, .int ((((gB u 803) ((x4 + (-1 : Int32))).toNatClampNeg) - (2199023255552 : Int64))).toInt32), (8, .int (1 : Int32)), (6, .long ((gB u 803) ((x4 + (-1 : Int32))).toNatClampNeg)), (4, .int (x4 + (-1 : Int32))), (0, .ref (G.1 8)), (1, .ref (G.1 15)), (2, .int c2), (3, .int c3), (5, .int x5)]) hx hb dX0_mark_105 hl (by decide) rfl (fun ls hl => ?_)
              refine lv_iload hx hb dX0_mark_107 (lv_at hl 1 rfl) ?_
              refine lv_if_eq (tgt := 192) hx hb dX0_mark_109 (by decide) (fun hc => absurd hc (by decide)) (fun _ => ?_)
              refine lv_aload_n hx hb dX0_mark_112 rfl (lv_at hl 4 rfl) ?_
              refine gC_802 E hP kfX0_25 dX0_mark_113 ?_
              refine lv_iload hx hb dX0_mark_116 (lv_at hl 0 rfl) ?_
              obtain ⟨h9, h⟩ := h
              refine xC_802 E hP h9 (v := ((gA u 802) (((((gB u 803) ((x4 + (-1 : Int32))).toNatClampNeg) - (2199023255552 : Int64))).toInt32).toNatClampNeg)) rfl dX0_mark_118 ?_
              refine lv_aload_n hx hb dX0_mark_119 rfl (lv_at hl 4 rfl) ?_
              refine gC_806 E hP kfX0_9 (v := (gI u 806)) rfl dX0_mark_120 ?_
              refine lv_icmp_eq (tgt := 192) hx hb dX0_mark_123 (by decide) (fun hc => ?_) (fun hc => ?_)
              · have h := h.1 hc
                refine lv_iinc (v := (x5 + (1 : Int32))) (lv' := [(5, .int (x5 + (1 : Int32))), (9, .int ((((gB u 803) ((x4 + (-1 : Int32))).toNatClampNeg) - (2199023255552 : Int64))).toInt32), (8, .int (1 : Int32)), (6, .long ((gB u 803) ((x4 + (-1 : Int32))).toNatClampNeg)), (4, .int (x4 + (-1 : Int32))), (0, .ref (G.1 8)), (1, .ref (G.1 15)), (2, .int c2), (3, .int c3)]) hx hb dX0_mark_192 hl (k := 8) rfl rfl (by decide) rfl (fun ls hl => ?_)
                refine lv_goto (tgt := 28) hx hb dX0_mark_195 (by decide) ?_
                exact ih (x4 + (-1 : Int32)) (x5 + (1 : Int32)) u _ _ _ h hP hD hS (lv_sub hl [5, 6, 7, 8, 4, 0] rfl)
              · have h := h.2 hc
                refine lv_iload hx hb dX0_mark_126 (lv_at hl 3 rfl) ?_
                refine lv_iconst (v := (1 : Int32)) hx hb dX0_mark_128 (by decide) ?_
                refine lv_iadd hx hb dX0_mark_129 ?_
                refine lv_aload_n hx hb dX0_mark_130 rfl (lv_at hl 4 rfl) ?_
                refine gC_803 E hP kfX0_29 dX0_mark_131 ?_
                refine zC_803 E hP dX0_mark_134 ?_
                refine lv_icmp_ge (tgt := 192) hx hb dX0_mark_135 (by decide) (fun hc => ?_) (fun hc => ?_)
                · have h := h.1 hc
                  refine lv_iinc (v := (x5 + (1 : Int32))) (lv' := [(5, .int (x5 + (1 : Int32))), (9, .int ((((gB u 803) ((x4 + (-1 : Int32))).toNatClampNeg) - (2199023255552 : Int64))).toInt32), (8, .int (1 : Int32)), (6, .long ((gB u 803) ((x4 + (-1 : Int32))).toNatClampNeg)), (4, .int (x4 + (-1 : Int32))), (0, .ref (G.1 8)), (1, .ref (G.1 15)), (2, .int c2), (3, .int c3)]) hx hb dX0_mark_192 hl (k := 8) rfl rfl (by decide) rfl (fun ls hl => ?_)
                  refine lv_goto (tgt := 28) hx hb dX0_mark_195 (by decide) ?_
                  exact ih (x4 + (-1 : Int32)) (x5 + (1 : Int32)) u _ _ _ h hP hD hS (lv_sub hl [5, 6, 7, 8, 4, 0] rfl)
                · have h := h.2 hc
                  refine lv_aload_n hx hb dX0_mark_138 rfl (lv_at hl 4 rfl) ?_
                  refine gC_802 E hP kfX0_25 dX0_mark_139 ?_
                  refine lv_iload hx hb dX0_mark_142 (lv_at hl 0 rfl) ?_
                  refine lv_aload_n hx hb dX0_mark_144 rfl (lv_at hl 4 rfl) ?_
                  refine gC_806 E hP kfX0_9 (v := (gI u 806)) rfl dX0_mark_145 ?_
                  obtain ⟨h9, h⟩ := h
                  refine yC_802 E hP hD hS h9 (f := (gA u 802)) rfl dX0_mark_148 (fun H locs hP hD hS => ?_)
                  refine lv_aload_n hx hb dX0_mark_149 rfl (lv_at hl 4 rfl) ?_
                  refine lv_dup hx hb dX0_mark_150 rfl ?_
                  refine gC_807 E hP kfX0_15 (v := (gI u 807)) rfl dX0_mark_151 ?_
                  refine lv_iconst (v := (1 : Int32)) hx hb dX0_mark_154 (by decide) ?_
                  refine lv_iadd hx hb dX0_mark_155 ?_
                  refine pC_807 E hP hD hS kfX0_15 dX0_mark_156 (fun H locs hP hD hS => ?_)
                  refine lv_aload_n hx hb dX0_mark_159 rfl (lv_at hl 4 rfl) ?_
                  refine gC_803 E hP kfX0_29 dX0_mark_160 ?_
                  refine lv_iload hx hb dX0_mark_163 (lv_at hl 3 rfl) ?_
                  refine lv_aload_n hx hb dX0_mark_165 rfl (lv_at hl 4 rfl) ?_
                  refine gC_801 E hP kfX0_22 dX0_mark_166 ?_
                  refine lv_iload hx hb dX0_mark_169 (lv_at hl 0 rfl) ?_
                  obtain ⟨h9, h⟩ := h
                  refine xC_801 E hP h9 (v := ((gB u 801) (((((gB u 803) ((x4 + (-1 : Int32))).toNatClampNeg) - (2199023255552 : Int64))).toInt32).toNatClampNeg)) rfl dX0_mark_171 ?_
                  obtain ⟨h9, h⟩ := h
                  refine yC_803 E hP hD hS h9 (f := (gB u 803)) rfl dX0_mark_172 (fun H locs hP hD hS => ?_)
                  refine lv_aload_n hx hb dX0_mark_173 rfl (lv_at hl 4 rfl) ?_
                  refine gC_803 E hP kfX0_29 dX0_mark_174 ?_
                  refine lv_iload hx hb dX0_mark_177 (lv_at hl 3 rfl) ?_
                  refine lv_iconst (v := (1 : Int32)) hx hb dX0_mark_179 (by decide) ?_
                  refine lv_iadd hx hb dX0_mark_180 ?_
                  refine lv_aload_n hx hb dX0_mark_181 rfl (lv_at hl 4 rfl) ?_
                  refine gC_800 E hP kfX0_18 dX0_mark_182 ?_
                  refine lv_iload hx hb dX0_mark_185 (lv_at hl 0 rfl) ?_
                  obtain ⟨h9, h⟩ := h
                  refine xC_800 E hP h9 (v := ((gB u 800) (((((gB u 803) ((x4 + (-1 : Int32))).toNatClampNeg) - (2199023255552 : Int64))).toInt32).toNatClampNeg)) rfl dX0_mark_187 ?_
                  obtain ⟨h9, h⟩ := h
                  refine yC_803 E hP hD hS h9 (f := (vp_updL (gB u 803) ((x4 + (-1 : Int32))).toNatClampNeg ((gB u 801) (((((gB u 803) ((x4 + (-1 : Int32))).toNatClampNeg) - (2199023255552 : Int64))).toInt32).toNatClampNeg))) rfl dX0_mark_188 (fun H locs hP hD hS => ?_)
                  refine lv_iinc (v := ((x4 + (-1 : Int32)) + (2 : Int32))) (lv' := [(4, .int ((x4 + (-1 : Int32)) + (2 : Int32))), (9, .int ((((gB u 803) ((x4 + (-1 : Int32))).toNatClampNeg) - (2199023255552 : Int64))).toInt32), (8, .int (1 : Int32)), (6, .long ((gB u 803) ((x4 + (-1 : Int32))).toNatClampNeg)), (0, .ref (G.1 8)), (1, .ref (G.1 15)), (2, .int c2), (3, .int c3), (5, .int x5)]) hx hb dX0_mark_189 hl (k := 3) rfl rfl (by decide) rfl (fun ls hl => ?_)
                  refine lv_iinc (v := (x5 + (1 : Int32))) (lv' := [(5, .int (x5 + (1 : Int32))), (4, .int ((x4 + (-1 : Int32)) + (2 : Int32))), (9, .int ((((gB u 803) ((x4 + (-1 : Int32))).toNatClampNeg) - (2199023255552 : Int64))).toInt32), (8, .int (1 : Int32)), (6, .long ((gB u 803) ((x4 + (-1 : Int32))).toNatClampNeg)), (0, .ref (G.1 8)), (1, .ref (G.1 15)), (2, .int c2), (3, .int c3)]) hx hb dX0_mark_192 hl (k := 8) rfl rfl (by decide) rfl (fun ls hl => ?_)
                  refine lv_goto (tgt := 28) hx hb dX0_mark_195 (by decide) ?_
                  exact ih ((x4 + (-1 : Int32)) + (2 : Int32)) (x5 + (1 : Int32)) (sB (sB (sI (sA u 802 (upd (gA u 802) (((((gB u 803) ((x4 + (-1 : Int32))).toNatClampNeg) - (2199023255552 : Int64))).toInt32).toNatClampNeg (gI u 806))) 807 ((gI u 807) + (1 : Int32))) 803 (vp_updL (gB u 803) ((x4 + (-1 : Int32))).toNatClampNeg ((gB u 801) (((((gB u 803) ((x4 + (-1 : Int32))).toNatClampNeg) - (2199023255552 : Int64))).toInt32).toNatClampNeg))) 803 (vp_updL (vp_updL (gB u 803) ((x4 + (-1 : Int32))).toNatClampNeg ((gB u 801) (((((gB u 803) ((x4 + (-1 : Int32))).toNatClampNeg) - (2199023255552 : Int64))).toInt32).toNatClampNeg)) (((x4 + (-1 : Int32)) + (1 : Int32))).toNatClampNeg ((gB u 800) (((((gB u 803) ((x4 + (-1 : Int32))).toNatClampNeg) - (2199023255552 : Int64))).toInt32).toNatClampNeg))) _ _ _ h hP hD hS (lv_sub hl [5, 6, 7, 8, 1, 0] rfl)
  have L_2 : ∀ (c2 : Int32) (K : St → Prop), (∀  (u : St) (H : Heap) (locs : List Loc) (ls : Array Slot), K  u → va_P D vwCl (wC G u) H → va_D (AC G s.heap.size) (wC G u) → va_S (AC G s.heap.size) s.heap H locs → lv_has ls 10 [] → W p l e rm_X0_mark_15 s m args below meth c H locs 0 0 (MQ below (va_Qv Q (BC D G s.heap.size) (AC G s.heap.size)) args s 0 0 (AC G s.heap.size)) (F0 m 204 ls [])) → ∀ (n : Nat) (x3 : Int32) (u : St) (H : Heap) (locs : List Loc) (ls : Array Slot), l_X0_mark_15_2 G.2.1  c2 K n x3 u → va_P D vwCl (wC G u) H → va_D (AC G s.heap.size) (wC G u) → va_S (AC G s.heap.size) s.heap H locs → lv_has ls 10 [(0, .ref (G.1 8)), (1, .ref (G.1 15)), (2, .int c2), (3, .int x3)] → W p l e rm_X0_mark_15 s m args below meth c H locs 0 0 (MQ below (va_Qv Q (BC D G s.heap.size) (AC G s.heap.size)) args s 0 0 (AC G s.heap.size)) (F0 m 2 ls []) := by
    intro c2 K hK n
    induction n with
    | zero => intro x3 u H locs ls h; exact False.elim h
    | succ n ih =>
      intro x3 u H locs ls h hP hD hS hl
      unfold l_X0_mark_15_2 at h
      refine lv_iload_n hx hb dX0_mark_2 rfl (lv_at hl 3 rfl) ?_
      refine lv_iload_n hx hb dX0_mark_3 rfl (lv_at hl 2 rfl) ?_
      refine lv_icmp_ge (tgt := 204) hx hb dX0_mark_4 (by decide) (fun hc => ?_) (fun hc => ?_)
      · have h := h.1 hc
        exact hK u _ _ _ h hP hD hS (lv_sub hl [] rfl)
      · have h := h.2 hc
        refine lv_iload_n hx hb dX0_mark_7 rfl (lv_at hl 3 rfl) ?_
        refine lv_aload_n hx hb dX0_mark_8 rfl (lv_at hl 1 rfl) ?_
        refine zC_403 E hP dX0_mark_9 ?_
        refine lv_icmp_ge (tgt := 204) hx hb dX0_mark_10 (by decide) (fun hc => ?_) (fun hc => ?_)
        · have h := h.1 hc
          exact hK u _ _ _ h hP hD hS (lv_sub hl [] rfl)
        · have h := h.2 hc
          refine lv_aload_n hx hb dX0_mark_13 rfl (lv_at hl 0 rfl) ?_
          refine gC_803 E hP kfX0_29 dX0_mark_14 ?_
          refine lv_iconst (v := (0 : Int32)) hx hb dX0_mark_17 (by decide) ?_
          refine lv_aload_n hx hb dX0_mark_18 rfl (lv_at hl 1 rfl) ?_
          refine lv_iload_n hx hb dX0_mark_19 rfl (lv_at hl 3 rfl) ?_
          obtain ⟨h9, h⟩ := h
          refine xC_403 E hP h9 (v := ((gB u 403) (x3).toNatClampNeg)) rfl dX0_mark_20 ?_
          obtain ⟨h9, h⟩ := h
          refine yC_803 E hP hD hS h9 (f := (gB u 803)) rfl dX0_mark_21 (fun H locs hP hD hS => ?_)
          refine lv_iconst (v := (1 : Int32)) hx hb dX0_mark_22 (by decide) ?_
          refine lv_istore (lv' := [(4, .int (1 : Int32)), (0, .ref (G.1 8)), (1, .ref (G.1 15)), (2, .int c2), (3, .int x3)]) hx hb dX0_mark_23 hl (by decide) rfl (fun ls hl => ?_)
          refine lv_iconst (v := (0 : Int32)) hx hb dX0_mark_25 (by decide) ?_
          refine lv_istore (lv' := [(5, .int (0 : Int32)), (4, .int (1 : Int32)), (0, .ref (G.1 8)), (1, .ref (G.1 15)), (2, .int c2), (3, .int x3)]) hx hb dX0_mark_26 hl (by decide) rfl (fun ls hl => ?_)
          obtain ⟨n, h⟩ := h
          refine L_28 c2 x3 _ (fun u1 H locs ls h hP hD hS hl => ?_) n (1 : Int32) (0 : Int32) (sB u 803 (vp_updL (gB u 803) ((0 : Int32)).toNatClampNeg ((gB u 403) (x3).toNatClampNeg))) _ _ _ h hP hD hS (lv_sub hl [2, 3, 4, 5, 1, 0] rfl)
          refine lv_iinc (v := (x3 + (1 : Int32))) (lv' := [(3, .int (x3 + (1 : Int32))), (0, .ref (G.1 8)), (1, .ref (G.1 15)), (2, .int c2)]) hx hb dX0_mark_198 hl (k := 3) rfl rfl (by decide) rfl (fun ls hl => ?_)
          refine lv_goto (tgt := 2) hx hb dX0_mark_201 (by decide) ?_
          exact ih (x3 + (1 : Int32)) u1 _ _ _ h hP hD hS (lv_sub hl [1, 2, 3, 0] rfl)
  unfold wp_X0_mark_15 at h
  refine lv_iconst (v := (0 : Int32)) hx hb dX0_mark_0 (by decide) ?_
  refine lv_istore_n (lv' := [(3, .int (0 : Int32)), (0, .ref (G.1 8)), (1, .ref (G.1 15)), (2, .int p1)]) hx hb dX0_mark_1 rfl hl (by decide) rfl (fun ls hl => ?_)
  obtain ⟨n, h⟩ := h
  refine L_2 p1 _ (fun u3 H locs ls h hP hD hS hl => ?_) n (0 : Int32) u _ _ _ h hP hD hS (lv_sub hl [1, 2, 3, 0] rfl)
  exact retC_v E hr hlk hP hD hS h dX0_mark_204
def l_X0_sweep_7 (N : Nat → Nat)  (K : St → Prop) : Nat → Int32 → St → Prop
  | 0, _, _ => False
  | n + 1, x1, u => (((Int32.ofNat (N 800)) ≤ x1 → K u) ∧ (¬ (Int32.ofNat (N 800)) ≤ x1 → vp_in x1 (N 802) ∧ ((((gA u 802) (x1).toNatClampNeg) = (gI u 806) → l_X0_sweep_7 N  K n (x1 + (1 : Int32)) u) ∧ (¬ ((gA u 802) (x1).toNatClampNeg) = (gI u 806) → vp_in (gI u 805) (N 804) ∧ l_X0_sweep_7 N  K n (x1 + (1 : Int32)) (sI (sA u 804 (upd (gA u 804) ((gI u 805)).toNatClampNeg x1)) 805 ((gI u 805) + (1 : Int32)))))))
def wp_X0_sweep (N : Nat → Nat)  (u : St) (Q : St → Prop) : Prop := (∃ k2 : Nat, l_X0_sweep_7 N   (fun (u1 : St) => Q u1) k2 (0 : Int32) (sI u 805 (0 : Int32)))
abbrev rm_X0_sweep : Room := { frames := 0, cells := 0, slots := 0, locals := 0 }
set_option maxHeartbeats 4000000 in
set_option maxRecDepth 100000 in
theorem t_X0_sweep (l : Launch) (D : va_G) (G : Gd)  (u : St) (Q : St → Prop) (h : wp_X0_sweep G.2.1  u Q) : MCv l D G yX0_sweep cX0_sweep 2 none rm_X0_sweep [.ref (G.1 8)] u Q := by
  refine startC_v (by decide) ?_
  intro p e s m args below meth c E hr hlk hml hP hD hS hA
  have hx := E.1
  have hb := E.2.1
  have hown := E.2.2.1
  have hW := E.2.2.2.1
  have hl := lv_entry ([.ref (G.1 8)]) (n := 2) (Nat.le_of_ble_eq_true rfl)
  rw [lg_entry_eq]
  generalize (lg_sl ([.ref (G.1 8)]) ++ List.replicate (2 - (lg_sl ([.ref (G.1 8)])).length) Slot.unset).toArray = ls at hl ⊢
  have hl : lv_has ls 2 [(0, .ref (G.1 8))] := hl
  have L_7 : ∀  (K : St → Prop), (∀  (u : St) (H : Heap) (locs : List Loc) (ls : Array Slot), K  u → va_P D vwCl (wC G u) H → va_D (AC G s.heap.size) (wC G u) → va_S (AC G s.heap.size) s.heap H locs → lv_has ls 2 [] → W p l e rm_X0_sweep s m args below meth c H locs 0 0 (MQ below (va_Qv Q (BC D G s.heap.size) (AC G s.heap.size)) args s 0 0 (AC G s.heap.size)) (F0 m 55 ls [])) → ∀ (n : Nat) (x1 : Int32) (u : St) (H : Heap) (locs : List Loc) (ls : Array Slot), l_X0_sweep_7 G.2.1  K n x1 u → va_P D vwCl (wC G u) H → va_D (AC G s.heap.size) (wC G u) → va_S (AC G s.heap.size) s.heap H locs → lv_has ls 2 [(0, .ref (G.1 8)), (1, .int x1)] → W p l e rm_X0_sweep s m args below meth c H locs 0 0 (MQ below (va_Qv Q (BC D G s.heap.size) (AC G s.heap.size)) args s 0 0 (AC G s.heap.size)) (F0 m 7 ls []) := by
    intro  K hK n
    induction n with
    | zero => intro x1 u H locs ls h; exact False.elim h
    | succ n ih =>
      intro x1 u H locs ls h hP hD hS hl
      unfold l_X0_sweep_7 at h
      refine lv_iload_n hx hb dX0_sweep_7 rfl (lv_at hl 1 rfl) ?_
      refine lv_aload_n hx hb dX0_sweep_8 rfl (lv_at hl 0 rfl) ?_
      refine gC_800 E hP kfX0_18 dX0_sweep_9 ?_
      refine zC_800 E hP dX0_sweep_12 ?_
      refine lv_icmp_ge (tgt := 55) hx hb dX0_sweep_13 (by decide) (fun hc => ?_) (fun hc => ?_)
      · have h := h.1 hc
        exact hK u _ _ _ h hP hD hS (lv_sub hl [] rfl)
      · have h := h.2 hc
        refine lv_aload_n hx hb dX0_sweep_16 rfl (lv_at hl 0 rfl) ?_
        refine gC_802 E hP kfX0_25 dX0_sweep_17 ?_
        refine lv_iload_n hx hb dX0_sweep_20 rfl (lv_at hl 1 rfl) ?_
        obtain ⟨h9, h⟩ := h
        refine xC_802 E hP h9 (v := ((gA u 802) (x1).toNatClampNeg)) rfl dX0_sweep_21 ?_
        refine lv_aload_n hx hb dX0_sweep_22 rfl (lv_at hl 0 rfl) ?_
        refine gC_806 E hP kfX0_9 (v := (gI u 806)) rfl dX0_sweep_23 ?_
        refine lv_icmp_eq (tgt := 49) hx hb dX0_sweep_26 (by decide) (fun hc => ?_) (fun hc => ?_)
        · have h := h.1 hc
          refine lv_iinc (v := (x1 + (1 : Int32))) (lv' := [(1, .int (x1 + (1 : Int32))), (0, .ref (G.1 8))]) hx hb dX0_sweep_49 hl (k := 1) rfl rfl (by decide) rfl (fun ls hl => ?_)
          refine lv_goto (tgt := 7) hx hb dX0_sweep_52 (by decide) ?_
          exact ih (x1 + (1 : Int32)) u _ _ _ h hP hD hS (lv_sub hl [1, 0] rfl)
        · have h := h.2 hc
          refine lv_aload_n hx hb dX0_sweep_29 rfl (lv_at hl 0 rfl) ?_
          refine gC_804 E hP kfX0_32 dX0_sweep_30 ?_
          refine lv_aload_n hx hb dX0_sweep_33 rfl (lv_at hl 0 rfl) ?_
          refine gC_805 E hP kfX0_35 (v := (gI u 805)) rfl dX0_sweep_34 ?_
          refine lv_iload_n hx hb dX0_sweep_37 rfl (lv_at hl 1 rfl) ?_
          obtain ⟨h9, h⟩ := h
          refine yC_804 E hP hD hS h9 (f := (gA u 804)) rfl dX0_sweep_38 (fun H locs hP hD hS => ?_)
          refine lv_aload_n hx hb dX0_sweep_39 rfl (lv_at hl 0 rfl) ?_
          refine lv_dup hx hb dX0_sweep_40 rfl ?_
          refine gC_805 E hP kfX0_35 (v := (gI u 805)) rfl dX0_sweep_41 ?_
          refine lv_iconst (v := (1 : Int32)) hx hb dX0_sweep_44 (by decide) ?_
          refine lv_iadd hx hb dX0_sweep_45 ?_
          refine pC_805 E hP hD hS kfX0_35 dX0_sweep_46 (fun H locs hP hD hS => ?_)
          refine lv_iinc (v := (x1 + (1 : Int32))) (lv' := [(1, .int (x1 + (1 : Int32))), (0, .ref (G.1 8))]) hx hb dX0_sweep_49 hl (k := 1) rfl rfl (by decide) rfl (fun ls hl => ?_)
          refine lv_goto (tgt := 7) hx hb dX0_sweep_52 (by decide) ?_
          exact ih (x1 + (1 : Int32)) (sI (sA u 804 (upd (gA u 804) ((gI u 805)).toNatClampNeg x1)) 805 ((gI u 805) + (1 : Int32))) _ _ _ h hP hD hS (lv_sub hl [1, 0] rfl)
  unfold wp_X0_sweep at h
  refine lv_aload_n hx hb dX0_sweep_0 rfl (lv_at hl 0 rfl) ?_
  refine lv_iconst (v := (0 : Int32)) hx hb dX0_sweep_1 (by decide) ?_
  refine pC_805 E hP hD hS kfX0_35 dX0_sweep_2 (fun H locs hP hD hS => ?_)
  refine lv_iconst (v := (0 : Int32)) hx hb dX0_sweep_5 (by decide) ?_
  refine lv_istore_n (lv' := [(1, .int (0 : Int32)), (0, .ref (G.1 8))]) hx hb dX0_sweep_6 rfl hl (by decide) rfl (fun ls hl => ?_)
  obtain ⟨n, h⟩ := h
  refine L_7  _ (fun u1 H locs ls h hP hD hS hl => ?_) n (0 : Int32) (sI u 805 (0 : Int32)) _ _ _ h hP hD hS (lv_sub hl [1, 0] rfl)
  exact retC_v E hr hlk hP hD hS h dX0_sweep_55
def wp_X1_hasRoom_20 (N : Nat → Nat) (p0 : Int32) (p2 : Int32) (p3 : Int64) (p4 : Int64) (u : St) (Q : Int32 → St → Prop) : Prop := (((gI u 805) < p0 → wp_X0_beginMarking N  (sB (sB u 403 (vp_updL (gB u 403) ((0 : Int32)).toNatClampNeg p3)) 403 (vp_updL (vp_updL (gB u 403) ((0 : Int32)).toNatClampNeg p3) ((1 : Int32)).toNatClampNeg p4)) (fun (u1 : St) => wp_X0_mark_11 N (gI u1 202) u1 (fun (u2 : St) => wp_X0_mark_14 N ((gI u2 303) * (11 : Int32)) u2 (fun (u3 : St) => wp_X0_mark_20 N p2 u3 (fun (u4 : St) => wp_X0_mark_15 N (2 : Int32) u4 (fun (u5 : St) => wp_X0_sweep N  u5 (fun (u6 : St) => (((gI u6 805) < p0 → Q (0 : Int32) u6) ∧ (¬ (gI u6 805) < p0 → Q (1 : Int32) u6))))))))) ∧ (¬ (gI u 805) < p0 → Q (1 : Int32) u))
abbrev rm_X1_hasRoom_20 : Room := { frames := 1, cells := 0, slots := 0, locals := 29 }
set_option maxHeartbeats 4000000 in
set_option maxRecDepth 100000 in
theorem t_X1_hasRoom_20 (l : Launch) (D : va_G) (G : Gd) (p0 : Int32) (p2 : Int32) (p3 : Int64) (p4 : Int64) (u : St) (Q : Int32 → St → Prop) (h : wp_X1_hasRoom_20 G.2.1 p0 p2 p3 p4 u Q) : MCi l D G yX1_hasRoom cX1_hasRoom 8 (some .boolean) rm_X1_hasRoom_20 [.ref (G.1 4), .int p0, .ref (G.1 20), .int p2, .long p3, .long p4] u Q := by
  refine startC_i (by decide) ?_
  intro p e s m args below meth c E hr hlk hml hP hD hS hA
  have hx := E.1
  have hb := E.2.1
  have hown := E.2.2.1
  have hW := E.2.2.2.1
  have hl := lv_entry ([.ref (G.1 4), .int p0, .ref (G.1 20), .int p2, .long p3, .long p4]) (n := 8) (Nat.le_of_ble_eq_true rfl)
  rw [lg_entry_eq]
  generalize (lg_sl ([.ref (G.1 4), .int p0, .ref (G.1 20), .int p2, .long p3, .long p4]) ++ List.replicate (8 - (lg_sl ([.ref (G.1 4), .int p0, .ref (G.1 20), .int p2, .long p3, .long p4])).length) Slot.unset).toArray = ls at hl ⊢
  have hl : lv_has ls 8 [(0, .ref (G.1 4)), (1, .int p0), (2, .ref (G.1 20)), (3, .int p2), (4, .long p3), (6, .long p4)] := hl
  unfold wp_X1_hasRoom_20 at h
  refine lv_aload_n hx hb dX1_hasRoom_0 rfl (lv_at hl 0 rfl) ?_
  refine gC_400 E hP kfX1_13 dX1_hasRoom_1 ?_
  refine gC_805 E hP kfX1_46 (v := (gI u 805)) rfl dX1_hasRoom_4 ?_
  refine lv_iload_n hx hb dX1_hasRoom_7 rfl (lv_at hl 1 rfl) ?_
  refine lv_icmp_lt (tgt := 13) hx hb dX1_hasRoom_8 (by decide) (fun hc => ?_) (fun hc => ?_)
  · have h := h.1 hc
    refine lv_aload_n hx hb dX1_hasRoom_13 rfl (lv_at hl 0 rfl) ?_
    refine gC_403 E hP kfX1_7 dX1_hasRoom_14 ?_
    refine lv_iconst (v := (0 : Int32)) hx hb dX1_hasRoom_17 (by decide) ?_
    refine lv_lload hx hb dX1_hasRoom_18 (lv_at hl 4 rfl) ?_
    refine yC_403 E hP hD hS (by unfold vp_in; decide) (f := (gB u 403)) rfl dX1_hasRoom_20 (fun H locs hP hD hS => ?_)
    refine lv_aload_n hx hb dX1_hasRoom_21 rfl (lv_at hl 0 rfl) ?_
    refine gC_403 E hP kfX1_7 dX1_hasRoom_22 ?_
    refine lv_iconst (v := (1 : Int32)) hx hb dX1_hasRoom_25 (by decide) ?_
    refine lv_lload hx hb dX1_hasRoom_26 (lv_at hl 5 rfl) ?_
    refine yC_403 E hP hD hS (by unfold vp_in; decide) (f := (vp_updL (gB u 403) ((0 : Int32)).toNatClampNeg p3)) rfl dX1_hasRoom_28 (fun H locs hP hD hS => ?_)
    refine lv_aload_n hx hb dX1_hasRoom_29 rfl (lv_at hl 0 rfl) ?_
    refine gC_400 E hP kfX1_13 dX1_hasRoom_30 ?_
    refine cC_v (ci := 0) (q0 := 8) (As := []) (rest := []) E hml hP hD hS hA (t_X0_beginMarking l D G  (sB (sB u 403 (vp_updL (gB u 403) ((0 : Int32)).toNatClampNeg p3)) 403 (vp_updL (vp_updL (gB u 403) ((0 : Int32)).toNatClampNeg p3) ((1 : Int32)).toNatClampNeg p4)) _ h) kmX1_25 mwyX0_beginMarking rfl rfl ⟨⟨rfl, rfl⟩, Nat.le_of_ble_eq_true rfl, Nat.le_of_ble_eq_true rfl⟩ rfl hl.1 rfl (Nat.le_of_ble_eq_true rfl) dX1_hasRoom_33 ⟨Nat.zero_le _, Nat.zero_le _⟩ (fun u1 H locs hP hD hS h => ?_)
    refine lv_aload_n hx hb dX1_hasRoom_36 rfl (lv_at hl 0 rfl) ?_
    refine gC_400 E hP kfX1_13 dX1_hasRoom_37 ?_
    refine lv_aload_n hx hb dX1_hasRoom_40 rfl (lv_at hl 0 rfl) ?_
    refine gC_401 E hP kfX1_17 dX1_hasRoom_41 ?_
    refine gC_201 E hP kfX1_30 dX1_hasRoom_44 ?_
    refine lv_aload_n hx hb dX1_hasRoom_47 rfl (lv_at hl 0 rfl) ?_
    refine gC_401 E hP kfX1_17 dX1_hasRoom_48 ?_
    refine gC_202 E hP kfX1_35 (v := (gI u1 202)) rfl dX1_hasRoom_51 ?_
    refine cC_v (ci := 0) (q0 := 8) (As := [.ref (G.1 11), .int (gI u1 202)]) (rest := []) E hml hP hD hS hA (t_X0_mark_11 l D G (gI u1 202) u1 _ h) kmX1_39 mwyX0_mark rfl rfl ⟨⟨rfl, rfl⟩, Nat.le_of_ble_eq_true rfl, Nat.le_of_ble_eq_true rfl⟩ rfl hl.1 rfl (Nat.le_of_ble_eq_true rfl) dX1_hasRoom_54 ⟨Nat.zero_le _, Nat.zero_le _⟩ (fun u2 H locs hP hD hS h => ?_)
    refine lv_aload_n hx hb dX1_hasRoom_57 rfl (lv_at hl 0 rfl) ?_
    refine gC_400 E hP kfX1_13 dX1_hasRoom_58 ?_
    refine lv_aload_n hx hb dX1_hasRoom_61 rfl (lv_at hl 0 rfl) ?_
    refine gC_402 E hP kfX1_21 dX1_hasRoom_62 ?_
    refine gC_302 E hP kfX1_49 dX1_hasRoom_65 ?_
    refine lv_aload_n hx hb dX1_hasRoom_68 rfl (lv_at hl 0 rfl) ?_
    refine gC_402 E hP kfX1_21 dX1_hasRoom_69 ?_
    refine gC_303 E hP kfX1_54 (v := (gI u2 303)) rfl dX1_hasRoom_72 ?_
    refine lv_bipush (v := (11 : Int32)) hx hb dX1_hasRoom_75 (by decide) ?_
    refine lv_imul hx hb dX1_hasRoom_77 ?_
    refine cC_v (ci := 0) (q0 := 8) (As := [.ref (G.1 14), .int ((gI u2 303) * (11 : Int32))]) (rest := []) E hml hP hD hS hA (t_X0_mark_14 l D G ((gI u2 303) * (11 : Int32)) u2 _ h) kmX1_39 mwyX0_mark rfl rfl ⟨⟨rfl, rfl⟩, Nat.le_of_ble_eq_true rfl, Nat.le_of_ble_eq_true rfl⟩ rfl hl.1 rfl (Nat.le_of_ble_eq_true rfl) dX1_hasRoom_78 ⟨Nat.zero_le _, Nat.zero_le _⟩ (fun u3 H locs hP hD hS h => ?_)
    refine lv_aload_n hx hb dX1_hasRoom_81 rfl (lv_at hl 0 rfl) ?_
    refine gC_400 E hP kfX1_13 dX1_hasRoom_82 ?_
    refine lv_aload_n hx hb dX1_hasRoom_85 rfl (lv_at hl 2 rfl) ?_
    refine lv_iload_n hx hb dX1_hasRoom_86 rfl (lv_at hl 3 rfl) ?_
    refine cC_v (ci := 0) (q0 := 8) (As := [.ref (G.1 20), .int p2]) (rest := []) E hml hP hD hS hA (t_X0_mark_20 l D G p2 u3 _ h) kmX1_39 mwyX0_mark rfl rfl ⟨⟨rfl, rfl⟩, Nat.le_of_ble_eq_true rfl, Nat.le_of_ble_eq_true rfl⟩ rfl hl.1 rfl (Nat.le_of_ble_eq_true rfl) dX1_hasRoom_87 ⟨Nat.zero_le _, Nat.zero_le _⟩ (fun u4 H locs hP hD hS h => ?_)
    refine lv_aload_n hx hb dX1_hasRoom_90 rfl (lv_at hl 0 rfl) ?_
    refine gC_400 E hP kfX1_13 dX1_hasRoom_91 ?_
    refine lv_aload_n hx hb dX1_hasRoom_94 rfl (lv_at hl 0 rfl) ?_
    refine gC_403 E hP kfX1_7 dX1_hasRoom_95 ?_
    refine lv_iconst (v := (2 : Int32)) hx hb dX1_hasRoom_98 (by decide) ?_
    refine cC_v (ci := 0) (q0 := 8) (As := [.ref (G.1 15), .int (2 : Int32)]) (rest := []) E hml hP hD hS hA (t_X0_mark_15 l D G (2 : Int32) u4 _ h) kmX1_39 mwyX0_mark rfl rfl ⟨⟨rfl, rfl⟩, Nat.le_of_ble_eq_true rfl, Nat.le_of_ble_eq_true rfl⟩ rfl hl.1 rfl (Nat.le_of_ble_eq_true rfl) dX1_hasRoom_99 ⟨Nat.zero_le _, Nat.zero_le _⟩ (fun u5 H locs hP hD hS h => ?_)
    refine lv_aload_n hx hb dX1_hasRoom_102 rfl (lv_at hl 0 rfl) ?_
    refine gC_400 E hP kfX1_13 dX1_hasRoom_103 ?_
    refine cC_v (ci := 0) (q0 := 8) (As := []) (rest := []) E hml hP hD hS hA (t_X0_sweep l D G  u5 _ h) kmX1_57 mwyX0_sweep rfl rfl ⟨⟨rfl, rfl⟩, Nat.le_of_ble_eq_true rfl, Nat.le_of_ble_eq_true rfl⟩ rfl hl.1 rfl (Nat.le_of_ble_eq_true rfl) dX1_hasRoom_106 ⟨Nat.zero_le _, Nat.zero_le _⟩ (fun u6 H locs hP hD hS h => ?_)
    refine lv_aload_n hx hb dX1_hasRoom_109 rfl (lv_at hl 0 rfl) ?_
    refine gC_400 E hP kfX1_13 dX1_hasRoom_110 ?_
    refine gC_805 E hP kfX1_46 (v := (gI u6 805)) rfl dX1_hasRoom_113 ?_
    refine lv_iload_n hx hb dX1_hasRoom_116 rfl (lv_at hl 1 rfl) ?_
    refine lv_icmp_lt (tgt := 124) hx hb dX1_hasRoom_117 (by decide) (fun hc => ?_) (fun hc => ?_)
    · have h := h.1 hc
      refine lv_iconst (v := (0 : Int32)) hx hb dX1_hasRoom_124 (by decide) ?_
      exact retC_z E hr hlk hP hD hS (vz_n vz_0) h dX1_hasRoom_125
    · have h := h.2 hc
      refine lv_iconst (v := (1 : Int32)) hx hb dX1_hasRoom_120 (by decide) ?_
      refine lv_goto (tgt := 125) hx hb dX1_hasRoom_121 (by decide) ?_
      exact retC_z E hr hlk hP hD hS (vz_n vz_1) h dX1_hasRoom_125
  · have h := h.2 hc
    refine lv_iconst (v := (1 : Int32)) hx hb dX1_hasRoom_11 (by decide) ?_
    exact retC_z E hr hlk hP hD hS (vz_n vz_1) h dX1_hasRoom_12
