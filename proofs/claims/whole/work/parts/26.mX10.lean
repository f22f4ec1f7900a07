def l_X10_apply_161 (Q : St → Prop)  (K : St → Prop) : Nat → Int32 → St → Prop
  | 0, _, _ => False
  | n + 1, x3, u => (((gI u 43) ≤ x3 → K u) ∧ (¬ (gI u 43) ≤ x3 → vp_in x3 8 ∧ vp_in ((((8 : Int32) * (gI u 32)) - (8 : Int32)) + x3) 1600 ∧ l_X10_apply_161 Q K n (x3 + (1 : Int32)) (sB u 38 (vp_updL (gB u 38) (((((8 : Int32) * (gI u 32)) - (8 : Int32)) + x3)).toNatClampNeg ((gB u 42) (x3).toNatClampNeg)))))
def wp_X10_apply  (u : St) (Q : St → Prop) : Prop := wp_X10_begins  u (fun (r1 : Int32) (u2 : St) => ((r1 = 0 → Q u2) ∧ (¬ r1 = 0 → wp_X10_isNumber (gJ u2 40) (fun (r3 : Int32) => ((r3 = 0 → (((gJ u2 40) = (4294967296 : Int64) → wp_X10_fails (4 : Int32) u2 (fun (u5 : St) => Q u5)) ∧ (¬ (gJ u2 40) = (4294967296 : Int64) → (((gJ u2 40) = (4294967297 : Int64) → wp_X10_fails (4 : Int32) u2 (fun (u22 : St) => Q u22)) ∧ (¬ (gJ u2 40) = (4294967297 : Int64) → wp_X10_isName (gJ u2 40) (fun (r6 : Int32) => ((r6 = 0 → wp_X10_first (gJ u2 40) u2 (fun (r7 : Int64) (u8 : St) => ((r7 = (4294967301 : Int64) → wp_X10_lambda (gJ u2 40) u8 (fun (u16 : St) => Q u16)) ∧ (¬ r7 = (4294967301 : Int64) → wp_X10_first (gJ u2 40) u8 (fun (r9 : Int64) (u10 : St) => ((r9 = (4294967302 : Int64) → wp_X10_label (gJ u2 40) u10 (fun (u15 : St) => Q u15)) ∧ (¬ r9 = (4294967302 : Int64) → wp_X10_waits (2 : Int32) (4294967296 : Int64) (4294967296 : Int64) u10 (fun (r11 : Int32) (u12 : St) => ((r11 = 0 → Q u12) ∧ (¬ r11 = 0 → vp_in ((gI u12 32) - (1 : Int32)) 200 ∧ (∃ k14 : Nat, l_X10_apply_161 Q  (fun (u13 : St) => Q (sI u13 39 (0 : Int32))) k14 (0 : Int32) (sA u12 37 (upd (gA u12 37) (((gI u12 32) - (1 : Int32))).toNatClampNeg (gI u12 43)))))))))))))) ∧ (¬ r6 = 0 → (((((gJ u2 40) - (4294967296 : Int64))).toInt32 ≤ (6 : Int32) → wp_X10_lookUp (gJ u2 40) u2 (fun (r17 : Int64) (u18 : St) => Q (sJ u18 40 r17))) ∧ (¬ (((gJ u2 40) - (4294967296 : Int64))).toInt32 ≤ (6 : Int32) → (((18 : Int32) ≤ (((gJ u2 40) - (4294967296 : Int64))).toInt32 → wp_X10_lookUp (gJ u2 40) u2 (fun (r19 : Int64) (u20 : St) => Q (sJ u20 40 r19))) ∧ (¬ (18 : Int32) ≤ (((gJ u2 40) - (4294967296 : Int64))).toInt32 → wp_X10_primitive ((((gJ u2 40) - (4294967296 : Int64))).toInt32) u2 (fun (u21 : St) => Q u21))))))))))))) ∧ (¬ r3 = 0 → wp_X10_fails (4 : Int32) u2 (fun (u4 : St) => Q u4)))))))
abbrev rm_X10_apply : Room := { frames := 7, cells := 0, slots := 0, locals := 162 }
set_option maxHeartbeats 4000000 in
set_option maxRecDepth 100000 in
theorem t_X10_apply (l : Launch) (D : va_G) (G : Gd)  (u : St) (Q : St → Prop) (h : wp_X10_apply  u Q) : MRv l D G yX10_apply cX10_apply 4 none rm_X10_apply [.ref (G.1 0)] u Q := by
  refine startR_v (by decide) ?_
  intro p e s m args below meth c E hr hlk hml hP hD hS hA
  have hx := E.1
  have hb := E.2.1
  have hown := E.2.2.1
  have hW := E.2.2.2.1
  have hl := lv_entry ([.ref (G.1 0)]) (n := 4) (Nat.le_of_ble_eq_true rfl)
  rw [lg_entry_eq]
  generalize (lg_sl ([.ref (G.1 0)]) ++ List.replicate (4 - (lg_sl ([.ref (G.1 0)])).length) Slot.unset).toArray = ls at hl ⊢
  have hl : lv_has ls 4 [(0, .ref (G.1 0))] := hl
  have L_161 : ∀  (K : St → Prop), (∀  (u : St) (H : Heap) (locs : List Loc) (ls : Array Slot), K  u → va_P D vwCl (wR G u) H → va_D (AR G s.heap.size) (wR G u) → va_S (AR G s.heap.size) s.heap H locs → lv_has ls 4 [(0, .ref (G.1 0))] → W p l e rm_X10_apply s m args below meth c H locs 0 0 (MQ below (va_Qv Q (BR D G s.heap.size) (AR G s.heap.size)) args s 0 0 (AR G s.heap.size)) (F0 m 198 ls [])) → ∀ (n : Nat) (x3 : Int32) (u : St) (H : Heap) (locs : List Loc) (ls : Array Slot), l_X10_apply_161 Q K n x3 u → va_P D vwCl (wR G u) H → va_D (AR G s.heap.size) (wR G u) → va_S (AR G s.heap.size) s.heap H locs → lv_has ls 4 [(0, .ref (G.1 0)), (3, .int x3)] → W p l e rm_X10_apply s m args below meth c H locs 0 0 (MQ below (va_Qv Q (BR D G s.heap.size) (AR G s.heap.size)) args s 0 0 (AR G s.heap.size)) (F0 m 161 ls []) := by
    intro  K hK n
    induction n with
    | zero => intro x3 u H locs ls h; exact False.elim h
    | succ n ih =>
      intro x3 u H locs ls h hP hD hS hl
      unfold l_X10_apply_161 at h
      refine lv_iload_n hx hb dX10_apply_161 rfl (lv_at hl 1 rfl) ?_
      refine lv_aload_n hx hb dX10_apply_162 rfl (lv_at hl 0 rfl) ?_
      refine gR_43 E hP kfX10_144 (v := (gI u 43)) rfl dX10_apply_163 ?_
      refine lv_icmp_ge (tgt := 198) hx hb dX10_apply_166 (by decide) (fun hc => ?_) (fun hc => ?_)
      · have h := h.1 hc
        exact hK u _ _ _ h hP hD hS (lv_sub hl [0] rfl)
      · have h := h.2 hc
        refine lv_aload_n hx hb dX10_apply_169 rfl (lv_at hl 0 rfl) ?_
        refine gR_38 E hP kfX10_129 dX10_apply_170 ?_
        refine lv_bipush (v := (8 : Int32)) hx hb dX10_apply_173 (by decide) ?_
        refine lv_aload_n hx hb dX10_apply_175 rfl (lv_at hl 0 rfl) ?_
        refine gR_32 E hP kfX10_111 (v := (gI u 32)) rfl dX10_apply_176 ?_
        refine lv_imul hx hb dX10_apply_179 ?_
        refine lv_bipush (v := (8 : Int32)) hx hb dX10_apply_180 (by decide) ?_
        refine lv_isub hx hb dX10_apply_182 ?_
        refine lv_iload_n hx hb dX10_apply_183 rfl (lv_at hl 1 rfl) ?_
        refine lv_iadd hx hb dX10_apply_184 ?_
        refine lv_aload_n hx hb dX10_apply_185 rfl (lv_at hl 0 rfl) ?_
        refine gR_42 E hP kfX10_141 dX10_apply_186 ?_
        refine lv_iload_n hx hb dX10_apply_189 rfl (lv_at hl 1 rfl) ?_
        obtain ⟨h9, h⟩ := h
        refine xR_42 E hP h9 (v := ((gB u 42) (x3).toNatClampNeg)) rfl dX10_apply_190 ?_
        obtain ⟨h9, h⟩ := h
        refine yR_38 E hP hD hS h9 (f := (gB u 38)) rfl dX10_apply_191 (fun H locs hP hD hS => ?_)
        refine lv_iinc (v := (x3 + (1 : Int32))) (lv' := [(3, .int (x3 + (1 : Int32))), (0, .ref (G.1 0))]) hx hb dX10_apply_192 hl (k := 1) rfl rfl (by decide) rfl (fun ls hl => ?_)
        refine lv_goto (tgt := 161) hx hb dX10_apply_195 (by decide) ?_
        exact ih (x3 + (1 : Int32)) (sB u 38 (vp_updL (gB u 38) (((((8 : Int32) * (gI u 32)) - (8 : Int32)) + x3)).toNatClampNeg ((gB u 42) (x3).toNatClampNeg))) _ _ _ h hP hD hS (lv_sub hl [1, 0] rfl)
  unfold wp_X10_apply at h
  refine lv_aload_n hx hb dX10_apply_0 rfl (lv_at hl 0 rfl) ?_
  refine cR_i (ci := 9) (q0 := 0) (As := []) (rest := []) E hml hP hD hS hA (t_X10_begins l D G  u _ h) kmX10_277 mwyX10_begins rfl rfl ⟨⟨rfl, rfl⟩, Nat.le_of_ble_eq_true rfl, Nat.le_of_ble_eq_true rfl⟩ rfl hl.1 rfl (Nat.le_of_ble_eq_true rfl) dX10_apply_1 ⟨Nat.zero_le _, Nat.zero_le _⟩ (fun r1 u2 H locs hP hD hS h => ?_)
  refine lv_if_ne (tgt := 8) hx hb dX10_apply_4 (by decide) (fun hc => ?_) (fun hc => ?_)
  · have h := h.2 hc
    refine lv_aload_n hx hb dX10_apply_8 rfl (lv_at hl 0 rfl) ?_
    refine gR_40 E hP kfX10_135 (v := (gJ u2 40)) rfl dX10_apply_9 ?_
    refine lv_lstore_n (lv' := [(1, .long (gJ u2 40)), (0, .ref (G.1 0))]) hx hb dX10_apply_12 rfl hl (by decide) rfl (fun ls hl => ?_)
    refine lv_lload_n hx hb dX10_apply_13 rfl (lv_at hl 0 rfl) ?_
    refine c0_i (As := [.long (gJ u2 40)]) (rest := []) hx hb hml hown hW hP hS hA (t_X10_isNumber l (gJ u2 40) _ h) kmX10_281 mwyX10_isNumber ⟨⟨rfl, rfl⟩, Nat.le_of_ble_eq_true rfl, Nat.le_of_ble_eq_true rfl⟩ rfl hl.1 rfl (Nat.le_of_ble_eq_true rfl) dX10_apply_14 ⟨Nat.zero_le _, Nat.zero_le _⟩ (fun r3 H locs hP hS h => ?_)
    refine lv_if_ne (tgt := 36) hx hb dX10_apply_17 (by decide) (fun hc => ?_) (fun hc => ?_)
    · have h := h.2 hc
      refine lv_aload_n hx hb dX10_apply_36 rfl (lv_at hl 1 rfl) ?_
      refine lv_iconst (v := (4 : Int32)) hx hb dX10_apply_37 (by decide) ?_
      refine cR_v (ci := 9) (q0 := 0) (As := [.int (4 : Int32)]) (rest := []) E hml hP hD hS hA (t_X10_fails l D G (4 : Int32) u2 _ h) kmX10_265 mwyX10_fails rfl rfl ⟨⟨rfl, rfl⟩, Nat.le_of_ble_eq_true rfl, Nat.le_of_ble_eq_true rfl⟩ rfl hl.1 rfl (Nat.le_of_ble_eq_true rfl) dX10_apply_38 ⟨Nat.zero_le _, Nat.zero_le _⟩ (fun u4 H locs hP hD hS h => ?_)
      refine lv_goto (tgt := 203) hx hb dX10_apply_41 (by decide) ?_
      exact retR_v E hr hlk hP hD hS h dX10_apply_203
    · have h := h.1 hc
      refine lv_lload_n hx hb dX10_apply_20 rfl (lv_at hl 0 rfl) ?_
      refine lv_ldc2 (v := (4294967296 : Int64)) hx hb hown (hW _ kcX10_199) dX10_apply_21 ?_
      refine lq_eq (tgt := 36) hx hb dX10_apply_24 dX10_apply_25 (by decide) (fun hc => ?_) (fun hc => ?_)
      · have h := h.1 hc
        refine lv_aload_n hx hb dX10_apply_36 rfl (lv_at hl 1 rfl) ?_
        refine lv_iconst (v := (4 : Int32)) hx hb dX10_apply_37 (by decide) ?_
        refine cR_v (ci := 9) (q0 := 0) (As := [.int (4 : Int32)]) (rest := []) E hml hP hD hS hA (t_X10_fails l D G (4 : Int32) u2 _ h) kmX10_265 mwyX10_fails rfl rfl ⟨⟨rfl, rfl⟩, Nat.le_of_ble_eq_true rfl, Nat.le_of_ble_eq_true rfl⟩ rfl hl.1 rfl (Nat.le_of_ble_eq_true rfl) dX10_apply_38 ⟨Nat.zero_le _, Nat.zero_le _⟩ (fun u5 H locs hP hD hS h => ?_)
        refine lv_goto (tgt := 203) hx hb dX10_apply_41 (by decide) ?_
        exact retR_v E hr hlk hP hD hS h dX10_apply_203
      · have h := h.2 hc
        refine lv_lload_n hx hb dX10_apply_28 rfl (lv_at hl 0 rfl) ?_
        refine lv_ldc2 (v := (4294967297 : Int64)) hx hb hown (hW _ kcX10_284) dX10_apply_29 ?_
        refine lq_ne (tgt := 44) hx hb dX10_apply_32 dX10_apply_33 (by decide) (fun hc => ?_) (fun hc => ?_)
        · have h := h.2 hc
          refine lv_lload_n hx hb dX10_apply_44 rfl (lv_at hl 0 rfl) ?_
          refine c0_i (As := [.long (gJ u2 40)]) (rest := []) hx hb hml hown hW hP hS hA (t_X10_isName l (gJ u2 40) _ h) kmX10_289 mwyX10_isName ⟨⟨rfl, rfl⟩, Nat.le_of_ble_eq_true rfl, Nat.le_of_ble_eq_true rfl⟩ rfl hl.1 rfl (Nat.le_of_ble_eq_true rfl) dX10_apply_45 ⟨Nat.zero_le _, Nat.zero_le _⟩ (fun r6 H locs hP hS h => ?_)
          refine lv_if_eq (tgt := 90) hx hb dX10_apply_48 (by decide) (fun hc => ?_) (fun hc => ?_)
          · have h := h.1 hc
            refine lv_aload_n hx hb dX10_apply_90 rfl (lv_at hl 1 rfl) ?_
            refine lv_lload_n hx hb dX10_apply_91 rfl (lv_at hl 0 rfl) ?_
            refine cR_l (ci := 9) (q0 := 0) (As := [.long (gJ u2 40)]) (rest := []) E hml hP hD hS hA (t_X10_first l D G (gJ u2 40) u2 _ h) kmX10_209 mwyX10_first rfl rfl ⟨⟨rfl, rfl⟩, Nat.le_of_ble_eq_true rfl, Nat.le_of_ble_eq_true rfl⟩ rfl hl.1 rfl (Nat.le_of_ble_eq_true rfl) dX10_apply_92 ⟨Nat.zero_le _, Nat.zero_le _⟩ (fun r7 u8 H locs hP hD hS h => ?_)
            refine lv_ldc2 (v := (4294967301 : Int64)) hx hb hown (hW _ kcX10_319) dX10_apply_95 ?_
            refine lq_ne (tgt := 110) hx hb dX10_apply_98 dX10_apply_99 (by decide) (fun hc => ?_) (fun hc => ?_)
            · have h := h.2 hc
              refine lv_aload_n hx hb dX10_apply_110 rfl (lv_at hl 1 rfl) ?_
              refine lv_lload_n hx hb dX10_apply_111 rfl (lv_at hl 0 rfl) ?_
              refine cR_l (ci := 9) (q0 := 0) (As := [.long (gJ u2 40)]) (rest := []) E hml hP hD hS hA (t_X10_first l D G (gJ u2 40) u8 _ h) kmX10_209 mwyX10_first rfl rfl ⟨⟨rfl, rfl⟩, Nat.le_of_ble_eq_true rfl, Nat.le_of_ble_eq_true rfl⟩ rfl hl.1 rfl (Nat.le_of_ble_eq_true rfl) dX10_apply_112 ⟨Nat.zero_le _, Nat.zero_le _⟩ (fun r9 u10 H locs hP hD hS h => ?_)
              refine lv_ldc2 (v := (4294967302 : Int64)) hx hb hown (hW _ kcX10_324) dX10_apply_115 ?_
              refine lq_ne (tgt := 130) hx hb dX10_apply_118 dX10_apply_119 (by decide) (fun hc => ?_) (fun hc => ?_)
              · have h := h.2 hc
                refine lv_aload_n hx hb dX10_apply_130 rfl (lv_at hl 1 rfl) ?_
                refine lv_iconst (v := (2 : Int32)) hx hb dX10_apply_131 (by decide) ?_
                refine lv_ldc2 (v := (4294967296 : Int64)) hx hb hown (hW _ kcX10_199) dX10_apply_132 ?_
                refine lv_ldc2 (v := (4294967296 : Int64)) hx hb hown (hW _ kcX10_199) dX10_apply_135 ?_
                refine cR_i (ci := 9) (q0 := 0) (As := [.int (2 : Int32), .long (4294967296 : Int64), .long (4294967296 : Int64)]) (rest := []) E hml hP hD hS hA (t_X10_waits l D G (2 : Int32) (4294967296 : Int64) (4294967296 : Int64) u10 _ h) kmX10_273 mwyX10_waits rfl rfl ⟨⟨rfl, rfl⟩, Nat.le_of_ble_eq_true rfl, Nat.le_of_ble_eq_true rfl⟩ rfl hl.1 rfl (Nat.le_of_ble_eq_true rfl) dX10_apply_138 ⟨Nat.zero_le _, Nat.zero_le _⟩ (fun r11 u12 H locs hP hD hS h => ?_)
                refine lv_if_eq (tgt := 203) hx hb dX10_apply_141 (by decide) (fun hc => ?_) (fun hc => ?_)
                · have h := h.1 hc
                  exact retR_v E hr hlk hP hD hS h dX10_apply_203
                · have h := h.2 hc
                  refine lv_aload_n hx hb dX10_apply_144 rfl (lv_at hl 1 rfl) ?_
                  refine gR_37 E hP kfX10_126 dX10_apply_145 ?_
                  refine lv_aload_n hx hb dX10_apply_148 rfl (lv_at hl 1 rfl) ?_
                  refine gR_32 E hP kfX10_111 (v := (gI u12 32)) rfl dX10_apply_149 ?_
                  refine lv_iconst (v := (1 : Int32)) hx hb dX10_apply_152 (by decide) ?_
                  refine lv_isub hx hb dX10_apply_153 ?_
                  refine lv_aload_n hx hb dX10_apply_154 rfl (lv_at hl 1 rfl) ?_
                  refine gR_43 E hP kfX10_144 (v := (gI u12 43)) rfl dX10_apply_155 ?_
                  obtain ⟨h9, h⟩ := h
                  refine yR_37 E hP hD hS h9 (f := (gA u12 37)) rfl dX10_apply_158 (fun H locs hP hD hS => ?_)
                  refine lv_iconst (v := (0 : Int32)) hx hb dX10_apply_159 (by decide) ?_
                  refine lv_istore_n (lv' := [(3, .int (0 : Int32)), (1, .long (gJ u2 40)), (0, .ref (G.1 0))]) hx hb dX10_apply_160 rfl hl (by decide) rfl (fun ls hl => ?_)
                  obtain ⟨n, h⟩ := h
                  refine L_161  _ (fun u13 H locs ls h hP hD hS hl => ?_) n (0 : Int32) (sA u12 37 (upd (gA u12 37) (((gI u12 32) - (1 : Int32))).toNatClampNeg (gI u12 43))) _ _ _ h hP hD hS (lv_sub hl [2, 0] rfl)
                  refine lv_aload_n hx hb dX10_apply_198 rfl (lv_at hl 0 rfl) ?_
                  refine lv_iconst (v := (0 : Int32)) hx hb dX10_apply_199 (by decide) ?_
                  refine pR_39 E hP hD hS kfX10_132 dX10_apply_200 (fun H locs hP hD hS => ?_)
                  exact retR_v E hr hlk hP hD hS h dX10_apply_203
              · have h := h.1 hc
                refine lv_aload_n hx hb dX10_apply_122 rfl (lv_at hl 1 rfl) ?_
                refine lv_lload_n hx hb dX10_apply_123 rfl (lv_at hl 0 rfl) ?_
                refine cR_v (ci := 9) (q0 := 0) (As := [.long (gJ u2 40)]) (rest := []) E hml hP hD hS hA (t_X10_label l D G (gJ u2 40) u10 _ h) kmX10_326 mwyX10_label rfl rfl ⟨⟨rfl, rfl⟩, Nat.le_of_ble_eq_true rfl, Nat.le_of_ble_eq_true rfl⟩ rfl hl.1 rfl (Nat.le_of_ble_eq_true rfl) dX10_apply_124 ⟨Nat.zero_le _, Nat.zero_le _⟩ (fun u15 H locs hP hD hS h => ?_)
                refine lv_goto (tgt := 203) hx hb dX10_apply_127 (by decide) ?_
                exact retR_v E hr hlk hP hD hS h dX10_apply_203
            · have h := h.1 hc
              refine lv_aload_n hx hb dX10_apply_102 rfl (lv_at hl 1 rfl) ?_
              refine lv_lload_n hx hb dX10_apply_103 rfl (lv_at hl 0 rfl) ?_
              refine cR_v (ci := 9) (q0 := 0) (As := [.long (gJ u2 40)]) (rest := []) E hml hP hD hS hA (t_X10_lambda l D G (gJ u2 40) u8 _ h) kmX10_321 mwyX10_lambda rfl rfl ⟨⟨rfl, rfl⟩, Nat.le_of_ble_eq_true rfl, Nat.le_of_ble_eq_true rfl⟩ rfl hl.1 rfl (Nat.le_of_ble_eq_true rfl) dX10_apply_104 ⟨Nat.zero_le _, Nat.zero_le _⟩ (fun u16 H locs hP hD hS h => ?_)
              refine lv_goto (tgt := 203) hx hb dX10_apply_107 (by decide) ?_
              exact retR_v E hr hlk hP hD hS h dX10_apply_203
          · have h := h.2 hc
            refine lv_lload_n hx hb dX10_apply_51 rfl (lv_at hl 0 rfl) ?_
            refine lv_ldc2 (v := (4294967296 : Int64)) hx hb hown (hW _ kcX10_199) dX10_apply_52 ?_
            refine lv_lsub hx hb dX10_apply_55 ?_
            refine lv_l2i (v := (((gJ u2 40) - (4294967296 : Int64))).toInt32) hx hb dX10_apply_56 rfl ?_
            refine lv_istore_n (lv' := [(3, .int (((gJ u2 40) - (4294967296 : Int64))).toInt32), (1, .long (gJ u2 40)), (0, .ref (G.1 0))]) hx hb dX10_apply_57 rfl hl (by decide) rfl (fun ls hl => ?_)
            refine lv_iload_n hx hb dX10_apply_58 rfl (lv_at hl 0 rfl) ?_
            refine lv_bipush (v := (6 : Int32)) hx hb dX10_apply_59 (by decide) ?_
            refine lv_icmp_le (tgt := 78) hx hb dX10_apply_61 (by decide) (fun hc => ?_) (fun hc => ?_)
            · have h := h.1 hc
              refine lv_aload_n hx hb dX10_apply_78 rfl (lv_at hl 2 rfl) ?_
              refine lv_aload_n hx hb dX10_apply_79 rfl (lv_at hl 2 rfl) ?_
              refine lv_lload_n hx hb dX10_apply_80 rfl (lv_at hl 1 rfl) ?_
              refine cR_l (ci := 9) (q0 := 0) (As := [.long (gJ u2 40)]) (rest := [.ref (G.1 0)]) E hml hP hD hS hA (t_X10_lookUp l D G (gJ u2 40) u2 _ h) kmX10_292 mwyX10_lookUp rfl rfl ⟨⟨rfl, rfl⟩, Nat.le_of_ble_eq_true rfl, Nat.le_of_ble_eq_true rfl⟩ rfl hl.1 rfl (Nat.le_of_ble_eq_true rfl) dX10_apply_81 ⟨Nat.zero_le _, Nat.zero_le _⟩ (fun r17 u18 H locs hP hD hS h => ?_)
              refine pR_40 E hP hD hS kfX10_135 dX10_apply_84 (fun H locs hP hD hS => ?_)
              refine lv_goto (tgt := 203) hx hb dX10_apply_87 (by decide) ?_
              exact retR_v E hr hlk hP hD hS h dX10_apply_203
            · have h := h.2 hc
              refine lv_iload_n hx hb dX10_apply_64 rfl (lv_at hl 0 rfl) ?_
              refine lv_bipush (v := (18 : Int32)) hx hb dX10_apply_65 (by decide) ?_
              refine lv_icmp_ge (tgt := 78) hx hb dX10_apply_67 (by decide) (fun hc => ?_) (fun hc => ?_)
              · have h := h.1 hc
                refine lv_aload_n hx hb dX10_apply_78 rfl (lv_at hl 2 rfl) ?_
                refine lv_aload_n hx hb dX10_apply_79 rfl (lv_at hl 2 rfl) ?_
                refine lv_lload_n hx hb dX10_apply_80 rfl (lv_at hl 1 rfl) ?_
                refine cR_l (ci := 9) (q0 := 0) (As := [.long (gJ u2 40)]) (rest := [.ref (G.1 0)]) E hml hP hD hS hA (t_X10_lookUp l D G (gJ u2 40) u2 _ h) kmX10_292 mwyX10_lookUp rfl rfl ⟨⟨rfl, rfl⟩, Nat.le_of_ble_eq_true rfl, Nat.le_of_ble_eq_true rfl⟩ rfl hl.1 rfl (Nat.le_of_ble_eq_true rfl) dX10_apply_81 ⟨Nat.zero_le _, Nat.zero_le _⟩ (fun r19 u20 H locs hP hD hS h => ?_)
                refine pR_40 E hP hD hS kfX10_135 dX10_apply_84 (fun H locs hP hD hS => ?_)
                refine lv_goto (tgt := 203) hx hb dX10_apply_87 (by decide) ?_
                exact retR_v E hr hlk hP hD hS h dX10_apply_203
              · have h := h.2 hc
                refine lv_aload_n hx hb dX10_apply_70 rfl (lv_at hl 2 rfl) ?_
                refine lv_iload_n hx hb dX10_apply_71 rfl (lv_at hl 0 rfl) ?_
                refine cR_v (ci := 9) (q0 := 0) (As := [.int (((gJ u2 40) - (4294967296 : Int64))).toInt32]) (rest := []) E hml hP hD hS hA (t_X10_primitive l D G ((((gJ u2 40) - (4294967296 : Int64))).toInt32) u2 _ h) kmX10_316 mwyX10_primitive rfl rfl ⟨⟨rfl, rfl⟩, Nat.le_of_ble_eq_true rfl, Nat.le_of_ble_eq_true rfl⟩ rfl hl.1 rfl (Nat.le_of_ble_eq_true rfl) dX10_apply_72 ⟨Nat.zero_le _, Nat.zero_le _⟩ (fun u21 H locs hP hD hS h => ?_)
                refine lv_goto (tgt := 87) hx hb dX10_apply_75 (by decide) ?_
                refine lv_goto (tgt := 203) hx hb dX10_apply_87 (by decide) ?_
                exact retR_v E hr hlk hP hD hS h dX10_apply_203
        · have h := h.1 hc
          refine lv_aload_n hx hb dX10_apply_36 rfl (lv_at hl 1 rfl) ?_
          refine lv_iconst (v := (4 : Int32)) hx hb dX10_apply_37 (by decide) ?_
          refine cR_v (ci := 9) (q0 := 0) (As := [.int (4 : Int32)]) (rest := []) E hml hP hD hS hA (t_X10_fails l D G (4 : Int32) u2 _ h) kmX10_265 mwyX10_fails rfl rfl ⟨⟨rfl, rfl⟩, Nat.le_of_ble_eq_true rfl, Nat.le_of_ble_eq_true rfl⟩ rfl hl.1 rfl (Nat.le_of_ble_eq_true rfl) dX10_apply_38 ⟨Nat.zero_le _, Nat.zero_le _⟩ (fun u22 H locs hP hD hS h => ?_)
          refine lv_goto (tgt := 203) hx hb dX10_apply_41 (by decide) ?_
          exact retR_v E hr hlk hP hD hS h dX10_apply_203
  · have h := h.1 hc
    exact retR_v E hr hlk hP hD hS h dX10_apply_7
def wp_X10_evaluate  (u : St) (Q : St → Prop) : Prop := wp_X10_begins  u (fun (r1 : Int32) (u2 : St) => ((r1 = 0 → Q u2) ∧ (¬ r1 = 0 → wp_X10_isNumber (gJ u2 40) (fun (r3 : Int32) => ((r3 = 0 → (((gJ u2 40) = (4294967296 : Int64) → wp_X10_gives (gJ u2 40) u2 (fun (u5 : St) => Q u5)) ∧ (¬ (gJ u2 40) = (4294967296 : Int64) → (((gJ u2 40) = (4294967297 : Int64) → wp_X10_gives (gJ u2 40) u2 (fun (u51 : St) => Q u51)) ∧ (¬ (gJ u2 40) = (4294967297 : Int64) → wp_X10_isName (gJ u2 40) (fun (r6 : Int32) => ((r6 = 0 → wp_X10_first (gJ u2 40) u2 (fun (r7 : Int64) (u8 : St) => wp_X10_behind (gJ u2 40) u8 (fun (r9 : Int64) (u10 : St) => ((r7 = (4294967298 : Int64) → wp_X10_listOf r9 (1 : Int32) u10 (fun (r42 : Int32) (u43 : St) => ((r42 = 0 → wp_X10_fails (3 : Int32) u43 (fun (u44 : St) => Q u44)) ∧ (¬ r42 = 0 → wp_X10_first r9 u43 (fun (r45 : Int64) (u46 : St) => wp_X10_gives r45 u46 (fun (u47 : St) => Q u47)))))) ∧ (¬ r7 = (4294967298 : Int64) → ((r7 = (4294967299 : Int64) → wp_X10_condition r9 u10 (fun (u41 : St) => Q u41)) ∧ (¬ r7 = (4294967299 : Int64) → ((r7 = (4294967300 : Int64) → wp_X10_listOf r9 (2 : Int32) u10 (fun (r19 : Int32) (u20 : St) => ((r19 = 0 → wp_X10_fails (3 : Int32) u20 (fun (u21 : St) => Q u21)) ∧ (¬ r19 = 0 → wp_X10_first r9 u20 (fun (r22 : Int64) (u23 : St) => wp_X10_isName r22 (fun (r24 : Int32) => ((r24 = 0 → wp_X10_fails (3 : Int32) u23 (fun (u25 : St) => Q u25)) ∧ (¬ r24 = 0 → wp_X10_first r9 u23 (fun (r26 : Int64) (u27 : St) => ((r26 = (4294967296 : Int64) → wp_X10_fails (3 : Int32) u27 (fun (u28 : St) => Q u28)) ∧ (¬ r26 = (4294967296 : Int64) → wp_X10_first r9 u27 (fun (r29 : Int64) (u30 : St) => ((r29 = (4294967297 : Int64) → wp_X10_fails (3 : Int32) u30 (fun (u31 : St) => Q u31)) ∧ (¬ r29 = (4294967297 : Int64) → wp_X10_first r9 u30 (fun (r32 : Int64) (u33 : St) => wp_X10_behind r9 u33 (fun (r34 : Int64) (u35 : St) => wp_X10_first r34 u35 (fun (r36 : Int64) (u37 : St) => vp_in (((r32 - (4294967296 : Int64))).toInt32) 150 ∧ wp_X10_first r9 (sB u37 20 (vp_updL (gB u37 20) (((r32 - (4294967296 : Int64))).toInt32).toNatClampNeg r36)) (fun (r38 : Int64) (u39 : St) => wp_X10_gives r38 u39 (fun (u40 : St) => Q u40))))))))))))))))))) ∧ (¬ r7 = (4294967300 : Int64) → ((r9 = (4294967296 : Int64) → Q (sI (sJ (sI u10 39 (1 : Int32)) 40 r7) 43 (0 : Int32))) ∧ (¬ r9 = (4294967296 : Int64) → wp_X10_isPair r9 (fun (r11 : Int32) => ((r11 = 0 → wp_X10_fails (3 : Int32) u10 (fun (u18 : St) => Q u18)) ∧ (¬ r11 = 0 → wp_X10_behind r9 u10 (fun (r12 : Int64) (u13 : St) => wp_X10_waits (0 : Int32) r7 r12 u13 (fun (r14 : Int32) (u15 : St) => ((r14 = 0 → Q u15) ∧ (¬ r14 = 0 → wp_X10_first r9 (sI u15 39 (0 : Int32)) (fun (r16 : Int64) (u17 : St) => Q (sJ u17 40 r16)))))))))))))))))))) ∧ (¬ r6 = 0 → wp_X10_lookUp (gJ u2 40) u2 (fun (r48 : Int64) (u49 : St) => wp_X10_gives r48 u49 (fun (u50 : St) => Q u50)))))))))) ∧ (¬ r3 = 0 → wp_X10_gives (gJ u2 40) u2 (fun (u4 : St) => Q u4)))))))
abbrev rm_X10_evaluate : Room := { frames := 3, cells := 0, slots := 0, locals := 70 }
set_option maxHeartbeats 4000000 in
set_option maxRecDepth 100000 in
theorem t_X10_evaluate (l : Launch) (D : va_G) (G : Gd)  (u : St) (Q : St → Prop) (h : wp_X10_evaluate  u Q) : MRv l D G yX10_evaluate cX10_evaluate 8 none rm_X10_evaluate [.ref (G.1 0)] u Q := by
  refine startR_v (by decide) ?_
  intro p e s m args below meth c E hr hlk hml hP hD hS hA
  have hx := E.1
  have hb := E.2.1
  have hown := E.2.2.1
  have hW := E.2.2.2.1
  have hl := lv_entry ([.ref (G.1 0)]) (n := 8) (Nat.le_of_ble_eq_true rfl)
  rw [lg_entry_eq]
  generalize (lg_sl ([.ref (G.1 0)]) ++ List.replicate (8 - (lg_sl ([.ref (G.1 0)])).length) Slot.unset).toArray = ls at hl ⊢
  have hl : lv_has ls 8 [(0, .ref (G.1 0))] := hl
  unfold wp_X10_evaluate at h
  refine lv_aload_n hx hb dX10_evaluate_0 rfl (lv_at hl 0 rfl) ?_
  refine cR_i (ci := 9) (q0 := 0) (As := []) (rest := []) E hml hP hD hS hA (t_X10_begins l D G  u _ h) kmX10_277 mwyX10_begins rfl rfl ⟨⟨rfl, rfl⟩, Nat.le_of_ble_eq_true rfl, Nat.le_of_ble_eq_true rfl⟩ rfl hl.1 rfl (Nat.le_of_ble_eq_true rfl) dX10_evaluate_1 ⟨Nat.zero_le _, Nat.zero_le _⟩ (fun r1 u2 H locs hP hD hS h => ?_)
  refine lv_if_ne (tgt := 8) hx hb dX10_evaluate_4 (by decide) (fun hc => ?_) (fun hc => ?_)
  · have h := h.2 hc
    refine lv_aload_n hx hb dX10_evaluate_8 rfl (lv_at hl 0 rfl) ?_
    refine gR_40 E hP kfX10_135 (v := (gJ u2 40)) rfl dX10_evaluate_9 ?_
    refine lv_lstore_n (lv' := [(1, .long (gJ u2 40)), (0, .ref (G.1 0))]) hx hb dX10_evaluate_12 rfl hl (by decide) rfl (fun ls hl => ?_)
    refine lv_lload_n hx hb dX10_evaluate_13 rfl (lv_at hl 0 rfl) ?_
    refine c0_i (As := [.long (gJ u2 40)]) (rest := []) hx hb hml hown hW hP hS hA (t_X10_isNumber l (gJ u2 40) _ h) kmX10_281 mwyX10_isNumber ⟨⟨rfl, rfl⟩, Nat.le_of_ble_eq_true rfl, Nat.le_of_ble_eq_true rfl⟩ rfl hl.1 rfl (Nat.le_of_ble_eq_true rfl) dX10_evaluate_14 ⟨Nat.zero_le _, Nat.zero_le _⟩ (fun r3 H locs hP hS h => ?_)
    refine lv_if_ne (tgt := 36) hx hb dX10_evaluate_17 (by decide) (fun hc => ?_) (fun hc => ?_)
    · have h := h.2 hc
      refine lv_aload_n hx hb dX10_evaluate_36 rfl (lv_at hl 1 rfl) ?_
      refine lv_lload_n hx hb dX10_evaluate_37 rfl (lv_at hl 0 rfl) ?_
      refine cR_v (ci := 9) (q0 := 0) (As := [.long (gJ u2 40)]) (rest := []) E hml hP hD hS hA (t_X10_gives l D G (gJ u2 40) u2 _ h) kmX10_286 mwyX10_gives rfl rfl ⟨⟨rfl, rfl⟩, Nat.le_of_ble_eq_true rfl, Nat.le_of_ble_eq_true rfl⟩ rfl hl.1 rfl (Nat.le_of_ble_eq_true rfl) dX10_evaluate_38 ⟨Nat.zero_le _, Nat.zero_le _⟩ (fun u4 H locs hP hD hS h => ?_)
      exact retR_v E hr hlk hP hD hS h dX10_evaluate_41
    · have h := h.1 hc
      refine lv_lload_n hx hb dX10_evaluate_20 rfl (lv_at hl 0 rfl) ?_
      refine lv_ldc2 (v := (4294967296 : Int64)) hx hb hown (hW _ kcX10_199) dX10_evaluate_21 ?_
      refine lq_eq (tgt := 36) hx hb dX10_evaluate_24 dX10_evaluate_25 (by decide) (fun hc => ?_) (fun hc => ?_)
      · have h := h.1 hc
        refine lv_aload_n hx hb dX10_evaluate_36 rfl (lv_at hl 1 rfl) ?_
        refine lv_lload_n hx hb dX10_evaluate_37 rfl (lv_at hl 0 rfl) ?_
        refine cR_v (ci := 9) (q0 := 0) (As := [.long (gJ u2 40)]) (rest := []) E hml hP hD hS hA (t_X10_gives l D G (gJ u2 40) u2 _ h) kmX10_286 mwyX10_gives rfl rfl ⟨⟨rfl, rfl⟩, Nat.le_of_ble_eq_true rfl, Nat.le_of_ble_eq_true rfl⟩ rfl hl.1 rfl (Nat.le_of_ble_eq_true rfl) dX10_evaluate_38 ⟨Nat.zero_le _, Nat.zero_le _⟩ (fun u5 H locs hP hD hS h => ?_)
        exact retR_v E hr hlk hP hD hS h dX10_evaluate_41
      · have h := h.2 hc
        refine lv_lload_n hx hb dX10_evaluate_28 rfl (lv_at hl 0 rfl) ?_
        refine lv_ldc2 (v := (4294967297 : Int64)) hx hb hown (hW _ kcX10_284) dX10_evaluate_29 ?_
        refine lq_ne (tgt := 42) hx hb dX10_evaluate_32 dX10_evaluate_33 (by decide) (fun hc => ?_) (fun hc => ?_)
        · have h := h.2 hc
          refine lv_lload_n hx hb dX10_evaluate_42 rfl (lv_at hl 0 rfl) ?_
          refine c0_i (As := [.long (gJ u2 40)]) (rest := []) hx hb hml hown hW hP hS hA (t_X10_isName l (gJ u2 40) _ h) kmX10_289 mwyX10_isName ⟨⟨rfl, rfl⟩, Nat.le_of_ble_eq_true rfl, Nat.le_of_ble_eq_true rfl⟩ rfl hl.1 rfl (Nat.le_of_ble_eq_true rfl) dX10_evaluate_43 ⟨Nat.zero_le _, Nat.zero_le _⟩ (fun r6 H locs hP hS h => ?_)
          refine lv_if_eq (tgt := 59) hx hb dX10_evaluate_46 (by decide) (fun hc => ?_) (fun hc => ?_)
          · have h := h.1 hc
            refine lv_aload_n hx hb dX10_evaluate_59 rfl (lv_at hl 1 rfl) ?_
            refine lv_lload_n hx hb dX10_evaluate_60 rfl (lv_at hl 0 rfl) ?_
            refine cR_l (ci := 9) (q0 := 0) (As := [.long (gJ u2 40)]) (rest := []) E hml hP hD hS hA (t_X10_first l D G (gJ u2 40) u2 _ h) kmX10_209 mwyX10_first rfl rfl ⟨⟨rfl, rfl⟩, Nat.le_of_ble_eq_true rfl, Nat.le_of_ble_eq_true rfl⟩ rfl hl.1 rfl (Nat.le_of_ble_eq_true rfl) dX10_evaluate_61 ⟨Nat.zero_le _, Nat.zero_le _⟩ (fun r7 u8 H locs hP hD hS h => ?_)
            refine lv_lstore_n (lv' := [(3, .long r7), (1, .long (gJ u2 40)), (0, .ref (G.1 0))]) hx hb dX10_evaluate_64 rfl hl (by decide) rfl (fun ls hl => ?_)
            refine lv_aload_n hx hb dX10_evaluate_65 rfl (lv_at hl 2 rfl) ?_
            refine lv_lload_n hx hb dX10_evaluate_66 rfl (lv_at hl 1 rfl) ?_
            refine cR_l (ci := 9) (q0 := 0) (As := [.long (gJ u2 40)]) (rest := []) E hml hP hD hS hA (t_X10_behind l D G (gJ u2 40) u8 _ h) kmX10_216 mwyX10_behind rfl rfl ⟨⟨rfl, rfl⟩, Nat.le_of_ble_eq_true rfl, Nat.le_of_ble_eq_true rfl⟩ rfl hl.1 rfl (Nat.le_of_ble_eq_true rfl) dX10_evaluate_67 ⟨Nat.zero_le _, Nat.zero_le _⟩ (fun r9 u10 H locs hP hD hS h => ?_)
            refine lv_lstore (lv' := [(5, .long r9), (3, .long r7), (1, .long (gJ u2 40)), (0, .ref (G.1 0))]) hx hb dX10_evaluate_70 hl (by decide) rfl (fun ls hl => ?_)
            refine lv_lload_n hx hb dX10_evaluate_72 rfl (lv_at hl 1 rfl) ?_
            refine lv_ldc2 (v := (4294967298 : Int64)) hx hb hown (hW _ kcX10_295) dX10_evaluate_73 ?_
            refine lq_ne (tgt := 111) hx hb dX10_evaluate_76 dX10_evaluate_77 (by decide) (fun hc => ?_) (fun hc => ?_)
            · have h := h.2 hc
              refine lv_lload_n hx hb dX10_evaluate_111 rfl (lv_at hl 1 rfl) ?_
              refine lv_ldc2 (v := (4294967299 : Int64)) hx hb hown (hW _ kcX10_297) dX10_evaluate_112 ?_
              refine lq_ne (tgt := 128) hx hb dX10_evaluate_115 dX10_evaluate_116 (by decide) (fun hc => ?_) (fun hc => ?_)
              · have h := h.2 hc
                refine lv_lload_n hx hb dX10_evaluate_128 rfl (lv_at hl 1 rfl) ?_
                refine lv_ldc2 (v := (4294967300 : Int64)) hx hb hown (hW _ kcX10_302) dX10_evaluate_129 ?_
                refine lq_ne (tgt := 243) hx hb dX10_evaluate_132 dX10_evaluate_133 (by decide) (fun hc => ?_) (fun hc => ?_)
                · have h := h.2 hc
                  refine lv_lload hx hb dX10_evaluate_243 (lv_at hl 0 rfl) ?_
                  refine lv_ldc2 (v := (4294967296 : Int64)) hx hb hown (hW _ kcX10_199) dX10_evaluate_245 ?_
                  refine lq_ne (tgt := 270) hx hb dX10_evaluate_248 dX10_evaluate_249 (by decide) (fun hc => ?_) (fun hc => ?_)
                  · have h := h.2 hc
                    refine lv_lload hx hb dX10_evaluate_270 (lv_at hl 0 rfl) ?_
                    refine c0_i (As := [.long r9]) (rest := []) hx hb hml hown hW hP hS hA (t_X10_isPair l r9 _ h) kmX10_205 mwyX10_isPair ⟨⟨rfl, rfl⟩, Nat.le_of_ble_eq_true rfl, Nat.le_of_ble_eq_true rfl⟩ rfl hl.1 rfl (Nat.le_of_ble_eq_true rfl) dX10_evaluate_272 ⟨Nat.zero_le _, Nat.zero_le _⟩ (fun r11 H locs hP hS h => ?_)
                    refine lv_if_ne (tgt := 286) hx hb dX10_evaluate_275 (by decide) (fun hc => ?_) (fun hc => ?_)
                    · have h := h.2 hc
                      refine lv_aload_n hx hb dX10_evaluate_286 rfl (lv_at hl 3 rfl) ?_
                      refine lv_iconst (v := (0 : Int32)) hx hb dX10_evaluate_287 (by decide) ?_
                      refine lv_lload_n hx hb dX10_evaluate_288 rfl (lv_at hl 1 rfl) ?_
                      refine lv_aload_n hx hb dX10_evaluate_289 rfl (lv_at hl 3 rfl) ?_
                      refine lv_lload hx hb dX10_evaluate_290 (lv_at hl 0 rfl) ?_
                      refine cR_l (ci := 9) (q0 := 0) (As := [.long r9]) (rest := [.long r7, .int (0 : Int32), .ref (G.1 0)]) E hml hP hD hS hA (t_X10_behind l D G r9 u10 _ h) kmX10_216 mwyX10_behind rfl rfl ⟨⟨rfl, rfl⟩, Nat.le_of_ble_eq_true rfl, Nat.le_of_ble_eq_true rfl⟩ rfl hl.1 rfl (Nat.le_of_ble_eq_true rfl) dX10_evaluate_292 ⟨Nat.zero_le _, Nat.zero_le _⟩ (fun r12 u13 H locs hP hD hS h => ?_)
                      refine cR_i (ci := 9) (q0 := 0) (As := [.int (0 : Int32), .long r7, .long r12]) (rest := []) E hml hP hD hS hA (t_X10_waits l D G (0 : Int32) r7 r12 u13 _ h) kmX10_273 mwyX10_waits rfl rfl ⟨⟨rfl, rfl⟩, Nat.le_of_ble_eq_true rfl, Nat.le_of_ble_eq_true rfl⟩ rfl hl.1 rfl (Nat.le_of_ble_eq_true rfl) dX10_evaluate_295 ⟨Nat.zero_le _, Nat.zero_le _⟩ (fun r14 u15 H locs hP hD hS h => ?_)
                      refine lv_if_eq (tgt := 316) hx hb dX10_evaluate_298 (by decide) (fun hc => ?_) (fun hc => ?_)
                      · have h := h.1 hc
                        exact retR_v E hr hlk hP hD hS h dX10_evaluate_316
                      · have h := h.2 hc
                        refine lv_aload_n hx hb dX10_evaluate_301 rfl (lv_at hl 3 rfl) ?_
                        refine lv_iconst (v := (0 : Int32)) hx hb dX10_evaluate_302 (by decide) ?_
                        refine pR_39 E hP hD hS kfX10_132 dX10_evaluate_303 (fun H locs hP hD hS => ?_)
                        refine lv_aload_n hx hb dX10_evaluate_306 rfl (lv_at hl 3 rfl) ?_
                        refine lv_aload_n hx hb dX10_evaluate_307 rfl (lv_at hl 3 rfl) ?_
                        refine lv_lload hx hb dX10_evaluate_308 (lv_at hl 0 rfl) ?_
                        refine cR_l (ci := 9) (q0 := 0) (As := [.long r9]) (rest := [.ref (G.1 0)]) E hml hP hD hS hA (t_X10_first l D G r9 (sI u15 39 (0 : Int32)) _ h) kmX10_209 mwyX10_first rfl rfl ⟨⟨rfl, rfl⟩, Nat.le_of_ble_eq_true rfl, Nat.le_of_ble_eq_true rfl⟩ rfl hl.1 rfl (Nat.le_of_ble_eq_true rfl) dX10_evaluate_310 ⟨Nat.zero_le _, Nat.zero_le _⟩ (fun r16 u17 H locs hP hD hS h => ?_)
                        refine pR_40 E hP hD hS kfX10_135 dX10_evaluate_313 (fun H locs hP hD hS => ?_)
                        exact retR_v E hr hlk hP hD hS h dX10_evaluate_316
                    · have h := h.1 hc
                      refine lv_aload_n hx hb dX10_evaluate_278 rfl (lv_at hl 3 rfl) ?_
                      refine lv_iconst (v := (3 : Int32)) hx hb dX10_evaluate_279 (by decide) ?_
                      refine cR_v (ci := 9) (q0 := 0) (As := [.int (3 : Int32)]) (rest := []) E hml hP hD hS hA (t_X10_fails l D G (3 : Int32) u10 _ h) kmX10_265 mwyX10_fails rfl rfl ⟨⟨rfl, rfl⟩, Nat.le_of_ble_eq_true rfl, Nat.le_of_ble_eq_true rfl⟩ rfl hl.1 rfl (Nat.le_of_ble_eq_true rfl) dX10_evaluate_280 ⟨Nat.zero_le _, Nat.zero_le _⟩ (fun u18 H locs hP hD hS h => ?_)
                      refine lv_goto (tgt := 316) hx hb dX10_evaluate_283 (by decide) ?_
                      exact retR_v E hr hlk hP hD hS h dX10_evaluate_316
                  · have h := h.1 hc
                    refine lv_aload_n hx hb dX10_evaluate_252 rfl (lv_at hl 3 rfl) ?_
                    refine lv_iconst (v := (1 : Int32)) hx hb dX10_evaluate_253 (by decide) ?_
                    refine pR_39 E hP hD hS kfX10_132 dX10_evaluate_254 (fun H locs hP hD hS => ?_)
                    refine lv_aload_n hx hb dX10_evaluate_257 rfl (lv_at hl 3 rfl) ?_
                    refine lv_lload_n hx hb dX10_evaluate_258 rfl (lv_at hl 1 rfl) ?_
                    refine pR_40 E hP hD hS kfX10_135 dX10_evaluate_259 (fun H locs hP hD hS => ?_)
                    refine lv_aload_n hx hb dX10_evaluate_262 rfl (lv_at hl 3 rfl) ?_
                    refine lv_iconst (v := (0 : Int32)) hx hb dX10_evaluate_263 (by decide) ?_
                    refine pR_43 E hP hD hS kfX10_144 dX10_evaluate_264 (fun H locs hP hD hS => ?_)
                    refine lv_goto (tgt := 316) hx hb dX10_evaluate_267 (by decide) ?_
                    exact retR_v E hr hlk hP hD hS h dX10_evaluate_316
                · have h := h.1 hc
                  refine lv_aload_n hx hb dX10_evaluate_136 rfl (lv_at hl 3 rfl) ?_
                  refine lv_lload hx hb dX10_evaluate_137 (lv_at hl 0 rfl) ?_
                  refine lv_iconst (v := (2 : Int32)) hx hb dX10_evaluate_139 (by decide) ?_
                  refine cR_i (ci := 9) (q0 := 0) (As := [.long r9, .int (2 : Int32)]) (rest := []) E hml hP hD hS hA (t_X10_listOf l D G r9 (2 : Int32) u10 _ h) kmX10_269 mwyX10_listOf rfl rfl ⟨⟨rfl, rfl⟩, Nat.le_of_ble_eq_true rfl, Nat.le_of_ble_eq_true rfl⟩ rfl hl.1 rfl (Nat.le_of_ble_eq_true rfl) dX10_evaluate_140 ⟨Nat.zero_le _, Nat.zero_le _⟩ (fun r19 u20 H locs hP hD hS h => ?_)
                  refine lv_if_eq (tgt := 188) hx hb dX10_evaluate_143 (by decide) (fun hc => ?_) (fun hc => ?_)
                  · have h := h.1 hc
                    refine lv_iconst (v := (0 : Int32)) hx hb dX10_evaluate_188 (by decide) ?_
                    refine lv_istore (lv' := [(7, .int (0 : Int32)), (5, .long r9), (3, .long r7), (1, .long (gJ u2 40)), (0, .ref (G.1 0))]) hx hb dX10_evaluate_189 hl (by decide) rfl (fun ls hl => ?_)
                    refine lv_iload hx hb dX10_evaluate_191 (lv_at hl 0 rfl) ?_
                    refine lv_if_eq (tgt := 235) hx hb dX10_evaluate_193 (by decide) (fun _ => ?_) (fun hc => absurd (by decide) hc)
                    refine lv_aload_n hx hb dX10_evaluate_235 rfl (lv_at hl 4 rfl) ?_
                    refine lv_iconst (v := (3 : Int32)) hx hb dX10_evaluate_236 (by decide) ?_
                    refine cR_v (ci := 9) (q0 := 0) (As := [.int (3 : Int32)]) (rest := []) E hml hP hD hS hA (t_X10_fails l D G (3 : Int32) u20 _ h) kmX10_265 mwyX10_fails rfl rfl ⟨⟨rfl, rfl⟩, Nat.le_of_ble_eq_true rfl, Nat.le_of_ble_eq_true rfl⟩ rfl hl.1 rfl (Nat.le_of_ble_eq_true rfl) dX10_evaluate_237 ⟨Nat.zero_le _, Nat.zero_le _⟩ (fun u21 H locs hP hD hS h => ?_)
                    refine lv_goto (tgt := 316) hx hb dX10_evaluate_240 (by decide) ?_
                    exact retR_v E hr hlk hP hD hS h dX10_evaluate_316
                  · have h := h.2 hc
                    refine lv_aload_n hx hb dX10_evaluate_146 rfl (lv_at hl 3 rfl) ?_
                    refine lv_lload hx hb dX10_evaluate_147 (lv_at hl 0 rfl) ?_
                    refine cR_l (ci := 9) (q0 := 0) (As := [.long r9]) (rest := []) E hml hP hD hS hA (t_X10_first l D G r9 u20 _ h) kmX10_209 mwyX10_first rfl rfl ⟨⟨rfl, rfl⟩, Nat.le_of_ble_eq_true rfl, Nat.le_of_ble_eq_true rfl⟩ rfl hl.1 rfl (Nat.le_of_ble_eq_true rfl) dX10_evaluate_149 ⟨Nat.zero_le _, Nat.zero_le _⟩ (fun r22 u23 H locs hP hD hS h => ?_)
                    refine c0_i (As := [.long r22]) (rest := []) hx hb hml hown hW hP hS hA (t_X10_isName l r22 _ h) kmX10_289 mwyX10_isName ⟨⟨rfl, rfl⟩, Nat.le_of_ble_eq_true rfl, Nat.le_of_ble_eq_true rfl⟩ rfl hl.1 rfl (Nat.le_of_ble_eq_true rfl) dX10_evaluate_152 ⟨Nat.zero_le _, Nat.zero_le _⟩ (fun r24 H locs hP hS h => ?_)
                    refine lv_if_eq (tgt := 188) hx hb dX10_evaluate_155 (by decide) (fun hc => ?_) (fun hc => ?_)
                    · have h := h.1 hc
                      refine lv_iconst (v := (0 : Int32)) hx hb dX10_evaluate_188 (by decide) ?_
                      refine lv_istore (lv' := [(7, .int (0 : Int32)), (5, .long r9), (3, .long r7), (1, .long (gJ u2 40)), (0, .ref (G.1 0))]) hx hb dX10_evaluate_189 hl (by decide) rfl (fun ls hl => ?_)
                      refine lv_iload hx hb dX10_evaluate_191 (lv_at hl 0 rfl) ?_
                      refine lv_if_eq (tgt := 235) hx hb dX10_evaluate_193 (by decide) (fun _ => ?_) (fun hc => absurd (by decide) hc)
                      refine lv_aload_n hx hb dX10_evaluate_235 rfl (lv_at hl 4 rfl) ?_
                      refine lv_iconst (v := (3 : Int32)) hx hb dX10_evaluate_236 (by decide) ?_
                      refine cR_v (ci := 9) (q0 := 0) (As := [.int (3 : Int32)]) (rest := []) E hml hP hD hS hA (t_X10_fails l D G (3 : Int32) u23 _ h) kmX10_265 mwyX10_fails rfl rfl ⟨⟨rfl, rfl⟩, Nat.le_of_ble_eq_true rfl, Nat.le_of_ble_eq_true rfl⟩ rfl hl.1 rfl (Nat.le_of_ble_eq_true rfl) dX10_evaluate_237 ⟨Nat.zero_le _, Nat.zero_le _⟩ (fun u25 H locs hP hD hS h => ?_)
                      refine lv_goto (tgt := 316) hx hb dX10_evaluate_240 (by decide) ?_
                      exact retR_v E hr hlk hP hD hS h dX10_evaluate_316
                    · have h := h.2 hc
                      refine lv_aload_n hx hb dX10_evaluate_158 rfl (lv_at hl 3 rfl) ?_
                      refine lv_lload hx hb dX10_evaluate_159 (lv_at hl 0 rfl) ?_
                      refine cR_l (ci := 9) (q0 := 0) (As := [.long r9]) (rest := []) E hml hP hD hS hA (t_X10_first l D G r9 u23 _ h) kmX10_209 mwyX10_first rfl rfl ⟨⟨rfl, rfl⟩, Nat.le_of_ble_eq_true rfl, Nat.le_of_ble_eq_true rfl⟩ rfl hl.1 rfl (Nat.le_of_ble_eq_true rfl) dX10_evaluate_161 ⟨Nat.zero_le _, Nat.zero_le _⟩ (fun r26 u27 H locs hP hD hS h => ?_)
                      refine lv_ldc2 (v := (4294967296 : Int64)) hx hb hown (hW _ kcX10_199) dX10_evaluate_164 ?_
                      refine lq_eq (tgt := 188) hx hb dX10_evaluate_167 dX10_evaluate_168 (by decide) (fun hc => ?_) (fun hc => ?_)
                      · have h := h.1 hc
                        refine lv_iconst (v := (0 : Int32)) hx hb dX10_evaluate_188 (by decide) ?_
                        refine lv_istore (lv' := [(7, .int (0 : Int32)), (5, .long r9), (3, .long r7), (1, .long (gJ u2 40)), (0, .ref (G.1 0))]) hx hb dX10_evaluate_189 hl (by decide) rfl (fun ls hl => ?_)
                        refine lv_iload hx hb dX10_evaluate_191 (lv_at hl 0 rfl) ?_
                        refine lv_if_eq (tgt := 235) hx hb dX10_evaluate_193 (by decide) (fun _ => ?_) (fun hc => absurd (by decide) hc)
                        refine lv_aload_n hx hb dX10_evaluate_235 rfl (lv_at hl 4 rfl) ?_
                        refine lv_iconst (v := (3 : Int32)) hx hb dX10_evaluate_236 (by decide) ?_
                        refine cR_v (ci := 9) (q0 := 0) (As := [.int (3 : Int32)]) (rest := []) E hml hP hD hS hA (t_X10_fails l D G (3 : Int32) u27 _ h) kmX10_265 mwyX10_fails rfl rfl ⟨⟨rfl, rfl⟩, Nat.le_of_ble_eq_true rfl, Nat.le_of_ble_eq_true rfl⟩ rfl hl.1 rfl (Nat.le_of_ble_eq_true rfl) dX10_evaluate_237 ⟨Nat.zero_le _, Nat.zero_le _⟩ (fun u28 H locs hP hD hS h => ?_)
                        refine lv_goto (tgt := 316) hx hb dX10_evaluate_240 (by decide) ?_
                        exact retR_v E hr hlk hP hD hS h dX10_evaluate_316
                      · have h := h.2 hc
                        refine lv_aload_n hx hb dX10_evaluate_171 rfl (lv_at hl 3 rfl) ?_
                        refine lv_lload hx hb dX10_evaluate_172 (lv_at hl 0 rfl) ?_
                        refine cR_l (ci := 9) (q0 := 0) (As := [.long r9]) (rest := []) E hml hP hD hS hA (t_X10_first l D G r9 u27 _ h) kmX10_209 mwyX10_first rfl rfl ⟨⟨rfl, rfl⟩, Nat.le_of_ble_eq_true rfl, Nat.le_of_ble_eq_true rfl⟩ rfl hl.1 rfl (Nat.le_of_ble_eq_true rfl) dX10_evaluate_174 ⟨Nat.zero_le _, Nat.zero_le _⟩ (fun r29 u30 H locs hP hD hS h => ?_)
                        refine lv_ldc2 (v := (4294967297 : Int64)) hx hb hown (hW _ kcX10_284) dX10_evaluate_177 ?_
                        refine lq_eq (tgt := 188) hx hb dX10_evaluate_180 dX10_evaluate_181 (by decide) (fun hc => ?_) (fun hc => ?_)
                        · have h := h.1 hc
                          refine lv_iconst (v := (0 : Int32)) hx hb dX10_evaluate_188 (by decide) ?_
                          refine lv_istore (lv' := [(7, .int (0 : Int32)), (5, .long r9), (3, .long r7), (1, .long (gJ u2 40)), (0, .ref (G.1 0))]) hx hb dX10_evaluate_189 hl (by decide) rfl (fun ls hl => ?_)
                          refine lv_iload hx hb dX10_evaluate_191 (lv_at hl 0 rfl) ?_
                          refine lv_if_eq (tgt := 235) hx hb dX10_evaluate_193 (by decide) (fun _ => ?_) (fun hc => absurd (by decide) hc)
                          refine lv_aload_n hx hb dX10_evaluate_235 rfl (lv_at hl 4 rfl) ?_
                          refine lv_iconst (v := (3 : Int32)) hx hb dX10_evaluate_236 (by decide) ?_
                          refine cR_v (ci := 9) (q0 := 0) (As := [.int (3 : Int32)]) (rest := []) E hml hP hD hS hA (t_X10_fails l D G (3 : Int32) u30 _ h) kmX10_265 mwyX10_fails rfl rfl ⟨⟨rfl, rfl⟩, Nat.le_of_ble_eq_true rfl, Nat.le_of_ble_eq_true rfl⟩ rfl hl.1 rfl (Nat.le_of_ble_eq_true rfl) dX10_evaluate_237 ⟨Nat.zero_le _, Nat.zero_le _⟩ (fun u31 H locs hP hD hS h => ?_)
                          refine lv_goto (tgt := 316) hx hb dX10_evaluate_240 (by decide) ?_
                          exact retR_v E hr hlk hP hD hS h dX10_evaluate_316
                        · have h := h.2 hc
                          refine lv_iconst (v := (1 : Int32)) hx hb dX10_evaluate_184 (by decide) ?_
                          refine lv_goto (tgt := 189) hx hb dX10_evaluate_185 (by decide) ?_
                          refine lv_istore (lv' := [(7, .int (1 : Int32)), (5, .long r9), (3, .long r7), (1, .long (gJ u2 40)), (0, .ref (G.1 0))]) hx hb dX10_evaluate_189 hl (by decide) rfl (fun ls hl => ?_)
                          refine lv_iload hx hb dX10_evaluate_191 (lv_at hl 0 rfl) ?_
                          refine lv_if_eq (tgt := 235) hx hb dX10_evaluate_193 (by decide) (fun hc => absurd hc (by decide)) (fun _ => ?_)
                          refine lv_aload_n hx hb dX10_evaluate_196 rfl (lv_at hl 4 rfl) ?_
                          refine gR_20 E hP kfX10_73 dX10_evaluate_197 ?_
                          refine lv_aload_n hx hb dX10_evaluate_200 rfl (lv_at hl 4 rfl) ?_
                          refine lv_lload hx hb dX10_evaluate_201 (lv_at hl 1 rfl) ?_
                          refine cR_l (ci := 9) (q0 := 0) (As := [.long r9]) (rest := [.ref (G.1 8)]) E hml hP hD hS hA (t_X10_first l D G r9 u30 _ h) kmX10_209 mwyX10_first rfl rfl ⟨⟨rfl, rfl⟩, Nat.le_of_ble_eq_true rfl, Nat.le_of_ble_eq_true rfl⟩ rfl hl.1 rfl (Nat.le_of_ble_eq_true rfl) dX10_evaluate_203 ⟨Nat.zero_le _, Nat.zero_le _⟩ (fun r32 u33 H locs hP hD hS h => ?_)
                          refine lv_ldc2 (v := (4294967296 : Int64)) hx hb hown (hW _ kcX10_199) dX10_evaluate_206 ?_
                          refine lv_lsub hx hb dX10_evaluate_209 ?_
                          refine lv_l2i (v := ((r32 - (4294967296 : Int64))).toInt32) hx hb dX10_evaluate_210 rfl ?_
                          refine lv_aload_n hx hb dX10_evaluate_211 rfl (lv_at hl 4 rfl) ?_
                          refine lv_aload_n hx hb dX10_evaluate_212 rfl (lv_at hl 4 rfl) ?_
                          refine lv_lload hx hb dX10_evaluate_213 (lv_at hl 1 rfl) ?_
                          refine cR_l (ci := 9) (q0 := 0) (As := [.long r9]) (rest := [.ref (G.1 0), .int ((r32 - (4294967296 : Int64))).toInt32, .ref (G.1 8)]) E hml hP hD hS hA (t_X10_behind l D G r9 u33 _ h) kmX10_216 mwyX10_behind rfl rfl ⟨⟨rfl, rfl⟩, Nat.le_of_ble_eq_true rfl, Nat.le_of_ble_eq_true rfl⟩ rfl hl.1 rfl (Nat.le_of_ble_eq_true rfl) dX10_evaluate_215 ⟨Nat.zero_le _, Nat.zero_le _⟩ (fun r34 u35 H locs hP hD hS h => ?_)
                          refine cR_l (ci := 9) (q0 := 0) (As := [.long r34]) (rest := [.int ((r32 - (4294967296 : Int64))).toInt32, .ref (G.1 8)]) E hml hP hD hS hA (t_X10_first l D G r34 u35 _ h) kmX10_209 mwyX10_first rfl rfl ⟨⟨rfl, rfl⟩, Nat.le_of_ble_eq_true rfl, Nat.le_of_ble_eq_true rfl⟩ rfl hl.1 rfl (Nat.le_of_ble_eq_true rfl) dX10_evaluate_218 ⟨Nat.zero_le _, Nat.zero_le _⟩ (fun r36 u37 H locs hP hD hS h => ?_)
                          obtain ⟨h9, h⟩ := h
                          refine yR_20 E hP hD hS h9 (f := (gB u37 20)) rfl dX10_evaluate_221 (fun H locs hP hD hS => ?_)
                          refine lv_aload_n hx hb dX10_evaluate_222 rfl (lv_at hl 4 rfl) ?_
                          refine lv_aload_n hx hb dX10_evaluate_223 rfl (lv_at hl 4 rfl) ?_
                          refine lv_lload hx hb dX10_evaluate_224 (lv_at hl 1 rfl) ?_
                          refine cR_l (ci := 9) (q0 := 0) (As := [.long r9]) (rest := [.ref (G.1 0)]) E hml hP hD hS hA (t_X10_first l D G r9 (sB u37 20 (vp_updL (gB u37 20) (((r32 - (4294967296 : Int64))).toInt32).toNatClampNeg r36)) _ h) kmX10_209 mwyX10_first rfl rfl ⟨⟨rfl, rfl⟩, Nat.le_of_ble_eq_true rfl, Nat.le_of_ble_eq_true rfl⟩ rfl hl.1 rfl (Nat.le_of_ble_eq_true rfl) dX10_evaluate_226 ⟨Nat.zero_le _, Nat.zero_le _⟩ (fun r38 u39 H locs hP hD hS h => ?_)
                          refine cR_v (ci := 9) (q0 := 0) (As := [.long r38]) (rest := []) E hml hP hD hS hA (t_X10_gives l D G r38 u39 _ h) kmX10_286 mwyX10_gives rfl rfl ⟨⟨rfl, rfl⟩, Nat.le_of_ble_eq_true rfl, Nat.le_of_ble_eq_true rfl⟩ rfl hl.1 rfl (Nat.le_of_ble_eq_true rfl) dX10_evaluate_229 ⟨Nat.zero_le _, Nat.zero_le _⟩ (fun u40 H locs hP hD hS h => ?_)
                          refine lv_goto (tgt := 240) hx hb dX10_evaluate_232 (by decide) ?_
                          refine lv_goto (tgt := 316) hx hb dX10_evaluate_240 (by decide) ?_
                          exact retR_v E hr hlk hP hD hS h dX10_evaluate_316
              · have h := h.1 hc
                refine lv_aload_n hx hb dX10_evaluate_119 rfl (lv_at hl 3 rfl) ?_
                refine lv_lload hx hb dX10_evaluate_120 (lv_at hl 0 rfl) ?_
                refine cR_v (ci := 9) (q0 := 0) (As := [.long r9]) (rest := []) E hml hP hD hS hA (t_X10_condition l D G r9 u10 _ h) kmX10_299 mwyX10_condition rfl rfl ⟨⟨rfl, rfl⟩, Nat.le_of_ble_eq_true rfl, Nat.le_of_ble_eq_true rfl⟩ rfl hl.1 rfl (Nat.le_of_ble_eq_true rfl) dX10_evaluate_122 ⟨Nat.zero_le _, Nat.zero_le _⟩ (fun u41 H locs hP hD hS h => ?_)
                refine lv_goto (tgt := 316) hx hb dX10_evaluate_125 (by decide) ?_
                exact retR_v E hr hlk hP hD hS h dX10_evaluate_316
            · have h := h.1 hc
              refine lv_aload_n hx hb dX10_evaluate_80 rfl (lv_at hl 3 rfl) ?_
              refine lv_lload hx hb dX10_evaluate_81 (lv_at hl 0 rfl) ?_
              refine lv_iconst (v := (1 : Int32)) hx hb dX10_evaluate_83 (by decide) ?_
              refine cR_i (ci := 9) (q0 := 0) (As := [.long r9, .int (1 : Int32)]) (rest := []) E hml hP hD hS hA (t_X10_listOf l D G r9 (1 : Int32) u10 _ h) kmX10_269 mwyX10_listOf rfl rfl ⟨⟨rfl, rfl⟩, Nat.le_of_ble_eq_true rfl, Nat.le_of_ble_eq_true rfl⟩ rfl hl.1 rfl (Nat.le_of_ble_eq_true rfl) dX10_evaluate_84 ⟨Nat.zero_le _, Nat.zero_le _⟩ (fun r42 u43 H locs hP hD hS h => ?_)
              refine lv_if_eq (tgt := 103) hx hb dX10_evaluate_87 (by decide) (fun hc => ?_) (fun hc => ?_)
              · have h := h.1 hc
                refine lv_aload_n hx hb dX10_evaluate_103 rfl (lv_at hl 3 rfl) ?_
                refine lv_iconst (v := (3 : Int32)) hx hb dX10_evaluate_104 (by decide) ?_
                refine cR_v (ci := 9) (q0 := 0) (As := [.int (3 : Int32)]) (rest := []) E hml hP hD hS hA (t_X10_fails l D G (3 : Int32) u43 _ h) kmX10_265 mwyX10_fails rfl rfl ⟨⟨rfl, rfl⟩, Nat.le_of_ble_eq_true rfl, Nat.le_of_ble_eq_true rfl⟩ rfl hl.1 rfl (Nat.le_of_ble_eq_true rfl) dX10_evaluate_105 ⟨Nat.zero_le _, Nat.zero_le _⟩ (fun u44 H locs hP hD hS h => ?_)
                refine lv_goto (tgt := 316) hx hb dX10_evaluate_108 (by decide) ?_
                exact retR_v E hr hlk hP hD hS h dX10_evaluate_316
              · have h := h.2 hc
                refine lv_aload_n hx hb dX10_evaluate_90 rfl (lv_at hl 3 rfl) ?_
                refine lv_aload_n hx hb dX10_evaluate_91 rfl (lv_at hl 3 rfl) ?_
                refine lv_lload hx hb dX10_evaluate_92 (lv_at hl 0 rfl) ?_
                refine cR_l (ci := 9) (q0 := 0) (As := [.long r9]) (rest := [.ref (G.1 0)]) E hml hP hD hS hA (t_X10_first l D G r9 u43 _ h) kmX10_209 mwyX10_first rfl rfl ⟨⟨rfl, rfl⟩, Nat.le_of_ble_eq_true rfl, Nat.le_of_ble_eq_true rfl⟩ rfl hl.1 rfl (Nat.le_of_ble_eq_true rfl) dX10_evaluate_94 ⟨Nat.zero_le _, Nat.zero_le _⟩ (fun r45 u46 H locs hP hD hS h => ?_)
                refine cR_v (ci := 9) (q0 := 0) (As := [.long r45]) (rest := []) E hml hP hD hS hA (t_X10_gives l D G r45 u46 _ h) kmX10_286 mwyX10_gives rfl rfl ⟨⟨rfl, rfl⟩, Nat.le_of_ble_eq_true rfl, Nat.le_of_ble_eq_true rfl⟩ rfl hl.1 rfl (Nat.le_of_ble_eq_true rfl) dX10_evaluate_97 ⟨Nat.zero_le _, Nat.zero_le _⟩ (fun u47 H locs hP hD hS h => ?_)
                refine lv_goto (tgt := 316) hx hb dX10_evaluate_100 (by decide) ?_
                exact retR_v E hr hlk hP hD hS h dX10_evaluate_316
          · have h := h.2 hc
            refine lv_aload_n hx hb dX10_evaluate_49 rfl (lv_at hl 1 rfl) ?_
            refine lv_aload_n hx hb dX10_evaluate_50 rfl (lv_at hl 1 rfl) ?_
            refine lv_lload_n hx hb dX10_evaluate_51 rfl (lv_at hl 0 rfl) ?_
            refine cR_l (ci := 9) (q0 := 0) (As := [.long (gJ u2 40)]) (rest := [.ref (G.1 0)]) E hml hP hD hS hA (t_X10_lookUp l D G (gJ u2 40) u2 _ h) kmX10_292 mwyX10_lookUp rfl rfl ⟨⟨rfl, rfl⟩, Nat.le_of_ble_eq_true rfl, Nat.le_of_ble_eq_true rfl⟩ rfl hl.1 rfl (Nat.le_of_ble_eq_true rfl) dX10_evaluate_52 ⟨Nat.zero_le _, Nat.zero_le _⟩ (fun r48 u49 H locs hP hD hS h => ?_)
            refine cR_v (ci := 9) (q0 := 0) (As := [.long r48]) (rest := []) E hml hP hD hS hA (t_X10_gives l D G r48 u49 _ h) kmX10_286 mwyX10_gives rfl rfl ⟨⟨rfl, rfl⟩, Nat.le_of_ble_eq_true rfl, Nat.le_of_ble_eq_true rfl⟩ rfl hl.1 rfl (Nat.le_of_ble_eq_true rfl) dX10_evaluate_55 ⟨Nat.zero_le _, Nat.zero_le _⟩ (fun u50 H locs hP hD hS h => ?_)
            exact retR_v E hr hlk hP hD hS h dX10_evaluate_58
        · have h := h.1 hc
          refine lv_aload_n hx hb dX10_evaluate_36 rfl (lv_at hl 1 rfl) ?_
          refine lv_lload_n hx hb dX10_evaluate_37 rfl (lv_at hl 0 rfl) ?_
          refine cR_v (ci := 9) (q0 := 0) (As := [.long (gJ u2 40)]) (rest := []) E hml hP hD hS hA (t_X10_gives l D G (gJ u2 40) u2 _ h) kmX10_286 mwyX10_gives rfl rfl ⟨⟨rfl, rfl⟩, Nat.le_of_ble_eq_true rfl, Nat.le_of_ble_eq_true rfl⟩ rfl hl.1 rfl (Nat.le_of_ble_eq_true rfl) dX10_evaluate_38 ⟨Nat.zero_le _, Nat.zero_le _⟩ (fun u51 H locs hP hD hS h => ?_)
          exact retR_v E hr hlk hP hD hS h dX10_evaluate_41
  · have h := h.1 hc
    exact retR_v E hr hlk hP hD hS h dX10_evaluate_7
def l_X10_evaluateAll_22 (Q : St → Prop)  (K : St → Prop) : Nat → St → Prop
  | 0, _ => False
  | n + 1, u => (((gI u 8) = 0 → (((gI u 39) = (2 : Int32) → (((gI u 32) ≤ 0 → K u) ∧ (¬ (gI u 32) ≤ 0 → (((gI u 39) = 0 → wp_X10_evaluate  u (fun (u6 : St) => l_X10_evaluateAll_22 Q K n u6)) ∧ (¬ (gI u 39) = 0 → (((gI u 39) = (1 : Int32) → wp_X10_apply  u (fun (u5 : St) => l_X10_evaluateAll_22 Q K n u5)) ∧ (¬ (gI u 39) = (1 : Int32) → wp_X10_back  u (fun (u4 : St) => l_X10_evaluateAll_22 Q K n u4)))))))) ∧ (¬ (gI u 39) = (2 : Int32) → (((gI u 39) = 0 → wp_X10_evaluate  u (fun (u3 : St) => l_X10_evaluateAll_22 Q K n u3)) ∧ (¬ (gI u 39) = 0 → (((gI u 39) = (1 : Int32) → wp_X10_apply  u (fun (u2 : St) => l_X10_evaluateAll_22 Q K n u2)) ∧ (¬ (gI u 39) = (1 : Int32) → wp_X10_back  u (fun (u1 : St) => l_X10_evaluateAll_22 Q K n u1)))))))) ∧ (¬ (gI u 8) = 0 → K u))
def wp_X10_evaluateAll (p0 : Int64) (u : St) (Q : St → Prop) : Prop := (∃ k8 : Nat, l_X10_evaluateAll_22 Q  (fun (u7 : St) => Q u7) k8  (sJ (sJ (sI (sI u 32 (0 : Int32)) 39 (0 : Int32)) 40 p0) 41 (4294967296 : Int64)))
abbrev rm_X10_evaluateAll : Room := { frames := 8, cells := 0, slots := 0, locals := 185 }
set_option maxHeartbeats 4000000 in
set_option maxRecDepth 100000 in
theorem t_X10_evaluateAll (l : Launch) (D : va_G) (G : Gd) (p0 : Int64) (u : St) (Q : St → Prop) (h : wp_X10_evaluateAll p0 u Q) : MRv l D G yX10_evaluateAll cX10_evaluateAll 3 none rm_X10_evaluateAll [.ref (G.1 0), .long p0] u Q := by
  refine startR_v (by decide) ?_
  intro p e s m args below meth c E hr hlk hml hP hD hS hA
  have hx := E.1
  have hb := E.2.1
  have hown := E.2.2.1
  have hW := E.2.2.2.1
  have hl := lv_entry ([.ref (G.1 0), .long p0]) (n := 3) (Nat.le_of_ble_eq_true rfl)
  rw [lg_entry_eq]
  generalize (lg_sl ([.ref (G.1 0), .long p0]) ++ List.replicate (3 - (lg_sl ([.ref (G.1 0), .long p0])).length) Slot.unset).toArray = ls at hl ⊢
  have hl : lv_has ls 3 [(0, .ref (G.1 0)), (1, .long p0)] := hl
  have L_22 : ∀  (K : St → Prop), (∀  (u : St) (H : Heap) (locs : List Loc) (ls : Array Slot), K  u → va_P D vwCl (wR G u) H → va_D (AR G s.heap.size) (wR G u) → va_S (AR G s.heap.size) s.heap H locs → lv_has ls 3 [] → W p l e rm_X10_evaluateAll s m args below meth c H locs 0 0 (MQ below (va_Qv Q (BR D G s.heap.size) (AR G s.heap.size)) args s 0 0 (AR G s.heap.size)) (F0 m 80 ls [])) → ∀ (n : Nat)  (u : St) (H : Heap) (locs : List Loc) (ls : Array Slot), l_X10_evaluateAll_22 Q K n  u → va_P D vwCl (wR G u) H → va_D (AR G s.heap.size) (wR G u) → va_S (AR G s.heap.size) s.heap H locs → lv_has ls 3 [(0, .ref (G.1 0))] → W p l e rm_X10_evaluateAll s m args below meth c H locs 0 0 (MQ below (va_Qv Q (BR D G s.heap.size) (AR G s.heap.size)) args s 0 0 (AR G s.heap.size)) (F0 m 22 ls []) := by
    intro  K hK n
    induction n with
    | zero => intro  u H locs ls h; exact False.elim h
    | succ n ih =>
      intro  u H locs ls h hP hD hS hl
      unfold l_X10_evaluateAll_22 at h
      refine lv_aload_n hx hb dX10_evaluateAll_22 rfl (lv_at hl 0 rfl) ?_
      refine gR_8 E hP kfX10_35 (v := (gI u 8)) rfl dX10_evaluateAll_23 ?_
      refine lv_if_ne (tgt := 80) hx hb dX10_evaluateAll_26 (by decide) (fun hc => ?_) (fun hc => ?_)
      · have h := h.2 hc
        exact hK u _ _ _ h hP hD hS (lv_sub hl [] rfl)
      · have h := h.1 hc
        refine lv_aload_n hx hb dX10_evaluateAll_29 rfl (lv_at hl 0 rfl) ?_
        refine gR_39 E hP kfX10_132 (v := (gI u 39)) rfl dX10_evaluateAll_30 ?_
        refine lv_iconst (v := (2 : Int32)) hx hb dX10_evaluateAll_33 (by decide) ?_
        refine lv_icmp_ne (tgt := 44) hx hb dX10_evaluateAll_34 (by decide) (fun hc => ?_) (fun hc => ?_)
        · have h := h.2 hc
          refine lv_aload_n hx hb dX10_evaluateAll_44 rfl (lv_at hl 0 rfl) ?_
          refine gR_39 E hP kfX10_132 (v := (gI u 39)) rfl dX10_evaluateAll_45 ?_
          refine lv_if_ne (tgt := 58) hx hb dX10_evaluateAll_48 (by decide) (fun hc => ?_) (fun hc => ?_)
          · have h := h.2 hc
            refine lv_aload_n hx hb dX10_evaluateAll_58 rfl (lv_at hl 0 rfl) ?_
            refine gR_39 E hP kfX10_132 (v := (gI u 39)) rfl dX10_evaluateAll_59 ?_
            refine lv_iconst (v := (1 : Int32)) hx hb dX10_evaluateAll_62 (by decide) ?_
            refine lv_icmp_ne (tgt := 73) hx hb dX10_evaluateAll_63 (by decide) (fun hc => ?_) (fun hc => ?_)
            · have h := h.2 hc
              refine lv_aload_n hx hb dX10_evaluateAll_73 rfl (lv_at hl 0 rfl) ?_
              refine cR_v (ci := 9) (q0 := 0) (As := []) (rest := []) E hml hP hD hS hA (t_X10_back l D G  u _ h) kmX10_335 mwyX10_back rfl rfl ⟨⟨rfl, rfl⟩, Nat.le_of_ble_eq_true rfl, Nat.le_of_ble_eq_true rfl⟩ rfl hl.1 rfl (Nat.le_of_ble_eq_true rfl) dX10_evaluateAll_74 ⟨Nat.zero_le _, Nat.zero_le _⟩ (fun u1 H locs hP hD hS h => ?_)
              refine lv_goto (tgt := 22) hx hb dX10_evaluateAll_77 (by decide) ?_
              exact ih u1 _ _ _ h hP hD hS (lv_sub hl [0] rfl)
            · have h := h.1 hc
              refine lv_aload_n hx hb dX10_evaluateAll_66 rfl (lv_at hl 0 rfl) ?_
              refine cR_v (ci := 9) (q0 := 0) (As := []) (rest := []) E hml hP hD hS hA (t_X10_apply l D G  u _ h) kmX10_332 mwyX10_apply rfl rfl ⟨⟨rfl, rfl⟩, Nat.le_of_ble_eq_true rfl, Nat.le_of_ble_eq_true rfl⟩ rfl hl.1 rfl (Nat.le_of_ble_eq_true rfl) dX10_evaluateAll_67 ⟨Nat.zero_le _, Nat.zero_le _⟩ (fun u2 H locs hP hD hS h => ?_)
              refine lv_goto (tgt := 22) hx hb dX10_evaluateAll_70 (by decide) ?_
              exact ih u2 _ _ _ h hP hD hS (lv_sub hl [0] rfl)
          · have h := h.1 hc
            refine lv_aload_n hx hb dX10_evaluateAll_51 rfl (lv_at hl 0 rfl) ?_
            refine cR_v (ci := 9) (q0 := 0) (As := []) (rest := []) E hml hP hD hS hA (t_X10_evaluate l D G  u _ h) kmX10_329 mwyX10_evaluate rfl rfl ⟨⟨rfl, rfl⟩, Nat.le_of_ble_eq_true rfl, Nat.le_of_ble_eq_true rfl⟩ rfl hl.1 rfl (Nat.le_of_ble_eq_true rfl) dX10_evaluateAll_52 ⟨Nat.zero_le _, Nat.zero_le _⟩ (fun u3 H locs hP hD hS h => ?_)
            refine lv_goto (tgt := 22) hx hb dX10_evaluateAll_55 (by decide) ?_
            exact ih u3 _ _ _ h hP hD hS (lv_sub hl [0] rfl)
        · have h := h.1 hc
          refine lv_aload_n hx hb dX10_evaluateAll_37 rfl (lv_at hl 0 rfl) ?_
          refine gR_32 E hP kfX10_111 (v := (gI u 32)) rfl dX10_evaluateAll_38 ?_
          refine lv_if_le (tgt := 80) hx hb dX10_evaluateAll_41 (by decide) (fun hc => ?_) (fun hc => ?_)
          · have h := h.1 hc
            exact hK u _ _ _ h hP hD hS (lv_sub hl [] rfl)
          · have h := h.2 hc
            refine lv_aload_n hx hb dX10_evaluateAll_44 rfl (lv_at hl 0 rfl) ?_
            refine gR_39 E hP kfX10_132 (v := (gI u 39)) rfl dX10_evaluateAll_45 ?_
            refine lv_if_ne (tgt := 58) hx hb dX10_evaluateAll_48 (by decide) (fun hc => ?_) (fun hc => ?_)
            · have h := h.2 hc
              refine lv_aload_n hx hb dX10_evaluateAll_58 rfl (lv_at hl 0 rfl) ?_
              refine gR_39 E hP kfX10_132 (v := (gI u 39)) rfl dX10_evaluateAll_59 ?_
              refine lv_iconst (v := (1 : Int32)) hx hb dX10_evaluateAll_62 (by decide) ?_
              refine lv_icmp_ne (tgt := 73) hx hb dX10_evaluateAll_63 (by decide) (fun hc => ?_) (fun hc => ?_)
              · have h := h.2 hc
                refine lv_aload_n hx hb dX10_evaluateAll_73 rfl (lv_at hl 0 rfl) ?_
                refine cR_v (ci := 9) (q0 := 0) (As := []) (rest := []) E hml hP hD hS hA (t_X10_back l D G  u _ h) kmX10_335 mwyX10_back rfl rfl ⟨⟨rfl, rfl⟩, Nat.le_of_ble_eq_true rfl, Nat.le_of_ble_eq_true rfl⟩ rfl hl.1 rfl (Nat.le_of_ble_eq_true rfl) dX10_evaluateAll_74 ⟨Nat.zero_le _, Nat.zero_le _⟩ (fun u4 H locs hP hD hS h => ?_)
                refine lv_goto (tgt := 22) hx hb dX10_evaluateAll_77 (by decide) ?_
                exact ih u4 _ _ _ h hP hD hS (lv_sub hl [0] rfl)
              · have h := h.1 hc
                refine lv_aload_n hx hb dX10_evaluateAll_66 rfl (lv_at hl 0 rfl) ?_
                refine cR_v (ci := 9) (q0 := 0) (As := []) (rest := []) E hml hP hD hS hA (t_X10_apply l D G  u _ h) kmX10_332 mwyX10_apply rfl rfl ⟨⟨rfl, rfl⟩, Nat.le_of_ble_eq_true rfl, Nat.le_of_ble_eq_true rfl⟩ rfl hl.1 rfl (Nat.le_of_ble_eq_true rfl) dX10_evaluateAll_67 ⟨Nat.zero_le _, Nat.zero_le _⟩ (fun u5 H locs hP hD hS h => ?_)
                refine lv_goto (tgt := 22) hx hb dX10_evaluateAll_70 (by decide) ?_
                exact ih u5 _ _ _ h hP hD hS (lv_sub hl [0] rfl)
            · have h := h.1 hc
              refine lv_aload_n hx hb dX10_evaluateAll_51 rfl (lv_at hl 0 rfl) ?_
              refine cR_v (ci := 9) (q0 := 0) (As := []) (rest := []) E hml hP hD hS hA (t_X10_evaluate l D G  u _ h) kmX10_329 mwyX10_evaluate rfl rfl ⟨⟨rfl, rfl⟩, Nat.le_of_ble_eq_true rfl, Nat.le_of_ble_eq_true rfl⟩ rfl hl.1 rfl (Nat.le_of_ble_eq_true rfl) dX10_evaluateAll_52 ⟨Nat.zero_le _, Nat.zero_le _⟩ (fun u6 H locs hP hD hS h => ?_)
              refine lv_goto (tgt := 22) hx hb dX10_evaluateAll_55 (by decide) ?_
              exact ih u6 _ _ _ h hP hD hS (lv_sub hl [0] rfl)
  unfold wp_X10_evaluateAll at h
  refine lv_aload_n hx hb dX10_evaluateAll_0 rfl (lv_at hl 0 rfl) ?_
  refine lv_iconst (v := (0 : Int32)) hx hb dX10_evaluateAll_1 (by decide) ?_
  refine pR_32 E hP hD hS kfX10_111 dX10_evaluateAll_2 (fun H locs hP hD hS => ?_)
  refine lv_aload_n hx hb dX10_evaluateAll_5 rfl (lv_at hl 0 rfl) ?_
  refine lv_iconst (v := (0 : Int32)) hx hb dX10_evaluateAll_6 (by decide) ?_
  refine pR_39 E hP hD hS kfX10_132 dX10_evaluateAll_7 (fun H locs hP hD hS => ?_)
  refine lv_aload_n hx hb dX10_evaluateAll_10 rfl (lv_at hl 0 rfl) ?_
  refine lv_lload_n hx hb dX10_evaluateAll_11 rfl (lv_at hl 1 rfl) ?_
  refine pR_40 E hP hD hS kfX10_135 dX10_evaluateAll_12 (fun H locs hP hD hS => ?_)
  refine lv_aload_n hx hb dX10_evaluateAll_15 rfl (lv_at hl 0 rfl) ?_
  refine lv_ldc2 (v := (4294967296 : Int64)) hx hb hown (hW _ kcX10_199) dX10_evaluateAll_16 ?_
  refine pR_41 E hP hD hS kfX10_138 dX10_evaluateAll_19 (fun H locs hP hD hS => ?_)
  obtain ⟨n, h⟩ := h
  refine L_22  _ (fun u7 H locs ls h hP hD hS hl => ?_) n  (sJ (sJ (sI (sI u 32 (0 : Int32)) 39 (0 : Int32)) 40 p0) 41 (4294967296 : Int64)) _ _ _ h hP hD hS (lv_sub hl [0] rfl)
  exact retR_v E hr hlk hP hD hS h dX10_evaluateAll_80
def l_X10_next_25 (Q : Int32 → St → Prop)  (K : St → Prop) : Nat → St → Prop
  | 0, _ => False
  | n + 1, u => (((gI u 5) ≤ (gI u 6) → K u) ∧ (¬ (gI u 5) ≤ (gI u 6) → vp_in (gI u 6) 2000 ∧ wp_X10_blank ((gA u 4) ((gI u 6)).toNatClampNeg) (fun (r1 : Int32) => ((r1 = 0 → K u) ∧ (¬ r1 = 0 → l_X10_next_25 Q K n (sI u 6 ((gI u 6) + (1 : Int32))))))))
def l_X10_next_170 (Q : Int32 → St → Prop) (c2 : Int32) (K : St → Prop) : Nat → Int32 → St → Prop
  | 0, _, _ => False
  | n + 1, x3, u => (((gI u 23) ≤ x3 → K u) ∧ (¬ (gI u 23) ≤ x3 → vp_in x3 150 ∧ vp_in (gI u 21) 150 ∧ vp_in (gI u 21) 150 ∧ l_X10_next_170 Q c2 K n (x3 + (1 : Int32)) (sI (sB (sB u 19 (vp_updL (gB u 19) ((gI u 21)).toNatClampNeg ((gB u 22) (x3).toNatClampNeg))) 20 (vp_updL (gB u 20) ((gI u 21)).toNatClampNeg (-1 : Int64))) 21 ((gI u 21) + (1 : Int32)))))
def wp_X10_next  (u : St) (Q : Int32 → St → Prop) : Prop := (∃ k20 : Nat, l_X10_next_25 Q  (fun (u2 : St) => (((gI u2 6) = (gI u2 5) → Q (0 : Int32) (sI u2 7 (gI u2 6))) ∧ (¬ (gI u2 6) = (gI u2 5) → wp_X10_readAll (0 : Int32) (gI u2 6) (sI (sI (sI u2 7 (gI u2 6)) 23 (0 : Int32)) 24 (0 : Int32)) (fun (r3 : Int32) (u4 : St) => ((0 ≤ r3 → (((gI u4 24) = 0 → (∃ k16 : Nat, l_X10_next_170 Q (gI u4 6) (fun (u5 : St) => wp_X10_holdGlobals  u5 (fun (u6 : St) => wp_X10_room (gI u6 30) u6 (fun (r7 : Int32) (u8 : St) => ((r7 = 0 → (((gI u8 8) = 0 → (((gI u8 8) = 0 → wp_X10_printAll (gJ u8 40) (sI u8 0 (0 : Int32)) (fun (u10 : St) => Q (1 : Int32) u10)) ∧ (¬ (gI u8 8) = 0 → Q (0 : Int32) (sI u8 0 (0 : Int32))))) ∧ (¬ (gI u8 8) = 0 → (((gI u8 8) = 0 → wp_X10_printAll (gJ u8 40) (sI u8 0 (2 : Int32)) (fun (u9 : St) => Q (1 : Int32) u9)) ∧ (¬ (gI u8 8) = 0 → Q (0 : Int32) (sI u8 0 (2 : Int32))))))) ∧ (¬ r7 = 0 → wp_X10_readAll (1 : Int32) (gI u4 6) u8 (fun (r11 : Int32) (u12 : St) => wp_X10_evaluateAll (gJ u12 31) u12 (fun (u13 : St) => (((gI u13 8) = 0 → (((gI u13 8) = 0 → wp_X10_printAll (gJ u13 40) (sI u13 0 (0 : Int32)) (fun (u15 : St) => Q (1 : Int32) u15)) ∧ (¬ (gI u13 8) = 0 → Q (0 : Int32) (sI u13 0 (0 : Int32))))) ∧ (¬ (gI u13 8) = 0 → (((gI u13 8) = 0 → wp_X10_printAll (gJ u13 40) (sI u13 0 (2 : Int32)) (fun (u14 : St) => Q (1 : Int32) u14)) ∧ (¬ (gI u13 8) = 0 → Q (0 : Int32) (sI u13 0 (2 : Int32))))))))))))) k16 (0 : Int32) (sI (sI u4 6 r3) 7 r3))) ∧ (¬ (gI u4 24) = 0 → wp_X10_fails (9 : Int32) (sI (sI u4 6 r3) 7 r3) (fun (u17 : St) => (((gI u17 8) = 0 → (((gI u17 8) = 0 → wp_X10_printAll (gJ u17 40) (sI u17 0 (0 : Int32)) (fun (u19 : St) => Q (1 : Int32) u19)) ∧ (¬ (gI u17 8) = 0 → Q (0 : Int32) (sI u17 0 (0 : Int32))))) ∧ (¬ (gI u17 8) = 0 → (((gI u17 8) = 0 → wp_X10_printAll (gJ u17 40) (sI u17 0 (2 : Int32)) (fun (u18 : St) => Q (1 : Int32) u18)) ∧ (¬ (gI u17 8) = 0 → Q (0 : Int32) (sI u17 0 (2 : Int32)))))))))) ∧ (¬ 0 ≤ r3 → Q (0 : Int32) (sI (sI (sI (sI u4 8 (10 : Int32)) 0 (1 : Int32)) 7 ((-1 : Int32) - r3)) 6 (gI u4 5)))))))) k20  (sI (sI (sI (sI (sI u 0 (0 : Int32)) 12 (0 : Int32)) 8 (0 : Int32)) 9 (0 : Int32)) 10 (0 : Int32)))
abbrev rm_X10_next : Room := { frames := 9, cells := 0, slots := 0, locals := 207 }
set_option maxHeartbeats 4000000 in
set_option maxRecDepth 100000 in
theorem t_X10_next (l : Launch) (D : va_G) (G : Gd)  (u : St) (Q : Int32 → St → Prop) (h : wp_X10_next  u Q) : MRi l D G yX10_next cX10_next 4 (some .int) rm_X10_next [.ref (G.1 0)] u Q := by
  refine startR_i (by decide) ?_
  intro p e s m args below meth c E hr hlk hml hP hD hS hA
  have hx := E.1
  have hb := E.2.1
  have hown := E.2.2.1
  have hW := E.2.2.2.1
  have hl := lv_entry ([.ref (G.1 0)]) (n := 4) (Nat.le_of_ble_eq_true rfl)
  rw [lg_entry_eq]
  generalize (lg_sl ([.ref (G.1 0)]) ++ List.replicate (4 - (lg_sl ([.ref (G.1 0)])).length) Slot.unset).toArray = ls at hl ⊢
  have hl : lv_has ls 4 [(0, .ref (G.1 0))] := hl
  have L_25 : ∀  (K : St → Prop), (∀  (u : St) (H : Heap) (locs : List Loc) (ls : Array Slot), K  u → va_P D vwCl (wR G u) H → va_D (AR G s.heap.size) (wR G u) → va_S (AR G s.heap.size) s.heap H locs → lv_has ls 4 [(0, .ref (G.1 0))] → W p l e rm_X10_next s m args below meth c H locs 0 0 (MQ below (va_Qi Q (BR D G s.heap.size) (AR G s.heap.size)) args s 0 0 (AR G s.heap.size)) (F0 m 64 ls [])) → ∀ (n : Nat)  (u : St) (H : Heap) (locs : List Loc) (ls : Array Slot), l_X10_next_25 Q K n  u → va_P D vwCl (wR G u) H → va_D (AR G s.heap.size) (wR G u) → va_S (AR G s.heap.size) s.heap H locs → lv_has ls 4 [(0, .ref (G.1 0))] → W p l e rm_X10_next s m args below meth c H locs 0 0 (MQ below (va_Qi Q (BR D G s.heap.size) (AR G s.heap.size)) args s 0 0 (AR G s.heap.size)) (F0 m 25 ls []) := by
    intro  K hK n
    induction n with
    | zero => intro  u H locs ls h; exact False.elim h
    | succ n ih =>
      intro  u H locs ls h hP hD hS hl
      unfold l_X10_next_25 at h
      refine lv_aload_n hx hb dX10_next_25 rfl (lv_at hl 0 rfl) ?_
      refine gR_6 E hP kfX10_29 (v := (gI u 6)) rfl dX10_next_26 ?_
      refine lv_aload_n hx hb dX10_next_29 rfl (lv_at hl 0 rfl) ?_
      refine gR_5 E hP kfX10_26 (v := (gI u 5)) rfl dX10_next_30 ?_
      refine lv_icmp_ge (tgt := 64) hx hb dX10_next_33 (by decide) (fun hc => ?_) (fun hc => ?_)
      · have h := h.1 hc
        exact hK u _ _ _ h hP hD hS (lv_sub hl [0] rfl)
      · have h := h.2 hc
        refine lv_aload_n hx hb dX10_next_36 rfl (lv_at hl 0 rfl) ?_
        refine gR_4 E hP kfX10_22 dX10_next_37 ?_
        refine lv_aload_n hx hb dX10_next_40 rfl (lv_at hl 0 rfl) ?_
        refine gR_6 E hP kfX10_29 (v := (gI u 6)) rfl dX10_next_41 ?_
        obtain ⟨h9, h⟩ := h
        refine xR_4 E hP h9 (v := ((gA u 4) ((gI u 6)).toNatClampNeg)) rfl dX10_next_44 ?_
        refine c0_i (As := [.int ((gA u 4) ((gI u 6)).toNatClampNeg)]) (rest := []) hx hb hml hown hW hP hS hA (t_X10_blank l ((gA u 4) ((gI u 6)).toNatClampNeg) _ h) kmX10_248 mwyX10_blank ⟨⟨rfl, rfl⟩, Nat.le_of_ble_eq_true rfl, Nat.le_of_ble_eq_true rfl⟩ rfl hl.1 rfl (Nat.le_of_ble_eq_true rfl) dX10_next_45 ⟨Nat.zero_le _, Nat.zero_le _⟩ (fun r1 H locs hP hS h => ?_)
        refine lv_if_eq (tgt := 64) hx hb dX10_next_48 (by decide) (fun hc => ?_) (fun hc => ?_)
        · have h := h.1 hc
          exact hK u _ _ _ h hP hD hS (lv_sub hl [0] rfl)
        · have h := h.2 hc
          refine lv_aload_n hx hb dX10_next_51 rfl (lv_at hl 0 rfl) ?_
          refine lv_dup hx hb dX10_next_52 rfl ?_
          refine gR_6 E hP kfX10_29 (v := (gI u 6)) rfl dX10_next_53 ?_
          refine lv_iconst (v := (1 : Int32)) hx hb dX10_next_56 (by decide) ?_
          refine lv_iadd hx hb dX10_next_57 ?_
          refine pR_6 E hP hD hS kfX10_29 dX10_next_58 (fun H locs hP hD hS => ?_)
          refine lv_goto (tgt := 25) hx hb dX10_next_61 (by decide) ?_
          exact ih (sI u 6 ((gI u 6) + (1 : Int32))) _ _ _ h hP hD hS (lv_sub hl [0] rfl)
  have L_170 : ∀ (c2 : Int32) (K : St → Prop), (∀  (u : St) (H : Heap) (locs : List Loc) (ls : Array Slot), K  u → va_P D vwCl (wR G u) H → va_D (AR G s.heap.size) (wR G u) → va_S (AR G s.heap.size) s.heap H locs → lv_has ls 4 [(0, .ref (G.1 0)), (2, .int c2)] → W p l e rm_X10_next s m args below meth c H locs 0 0 (MQ below (va_Qi Q (BR D G s.heap.size) (AR G s.heap.size)) args s 0 0 (AR G s.heap.size)) (F0 m 221 ls [])) → ∀ (n : Nat) (x3 : Int32) (u : St) (H : Heap) (locs : List Loc) (ls : Array Slot), l_X10_next_170 Q c2 K n x3 u → va_P D vwCl (wR G u) H → va_D (AR G s.heap.size) (wR G u) → va_S (AR G s.heap.size) s.heap H locs → lv_has ls 4 [(0, .ref (G.1 0)), (2, .int c2), (3, .int x3)] → W p l e rm_X10_next s m args below meth c H locs 0 0 (MQ below (va_Qi Q (BR D G s.heap.size) (AR G s.heap.size)) args s 0 0 (AR G s.heap.size)) (F0 m 170 ls []) := by
    intro c2 K hK n
    induction n with
    | zero => intro x3 u H locs ls h; exact False.elim h
    | succ n ih =>
      intro x3 u H locs ls h hP hD hS hl
      unfold l_X10_next_170 at h
      refine lv_iload_n hx hb dX10_next_170 rfl (lv_at hl 2 rfl) ?_
      refine lv_aload_n hx hb dX10_next_171 rfl (lv_at hl 0 rfl) ?_
      refine gR_23 E hP kfX10_82 (v := (gI u 23)) rfl dX10_next_172 ?_
      refine lv_icmp_ge (tgt := 221) hx hb dX10_next_175 (by decide) (fun hc => ?_) (fun hc => ?_)
      · have h := h.1 hc
        exact hK u _ _ _ h hP hD hS (lv_sub hl [0, 1] rfl)
      · have h := h.2 hc
        refine lv_aload_n hx hb dX10_next_178 rfl (lv_at hl 0 rfl) ?_
        refine gR_19 E hP kfX10_70 dX10_next_179 ?_
        refine lv_aload_n hx hb dX10_next_182 rfl (lv_at hl 0 rfl) ?_
        refine gR_21 E hP kfX10_76 (v := (gI u 21)) rfl dX10_next_183 ?_
        refine lv_aload_n hx hb dX10_next_186 rfl (lv_at hl 0 rfl) ?_
        refine gR_22 E hP kfX10_79 dX10_next_187 ?_
        refine lv_iload_n hx hb dX10_next_190 rfl (lv_at hl 2 rfl) ?_
        obtain ⟨h9, h⟩ := h
        refine xR_22 E hP h9 (v := ((gB u 22) (x3).toNatClampNeg)) rfl dX10_next_191 ?_
        obtain ⟨h9, h⟩ := h
        refine yR_19 E hP hD hS h9 (f := (gB u 19)) rfl dX10_next_192 (fun H locs hP hD hS => ?_)
        refine lv_aload_n hx hb dX10_next_193 rfl (lv_at hl 0 rfl) ?_
        refine gR_20 E hP kfX10_73 dX10_next_194 ?_
        refine lv_aload_n hx hb dX10_next_197 rfl (lv_at hl 0 rfl) ?_
        refine gR_21 E hP kfX10_76 (v := (gI u 21)) rfl dX10_next_198 ?_
        refine lv_ldc2 (v := (-1 : Int64)) hx hb hown (hW _ kcX10_197) dX10_next_201 ?_
        obtain ⟨h9, h⟩ := h
        refine yR_20 E hP hD hS h9 (f := (gB u 20)) rfl dX10_next_204 (fun H locs hP hD hS => ?_)
        refine lv_aload_n hx hb dX10_next_205 rfl (lv_at hl 0 rfl) ?_
        refine lv_dup hx hb dX10_next_206 rfl ?_
        refine gR_21 E hP kfX10_76 (v := (gI u 21)) rfl dX10_next_207 ?_
        refine lv_iconst (v := (1 : Int32)) hx hb dX10_next_210 (by decide) ?_
        refine lv_iadd hx hb dX10_next_211 ?_
        refine pR_21 E hP hD hS kfX10_76 dX10_next_212 (fun H locs hP hD hS => ?_)
        refine lv_iinc (v := (x3 + (1 : Int32))) (lv' := [(3, .int (x3 + (1 : Int32))), (0, .ref (G.1 0)), (2, .int c2)]) hx hb dX10_next_215 hl (k := 2) rfl rfl (by decide) rfl (fun ls hl => ?_)
        refine lv_goto (tgt := 170) hx hb dX10_next_218 (by decide) ?_
        exact ih (x3 + (1 : Int32)) (sI (sB (sB u 19 (vp_updL (gB u 19) ((gI u 21)).toNatClampNeg ((gB u 22) (x3).toNatClampNeg))) 20 (vp_updL (gB u 20) ((gI u 21)).toNatClampNeg (-1 : Int64))) 21 ((gI u 21) + (1 : Int32))) _ _ _ h hP hD hS (lv_sub hl [1, 2, 0] rfl)
  unfold wp_X10_next at h
  refine lv_aload_n hx hb dX10_next_0 rfl (lv_at hl 0 rfl) ?_
  refine lv_iconst (v := (0 : Int32)) hx hb dX10_next_1 (by decide) ?_
  refine pR_0 E hP hD hS kfX10_7 dX10_next_2 (fun H locs hP hD hS => ?_)
  refine lv_aload_n hx hb dX10_next_5 rfl (lv_at hl 0 rfl) ?_
  refine lv_iconst (v := (0 : Int32)) hx hb dX10_next_6 (by decide) ?_
  refine pR_12 E hP hD hS kfX10_47 dX10_next_7 (fun H locs hP hD hS => ?_)
  refine lv_aload_n hx hb dX10_next_10 rfl (lv_at hl 0 rfl) ?_
  refine lv_iconst (v := (0 : Int32)) hx hb dX10_next_11 (by decide) ?_
  refine pR_8 E hP hD hS kfX10_35 dX10_next_12 (fun H locs hP hD hS => ?_)
  refine lv_aload_n hx hb dX10_next_15 rfl (lv_at hl 0 rfl) ?_
  refine lv_iconst (v := (0 : Int32)) hx hb dX10_next_16 (by decide) ?_
  refine pR_9 E hP hD hS kfX10_38 dX10_next_17 (fun H locs hP hD hS => ?_)
  refine lv_aload_n hx hb dX10_next_20 rfl (lv_at hl 0 rfl) ?_
  refine lv_iconst (v := (0 : Int32)) hx hb dX10_next_21 (by decide) ?_
  refine pR_10 E hP hD hS kfX10_41 dX10_next_22 (fun H locs hP hD hS => ?_)
  obtain ⟨n, h⟩ := h
  refine L_25  _ (fun u2 H locs ls h hP hD hS hl => ?_) n  (sI (sI (sI (sI (sI u 0 (0 : Int32)) 12 (0 : Int32)) 8 (0 : Int32)) 9 (0 : Int32)) 10 (0 : Int32)) _ _ _ h hP hD hS (lv_sub hl [0] rfl)
  refine lv_aload_n hx hb dX10_next_64 rfl (lv_at hl 0 rfl) ?_
  refine lv_aload_n hx hb dX10_next_65 rfl (lv_at hl 0 rfl) ?_
  refine gR_6 E hP kfX10_29 (v := (gI u2 6)) rfl dX10_next_66 ?_
  refine pR_7 E hP hD hS kfX10_32 dX10_next_69 (fun H locs hP hD hS => ?_)
  refine lv_aload_n hx hb dX10_next_72 rfl (lv_at hl 0 rfl) ?_
  refine gR_6 E hP kfX10_29 (v := (gI u2 6)) rfl dX10_next_73 ?_
  refine lv_aload_n hx hb dX10_next_76 rfl (lv_at hl 0 rfl) ?_
  refine gR_5 E hP kfX10_26 (v := (gI u2 5)) rfl dX10_next_77 ?_
  refine lv_icmp_ne (tgt := 85) hx hb dX10_next_80 (by decide) (fun hc => ?_) (fun hc => ?_)
  · have h := h.2 hc
    refine lv_aload_n hx hb dX10_next_85 rfl (lv_at hl 0 rfl) ?_
    refine lv_iconst (v := (0 : Int32)) hx hb dX10_next_86 (by decide) ?_
    refine pR_23 E hP hD hS kfX10_82 dX10_next_87 (fun H locs hP hD hS => ?_)
    refine lv_aload_n hx hb dX10_next_90 rfl (lv_at hl 0 rfl) ?_
    refine lv_iconst (v := (0 : Int32)) hx hb dX10_next_91 (by decide) ?_
    refine pR_24 E hP hD hS kfX10_85 vz_0 dX10_next_92 (fun H locs hP hD hS => ?_)
    refine lv_aload_n hx hb dX10_next_95 rfl (lv_at hl 0 rfl) ?_
    refine lv_iconst (v := (0 : Int32)) hx hb dX10_next_96 (by decide) ?_
    refine lv_aload_n hx hb dX10_next_97 rfl (lv_at hl 0 rfl) ?_
    refine gR_6 E hP kfX10_29 (v := (gI u2 6)) rfl dX10_next_98 ?_
    refine cR_i (ci := 9) (q0 := 0) (As := [.int (0 : Int32), .int (gI u2 6)]) (rest := []) E hml hP hD hS hA (t_X10_readAll l D G (0 : Int32) (gI u2 6) (sI (sI (sI u2 7 (gI u2 6)) 23 (0 : Int32)) 24 (0 : Int32)) _ h) kmX10_344 mwyX10_readAll rfl rfl ⟨⟨rfl, rfl⟩, Nat.le_of_ble_eq_true rfl, Nat.le_of_ble_eq_true rfl⟩ rfl hl.1 rfl (Nat.le_of_ble_eq_true rfl) dX10_next_101 ⟨Nat.zero_le _, Nat.zero_le _⟩ (fun r3 u4 H locs hP hD hS h => ?_)
    refine lv_istore_n (lv' := [(1, .int r3), (0, .ref (G.1 0))]) hx hb dX10_next_104 rfl hl (by decide) rfl (fun ls hl => ?_)
    refine lv_iload_n hx hb dX10_next_105 rfl (lv_at hl 0 rfl) ?_
    refine lv_if_ge (tgt := 137) hx hb dX10_next_106 (by decide) (fun hc => ?_) (fun hc => ?_)
    · have h := h.1 hc
      refine lv_aload_n hx hb dX10_next_137 rfl (lv_at hl 1 rfl) ?_
      refine gR_6 E hP kfX10_29 (v := (gI u4 6)) rfl dX10_next_138 ?_
      refine lv_istore_n (lv' := [(2, .int (gI u4 6)), (1, .int r3), (0, .ref (G.1 0))]) hx hb dX10_next_141 rfl hl (by decide) rfl (fun ls hl => ?_)
      refine lv_aload_n hx hb dX10_next_142 rfl (lv_at hl 2 rfl) ?_
      refine lv_iload_n hx hb dX10_next_143 rfl (lv_at hl 1 rfl) ?_
      refine pR_6 E hP hD hS kfX10_29 dX10_next_144 (fun H locs hP hD hS => ?_)
      refine lv_aload_n hx hb dX10_next_147 rfl (lv_at hl 2 rfl) ?_
      refine lv_iload_n hx hb dX10_next_148 rfl (lv_at hl 1 rfl) ?_
      refine pR_7 E hP hD hS kfX10_32 dX10_next_149 (fun H locs hP hD hS => ?_)
      refine lv_aload_n hx hb dX10_next_152 rfl (lv_at hl 2 rfl) ?_
      refine gR_24 E hP kfX10_85 (v := (gI u4 24)) rfl dX10_next_153 ?_
      refine lv_if_eq (tgt := 168) hx hb dX10_next_156 (by decide) (fun hc => ?_) (fun hc => ?_)
      · have h := h.1 hc
        refine lv_iconst (v := (0 : Int32)) hx hb dX10_next_168 (by decide) ?_
        refine lv_istore_n (lv' := [(3, .int (0 : Int32)), (2, .int (gI u4 6)), (1, .int r3), (0, .ref (G.1 0))]) hx hb dX10_next_169 rfl hl (by decide) rfl (fun ls hl => ?_)
        obtain ⟨n, h⟩ := h
        refine L_170 (gI u4 6) _ (fun u5 H locs ls h hP hD hS hl => ?_) n (0 : Int32) (sI (sI u4 6 r3) 7 r3) _ _ _ h hP hD hS (lv_sub hl [3, 1, 0] rfl)
        refine lv_aload_n hx hb dX10_next_221 rfl (lv_at hl 0 rfl) ?_
        refine cR_v (ci := 9) (q0 := 0) (As := []) (rest := []) E hml hP hD hS hA (t_X10_holdGlobals l D G  u5 _ h) kmX10_222 mwyX10_holdGlobals rfl rfl ⟨⟨rfl, rfl⟩, Nat.le_of_ble_eq_true rfl, Nat.le_of_ble_eq_true rfl⟩ rfl hl.1 rfl (Nat.le_of_ble_eq_true rfl) dX10_next_222 ⟨Nat.zero_le _, Nat.zero_le _⟩ (fun u6 H locs hP hD hS h => ?_)
        refine lv_aload_n hx hb dX10_next_225 rfl (lv_at hl 0 rfl) ?_
        refine lv_aload_n hx hb dX10_next_226 rfl (lv_at hl 0 rfl) ?_
        refine gR_30 E hP kfX10_104 (v := (gI u6 30)) rfl dX10_next_227 ?_
        refine cR_i (ci := 9) (q0 := 0) (As := [.int (gI u6 30)]) (rest := []) E hml hP hD hS hA (t_X10_room l D G (gI u6 30) u6 _ h) kmX10_307 mwyX10_room rfl rfl ⟨⟨rfl, rfl⟩, Nat.le_of_ble_eq_true rfl, Nat.le_of_ble_eq_true rfl⟩ rfl hl.1 rfl (Nat.le_of_ble_eq_true rfl) dX10_next_230 ⟨Nat.zero_le _, Nat.zero_le _⟩ (fun r7 u8 H locs hP hD hS h => ?_)
        refine lv_if_eq (tgt := 251) hx hb dX10_next_233 (by decide) (fun hc => ?_) (fun hc => ?_)
        · have h := h.1 hc
          refine lv_aload_n hx hb dX10_next_251 rfl (lv_at hl 0 rfl) ?_
          refine lv_aload_n hx hb dX10_next_252 rfl (lv_at hl 0 rfl) ?_
          refine gR_8 E hP kfX10_35 (v := (gI u8 8)) rfl dX10_next_253 ?_
          refine lv_if_ne (tgt := 263) hx hb dX10_next_256 (by decide) (fun hc => ?_) (fun hc => ?_)
          · have h := h.2 hc
            refine lv_iconst (v := (2 : Int32)) hx hb dX10_next_263 (by decide) ?_
            refine pR_0 E hP hD hS kfX10_7 dX10_next_264 (fun H locs hP hD hS => ?_)
            refine lv_aload_n hx hb dX10_next_267 rfl (lv_at hl 0 rfl) ?_
            refine gR_8 E hP kfX10_35 (v := (gI u8 8)) rfl dX10_next_268 ?_
            refine lv_if_eq (tgt := 276) hx hb dX10_next_271 (by decide) (fun hc => ?_) (fun hc => ?_)
            · have h := h.1 hc
              refine lv_aload_n hx hb dX10_next_276 rfl (lv_at hl 0 rfl) ?_
              refine lv_aload_n hx hb dX10_next_277 rfl (lv_at hl 0 rfl) ?_
              refine gR_40 E hP kfX10_135 (v := (gJ u8 40)) rfl dX10_next_278 ?_
              refine cR_v (ci := 9) (q0 := 0) (As := [.long (gJ u8 40)]) (rest := []) E hml hP hD hS hA (t_X10_printAll l D G (gJ u8 40) (sI u8 0 (2 : Int32)) _ h) kmX10_350 mwyX10_printAll rfl rfl ⟨⟨rfl, rfl⟩, Nat.le_of_ble_eq_true rfl, Nat.le_of_ble_eq_true rfl⟩ rfl hl.1 rfl (Nat.le_of_ble_eq_true rfl) dX10_next_281 ⟨Nat.zero_le _, Nat.zero_le _⟩ (fun u9 H locs hP hD hS h => ?_)
              refine lv_iconst (v := (1 : Int32)) hx hb dX10_next_284 (by decide) ?_
              exact retR_i E hr hlk hP hD hS h dX10_next_285
            · have h := h.2 hc
              refine lv_iconst (v := (0 : Int32)) hx hb dX10_next_274 (by decide) ?_
              exact retR_i E hr hlk hP hD hS h dX10_next_275
          · have h := h.1 hc
            refine lv_iconst (v := (0 : Int32)) hx hb dX10_next_259 (by decide) ?_
            refine lv_goto (tgt := 264) hx hb dX10_next_260 (by decide) ?_
            refine pR_0 E hP hD hS kfX10_7 dX10_next_264 (fun H locs hP hD hS => ?_)
            refine lv_aload_n hx hb dX10_next_267 rfl (lv_at hl 0 rfl) ?_
            refine gR_8 E hP kfX10_35 (v := (gI u8 8)) rfl dX10_next_268 ?_
            refine lv_if_eq (tgt := 276) hx hb dX10_next_271 (by decide) (fun hc => ?_) (fun hc => ?_)
            · have h := h.1 hc
              refine lv_aload_n hx hb dX10_next_276 rfl (lv_at hl 0 rfl) ?_
              refine lv_aload_n hx hb dX10_next_277 rfl (lv_at hl 0 rfl) ?_
              refine gR_40 E hP kfX10_135 (v := (gJ u8 40)) rfl dX10_next_278 ?_
              refine cR_v (ci := 9) (q0 := 0) (As := [.long (gJ u8 40)]) (rest := []) E hml hP hD hS hA (t_X10_printAll l D G (gJ u8 40) (sI u8 0 (0 : Int32)) _ h) kmX10_350 mwyX10_printAll rfl rfl ⟨⟨rfl, rfl⟩, Nat.le_of_ble_eq_true rfl, Nat.le_of_ble_eq_true rfl⟩ rfl hl.1 rfl (Nat.le_of_ble_eq_true rfl) dX10_next_281 ⟨Nat.zero_le _, Nat.zero_le _⟩ (fun u10 H locs hP hD hS h => ?_)
              refine lv_iconst (v := (1 : Int32)) hx hb dX10_next_284 (by decide) ?_
              exact retR_i E hr hlk hP hD hS h dX10_next_285
            · have h := h.2 hc
              refine lv_iconst (v := (0 : Int32)) hx hb dX10_next_274 (by decide) ?_
              exact retR_i E hr hlk hP hD hS h dX10_next_275
        · have h := h.2 hc
          refine lv_aload_n hx hb dX10_next_236 rfl (lv_at hl 0 rfl) ?_
          refine lv_iconst (v := (1 : Int32)) hx hb dX10_next_237 (by decide) ?_
          refine lv_iload_n hx hb dX10_next_238 rfl (lv_at hl 1 rfl) ?_
          refine cR_i (ci := 9) (q0 := 0) (As := [.int (1 : Int32), .int (gI u4 6)]) (rest := []) E hml hP hD hS hA (t_X10_readAll l D G (1 : Int32) (gI u4 6) u8 _ h) kmX10_344 mwyX10_readAll rfl rfl ⟨⟨rfl, rfl⟩, Nat.le_of_ble_eq_true rfl, Nat.le_of_ble_eq_true rfl⟩ rfl hl.1 rfl (Nat.le_of_ble_eq_true rfl) dX10_next_239 ⟨Nat.zero_le _, Nat.zero_le _⟩ (fun r11 u12 H locs hP hD hS h => ?_)
          refine lv_pop hx hb dX10_next_242 rfl ?_
          refine lv_aload_n hx hb dX10_next_243 rfl (lv_at hl 0 rfl) ?_
          refine lv_aload_n hx hb dX10_next_244 rfl (lv_at hl 0 rfl) ?_
          refine gR_31 E hP kfX10_107 (v := (gJ u12 31)) rfl dX10_next_245 ?_
          refine cR_v (ci := 9) (q0 := 0) (As := [.long (gJ u12 31)]) (rest := []) E hml hP hD hS hA (t_X10_evaluateAll l D G (gJ u12 31) u12 _ h) kmX10_347 mwyX10_evaluateAll rfl rfl ⟨⟨rfl, rfl⟩, Nat.le_of_ble_eq_true rfl, Nat.le_of_ble_eq_true rfl⟩ rfl hl.1 rfl (Nat.le_of_ble_eq_true rfl) dX10_next_248 ⟨Nat.zero_le _, Nat.zero_le _⟩ (fun u13 H locs hP hD hS h => ?_)
          refine lv_aload_n hx hb dX10_next_251 rfl (lv_at hl 0 rfl) ?_
          refine lv_aload_n hx hb dX10_next_252 rfl (lv_at hl 0 rfl) ?_
          refine gR_8 E hP kfX10_35 (v := (gI u13 8)) rfl dX10_next_253 ?_
          refine lv_if_ne (tgt := 263) hx hb dX10_next_256 (by decide) (fun hc => ?_) (fun hc => ?_)
          · have h := h.2 hc
            refine lv_iconst (v := (2 : Int32)) hx hb dX10_next_263 (by decide) ?_
            refine pR_0 E hP hD hS kfX10_7 dX10_next_264 (fun H locs hP hD hS => ?_)
            refine lv_aload_n hx hb dX10_next_267 rfl (lv_at hl 0 rfl) ?_
            refine gR_8 E hP kfX10_35 (v := (gI u13 8)) rfl dX10_next_268 ?_
            refine lv_if_eq (tgt := 276) hx hb dX10_next_271 (by decide) (fun hc => ?_) (fun hc => ?_)
            · have h := h.1 hc
              refine lv_aload_n hx hb dX10_next_276 rfl (lv_at hl 0 rfl) ?_
              refine lv_aload_n hx hb dX10_next_277 rfl (lv_at hl 0 rfl) ?_
              refine gR_40 E hP kfX10_135 (v := (gJ u13 40)) rfl dX10_next_278 ?_
              refine cR_v (ci := 9) (q0 := 0) (As := [.long (gJ u13 40)]) (rest := []) E hml hP hD hS hA (t_X10_printAll l D G (gJ u13 40) (sI u13 0 (2 : Int32)) _ h) kmX10_350 mwyX10_printAll rfl rfl ⟨⟨rfl, rfl⟩, Nat.le_of_ble_eq_true rfl, Nat.le_of_ble_eq_true rfl⟩ rfl hl.1 rfl (Nat.le_of_ble_eq_true rfl) dX10_next_281 ⟨Nat.zero_le _, Nat.zero_le _⟩ (fun u14 H locs hP hD hS h => ?_)
              refine lv_iconst (v := (1 : Int32)) hx hb dX10_next_284 (by decide) ?_
              exact retR_i E hr hlk hP hD hS h dX10_next_285
            · have h := h.2 hc
              refine lv_iconst (v := (0 : Int32)) hx hb dX10_next_274 (by decide) ?_
              exact retR_i E hr hlk hP hD hS h dX10_next_275
          · have h := h.1 hc
            refine lv_iconst (v := (0 : Int32)) hx hb dX10_next_259 (by decide) ?_
            refine lv_goto (tgt := 264) hx hb dX10_next_260 (by decide) ?_
            refine pR_0 E hP hD hS kfX10_7 dX10_next_264 (fun H locs hP hD hS => ?_)
            refine lv_aload_n hx hb dX10_next_267 rfl (lv_at hl 0 rfl) ?_
            refine gR_8 E hP kfX10_35 (v := (gI u13 8)) rfl dX10_next_268 ?_
            refine lv_if_eq (tgt := 276) hx hb dX10_next_271 (by decide) (fun hc => ?_) (fun hc => ?_)
            · have h := h.1 hc
              refine lv_aload_n hx hb dX10_next_276 rfl (lv_at hl 0 rfl) ?_
              refine lv_aload_n hx hb dX10_next_277 rfl (lv_at hl 0 rfl) ?_
              refine gR_40 E hP kfX10_135 (v := (gJ u13 40)) rfl dX10_next_278 ?_
              refine cR_v (ci := 9) (q0 := 0) (As := [.long (gJ u13 40)]) (rest := []) E hml hP hD hS hA (t_X10_printAll l D G (gJ u13 40) (sI u13 0 (0 : Int32)) _ h) kmX10_350 mwyX10_printAll rfl rfl ⟨⟨rfl, rfl⟩, Nat.le_of_ble_eq_true rfl, Nat.le_of_ble_eq_true rfl⟩ rfl hl.1 rfl (Nat.le_of_ble_eq_true rfl) dX10_next_281 ⟨Nat.zero_le _, Nat.zero_le _⟩ (fun u15 H locs hP hD hS h => ?_)
              refine lv_iconst (v := (1 : Int32)) hx hb dX10_next_284 (by decide) ?_
              exact retR_i E hr hlk hP hD hS h dX10_next_285
            · have h := h.2 hc
              refine lv_iconst (v := (0 : Int32)) hx hb dX10_next_274 (by decide) ?_
              exact retR_i E hr hlk hP hD hS h dX10_next_275
      · have h := h.2 hc
        refine lv_aload_n hx hb dX10_next_159 rfl (lv_at hl 2 rfl) ?_
        refine lv_bipush (v := (9 : Int32)) hx hb dX10_next_160 (by decide) ?_
        refine cR_v (ci := 9) (q0 := 0) (As := [.int (9 : Int32)]) (rest := []) E hml hP hD hS hA (t_X10_fails l D G (9 : Int32) (sI (sI u4 6 r3) 7 r3) _ h) kmX10_265 mwyX10_fails rfl rfl ⟨⟨rfl, rfl⟩, Nat.le_of_ble_eq_true rfl, Nat.le_of_ble_eq_true rfl⟩ rfl hl.1 rfl (Nat.le_of_ble_eq_true rfl) dX10_next_162 ⟨Nat.zero_le _, Nat.zero_le _⟩ (fun u17 H locs hP hD hS h => ?_)
        refine lv_goto (tgt := 251) hx hb dX10_next_165 (by decide) ?_
        refine lv_aload_n hx hb dX10_next_251 rfl (lv_at hl 2 rfl) ?_
        refine lv_aload_n hx hb dX10_next_252 rfl (lv_at hl 2 rfl) ?_
        refine gR_8 E hP kfX10_35 (v := (gI u17 8)) rfl dX10_next_253 ?_
        refine lv_if_ne (tgt := 263) hx hb dX10_next_256 (by decide) (fun hc => ?_) (fun hc => ?_)
        · have h := h.2 hc
          refine lv_iconst (v := (2 : Int32)) hx hb dX10_next_263 (by decide) ?_
          refine pR_0 E hP hD hS kfX10_7 dX10_next_264 (fun H locs hP hD hS => ?_)
          refine lv_aload_n hx hb dX10_next_267 rfl (lv_at hl 2 rfl) ?_
          refine gR_8 E hP kfX10_35 (v := (gI u17 8)) rfl dX10_next_268 ?_
          refine lv_if_eq (tgt := 276) hx hb dX10_next_271 (by decide) (fun hc => ?_) (fun hc => ?_)
          · have h := h.1 hc
            refine lv_aload_n hx hb dX10_next_276 rfl (lv_at hl 2 rfl) ?_
            refine lv_aload_n hx hb dX10_next_277 rfl (lv_at hl 2 rfl) ?_
            refine gR_40 E hP kfX10_135 (v := (gJ u17 40)) rfl dX10_next_278 ?_
            refine cR_v (ci := 9) (q0 := 0) (As := [.long (gJ u17 40)]) (rest := []) E hml hP hD hS hA (t_X10_printAll l D G (gJ u17 40) (sI u17 0 (2 : Int32)) _ h) kmX10_350 mwyX10_printAll rfl rfl ⟨⟨rfl, rfl⟩, Nat.le_of_ble_eq_true rfl, Nat.le_of_ble_eq_true rfl⟩ rfl hl.1 rfl (Nat.le_of_ble_eq_true rfl) dX10_next_281 ⟨Nat.zero_le _, Nat.zero_le _⟩ (fun u18 H locs hP hD hS h => ?_)
            refine lv_iconst (v := (1 : Int32)) hx hb dX10_next_284 (by decide) ?_
            exact retR_i E hr hlk hP hD hS h dX10_next_285
          · have h := h.2 hc
            refine lv_iconst (v := (0 : Int32)) hx hb dX10_next_274 (by decide) ?_
            exact retR_i E hr hlk hP hD hS h dX10_next_275
        · have h := h.1 hc
          refine lv_iconst (v := (0 : Int32)) hx hb dX10_next_259 (by decide) ?_
          refine lv_goto (tgt := 264) hx hb dX10_next_260 (by decide) ?_
          refine pR_0 E hP hD hS kfX10_7 dX10_next_264 (fun H locs hP hD hS => ?_)
          refine lv_aload_n hx hb dX10_next_267 rfl (lv_at hl 2 rfl) ?_
          refine gR_8 E hP kfX10_35 (v := (gI u17 8)) rfl dX10_next_268 ?_
          refine lv_if_eq (tgt := 276) hx hb dX10_next_271 (by decide) (fun hc => ?_) (fun hc => ?_)
          · have h := h.1 hc
            refine lv_aload_n hx hb dX10_next_276 rfl (lv_at hl 2 rfl) ?_
            refine lv_aload_n hx hb dX10_next_277 rfl (lv_at hl 2 rfl) ?_
            refine gR_40 E hP kfX10_135 (v := (gJ u17 40)) rfl dX10_next_278 ?_
            refine cR_v (ci := 9) (q0 := 0) (As := [.long (gJ u17 40)]) (rest := []) E hml hP hD hS hA (t_X10_printAll l D G (gJ u17 40) (sI u17 0 (0 : Int32)) _ h) kmX10_350 mwyX10_printAll rfl rfl ⟨⟨rfl, rfl⟩, Nat.le_of_ble_eq_true rfl, Nat.le_of_ble_eq_true rfl⟩ rfl hl.1 rfl (Nat.le_of_ble_eq_true rfl) dX10_next_281 ⟨Nat.zero_le _, Nat.zero_le _⟩ (fun u19 H locs hP hD hS h => ?_)
            refine lv_iconst (v := (1 : Int32)) hx hb dX10_next_284 (by decide) ?_
            exact retR_i E hr hlk hP hD hS h dX10_next_285
          · have h := h.2 hc
            refine lv_iconst (v := (0 : Int32)) hx hb dX10_next_274 (by decide) ?_
            exact retR_i E hr hlk hP hD hS h dX10_next_275
    · have h := h.2 hc
      refine lv_aload_n hx hb dX10_next_109 rfl (lv_at hl 1 rfl) ?_
      refine lv_bipush (v := (10 : Int32)) hx hb dX10_next_110 (by decide) ?_
      refine pR_8 E hP hD hS kfX10_35 dX10_next_112 (fun H locs hP hD hS => ?_)
      refine lv_aload_n hx hb dX10_next_115 rfl (lv_at hl 1 rfl) ?_
      refine lv_iconst (v := (1 : Int32)) hx hb dX10_next_116 (by decide) ?_
      refine pR_0 E hP hD hS kfX10_7 dX10_next_117 (fun H locs hP hD hS => ?_)
      refine lv_aload_n hx hb dX10_next_120 rfl (lv_at hl 1 rfl) ?_
      refine lv_iconst (v := (-1 : Int32)) hx hb dX10_next_121 (by decide) ?_
      refine lv_iload_n hx hb dX10_next_122 rfl (lv_at hl 0 rfl) ?_
      refine lv_isub hx hb dX10_next_123 ?_
      refine pR_7 E hP hD hS kfX10_32 dX10_next_124 (fun H locs hP hD hS => ?_)
      refine lv_aload_n hx hb dX10_next_127 rfl (lv_at hl 1 rfl) ?_
      refine lv_aload_n hx hb dX10_next_128 rfl (lv_at hl 1 rfl) ?_
      refine gR_5 E hP kfX10_26 (v := (gI u4 5)) rfl dX10_next_129 ?_
      refine pR_6 E hP hD hS kfX10_29 dX10_next_132 (fun H locs hP hD hS => ?_)
      refine lv_iconst (v := (0 : Int32)) hx hb dX10_next_135 (by decide) ?_
      exact retR_i E hr hlk hP hD hS h dX10_next_136
  · have h := h.1 hc
    refine lv_iconst (v := (0 : Int32)) hx hb dX10_next_83 (by decide) ?_
    exact retR_i E hr hlk hP hD hS h dX10_next_84
def wp_X10_fault  (u : St) (Q : Int32 → St → Prop) : Prop := Q (gI u 8) (sI u 0 (0 : Int32))
abbrev rm_X10_fault : Room := { frames := 0, cells := 0, slots := 0, locals := 0 }
set_option maxHeartbeats 4000000 in
set_option maxRecDepth 100000 in
theorem t_X10_fault (l : Launch) (D : va_G) (G : Gd)  (u : St) (Q : Int32 → St → Prop) (h : wp_X10_fault  u Q) : MRi l D G yX10_fault cX10_fault 1 (some .int) rm_X10_fault [.ref (G.1 0)] u Q := by
  refine startR_i (by decide) ?_
  intro p e s m args below meth c E hr hlk hml hP hD hS hA
  have hx := E.1
  have hb := E.2.1
  have hown := E.2.2.1
  have hW := E.2.2.2.1
  have hl := lv_entry ([.ref (G.1 0)]) (n := 1) (Nat.le_of_ble_eq_true rfl)
  rw [lg_entry_eq]
  generalize (lg_sl ([.ref (G.1 0)]) ++ List.replicate (1 - (lg_sl ([.ref (G.1 0)])).length) Slot.unset).toArray = ls at hl ⊢
  have hl : lv_has ls 1 [(0, .ref (G.1 0))] := hl
  unfold wp_X10_fault at h
  refine lv_aload_n hx hb dX10_fault_0 rfl (lv_at hl 0 rfl) ?_
  refine lv_iconst (v := (0 : Int32)) hx hb dX10_fault_1 (by decide) ?_
  refine pR_0 E hP hD hS kfX10_7 dX10_fault_2 (fun H locs hP hD hS => ?_)
  refine lv_aload_n hx hb dX10_fault_5 rfl (lv_at hl 0 rfl) ?_
  refine gR_8 E hP kfX10_35 (v := (gI u 8)) rfl dX10_fault_6 ?_
  exact retR_i E hr hlk hP hD hS h dX10_fault_9
def wp_X10_place  (u : St) (Q : Int32 → St → Prop) : Prop := Q (gI u 7) (sI u 0 (0 : Int32))
abbrev rm_X10_place : Room := { frames := 0, cells := 0, slots := 0, locals := 0 }
set_option maxHeartbeats 4000000 in
set_option maxRecDepth 100000 in
theorem t_X10_place (l : Launch) (D : va_G) (G : Gd)  (u : St) (Q : Int32 → St → Prop) (h : wp_X10_place  u Q) : MRi l D G yX10_place cX10_place 1 (some .int) rm_X10_place [.ref (G.1 0)] u Q := by
  refine startR_i (by decide) ?_
  intro p e s m args below meth c E hr hlk hml hP hD hS hA
  have hx := E.1
  have hb := E.2.1
  have hown := E.2.2.1
  have hW := E.2.2.2.1
  have hl := lv_entry ([.ref (G.1 0)]) (n := 1) (Nat.le_of_ble_eq_true rfl)
  rw [lg_entry_eq]
  generalize (lg_sl ([.ref (G.1 0)]) ++ List.replicate (1 - (lg_sl ([.ref (G.1 0)])).length) Slot.unset).toArray = ls at hl ⊢
  have hl : lv_has ls 1 [(0, .ref (G.1 0))] := hl
  unfold wp_X10_place at h
  refine lv_aload_n hx hb dX10_place_0 rfl (lv_at hl 0 rfl) ?_
  refine lv_iconst (v := (0 : Int32)) hx hb dX10_place_1 (by decide) ?_
  refine pR_0 E hP hD hS kfX10_7 dX10_place_2 (fun H locs hP hD hS => ?_)
  refine lv_aload_n hx hb dX10_place_5 rfl (lv_at hl 0 rfl) ?_
  refine gR_7 E hP kfX10_32 (v := (gI u 7)) rfl dX10_place_6 ?_
  exact retR_i E hr hlk hP hD hS h dX10_place_9
def wp_X10_size  (u : St) (Q : Int32 → St → Prop) : Prop := Q (gI u 12) (sI u 0 (0 : Int32))
abbrev rm_X10_size : Room := { frames := 0, cells := 0, slots := 0, locals := 0 }
set_option maxHeartbeats 4000000 in
set_option maxRecDepth 100000 in
theorem t_X10_size (l : Launch) (D : va_G) (G : Gd)  (u : St) (Q : Int32 → St → Prop) (h : wp_X10_size  u Q) : MRi l D G yX10_size cX10_size 1 (some .int) rm_X10_size [.ref (G.1 0)] u Q := by
  refine startR_i (by decide) ?_
  intro p e s m args below meth c E hr hlk hml hP hD hS hA
  have hx := E.1
  have hb := E.2.1
  have hown := E.2.2.1
  have hW := E.2.2.2.1
  have hl := lv_entry ([.ref (G.1 0)]) (n := 1) (Nat.le_of_ble_eq_true rfl)
  rw [lg_entry_eq]
  generalize (lg_sl ([.ref (G.1 0)]) ++ List.replicate (1 - (lg_sl ([.ref (G.1 0)])).length) Slot.unset).toArray = ls at hl ⊢
  have hl : lv_has ls 1 [(0, .ref (G.1 0))] := hl
  unfold wp_X10_size at h
  refine lv_aload_n hx hb dX10_size_0 rfl (lv_at hl 0 rfl) ?_
  refine lv_iconst (v := (0 : Int32)) hx hb dX10_size_1 (by decide) ?_
  refine pR_0 E hP hD hS kfX10_7 dX10_size_2 (fun H locs hP hD hS => ?_)
  refine lv_aload_n hx hb dX10_size_5 rfl (lv_at hl 0 rfl) ?_
  refine gR_12 E hP kfX10_47 (v := (gI u 12)) rfl dX10_size_6 ?_
  exact retR_i E hr hlk hP hD hS h dX10_size_9
def wp_X10_out (p0 : Int32) (u : St) (Q : Int32 → St → Prop) : Prop := ((p0 < 0 → Q (-1 : Int32) (sI u 0 (0 : Int32))) ∧ (¬ p0 < 0 → ((p0 < (gI u 12) → vp_in p0 400 ∧ Q ((gA u 11) (p0).toNatClampNeg) (sI u 0 (0 : Int32))) ∧ (¬ p0 < (gI u 12) → Q (-1 : Int32) (sI u 0 (0 : Int32))))))
abbrev rm_X10_out : Room := { frames := 0, cells := 0, slots := 0, locals := 0 }
set_option maxHeartbeats 4000000 in
set_option maxRecDepth 100000 in
theorem t_X10_out (l : Launch) (D : va_G) (G : Gd) (p0 : Int32) (u : St) (Q : Int32 → St → Prop) (h : wp_X10_out p0 u Q) : MRi l D G yX10_out cX10_out 2 (some .int) rm_X10_out [.ref (G.1 0), .int p0] u Q := by
  refine startR_i (by decide) ?_
  intro p e s m args below meth c E hr hlk hml hP hD hS hA
  have hx := E.1
  have hb := E.2.1
  have hown := E.2.2.1
  have hW := E.2.2.2.1
  have hl := lv_entry ([.ref (G.1 0), .int p0]) (n := 2) (Nat.le_of_ble_eq_true rfl)
  rw [lg_entry_eq]
  generalize (lg_sl ([.ref (G.1 0), .int p0]) ++ List.replicate (2 - (lg_sl ([.ref (G.1 0), .int p0])).length) Slot.unset).toArray = ls at hl ⊢
  have hl : lv_has ls 2 [(0, .ref (G.1 0)), (1, .int p0)] := hl
  unfold wp_X10_out at h
  refine lv_aload_n hx hb dX10_out_0 rfl (lv_at hl 0 rfl) ?_
  refine lv_iconst (v := (0 : Int32)) hx hb dX10_out_1 (by decide) ?_
  refine pR_0 E hP hD hS kfX10_7 dX10_out_2 (fun H locs hP hD hS => ?_)
  refine lv_iload_n hx hb dX10_out_5 rfl (lv_at hl 1 rfl) ?_
  refine lv_if_lt (tgt := 17) hx hb dX10_out_6 (by decide) (fun hc => ?_) (fun hc => ?_)
  · have h := h.1 hc
    refine lv_iconst (v := (-1 : Int32)) hx hb dX10_out_17 (by decide) ?_
    refine lv_goto (tgt := 27) hx hb dX10_out_18 (by decide) ?_
    exact retR_i E hr hlk hP hD hS h dX10_out_27
  · have h := h.2 hc
    refine lv_iload_n hx hb dX10_out_9 rfl (lv_at hl 1 rfl) ?_
    refine lv_aload_n hx hb dX10_out_10 rfl (lv_at hl 0 rfl) ?_
    refine gR_12 E hP kfX10_47 (v := (gI u 12)) rfl dX10_out_11 ?_
    refine lv_icmp_lt (tgt := 21) hx hb dX10_out_14 (by decide) (fun hc => ?_) (fun hc => ?_)
    · have h := h.1 hc
      refine lv_aload_n hx hb dX10_out_21 rfl (lv_at hl 0 rfl) ?_
      refine gR_11 E hP kfX10_44 dX10_out_22 ?_
      refine lv_iload_n hx hb dX10_out_25 rfl (lv_at hl 1 rfl) ?_
      obtain ⟨h9, h⟩ := h
      refine xR_11 E hP h9 (v := ((gA u 11) (p0).toNatClampNeg)) rfl dX10_out_26 ?_
      exact retR_i E hr hlk hP hD hS h dX10_out_27
    · have h := h.2 hc
      refine lv_iconst (v := (-1 : Int32)) hx hb dX10_out_17 (by decide) ?_
      refine lv_goto (tgt := 27) hx hb dX10_out_18 (by decide) ?_
      exact retR_i E hr hlk hP hD hS h dX10_out_27
def wp_X10_count (p0 : Int32) (u : St) (Q : Int32 → St → Prop) : Prop := ((p0 = 0 → Q (gI u 9) (sI u 0 (0 : Int32))) ∧ (¬ p0 = 0 → ((p0 = (2 : Int32) → Q (gI u 21) (sI u 0 (0 : Int32))) ∧ (¬ p0 = (2 : Int32) → ((p0 = (3 : Int32) → Q (gI u 10) (sI u 0 (0 : Int32))) ∧ (¬ p0 = (3 : Int32) → ((p0 = (1 : Int32) → wp_X10_holdGlobals  (sI u 0 (0 : Int32)) (fun (u1 : St) => Q (gI u1 16) u1)) ∧ (¬ p0 = (1 : Int32) → Q (-1 : Int32) (sI u 0 (0 : Int32))))))))))
abbrev rm_X10_count : Room := { frames := 4, cells := 0, slots := 0, locals := 87 }
set_option maxHeartbeats 4000000 in
set_option maxRecDepth 100000 in
theorem t_X10_count (l : Launch) (D : va_G) (G : Gd) (p0 : Int32) (u : St) (Q : Int32 → St → Prop) (h : wp_X10_count p0 u Q) : MRi l D G yX10_count cX10_count 2 (some .int) rm_X10_count [.ref (G.1 0), .int p0] u Q := by
  refine startR_i (by decide) ?_
  intro p e s m args below meth c E hr hlk hml hP hD hS hA
  have hx := E.1
  have hb := E.2.1
  have hown := E.2.2.1
  have hW := E.2.2.2.1
  have hl := lv_entry ([.ref (G.1 0), .int p0]) (n := 2) (Nat.le_of_ble_eq_true rfl)
  rw [lg_entry_eq]
  generalize (lg_sl ([.ref (G.1 0), .int p0]) ++ List.replicate (2 - (lg_sl ([.ref (G.1 0), .int p0])).length) Slot.unset).toArray = ls at hl ⊢
  have hl : lv_has ls 2 [(0, .ref (G.1 0)), (1, .int p0)] := hl
  unfold wp_X10_count at h
  refine lv_aload_n hx hb dX10_count_0 rfl (lv_at hl 0 rfl) ?_
  refine lv_iconst (v := (0 : Int32)) hx hb dX10_count_1 (by decide) ?_
  refine pR_0 E hP hD hS kfX10_7 dX10_count_2 (fun H locs hP hD hS => ?_)
  refine lv_iload_n hx hb dX10_count_5 rfl (lv_at hl 1 rfl) ?_
  refine lv_if_ne (tgt := 14) hx hb dX10_count_6 (by decide) (fun hc => ?_) (fun hc => ?_)
  · have h := h.2 hc
    refine lv_iload_n hx hb dX10_count_14 rfl (lv_at hl 1 rfl) ?_
    refine lv_iconst (v := (2 : Int32)) hx hb dX10_count_15 (by decide) ?_
    refine lv_icmp_ne (tgt := 24) hx hb dX10_count_16 (by decide) (fun hc => ?_) (fun hc => ?_)
    · have h := h.2 hc
      refine lv_iload_n hx hb dX10_count_24 rfl (lv_at hl 1 rfl) ?_
      refine lv_iconst (v := (3 : Int32)) hx hb dX10_count_25 (by decide) ?_
      refine lv_icmp_ne (tgt := 34) hx hb dX10_count_26 (by decide) (fun hc => ?_) (fun hc => ?_)
      · have h := h.2 hc
        refine lv_iload_n hx hb dX10_count_34 rfl (lv_at hl 1 rfl) ?_
        refine lv_iconst (v := (1 : Int32)) hx hb dX10_count_35 (by decide) ?_
        refine lv_icmp_eq (tgt := 41) hx hb dX10_count_36 (by decide) (fun hc => ?_) (fun hc => ?_)
        · have h := h.1 hc
          refine lv_aload_n hx hb dX10_count_41 rfl (lv_at hl 0 rfl) ?_
          refine cR_v (ci := 9) (q0 := 0) (As := []) (rest := []) E hml hP hD hS hA (t_X10_holdGlobals l D G  (sI u 0 (0 : Int32)) _ h) kmX10_222 mwyX10_holdGlobals rfl rfl ⟨⟨rfl, rfl⟩, Nat.le_of_ble_eq_true rfl, Nat.le_of_ble_eq_true rfl⟩ rfl hl.1 rfl (Nat.le_of_ble_eq_true rfl) dX10_count_42 ⟨Nat.zero_le _, Nat.zero_le _⟩ (fun u1 H locs hP hD hS h => ?_)
          refine lv_aload_n hx hb dX10_count_45 rfl (lv_at hl 0 rfl) ?_
          refine gR_16 E hP kfX10_61 (v := (gI u1 16)) rfl dX10_count_46 ?_
          exact retR_i E hr hlk hP hD hS h dX10_count_49
        · have h := h.2 hc
          refine lv_iconst (v := (-1 : Int32)) hx hb dX10_count_39 (by decide) ?_
          exact retR_i E hr hlk hP hD hS h dX10_count_40
      · have h := h.1 hc
        refine lv_aload_n hx hb dX10_count_29 rfl (lv_at hl 0 rfl) ?_
        refine gR_10 E hP kfX10_41 (v := (gI u 10)) rfl dX10_count_30 ?_
        exact retR_i E hr hlk hP hD hS h dX10_count_33
    · have h := h.1 hc
      refine lv_aload_n hx hb dX10_count_19 rfl (lv_at hl 0 rfl) ?_
      refine gR_21 E hP kfX10_76 (v := (gI u 21)) rfl dX10_count_20 ?_
      exact retR_i E hr hlk hP hD hS h dX10_count_23
  · have h := h.1 hc
    refine lv_aload_n hx hb dX10_count_9 rfl (lv_at hl 0 rfl) ?_
    refine gR_9 E hP kfX10_38 (v := (gI u 9)) rfl dX10_count_10 ?_
    exact retR_i E hr hlk hP hD hS h dX10_count_13
