def wp_X10_isPair (p0 : Int64) (Q : Int32 → Prop) : Prop := ((p0 < (8589934592 : Int64) → Q (0 : Int32)) ∧ (¬ p0 < (8589934592 : Int64) → Q (1 : Int32)))
abbrev rm_X10_isPair : Room := { frames := 0, cells := 0, slots := 0, locals := 0 }
set_option maxHeartbeats 4000000 in
set_option maxRecDepth 100000 in
theorem t_X10_isPair (l : Launch) (p0 : Int64) (Q : Int32 → Prop) (h : wp_X10_isPair p0 Q) : M0i l yX10_isPair cX10_isPair 2 (some .boolean) rm_X10_isPair [.long p0] Q := by
  refine start0_i (by decide) ?_
  intro p e s m args below meth c hx hb hown hW hr hlk hml hS
  have hP : va_P ((fun _ => 0), (fun _ _ => 0)) vwCl [] s.heap := fun k q h => by simp at h
  have hA : ∀ q, s.heap.size ≤ q → (fun q => s.heap.size ≤ q) q := fun _ h => h
  have hl := lv_entry ([.long p0]) (n := 2) (Nat.le_of_ble_eq_true rfl)
  rw [lg_entry_eq]
  generalize (lg_sl ([.long p0]) ++ List.replicate (2 - (lg_sl ([.long p0])).length) Slot.unset).toArray = ls at hl ⊢
  have hl : lv_has ls 2 [(0, .long p0)] := hl
  unfold wp_X10_isPair at h
  refine lv_lload_n hx hb dX10_isPair_0 rfl (lv_at hl 0 rfl) ?_
  refine lv_ldc2 (v := (8589934592 : Int64)) hx hb hown (hW _ kcX10_201) dX10_isPair_1 ?_
  refine lq_lt (tgt := 12) hx hb dX10_isPair_4 dX10_isPair_5 (by decide) (fun hc => ?_) (fun hc => ?_)
  · have h := h.1 hc
    refine lv_iconst (v := (0 : Int32)) hx hb dX10_isPair_12 (by decide) ?_
    exact ret0_z hx hb hr hlk hS (vz_n vz_0) h dX10_isPair_13
  · have h := h.2 hc
    refine lv_iconst (v := (1 : Int32)) hx hb dX10_isPair_8 (by decide) ?_
    refine lv_goto (tgt := 13) hx hb dX10_isPair_9 (by decide) ?_
    exact ret0_z hx hb hr hlk hS (vz_n vz_1) h dX10_isPair_13
def wp_X10_hold (p0 : Int64) (u : St) (Q : St → Prop) : Prop := wp_X10_isPair p0 (fun (r1 : Int32) => ((r1 = 0 → Q u) ∧ (¬ r1 = 0 → vp_in (((p0 - (8589934592 : Int64))).toInt32) 1000 ∧ ((((gA u 15) (((p0 - (8589934592 : Int64))).toInt32).toNatClampNeg) = 0 → vp_in (((p0 - (8589934592 : Int64))).toInt32) 1000 ∧ vp_in (gI u 18) 1000 ∧ Q (sI (sB (sI (sA u 15 (upd (gA u 15) (((p0 - (8589934592 : Int64))).toInt32).toNatClampNeg (vp_nar .boolean (1 : Int32)))) 16 ((gI u 16) + (1 : Int32))) 17 (vp_updL (gB u 17) ((gI u 18)).toNatClampNeg p0)) 18 ((gI u 18) + (1 : Int32)))) ∧ (¬ ((gA u 15) (((p0 - (8589934592 : Int64))).toInt32).toNatClampNeg) = 0 → Q u)))))
abbrev rm_X10_hold : Room := { frames := 1, cells := 0, slots := 0, locals := 21 }
set_option maxHeartbeats 4000000 in
set_option maxRecDepth 100000 in
theorem t_X10_hold (l : Launch) (D : va_G) (G : Gd) (p0 : Int64) (u : St) (Q : St → Prop) (h : wp_X10_hold p0 u Q) : MRv l D G yX10_hold cX10_hold 4 none rm_X10_hold [.ref (G.1 0), .long p0] u Q := by
  refine startR_v (by decide) ?_
  intro p e s m args below meth c E hr hlk hml hP hD hS hA
  have hx := E.1
  have hb := E.2.1
  have hown := E.2.2.1
  have hW := E.2.2.2.1
  have hl := lv_entry ([.ref (G.1 0), .long p0]) (n := 4) (Nat.le_of_ble_eq_true rfl)
  rw [lg_entry_eq]
  generalize (lg_sl ([.ref (G.1 0), .long p0]) ++ List.replicate (4 - (lg_sl ([.ref (G.1 0), .long p0])).length) Slot.unset).toArray = ls at hl ⊢
  have hl : lv_has ls 4 [(0, .ref (G.1 0)), (1, .long p0)] := hl
  unfold wp_X10_hold at h
  refine lv_lload_n hx hb dX10_hold_0 rfl (lv_at hl 1 rfl) ?_
  refine c0_i (As := [.long p0]) (rest := []) hx hb hml hown hW hP hS hA (t_X10_isPair l p0 _ h) kmX10_205 mwyX10_isPair ⟨⟨rfl, rfl⟩, Nat.le_of_ble_eq_true rfl, Nat.le_of_ble_eq_true rfl⟩ rfl hl.1 rfl (Nat.le_of_ble_eq_true rfl) dX10_hold_1 ⟨Nat.zero_le _, Nat.zero_le _⟩ (fun r1 H locs hP hS h => ?_)
  refine lv_if_ne (tgt := 8) hx hb dX10_hold_4 (by decide) (fun hc => ?_) (fun hc => ?_)
  · have h := h.2 hc
    refine lv_lload_n hx hb dX10_hold_8 rfl (lv_at hl 1 rfl) ?_
    refine lv_ldc2 (v := (8589934592 : Int64)) hx hb hown (hW _ kcX10_201) dX10_hold_9 ?_
    refine lv_lsub hx hb dX10_hold_12 ?_
    refine lv_l2i (v := ((p0 - (8589934592 : Int64))).toInt32) hx hb dX10_hold_13 rfl ?_
    refine lv_istore_n (lv' := [(3, .int ((p0 - (8589934592 : Int64))).toInt32), (0, .ref (G.1 0)), (1, .long p0)]) hx hb dX10_hold_14 rfl hl (by decide) rfl (fun ls hl => ?_)
    refine lv_aload_n hx hb dX10_hold_15 rfl (lv_at hl 1 rfl) ?_
    refine gR_15 E hP kfX10_57 dX10_hold_16 ?_
    refine lv_iload_n hx hb dX10_hold_19 rfl (lv_at hl 0 rfl) ?_
    obtain ⟨h9, h⟩ := h
    refine xR_15 E hP h9 (v := ((gA u 15) (((p0 - (8589934592 : Int64))).toInt32).toNatClampNeg)) rfl dX10_hold_20 ?_
    refine lv_if_eq (tgt := 25) hx hb dX10_hold_21 (by decide) (fun hc => ?_) (fun hc => ?_)
    · have h := h.1 hc
      refine lv_aload_n hx hb dX10_hold_25 rfl (lv_at hl 1 rfl) ?_
      refine gR_15 E hP kfX10_57 dX10_hold_26 ?_
      refine lv_iload_n hx hb dX10_hold_29 rfl (lv_at hl 0 rfl) ?_
      refine lv_iconst (v := (1 : Int32)) hx hb dX10_hold_30 (by decide) ?_
      obtain ⟨h9, h⟩ := h
      refine yR_15 E hP hD hS h9 (f := (gA u 15)) rfl dX10_hold_31 (fun H locs hP hD hS => ?_)
      refine lv_aload_n hx hb dX10_hold_32 rfl (lv_at hl 1 rfl) ?_
      refine lv_dup hx hb dX10_hold_33 rfl ?_
      refine gR_16 E hP kfX10_61 (v := (gI u 16)) rfl dX10_hold_34 ?_
      refine lv_iconst (v := (1 : Int32)) hx hb dX10_hold_37 (by decide) ?_
      refine lv_iadd hx hb dX10_hold_38 ?_
      refine pR_16 E hP hD hS kfX10_61 dX10_hold_39 (fun H locs hP hD hS => ?_)
      refine lv_aload_n hx hb dX10_hold_42 rfl (lv_at hl 1 rfl) ?_
      refine gR_17 E hP kfX10_64 dX10_hold_43 ?_
      refine lv_aload_n hx hb dX10_hold_46 rfl (lv_at hl 1 rfl) ?_
      refine gR_18 E hP kfX10_67 (v := (gI u 18)) rfl dX10_hold_47 ?_
      refine lv_lload_n hx hb dX10_hold_50 rfl (lv_at hl 2 rfl) ?_
      obtain ⟨h9, h⟩ := h
      refine yR_17 E hP hD hS h9 (f := (gB u 17)) rfl dX10_hold_51 (fun H locs hP hD hS => ?_)
      refine lv_aload_n hx hb dX10_hold_52 rfl (lv_at hl 1 rfl) ?_
      refine lv_dup hx hb dX10_hold_53 rfl ?_
      refine gR_18 E hP kfX10_67 (v := (gI u 18)) rfl dX10_hold_54 ?_
      refine lv_iconst (v := (1 : Int32)) hx hb dX10_hold_57 (by decide) ?_
      refine lv_iadd hx hb dX10_hold_58 ?_
      refine pR_18 E hP hD hS kfX10_67 dX10_hold_59 (fun H locs hP hD hS => ?_)
      exact retR_v E hr hlk hP hD hS h dX10_hold_62
    · have h := h.2 hc
      exact retR_v E hr hlk hP hD hS h dX10_hold_24
  · have h := h.1 hc
    exact retR_v E hr hlk hP hD hS h dX10_hold_7
def wp_X10_first (p0 : Int64) (u : St) (Q : Int64 → St → Prop) : Prop := vp_in (((p0 - (8589934592 : Int64))).toInt32) 1000 ∧ Q ((gB u 13) (((p0 - (8589934592 : Int64))).toInt32).toNatClampNeg) u
abbrev rm_X10_first : Room := { frames := 0, cells := 0, slots := 0, locals := 0 }
set_option maxHeartbeats 4000000 in
set_option maxRecDepth 100000 in
theorem t_X10_first (l : Launch) (D : va_G) (G : Gd) (p0 : Int64) (u : St) (Q : Int64 → St → Prop) (h : wp_X10_first p0 u Q) : MRl l D G yX10_first cX10_first 3 (some .long) rm_X10_first [.ref (G.1 0), .long p0] u Q := by
  refine startR_l (by decide) ?_
  intro p e s m args below meth c E hr hlk hml hP hD hS hA
  have hx := E.1
  have hb := E.2.1
  have hown := E.2.2.1
  have hW := E.2.2.2.1
  have hl := lv_entry ([.ref (G.1 0), .long p0]) (n := 3) (Nat.le_of_ble_eq_true rfl)
  rw [lg_entry_eq]
  generalize (lg_sl ([.ref (G.1 0), .long p0]) ++ List.replicate (3 - (lg_sl ([.ref (G.1 0), .long p0])).length) Slot.unset).toArray = ls at hl ⊢
  have hl : lv_has ls 3 [(0, .ref (G.1 0)), (1, .long p0)] := hl
  unfold wp_X10_first at h
  refine lv_aload_n hx hb dX10_first_0 rfl (lv_at hl 0 rfl) ?_
  refine gR_13 E hP kfX10_50 dX10_first_1 ?_
  refine lv_lload_n hx hb dX10_first_4 rfl (lv_at hl 1 rfl) ?_
  refine lv_ldc2 (v := (8589934592 : Int64)) hx hb hown (hW _ kcX10_201) dX10_first_5 ?_
  refine lv_lsub hx hb dX10_first_8 ?_
  refine lv_l2i (v := ((p0 - (8589934592 : Int64))).toInt32) hx hb dX10_first_9 rfl ?_
  obtain ⟨h9, h⟩ := h
  refine xR_13 E hP h9 (v := ((gB u 13) (((p0 - (8589934592 : Int64))).toInt32).toNatClampNeg)) rfl dX10_first_10 ?_
  exact retR_l E hr hlk hP hD hS h dX10_first_11
def wp_X10_behind (p0 : Int64) (u : St) (Q : Int64 → St → Prop) : Prop := vp_in (((p0 - (8589934592 : Int64))).toInt32) 1000 ∧ Q ((gB u 14) (((p0 - (8589934592 : Int64))).toInt32).toNatClampNeg) u
abbrev rm_X10_behind : Room := { frames := 0, cells := 0, slots := 0, locals := 0 }
set_option maxHeartbeats 4000000 in
set_option maxRecDepth 100000 in
theorem t_X10_behind (l : Launch) (D : va_G) (G : Gd) (p0 : Int64) (u : St) (Q : Int64 → St → Prop) (h : wp_X10_behind p0 u Q) : MRl l D G yX10_behind cX10_behind 3 (some .long) rm_X10_behind [.ref (G.1 0), .long p0] u Q := by
  refine startR_l (by decide) ?_
  intro p e s m args below meth c E hr hlk hml hP hD hS hA
  have hx := E.1
  have hb := E.2.1
  have hown := E.2.2.1
  have hW := E.2.2.2.1
  have hl := lv_entry ([.ref (G.1 0), .long p0]) (n := 3) (Nat.le_of_ble_eq_true rfl)
  rw [lg_entry_eq]
  generalize (lg_sl ([.ref (G.1 0), .long p0]) ++ List.replicate (3 - (lg_sl ([.ref (G.1 0), .long p0])).length) Slot.unset).toArray = ls at hl ⊢
  have hl : lv_has ls 3 [(0, .ref (G.1 0)), (1, .long p0)] := hl
  unfold wp_X10_behind at h
  refine lv_aload_n hx hb dX10_behind_0 rfl (lv_at hl 0 rfl) ?_
  refine gR_14 E hP kfX10_54 dX10_behind_1 ?_
  refine lv_lload_n hx hb dX10_behind_4 rfl (lv_at hl 1 rfl) ?_
  refine lv_ldc2 (v := (8589934592 : Int64)) hx hb hown (hW _ kcX10_201) dX10_behind_5 ?_
  refine lv_lsub hx hb dX10_behind_8 ?_
  refine lv_l2i (v := ((p0 - (8589934592 : Int64))).toInt32) hx hb dX10_behind_9 rfl ?_
  obtain ⟨h9, h⟩ := h
  refine xR_14 E hP h9 (v := ((gB u 14) (((p0 - (8589934592 : Int64))).toInt32).toNatClampNeg)) rfl dX10_behind_10 ?_
  exact retR_l E hr hlk hP hD hS h dX10_behind_11
def l_X10_holdAll_0 (Q : St → Prop)  (K : St → Prop) : Nat → St → Prop
  | 0, _ => False
  | n + 1, u => (((gI u 18) ≤ 0 → K u) ∧ (¬ (gI u 18) ≤ 0 → vp_in ((gI u 18) - (1 : Int32)) 1000 ∧ wp_X10_first ((gB u 17) (((gI u 18) - (1 : Int32))).toNatClampNeg) (sI u 18 ((gI u 18) - (1 : Int32))) (fun (r1 : Int64) (u2 : St) => wp_X10_hold r1 u2 (fun (u3 : St) => wp_X10_behind ((gB u 17) (((gI u 18) - (1 : Int32))).toNatClampNeg) u3 (fun (r4 : Int64) (u5 : St) => wp_X10_hold r4 u5 (fun (u6 : St) => l_X10_holdAll_0 Q K n u6))))))
def wp_X10_holdAll  (u : St) (Q : St → Prop) : Prop := (∃ k8 : Nat, l_X10_holdAll_0 Q  (fun (u7 : St) => Q u7) k8  u)
abbrev rm_X10_holdAll : Room := { frames := 2, cells := 0, slots := 0, locals := 44 }
set_option maxHeartbeats 4000000 in
set_option maxRecDepth 100000 in
theorem t_X10_holdAll (l : Launch) (D : va_G) (G : Gd)  (u : St) (Q : St → Prop) (h : wp_X10_holdAll  u Q) : MRv l D G yX10_holdAll cX10_holdAll 3 none rm_X10_holdAll [.ref (G.1 0)] u Q := by
  refine startR_v (by decide) ?_
  intro p e s m args below meth c E hr hlk hml hP hD hS hA
  have hx := E.1
  have hb := E.2.1
  have hown := E.2.2.1
  have hW := E.2.2.2.1
  have hl := lv_entry ([.ref (G.1 0)]) (n := 3) (Nat.le_of_ble_eq_true rfl)
  rw [lg_entry_eq]
  generalize (lg_sl ([.ref (G.1 0)]) ++ List.replicate (3 - (lg_sl ([.ref (G.1 0)])).length) Slot.unset).toArray = ls at hl ⊢
  have hl : lv_has ls 3 [(0, .ref (G.1 0))] := hl
  have L_0 : ∀  (K : St → Prop), (∀  (u : St) (H : Heap) (locs : List Loc) (ls : Array Slot), K  u → va_P D vwCl (wR G u) H → va_D (AR G s.heap.size) (wR G u) → va_S (AR G s.heap.size) s.heap H locs → lv_has ls 3 [] → W p l e rm_X10_holdAll s m args below meth c H locs 0 0 (MQ below (va_Qv Q (BR D G s.heap.size) (AR G s.heap.size)) args s 0 0 (AR G s.heap.size)) (F0 m 48 ls [])) → ∀ (n : Nat)  (u : St) (H : Heap) (locs : List Loc) (ls : Array Slot), l_X10_holdAll_0 Q K n  u → va_P D vwCl (wR G u) H → va_D (AR G s.heap.size) (wR G u) → va_S (AR G s.heap.size) s.heap H locs → lv_has ls 3 [(0, .ref (G.1 0))] → W p l e rm_X10_holdAll s m args below meth c H locs 0 0 (MQ below (va_Qv Q (BR D G s.heap.size) (AR G s.heap.size)) args s 0 0 (AR G s.heap.size)) (F0 m 0 ls []) := by
    intro  K hK n
    induction n with
    | zero => intro  u H locs ls h; exact False.elim h
    | succ n ih =>
      intro  u H locs ls h hP hD hS hl
      unfold l_X10_holdAll_0 at h
      refine lv_aload_n hx hb dX10_holdAll_0 rfl (lv_at hl 0 rfl) ?_
      refine gR_18 E hP kfX10_67 (v := (gI u 18)) rfl dX10_holdAll_1 ?_
      refine lv_if_le (tgt := 48) hx hb dX10_holdAll_4 (by decide) (fun hc => ?_) (fun hc => ?_)
      · have h := h.1 hc
        exact hK u _ _ _ h hP hD hS (lv_sub hl [] rfl)
      · have h := h.2 hc
        refine lv_aload_n hx hb dX10_holdAll_7 rfl (lv_at hl 0 rfl) ?_
        refine lv_dup hx hb dX10_holdAll_8 rfl ?_
        refine gR_18 E hP kfX10_67 (v := (gI u 18)) rfl dX10_holdAll_9 ?_
        refine lv_iconst (v := (1 : Int32)) hx hb dX10_holdAll_12 (by decide) ?_
        refine lv_isub hx hb dX10_holdAll_13 ?_
        refine pR_18 E hP hD hS kfX10_67 dX10_holdAll_14 (fun H locs hP hD hS => ?_)
        refine lv_aload_n hx hb dX10_holdAll_17 rfl (lv_at hl 0 rfl) ?_
        refine gR_17 E hP kfX10_64 dX10_holdAll_18 ?_
        refine lv_aload_n hx hb dX10_holdAll_21 rfl (lv_at hl 0 rfl) ?_
        refine gR_18 E hP kfX10_67 (v := ((gI u 18) - (1 : Int32))) rfl dX10_holdAll_22 ?_
        obtain ⟨h9, h⟩ := h
        refine xR_17 E hP h9 (v := ((gB u 17) (((gI u 18) - (1 : Int32))).toNatClampNeg)) rfl dX10_holdAll_25 ?_
        refine lv_lstore_n (lv' := [(1, .long ((gB u 17) (((gI u 18) - (1 : Int32))).toNatClampNeg)), (0, .ref (G.1 0))]) hx hb dX10_holdAll_26 rfl hl (by decide) rfl (fun ls hl => ?_)
        refine lv_aload_n hx hb dX10_holdAll_27 rfl (lv_at hl 1 rfl) ?_
        refine lv_aload_n hx hb dX10_holdAll_28 rfl (lv_at hl 1 rfl) ?_
        refine lv_lload_n hx hb dX10_holdAll_29 rfl (lv_at hl 0 rfl) ?_
        refine cR_l (ci := 9) (q0 := 0) (As := [.long ((gB u 17) (((gI u 18) - (1 : Int32))).toNatClampNeg)]) (rest := [.ref (G.1 0)]) E hml hP hD hS hA (t_X10_first l D G ((gB u 17) (((gI u 18) - (1 : Int32))).toNatClampNeg) (sI u 18 ((gI u 18) - (1 : Int32))) _ h) kmX10_209 mwyX10_first rfl rfl ⟨⟨rfl, rfl⟩, Nat.le_of_ble_eq_true rfl, Nat.le_of_ble_eq_true rfl⟩ rfl hl.1 rfl (Nat.le_of_ble_eq_true rfl) dX10_holdAll_30 ⟨Nat.zero_le _, Nat.zero_le _⟩ (fun r1 u2 H locs hP hD hS h => ?_)
        refine cR_v (ci := 9) (q0 := 0) (As := [.long r1]) (rest := []) E hml hP hD hS hA (t_X10_hold l D G r1 u2 _ h) kmX10_213 mwyX10_hold rfl rfl ⟨⟨rfl, rfl⟩, Nat.le_of_ble_eq_true rfl, Nat.le_of_ble_eq_true rfl⟩ rfl hl.1 rfl (Nat.le_of_ble_eq_true rfl) dX10_holdAll_33 ⟨Nat.zero_le _, Nat.zero_le _⟩ (fun u3 H locs hP hD hS h => ?_)
        refine lv_aload_n hx hb dX10_holdAll_36 rfl (lv_at hl 1 rfl) ?_
        refine lv_aload_n hx hb dX10_holdAll_37 rfl (lv_at hl 1 rfl) ?_
        refine lv_lload_n hx hb dX10_holdAll_38 rfl (lv_at hl 0 rfl) ?_
        refine cR_l (ci := 9) (q0 := 0) (As := [.long ((gB u 17) (((gI u 18) - (1 : Int32))).toNatClampNeg)]) (rest := [.ref (G.1 0)]) E hml hP hD hS hA (t_X10_behind l D G ((gB u 17) (((gI u 18) - (1 : Int32))).toNatClampNeg) u3 _ h) kmX10_216 mwyX10_behind rfl rfl ⟨⟨rfl, rfl⟩, Nat.le_of_ble_eq_true rfl, Nat.le_of_ble_eq_true rfl⟩ rfl hl.1 rfl (Nat.le_of_ble_eq_true rfl) dX10_holdAll_39 ⟨Nat.zero_le _, Nat.zero_le _⟩ (fun r4 u5 H locs hP hD hS h => ?_)
        refine cR_v (ci := 9) (q0 := 0) (As := [.long r4]) (rest := []) E hml hP hD hS hA (t_X10_hold l D G r4 u5 _ h) kmX10_213 mwyX10_hold rfl rfl ⟨⟨rfl, rfl⟩, Nat.le_of_ble_eq_true rfl, Nat.le_of_ble_eq_true rfl⟩ rfl hl.1 rfl (Nat.le_of_ble_eq_true rfl) dX10_holdAll_42 ⟨Nat.zero_le _, Nat.zero_le _⟩ (fun u6 H locs hP hD hS h => ?_)
        refine lv_goto (tgt := 0) hx hb dX10_holdAll_45 (by decide) ?_
        exact ih u6 _ _ _ h hP hD hS (lv_sub hl [1] rfl)
  unfold wp_X10_holdAll at h
  obtain ⟨n, h⟩ := h
  refine L_0  _ (fun u7 H locs ls h hP hD hS hl => ?_) n  u _ _ _ h hP hD hS (lv_sub hl [0] rfl)
  exact retR_v E hr hlk hP hD hS h dX10_holdAll_48
def l_X10_holdGlobals_2 (Q : St → Prop)  (K : St → Prop) : Nat → Int32 → St → Prop
  | 0, _, _ => False
  | n + 1, x1, u => (((1000 : Int32) ≤ x1 → K u) ∧ (¬ (1000 : Int32) ≤ x1 → vp_in x1 1000 ∧ l_X10_holdGlobals_2 Q K n (x1 + (1 : Int32)) (sA u 15 (upd (gA u 15) (x1).toNatClampNeg (vp_nar .boolean (0 : Int32))))))
def l_X10_holdGlobals_34 (Q : St → Prop)  (K : St → Prop) : Nat → Int32 → St → Prop
  | 0, _, _ => False
  | n + 1, x1, u => (((gI u 21) ≤ x1 → K u) ∧ (¬ (gI u 21) ≤ x1 → vp_in x1 150 ∧ ((((gB u 20) (x1).toNatClampNeg) < (0 : Int64) → l_X10_holdGlobals_34 Q K n (x1 + (1 : Int32)) u) ∧ (¬ ((gB u 20) (x1).toNatClampNeg) < (0 : Int64) → vp_in x1 150 ∧ wp_X10_hold ((gB u 20) (x1).toNatClampNeg) u (fun (u2 : St) => l_X10_holdGlobals_34 Q K n (x1 + (1 : Int32)) u2)))))
def wp_X10_holdGlobals  (u : St) (Q : St → Prop) : Prop := (∃ k6 : Nat, l_X10_holdGlobals_2 Q  (fun (u1 : St) => (∃ k5 : Nat, l_X10_holdGlobals_34 Q  (fun (u3 : St) => wp_X10_holdAll  u3 (fun (u4 : St) => Q u4)) k5 (0 : Int32) (sI (sI u1 16 (0 : Int32)) 18 (0 : Int32)))) k6 (0 : Int32) u)
abbrev rm_X10_holdGlobals : Room := { frames := 3, cells := 0, slots := 0, locals := 66 }
set_option maxHeartbeats 4000000 in
set_option maxRecDepth 100000 in
theorem t_X10_holdGlobals (l : Launch) (D : va_G) (G : Gd)  (u : St) (Q : St → Prop) (h : wp_X10_holdGlobals  u Q) : MRv l D G yX10_holdGlobals cX10_holdGlobals 2 none rm_X10_holdGlobals [.ref (G.1 0)] u Q := by
  refine startR_v (by decide) ?_
  intro p e s m args below meth c E hr hlk hml hP hD hS hA
  have hx := E.1
  have hb := E.2.1
  have hown := E.2.2.1
  have hW := E.2.2.2.1
  have hl := lv_entry ([.ref (G.1 0)]) (n := 2) (Nat.le_of_ble_eq_true rfl)
  rw [lg_entry_eq]
  generalize (lg_sl ([.ref (G.1 0)]) ++ List.replicate (2 - (lg_sl ([.ref (G.1 0)])).length) Slot.unset).toArray = ls at hl ⊢
  have hl : lv_has ls 2 [(0, .ref (G.1 0))] := hl
  have L_2 : ∀  (K : St → Prop), (∀  (u : St) (H : Heap) (locs : List Loc) (ls : Array Slot), K  u → va_P D vwCl (wR G u) H → va_D (AR G s.heap.size) (wR G u) → va_S (AR G s.heap.size) s.heap H locs → lv_has ls 2 [(0, .ref (G.1 0))] → W p l e rm_X10_holdGlobals s m args below meth c H locs 0 0 (MQ below (va_Qv Q (BR D G s.heap.size) (AR G s.heap.size)) args s 0 0 (AR G s.heap.size)) (F0 m 22 ls [])) → ∀ (n : Nat) (x1 : Int32) (u : St) (H : Heap) (locs : List Loc) (ls : Array Slot), l_X10_holdGlobals_2 Q K n x1 u → va_P D vwCl (wR G u) H → va_D (AR G s.heap.size) (wR G u) → va_S (AR G s.heap.size) s.heap H locs → lv_has ls 2 [(0, .ref (G.1 0)), (1, .int x1)] → W p l e rm_X10_holdGlobals s m args below meth c H locs 0 0 (MQ below (va_Qv Q (BR D G s.heap.size) (AR G s.heap.size)) args s 0 0 (AR G s.heap.size)) (F0 m 2 ls []) := by
    intro  K hK n
    induction n with
    | zero => intro x1 u H locs ls h; exact False.elim h
    | succ n ih =>
      intro x1 u H locs ls h hP hD hS hl
      unfold l_X10_holdGlobals_2 at h
      refine lv_iload_n hx hb dX10_holdGlobals_2 rfl (lv_at hl 1 rfl) ?_
      refine lv_sipush (v := (1000 : Int32)) hx hb dX10_holdGlobals_3 (by decide) ?_
      refine lv_icmp_ge (tgt := 22) hx hb dX10_holdGlobals_6 (by decide) (fun hc => ?_) (fun hc => ?_)
      · have h := h.1 hc
        exact hK u _ _ _ h hP hD hS (lv_sub hl [0] rfl)
      · have h := h.2 hc
        refine lv_aload_n hx hb dX10_holdGlobals_9 rfl (lv_at hl 0 rfl) ?_
        refine gR_15 E hP kfX10_57 dX10_holdGlobals_10 ?_
        refine lv_iload_n hx hb dX10_holdGlobals_13 rfl (lv_at hl 1 rfl) ?_
        refine lv_iconst (v := (0 : Int32)) hx hb dX10_holdGlobals_14 (by decide) ?_
        obtain ⟨h9, h⟩ := h
        refine yR_15 E hP hD hS h9 (f := (gA u 15)) rfl dX10_holdGlobals_15 (fun H locs hP hD hS => ?_)
        refine lv_iinc (v := (x1 + (1 : Int32))) (lv' := [(1, .int (x1 + (1 : Int32))), (0, .ref (G.1 0))]) hx hb dX10_holdGlobals_16 hl (k := 1) rfl rfl (by decide) rfl (fun ls hl => ?_)
        refine lv_goto (tgt := 2) hx hb dX10_holdGlobals_19 (by decide) ?_
        exact ih (x1 + (1 : Int32)) (sA u 15 (upd (gA u 15) (x1).toNatClampNeg (vp_nar .boolean (0 : Int32)))) _ _ _ h hP hD hS (lv_sub hl [1, 0] rfl)
  have L_34 : ∀  (K : St → Prop), (∀  (u : St) (H : Heap) (locs : List Loc) (ls : Array Slot), K  u → va_P D vwCl (wR G u) H → va_D (AR G s.heap.size) (wR G u) → va_S (AR G s.heap.size) s.heap H locs → lv_has ls 2 [(0, .ref (G.1 0))] → W p l e rm_X10_holdGlobals s m args below meth c H locs 0 0 (MQ below (va_Qv Q (BR D G s.heap.size) (AR G s.heap.size)) args s 0 0 (AR G s.heap.size)) (F0 m 69 ls [])) → ∀ (n : Nat) (x1 : Int32) (u : St) (H : Heap) (locs : List Loc) (ls : Array Slot), l_X10_holdGlobals_34 Q K n x1 u → va_P D vwCl (wR G u) H → va_D (AR G s.heap.size) (wR G u) → va_S (AR G s.heap.size) s.heap H locs → lv_has ls 2 [(0, .ref (G.1 0)), (1, .int x1)] → W p l e rm_X10_holdGlobals s m args below meth c H locs 0 0 (MQ below (va_Qv Q (BR D G s.heap.size) (AR G s.heap.size)) args s 0 0 (AR G s.heap.size)) (F0 m 34 ls []) := by
    intro  K hK n
    induction n with
    | zero => intro x1 u H locs ls h; exact False.elim h
    | succ n ih =>
      intro x1 u H locs ls h hP hD hS hl
      unfold l_X10_holdGlobals_34 at h
      refine lv_iload_n hx hb dX10_holdGlobals_34 rfl (lv_at hl 1 rfl) ?_
      refine lv_aload_n hx hb dX10_holdGlobals_35 rfl (lv_at hl 0 rfl) ?_
      refine gR_21 E hP kfX10_76 (v := (gI u 21)) rfl dX10_holdGlobals_36 ?_
      refine lv_icmp_ge (tgt := 69) hx hb dX10_holdGlobals_39 (by decide) (fun hc => ?_) (fun hc => ?_)
      · have h := h.1 hc
        exact hK u _ _ _ h hP hD hS (lv_sub hl [0] rfl)
      · have h := h.2 hc
        refine lv_aload_n hx hb dX10_holdGlobals_42 rfl (lv_at hl 0 rfl) ?_
        refine gR_20 E hP kfX10_73 dX10_holdGlobals_43 ?_
        refine lv_iload_n hx hb dX10_holdGlobals_46 rfl (lv_at hl 1 rfl) ?_
        obtain ⟨h9, h⟩ := h
        refine xR_20 E hP h9 (v := ((gB u 20) (x1).toNatClampNeg)) rfl dX10_holdGlobals_47 ?_
        refine lv_lconst (v := (0 : Int64)) hx hb dX10_holdGlobals_48 (by decide) ?_
        refine lq_lt (tgt := 63) hx hb dX10_holdGlobals_49 dX10_holdGlobals_50 (by decide) (fun hc => ?_) (fun hc => ?_)
        · have h := h.1 hc
          refine lv_iinc (v := (x1 + (1 : Int32))) (lv' := [(1, .int (x1 + (1 : Int32))), (0, .ref (G.1 0))]) hx hb dX10_holdGlobals_63 hl (k := 1) rfl rfl (by decide) rfl (fun ls hl => ?_)
          refine lv_goto (tgt := 34) hx hb dX10_holdGlobals_66 (by decide) ?_
          exact ih (x1 + (1 : Int32)) u _ _ _ h hP hD hS (lv_sub hl [1, 0] rfl)
        · have h := h.2 hc
          refine lv_aload_n hx hb dX10_holdGlobals_53 rfl (lv_at hl 0 rfl) ?_
          refine lv_aload_n hx hb dX10_holdGlobals_54 rfl (lv_at hl 0 rfl) ?_
          refine gR_20 E hP kfX10_73 dX10_holdGlobals_55 ?_
          refine lv_iload_n hx hb dX10_holdGlobals_58 rfl (lv_at hl 1 rfl) ?_
          obtain ⟨h9, h⟩ := h
          refine xR_20 E hP h9 (v := ((gB u 20) (x1).toNatClampNeg)) rfl dX10_holdGlobals_59 ?_
          refine cR_v (ci := 9) (q0 := 0) (As := [.long ((gB u 20) (x1).toNatClampNeg)]) (rest := []) E hml hP hD hS hA (t_X10_hold l D G ((gB u 20) (x1).toNatClampNeg) u _ h) kmX10_213 mwyX10_hold rfl rfl ⟨⟨rfl, rfl⟩, Nat.le_of_ble_eq_true rfl, Nat.le_of_ble_eq_true rfl⟩ rfl hl.1 rfl (Nat.le_of_ble_eq_true rfl) dX10_holdGlobals_60 ⟨Nat.zero_le _, Nat.zero_le _⟩ (fun u2 H locs hP hD hS h => ?_)
          refine lv_iinc (v := (x1 + (1 : Int32))) (lv' := [(1, .int (x1 + (1 : Int32))), (0, .ref (G.1 0))]) hx hb dX10_holdGlobals_63 hl (k := 1) rfl rfl (by decide) rfl (fun ls hl => ?_)
          refine lv_goto (tgt := 34) hx hb dX10_holdGlobals_66 (by decide) ?_
          exact ih (x1 + (1 : Int32)) u2 _ _ _ h hP hD hS (lv_sub hl [1, 0] rfl)
  unfold wp_X10_holdGlobals at h
  refine lv_iconst (v := (0 : Int32)) hx hb dX10_holdGlobals_0 (by decide) ?_
  refine lv_istore_n (lv' := [(1, .int (0 : Int32)), (0, .ref (G.1 0))]) hx hb dX10_holdGlobals_1 rfl hl (by decide) rfl (fun ls hl => ?_)
  obtain ⟨n, h⟩ := h
  refine L_2  _ (fun u1 H locs ls h hP hD hS hl => ?_) n (0 : Int32) u _ _ _ h hP hD hS (lv_sub hl [1, 0] rfl)
  refine lv_aload_n hx hb dX10_holdGlobals_22 rfl (lv_at hl 0 rfl) ?_
  refine lv_iconst (v := (0 : Int32)) hx hb dX10_holdGlobals_23 (by decide) ?_
  refine pR_16 E hP hD hS kfX10_61 dX10_holdGlobals_24 (fun H locs hP hD hS => ?_)
  refine lv_aload_n hx hb dX10_holdGlobals_27 rfl (lv_at hl 0 rfl) ?_
  refine lv_iconst (v := (0 : Int32)) hx hb dX10_holdGlobals_28 (by decide) ?_
  refine pR_18 E hP hD hS kfX10_67 dX10_holdGlobals_29 (fun H locs hP hD hS => ?_)
  refine lv_iconst (v := (0 : Int32)) hx hb dX10_holdGlobals_32 (by decide) ?_
  refine lv_istore_n (lv' := [(1, .int (0 : Int32)), (0, .ref (G.1 0))]) hx hb dX10_holdGlobals_33 rfl hl (by decide) rfl (fun ls hl => ?_)
  obtain ⟨n, h⟩ := h
  refine L_34  _ (fun u3 H locs ls h hP hD hS hl => ?_) n (0 : Int32) (sI (sI u1 16 (0 : Int32)) 18 (0 : Int32)) _ _ _ h hP hD hS (lv_sub hl [1, 0] rfl)
  refine lv_aload_n hx hb dX10_holdGlobals_69 rfl (lv_at hl 0 rfl) ?_
  refine cR_v (ci := 9) (q0 := 0) (As := []) (rest := []) E hml hP hD hS hA (t_X10_holdAll l D G  u3 _ h) kmX10_219 mwyX10_holdAll rfl rfl ⟨⟨rfl, rfl⟩, Nat.le_of_ble_eq_true rfl, Nat.le_of_ble_eq_true rfl⟩ rfl hl.1 rfl (Nat.le_of_ble_eq_true rfl) dX10_holdGlobals_70 ⟨Nat.zero_le _, Nat.zero_le _⟩ (fun u4 H locs hP hD hS h => ?_)
  exact retR_v E hr hlk hP hD hS h dX10_holdGlobals_73
def wp_X10_room (p0 : Int32) (u : St) (Q : Int32 → St → Prop) : Prop := wp_X10_holdAll  u (fun (u1 : St) => ((((gI u1 16) + p0) ≤ (gI u1 1) → (((gI u1 8) = 0 → Q (1 : Int32) u1) ∧ (¬ (gI u1 8) = 0 → Q (0 : Int32) u1))) ∧ (¬ ((gI u1 16) + p0) ≤ (gI u1 1) → Q (0 : Int32) (sI u1 8 (6 : Int32)))))
abbrev rm_X10_room : Room := { frames := 3, cells := 0, slots := 0, locals := 66 }
set_option maxHeartbeats 4000000 in
set_option maxRecDepth 100000 in
theorem t_X10_room (l : Launch) (D : va_G) (G : Gd) (p0 : Int32) (u : St) (Q : Int32 → St → Prop) (h : wp_X10_room p0 u Q) : MRi l D G yX10_room cX10_room 2 (some .boolean) rm_X10_room [.ref (G.1 0), .int p0] u Q := by
  refine startR_i (by decide) ?_
  intro p e s m args below meth c E hr hlk hml hP hD hS hA
  have hx := E.1
  have hb := E.2.1
  have hown := E.2.2.1
  have hW := E.2.2.2.1
  have hl := lv_entry ([.ref (G.1 0), .int p0]) (n := 2) (Nat.le_of_ble_eq_true rfl)
  rw [lg_entry_eq]
  generalize (lg_sl ([.ref (G.1 0), .int p0]) ++ List.replicate (2 - (lg_sl ([.ref (G.1 0), .int p0])).length) Slot.unset).toArray = ls at hl ⊢
  have hl : lv_has ls 2 [(0, .ref (G.1 0)), (1, .int p0)] := hl
  unfold wp_X10_room at h
  refine lv_aload_n hx hb dX10_room_0 rfl (lv_at hl 0 rfl) ?_
  refine cR_v (ci := 9) (q0 := 0) (As := []) (rest := []) E hml hP hD hS hA (t_X10_holdAll l D G  u _ h) kmX10_219 mwyX10_holdAll rfl rfl ⟨⟨rfl, rfl⟩, Nat.le_of_ble_eq_true rfl, Nat.le_of_ble_eq_true rfl⟩ rfl hl.1 rfl (Nat.le_of_ble_eq_true rfl) dX10_room_1 ⟨Nat.zero_le _, Nat.zero_le _⟩ (fun u1 H locs hP hD hS h => ?_)
  refine lv_aload_n hx hb dX10_room_4 rfl (lv_at hl 0 rfl) ?_
  refine gR_16 E hP kfX10_61 (v := (gI u1 16)) rfl dX10_room_5 ?_
  refine lv_iload_n hx hb dX10_room_8 rfl (lv_at hl 1 rfl) ?_
  refine lv_iadd hx hb dX10_room_9 ?_
  refine lv_aload_n hx hb dX10_room_10 rfl (lv_at hl 0 rfl) ?_
  refine gR_1 E hP kfX10_13 (v := (gI u1 1)) rfl dX10_room_11 ?_
  refine lv_icmp_le (tgt := 23) hx hb dX10_room_14 (by decide) (fun hc => ?_) (fun hc => ?_)
  · have h := h.1 hc
    refine lv_aload_n hx hb dX10_room_23 rfl (lv_at hl 0 rfl) ?_
    refine gR_8 E hP kfX10_35 (v := (gI u1 8)) rfl dX10_room_24 ?_
    refine lv_if_ne (tgt := 34) hx hb dX10_room_27 (by decide) (fun hc => ?_) (fun hc => ?_)
    · have h := h.2 hc
      refine lv_iconst (v := (0 : Int32)) hx hb dX10_room_34 (by decide) ?_
      exact retR_z E hr hlk hP hD hS (vz_n vz_0) h dX10_room_35
    · have h := h.1 hc
      refine lv_iconst (v := (1 : Int32)) hx hb dX10_room_30 (by decide) ?_
      refine lv_goto (tgt := 35) hx hb dX10_room_31 (by decide) ?_
      exact retR_z E hr hlk hP hD hS (vz_n vz_1) h dX10_room_35
  · have h := h.2 hc
    refine lv_aload_n hx hb dX10_room_17 rfl (lv_at hl 0 rfl) ?_
    refine lv_bipush (v := (6 : Int32)) hx hb dX10_room_18 (by decide) ?_
    refine pR_8 E hP hD hS kfX10_35 dX10_room_20 (fun H locs hP hD hS => ?_)
    refine lv_aload_n hx hb dX10_room_23 rfl (lv_at hl 0 rfl) ?_
    refine gR_8 E hP kfX10_35 (v := (6 : Int32)) rfl dX10_room_24 ?_
    refine lv_if_ne (tgt := 34) hx hb dX10_room_27 (by decide) (fun _ => ?_) (fun hc => absurd hc (by decide))
    refine lv_iconst (v := (0 : Int32)) hx hb dX10_room_34 (by decide) ?_
    exact retR_z E hr hlk hP hD hS (vz_n vz_0) h dX10_room_35
def wp_X10_isName (p0 : Int64) (Q : Int32 → Prop) : Prop := ((p0 < (4294967296 : Int64) → Q (0 : Int32)) ∧ (¬ p0 < (4294967296 : Int64) → (((8589934592 : Int64) ≤ p0 → Q (0 : Int32)) ∧ (¬ (8589934592 : Int64) ≤ p0 → Q (1 : Int32)))))
abbrev rm_X10_isName : Room := { frames := 0, cells := 0, slots := 0, locals := 0 }
set_option maxHeartbeats 4000000 in
set_option maxRecDepth 100000 in
theorem t_X10_isName (l : Launch) (p0 : Int64) (Q : Int32 → Prop) (h : wp_X10_isName p0 Q) : M0i l yX10_isName cX10_isName 2 (some .boolean) rm_X10_isName [.long p0] Q := by
  refine start0_i (by decide) ?_
  intro p e s m args below meth c hx hb hown hW hr hlk hml hS
  have hP : va_P ((fun _ => 0), (fun _ _ => 0)) vwCl [] s.heap := fun k q h => by simp at h
  have hA : ∀ q, s.heap.size ≤ q → (fun q => s.heap.size ≤ q) q := fun _ h => h
  have hl := lv_entry ([.long p0]) (n := 2) (Nat.le_of_ble_eq_true rfl)
  rw [lg_entry_eq]
  generalize (lg_sl ([.long p0]) ++ List.replicate (2 - (lg_sl ([.long p0])).length) Slot.unset).toArray = ls at hl ⊢
  have hl : lv_has ls 2 [(0, .long p0)] := hl
  unfold wp_X10_isName at h
  refine lv_lload_n hx hb dX10_isName_0 rfl (lv_at hl 0 rfl) ?_
  refine lv_ldc2 (v := (4294967296 : Int64)) hx hb hown (hW _ kcX10_199) dX10_isName_1 ?_
  refine lq_lt (tgt := 20) hx hb dX10_isName_4 dX10_isName_5 (by decide) (fun hc => ?_) (fun hc => ?_)
  · have h := h.1 hc
    refine lv_iconst (v := (0 : Int32)) hx hb dX10_isName_20 (by decide) ?_
    exact ret0_z hx hb hr hlk hS (vz_n vz_0) h dX10_isName_21
  · have h := h.2 hc
    refine lv_lload_n hx hb dX10_isName_8 rfl (lv_at hl 0 rfl) ?_
    refine lv_ldc2 (v := (8589934592 : Int64)) hx hb hown (hW _ kcX10_201) dX10_isName_9 ?_
    refine lq_ge (tgt := 20) hx hb dX10_isName_12 dX10_isName_13 (by decide) (fun hc => ?_) (fun hc => ?_)
    · have h := h.1 hc
      refine lv_iconst (v := (0 : Int32)) hx hb dX10_isName_20 (by decide) ?_
      exact ret0_z hx hb hr hlk hS (vz_n vz_0) h dX10_isName_21
    · have h := h.2 hc
      refine lv_iconst (v := (1 : Int32)) hx hb dX10_isName_16 (by decide) ?_
      refine lv_goto (tgt := 21) hx hb dX10_isName_17 (by decide) ?_
      exact ret0_z hx hb hr hlk hS (vz_n vz_1) h dX10_isName_21
def wp_X10_put (p0 : Int32) (u : St) (Q : St → Prop) : Prop := (((400 : Int32) ≤ (gI u 12) → Q u) ∧ (¬ (400 : Int32) ≤ (gI u 12) → vp_in (gI u 12) 400 ∧ Q (sI (sA u 11 (upd (gA u 11) ((gI u 12)).toNatClampNeg p0)) 12 ((gI u 12) + (1 : Int32)))))
abbrev rm_X10_put : Room := { frames := 0, cells := 0, slots := 0, locals := 0 }
set_option maxHeartbeats 4000000 in
set_option maxRecDepth 100000 in
theorem t_X10_put (l : Launch) (D : va_G) (G : Gd) (p0 : Int32) (u : St) (Q : St → Prop) (h : wp_X10_put p0 u Q) : MRv l D G yX10_put cX10_put 2 none rm_X10_put [.ref (G.1 0), .int p0] u Q := by
  refine startR_v (by decide) ?_
  intro p e s m args below meth c E hr hlk hml hP hD hS hA
  have hx := E.1
  have hb := E.2.1
  have hown := E.2.2.1
  have hW := E.2.2.2.1
  have hl := lv_entry ([.ref (G.1 0), .int p0]) (n := 2) (Nat.le_of_ble_eq_true rfl)
  rw [lg_entry_eq]
  generalize (lg_sl ([.ref (G.1 0), .int p0]) ++ List.replicate (2 - (lg_sl ([.ref (G.1 0), .int p0])).length) Slot.unset).toArray = ls at hl ⊢
  have hl : lv_has ls 2 [(0, .ref (G.1 0)), (1, .int p0)] := hl
  unfold wp_X10_put at h
  refine lv_aload_n hx hb dX10_put_0 rfl (lv_at hl 0 rfl) ?_
  refine gR_12 E hP kfX10_47 (v := (gI u 12)) rfl dX10_put_1 ?_
  refine lv_sipush (v := (400 : Int32)) hx hb dX10_put_4 (by decide) ?_
  refine lv_icmp_ge (tgt := 30) hx hb dX10_put_7 (by decide) (fun hc => ?_) (fun hc => ?_)
  · have h := h.1 hc
    exact retR_v E hr hlk hP hD hS h dX10_put_30
  · have h := h.2 hc
    refine lv_aload_n hx hb dX10_put_10 rfl (lv_at hl 0 rfl) ?_
    refine gR_11 E hP kfX10_44 dX10_put_11 ?_
    refine lv_aload_n hx hb dX10_put_14 rfl (lv_at hl 0 rfl) ?_
    refine gR_12 E hP kfX10_47 (v := (gI u 12)) rfl dX10_put_15 ?_
    refine lv_iload_n hx hb dX10_put_18 rfl (lv_at hl 1 rfl) ?_
    obtain ⟨h9, h⟩ := h
    refine yR_11 E hP hD hS h9 (f := (gA u 11)) rfl dX10_put_19 (fun H locs hP hD hS => ?_)
    refine lv_aload_n hx hb dX10_put_20 rfl (lv_at hl 0 rfl) ?_
    refine lv_dup hx hb dX10_put_21 rfl ?_
    refine gR_12 E hP kfX10_47 (v := (gI u 12)) rfl dX10_put_22 ?_
    refine lv_iconst (v := (1 : Int32)) hx hb dX10_put_25 (by decide) ?_
    refine lv_iadd hx hb dX10_put_26 ?_
    refine pR_12 E hP hD hS kfX10_47 dX10_put_27 (fun H locs hP hD hS => ?_)
    exact retR_v E hr hlk hP hD hS h dX10_put_30
def l_X10_putAtom_123 (Q : St → Prop) (c4 : Int64) (K : Int64 → St → Prop) : Nat → Int64 → St → Prop
  | 0, _, _ => False
  | n + 1, x6, u => (((c4 / (10 : Int64)) < x6 → K x6 u) ∧ (¬ (c4 / (10 : Int64)) < x6 → l_X10_putAtom_123 Q c4 K n (x6 * (10 : Int64)) u))
def l_X10_putAtom_146 (Q : St → Prop) (c4 : Int64) (K : St → Prop) : Nat → Int64 → St → Prop
  | 0, _, _ => False
  | n + 1, x6, u => ((x6 ≤ (0 : Int64) → K u) ∧ (¬ x6 ≤ (0 : Int64) → ¬ x6 = 0 ∧ wp_X10_put ((((c4 / x6) - (c4 / x6) / (10 : Int64) * (10 : Int64))).toInt32 + (48 : Int32)) u (fun (u4 : St) => l_X10_putAtom_146 Q c4 K n (x6 / (10 : Int64)) u4)))
def l_X10_putAtom_22 (Q : St → Prop) (c3 : Int64) (K : Int64 → St → Prop) : Nat → Int64 → St → Prop
  | 0, _, _ => False
  | n + 1, x5, u => (((c3 / (37 : Int64)) < x5 → K x5 u) ∧ (¬ (c3 / (37 : Int64)) < x5 → l_X10_putAtom_22 Q c3 K n (x5 * (37 : Int64)) u))
def l_X10_putAtom_44 (Q : St → Prop) (c3 : Int64) (K : St → Prop) : Nat → Int64 → St → Prop
  | 0, _, _ => False
  | n + 1, x5, u => ((x5 ≤ (0 : Int64) → K u) ∧ (¬ x5 ≤ (0 : Int64) → ¬ x5 = 0 ∧ (((27 : Int32) ≤ (((c3 / x5) - (c3 / x5) / (37 : Int64) * (37 : Int64))).toInt32 → wp_X10_put ((((c3 / x5) - (c3 / x5) / (37 : Int64) * (37 : Int64))).toInt32 + (21 : Int32)) u (fun (u16 : St) => l_X10_putAtom_44 Q c3 K n (x5 / (37 : Int64)) u16)) ∧ (¬ (27 : Int32) ≤ (((c3 / x5) - (c3 / x5) / (37 : Int64) * (37 : Int64))).toInt32 → wp_X10_put ((((c3 / x5) - (c3 / x5) / (37 : Int64) * (37 : Int64))).toInt32 + (64 : Int32)) u (fun (u17 : St) => l_X10_putAtom_44 Q c3 K n (x5 / (37 : Int64)) u17)))))
def wp_X10_putAtom (p0 : Int64) (u : St) (Q : St → Prop) : Prop := wp_X10_isName p0 (fun (r1 : Int32) => ((r1 = 0 → ((0 ≤ (p0).toInt32 → (∃ k7 : Nat, l_X10_putAtom_123 Q (((p0).toInt32).toInt64) (fun (y2 : Int64) (u3 : St) => (∃ k6 : Nat, l_X10_putAtom_146 Q (((p0).toInt32).toInt64) (fun (u5 : St) => Q u5) k6 y2 u3)) k7 (1 : Int64) u)) ∧ (¬ 0 ≤ (p0).toInt32 → wp_X10_put (45 : Int32) u (fun (u8 : St) => (∃ k13 : Nat, l_X10_putAtom_123 Q (-((p0).toInt32).toInt64) (fun (y9 : Int64) (u10 : St) => (∃ k12 : Nat, l_X10_putAtom_146 Q (-((p0).toInt32).toInt64) (fun (u11 : St) => Q u11) k12 y9 u10)) k13 (1 : Int64) u8))))) ∧ (¬ r1 = 0 → vp_in (((p0 - (4294967296 : Int64))).toInt32) 150 ∧ (∃ k20 : Nat, l_X10_putAtom_22 Q ((gB u 19) (((p0 - (4294967296 : Int64))).toInt32).toNatClampNeg) (fun (y14 : Int64) (u15 : St) => (∃ k19 : Nat, l_X10_putAtom_44 Q ((gB u 19) (((p0 - (4294967296 : Int64))).toInt32).toNatClampNeg) (fun (u18 : St) => Q u18) k19 y14 u15)) k20 (1 : Int64) u))))
abbrev rm_X10_putAtom : Room := { frames := 1, cells := 0, slots := 0, locals := 21 }
set_option maxHeartbeats 4000000 in
set_option maxRecDepth 100000 in
theorem t_X10_putAtom (l : Launch) (D : va_G) (G : Gd) (p0 : Int64) (u : St) (Q : St → Prop) (h : wp_X10_putAtom p0 u Q) : MRv l D G yX10_putAtom cX10_putAtom 8 none rm_X10_putAtom [.ref (G.1 0), .long p0] u Q := by
  refine startR_v (by decide) ?_
  intro p e s m args below meth c E hr hlk hml hP hD hS hA
  have hx := E.1
  have hb := E.2.1
  have hown := E.2.2.1
  have hW := E.2.2.2.1
  have hl := lv_entry ([.ref (G.1 0), .long p0]) (n := 8) (Nat.le_of_ble_eq_true rfl)
  rw [lg_entry_eq]
  generalize (lg_sl ([.ref (G.1 0), .long p0]) ++ List.replicate (8 - (lg_sl ([.ref (G.1 0), .long p0])).length) Slot.unset).toArray = ls at hl ⊢
  have hl : lv_has ls 8 [(0, .ref (G.1 0)), (1, .long p0)] := hl
  have L_123 : ∀ (c4 : Int64) (K : Int64 → St → Prop), (∀ (x6 : Int64) (u : St) (H : Heap) (locs : List Loc) (ls : Array Slot), K x6 u → va_P D vwCl (wR G u) H → va_D (AR G s.heap.size) (wR G u) → va_S (AR G s.heap.size) s.heap H locs → lv_has ls 8 [(0, .ref (G.1 0)), (4, .long c4), (6, .long x6)] → W p l e rm_X10_putAtom s m args below meth c H locs 0 0 (MQ below (va_Qv Q (BR D G s.heap.size) (AR G s.heap.size)) args s 0 0 (AR G s.heap.size)) (F0 m 146 ls [])) → ∀ (n : Nat) (x6 : Int64) (u : St) (H : Heap) (locs : List Loc) (ls : Array Slot), l_X10_putAtom_123 Q c4 K n x6 u → va_P D vwCl (wR G u) H → va_D (AR G s.heap.size) (wR G u) → va_S (AR G s.heap.size) s.heap H locs → lv_has ls 8 [(0, .ref (G.1 0)), (4, .long c4), (6, .long x6)] → W p l e rm_X10_putAtom s m args below meth c H locs 0 0 (MQ below (va_Qv Q (BR D G s.heap.size) (AR G s.heap.size)) args s 0 0 (AR G s.heap.size)) (F0 m 123 ls []) := by
    intro c4 K hK n
    induction n with
    | zero => intro x6 u H locs ls h; exact False.elim h
    | succ n ih =>
      intro x6 u H locs ls h hP hD hS hl
      unfold l_X10_putAtom_123 at h
      refine lv_lload hx hb dX10_putAtom_123 (lv_at hl 2 rfl) ?_
      refine lv_lload hx hb dX10_putAtom_125 (lv_at hl 1 rfl) ?_
      refine lv_ldc2 (v := (10 : Int64)) hx hb hown (hW _ kcX10_232) dX10_putAtom_127 ?_
      refine lv_ldiv hx hb dX10_putAtom_130 (by decide) ?_
      refine lq_gt (tgt := 146) hx hb dX10_putAtom_131 dX10_putAtom_132 (by decide) (fun hc => ?_) (fun hc => ?_)
      · have h := h.1 hc
        exact hK x6 u _ _ _ h hP hD hS (lv_sub hl [0, 1, 2] rfl)
      · have h := h.2 hc
        refine lv_lload hx hb dX10_putAtom_135 (lv_at hl 2 rfl) ?_
        refine lv_ldc2 (v := (10 : Int64)) hx hb hown (hW _ kcX10_232) dX10_putAtom_137 ?_
        refine lv_lmul hx hb dX10_putAtom_140 ?_
        refine lv_lstore (lv' := [(6, .long (x6 * (10 : Int64))), (0, .ref (G.1 0)), (4, .long c4)]) hx hb dX10_putAtom_141 hl (by decide) rfl (fun ls hl => ?_)
        refine lv_goto (tgt := 123) hx hb dX10_putAtom_143 (by decide) ?_
        exact ih (x6 * (10 : Int64)) u _ _ _ h hP hD hS (lv_sub hl [1, 2, 0] rfl)
  have L_146 : ∀ (c4 : Int64) (K : St → Prop), (∀  (u : St) (H : Heap) (locs : List Loc) (ls : Array Slot), K  u → va_P D vwCl (wR G u) H → va_D (AR G s.heap.size) (wR G u) → va_S (AR G s.heap.size) s.heap H locs → lv_has ls 8 [] → W p l e rm_X10_putAtom s m args below meth c H locs 0 0 (MQ below (va_Qv Q (BR D G s.heap.size) (AR G s.heap.size)) args s 0 0 (AR G s.heap.size)) (F0 m 181 ls [])) → ∀ (n : Nat) (x6 : Int64) (u : St) (H : Heap) (locs : List Loc) (ls : Array Slot), l_X10_putAtom_146 Q c4 K n x6 u → va_P D vwCl (wR G u) H → va_D (AR G s.heap.size) (wR G u) → va_S (AR G s.heap.size) s.heap H locs → lv_has ls 8 [(0, .ref (G.1 0)), (4, .long c4), (6, .long x6)] → W p l e rm_X10_putAtom s m args below meth c H locs 0 0 (MQ below (va_Qv Q (BR D G s.heap.size) (AR G s.heap.size)) args s 0 0 (AR G s.heap.size)) (F0 m 146 ls []) := by
    intro c4 K hK n
    induction n with
    | zero => intro x6 u H locs ls h; exact False.elim h
    | succ n ih =>
      intro x6 u H locs ls h hP hD hS hl
      unfold l_X10_putAtom_146 at h
      refine lv_lload hx hb dX10_putAtom_146 (lv_at hl 2 rfl) ?_
      refine lv_lconst (v := (0 : Int64)) hx hb dX10_putAtom_148 (by decide) ?_
      refine lq_le (tgt := 181) hx hb dX10_putAtom_149 dX10_putAtom_150 (by decide) (fun hc => ?_) (fun hc => ?_)
      · have h := h.1 hc
        exact hK u _ _ _ h hP hD hS (lv_sub hl [] rfl)
      · have h := h.2 hc
        refine lv_aload_n hx hb dX10_putAtom_153 rfl (lv_at hl 0 rfl) ?_
        refine lv_lload hx hb dX10_putAtom_154 (lv_at hl 1 rfl) ?_
        refine lv_lload hx hb dX10_putAtom_156 (lv_at hl 2 rfl) ?_
        obtain ⟨h9, h⟩ := h
        refine lv_ldiv hx hb dX10_putAtom_158 h9 ?_
        refine lv_ldc2 (v := (10 : Int64)) hx hb hown (hW _ kcX10_232) dX10_putAtom_159 ?_
        refine lv_lrem hx hb dX10_putAtom_162 (by decide) ?_
        refine lv_l2i (v := (((c4 / x6) - (c4 / x6) / (10 : Int64) * (10 : Int64))).toInt32) hx hb dX10_putAtom_163 rfl ?_
        refine lv_bipush (v := (48 : Int32)) hx hb dX10_putAtom_164 (by decide) ?_
        refine lv_iadd hx hb dX10_putAtom_166 ?_
        refine cR_v (ci := 9) (q0 := 0) (As := [.int ((((c4 / x6) - (c4 / x6) / (10 : Int64) * (10 : Int64))).toInt32 + (48 : Int32))]) (rest := []) E hml hP hD hS hA (t_X10_put l D G ((((c4 / x6) - (c4 / x6) / (10 : Int64) * (10 : Int64))).toInt32 + (48 : Int32)) u _ h) kmX10_338 mwyX10_put rfl rfl ⟨⟨rfl, rfl⟩, Nat.le_of_ble_eq_true rfl, Nat.le_of_ble_eq_true rfl⟩ rfl hl.1 rfl (Nat.le_of_ble_eq_true rfl) dX10_putAtom_167 ⟨Nat.zero_le _, Nat.zero_le _⟩ (fun u4 H locs hP hD hS h => ?_)
        refine lv_lload hx hb dX10_putAtom_170 (lv_at hl 2 rfl) ?_
        refine lv_ldc2 (v := (10 : Int64)) hx hb hown (hW _ kcX10_232) dX10_putAtom_172 ?_
        refine lv_ldiv hx hb dX10_putAtom_175 (by decide) ?_
        refine lv_lstore (lv' := [(6, .long (x6 / (10 : Int64))), (0, .ref (G.1 0)), (4, .long c4)]) hx hb dX10_putAtom_176 hl (by decide) rfl (fun ls hl => ?_)
        refine lv_goto (tgt := 146) hx hb dX10_putAtom_178 (by decide) ?_
        exact ih (x6 / (10 : Int64)) u4 _ _ _ h hP hD hS (lv_sub hl [1, 2, 0] rfl)
  have L_22 : ∀ (c3 : Int64) (K : Int64 → St → Prop), (∀ (x5 : Int64) (u : St) (H : Heap) (locs : List Loc) (ls : Array Slot), K x5 u → va_P D vwCl (wR G u) H → va_D (AR G s.heap.size) (wR G u) → va_S (AR G s.heap.size) s.heap H locs → lv_has ls 8 [(0, .ref (G.1 0)), (3, .long c3), (5, .long x5)] → W p l e rm_X10_putAtom s m args below meth c H locs 0 0 (MQ below (va_Qv Q (BR D G s.heap.size) (AR G s.heap.size)) args s 0 0 (AR G s.heap.size)) (F0 m 44 ls [])) → ∀ (n : Nat) (x5 : Int64) (u : St) (H : Heap) (locs : List Loc) (ls : Array Slot), l_X10_putAtom_22 Q c3 K n x5 u → va_P D vwCl (wR G u) H → va_D (AR G s.heap.size) (wR G u) → va_S (AR G s.heap.size) s.heap H locs → lv_has ls 8 [(0, .ref (G.1 0)), (3, .long c3), (5, .long x5)] → W p l e rm_X10_putAtom s m args below meth c H locs 0 0 (MQ below (va_Qv Q (BR D G s.heap.size) (AR G s.heap.size)) args s 0 0 (AR G s.heap.size)) (F0 m 22 ls []) := by
    intro c3 K hK n
    induction n with
    | zero => intro x5 u H locs ls h; exact False.elim h
    | succ n ih =>
      intro x5 u H locs ls h hP hD hS hl
      unfold l_X10_putAtom_22 at h
      refine lv_lload hx hb dX10_putAtom_22 (lv_at hl 2 rfl) ?_
      refine lv_lload_n hx hb dX10_putAtom_24 rfl (lv_at hl 1 rfl) ?_
      refine lv_ldc2 (v := (37 : Int64)) hx hb hown (hW _ kcX10_187) dX10_putAtom_25 ?_
      refine lv_ldiv hx hb dX10_putAtom_28 (by decide) ?_
      refine lq_gt (tgt := 44) hx hb dX10_putAtom_29 dX10_putAtom_30 (by decide) (fun hc => ?_) (fun hc => ?_)
      · have h := h.1 hc
        exact hK x5 u _ _ _ h hP hD hS (lv_sub hl [0, 1, 2] rfl)
      · have h := h.2 hc
        refine lv_lload hx hb dX10_putAtom_33 (lv_at hl 2 rfl) ?_
        refine lv_ldc2 (v := (37 : Int64)) hx hb hown (hW _ kcX10_187) dX10_putAtom_35 ?_
        refine lv_lmul hx hb dX10_putAtom_38 ?_
        refine lv_lstore (lv' := [(5, .long (x5 * (37 : Int64))), (0, .ref (G.1 0)), (3, .long c3)]) hx hb dX10_putAtom_39 hl (by decide) rfl (fun ls hl => ?_)
        refine lv_goto (tgt := 22) hx hb dX10_putAtom_41 (by decide) ?_
        exact ih (x5 * (37 : Int64)) u _ _ _ h hP hD hS (lv_sub hl [1, 2, 0] rfl)
  have L_44 : ∀ (c3 : Int64) (K : St → Prop), (∀  (u : St) (H : Heap) (locs : List Loc) (ls : Array Slot), K  u → va_P D vwCl (wR G u) H → va_D (AR G s.heap.size) (wR G u) → va_S (AR G s.heap.size) s.heap H locs → lv_has ls 8 [] → W p l e rm_X10_putAtom s m args below meth c H locs 0 0 (MQ below (va_Qv Q (BR D G s.heap.size) (AR G s.heap.size)) args s 0 0 (AR G s.heap.size)) (F0 m 97 ls [])) → ∀ (n : Nat) (x5 : Int64) (u : St) (H : Heap) (locs : List Loc) (ls : Array Slot), l_X10_putAtom_44 Q c3 K n x5 u → va_P D vwCl (wR G u) H → va_D (AR G s.heap.size) (wR G u) → va_S (AR G s.heap.size) s.heap H locs → lv_has ls 8 [(0, .ref (G.1 0)), (3, .long c3), (5, .long x5)] → W p l e rm_X10_putAtom s m args below meth c H locs 0 0 (MQ below (va_Qv Q (BR D G s.heap.size) (AR G s.heap.size)) args s 0 0 (AR G s.heap.size)) (F0 m 44 ls []) := by
    intro c3 K hK n
    induction n with
    | zero => intro x5 u H locs ls h; exact False.elim h
    | succ n ih =>
      intro x5 u H locs ls h hP hD hS hl
      unfold l_X10_putAtom_44 at h
      refine lv_lload hx hb dX10_putAtom_44 (lv_at hl 2 rfl) ?_
      refine lv_lconst (v := (0 : Int64)) hx hb dX10_putAtom_46 (by decide) ?_
      refine lq_le (tgt := 97) hx hb dX10_putAtom_47 dX10_putAtom_48 (by decide) (fun hc => ?_) (fun hc => ?_)
      · have h := h.1 hc
        exact hK u _ _ _ h hP hD hS (lv_sub hl [] rfl)
      · have h := h.2 hc
        refine lv_lload_n hx hb dX10_putAtom_51 rfl (lv_at hl 1 rfl) ?_
        refine lv_lload hx hb dX10_putAtom_52 (lv_at hl 2 rfl) ?_
        obtain ⟨h9, h⟩ := h
        refine lv_ldiv hx hb dX10_putAtom_54 h9 ?_
        refine lv_ldc2 (v := (37 : Int64)) hx hb hown (hW _ kcX10_187) dX10_putAtom_55 ?_
        refine lv_lrem hx hb dX10_putAtom_58 (by decide) ?_
        refine lv_l2i (v := (((c3 / x5) - (c3 / x5) / (37 : Int64) * (37 : Int64))).toInt32) hx hb dX10_putAtom_59 rfl ?_
        refine lv_istore (lv' := [(7, .int (((c3 / x5) - (c3 / x5) / (37 : Int64) * (37 : Int64))).toInt32), (0, .ref (G.1 0)), (3, .long c3), (5, .long x5)]) hx hb dX10_putAtom_60 hl (by decide) rfl (fun ls hl => ?_)
        refine lv_aload_n hx hb dX10_putAtom_62 rfl (lv_at hl 1 rfl) ?_
        refine lv_iload hx hb dX10_putAtom_63 (lv_at hl 0 rfl) ?_
        refine lv_bipush (v := (27 : Int32)) hx hb dX10_putAtom_65 (by decide) ?_
        refine lv_icmp_ge (tgt := 78) hx hb dX10_putAtom_67 (by decide) (fun hc => ?_) (fun hc => ?_)
        · have h := h.1 hc
          refine lv_iload hx hb dX10_putAtom_78 (lv_at hl 0 rfl) ?_
          refine lv_bipush (v := (21 : Int32)) hx hb dX10_putAtom_80 (by decide) ?_
          refine lv_iadd hx hb dX10_putAtom_82 ?_
          refine cR_v (ci := 9) (q0 := 0) (As := [.int ((((c3 / x5) - (c3 / x5) / (37 : Int64) * (37 : Int64))).toInt32 + (21 : Int32))]) (rest := []) E hml hP hD hS hA (t_X10_put l D G ((((c3 / x5) - (c3 / x5) / (37 : Int64) * (37 : Int64))).toInt32 + (21 : Int32)) u _ h) kmX10_338 mwyX10_put rfl rfl ⟨⟨rfl, rfl⟩, Nat.le_of_ble_eq_true rfl, Nat.le_of_ble_eq_true rfl⟩ rfl hl.1 rfl (Nat.le_of_ble_eq_true rfl) dX10_putAtom_83 ⟨Nat.zero_le _, Nat.zero_le _⟩ (fun u16 H locs hP hD hS h => ?_)
          refine lv_lload hx hb dX10_putAtom_86 (lv_at hl 3 rfl) ?_
          refine lv_ldc2 (v := (37 : Int64)) hx hb hown (hW _ kcX10_187) dX10_putAtom_88 ?_
          refine lv_ldiv hx hb dX10_putAtom_91 (by decide) ?_
          refine lv_lstore (lv' := [(5, .long (x5 / (37 : Int64))), (7, .int (((c3 / x5) - (c3 / x5) / (37 : Int64) * (37 : Int64))).toInt32), (0, .ref (G.1 0)), (3, .long c3)]) hx hb dX10_putAtom_92 hl (by decide) rfl (fun ls hl => ?_)
          refine lv_goto (tgt := 44) hx hb dX10_putAtom_94 (by decide) ?_
          exact ih (x5 / (37 : Int64)) u16 _ _ _ h hP hD hS (lv_sub hl [2, 3, 0] rfl)
        · have h := h.2 hc
          refine lv_iload hx hb dX10_putAtom_70 (lv_at hl 0 rfl) ?_
          refine lv_bipush (v := (64 : Int32)) hx hb dX10_putAtom_72 (by decide) ?_
          refine lv_iadd hx hb dX10_putAtom_74 ?_
          refine lv_goto (tgt := 83) hx hb dX10_putAtom_75 (by decide) ?_
          refine cR_v (ci := 9) (q0 := 0) (As := [.int ((((c3 / x5) - (c3 / x5) / (37 : Int64) * (37 : Int64))).toInt32 + (64 : Int32))]) (rest := []) E hml hP hD hS hA (t_X10_put l D G ((((c3 / x5) - (c3 / x5) / (37 : Int64) * (37 : Int64))).toInt32 + (64 : Int32)) u _ h) kmX10_338 mwyX10_put rfl rfl ⟨⟨rfl, rfl⟩, Nat.le_of_ble_eq_true rfl, Nat.le_of_ble_eq_true rfl⟩ rfl hl.1 rfl (Nat.le_of_ble_eq_true rfl) dX10_putAtom_83 ⟨Nat.zero_le _, Nat.zero_le _⟩ (fun u17 H locs hP hD hS h => ?_)
          refine lv_lload hx hb dX10_putAtom_86 (lv_at hl 3 rfl) ?_
          refine lv_ldc2 (v := (37 : Int64)) hx hb hown (hW _ kcX10_187) dX10_putAtom_88 ?_
          refine lv_ldiv hx hb dX10_putAtom_91 (by decide) ?_
          refine lv_lstore (lv' := [(5, .long (x5 / (37 : Int64))), (7, .int (((c3 / x5) - (c3 / x5) / (37 : Int64) * (37 : Int64))).toInt32), (0, .ref (G.1 0)), (3, .long c3)]) hx hb dX10_putAtom_92 hl (by decide) rfl (fun ls hl => ?_)
          refine lv_goto (tgt := 44) hx hb dX10_putAtom_94 (by decide) ?_
          exact ih (x5 / (37 : Int64)) u17 _ _ _ h hP hD hS (lv_sub hl [2, 3, 0] rfl)
  unfold wp_X10_putAtom at h
  refine lv_lload_n hx hb dX10_putAtom_0 rfl (lv_at hl 1 rfl) ?_
  refine c0_i (As := [.long p0]) (rest := []) hx hb hml hown hW hP hS hA (t_X10_isName l p0 _ h) kmX10_289 mwyX10_isName ⟨⟨rfl, rfl⟩, Nat.le_of_ble_eq_true rfl, Nat.le_of_ble_eq_true rfl⟩ rfl hl.1 rfl (Nat.le_of_ble_eq_true rfl) dX10_putAtom_1 ⟨Nat.zero_le _, Nat.zero_le _⟩ (fun r1 H locs hP hS h => ?_)
  refine lv_if_eq (tgt := 98) hx hb dX10_putAtom_4 (by decide) (fun hc => ?_) (fun hc => ?_)
  · have h := h.1 hc
    refine lv_lload_n hx hb dX10_putAtom_98 rfl (lv_at hl 1 rfl) ?_
    refine lv_l2i (v := (p0).toInt32) hx hb dX10_putAtom_99 rfl ?_
    refine lv_istore_n (lv' := [(3, .int (p0).toInt32), (0, .ref (G.1 0)), (1, .long p0)]) hx hb dX10_putAtom_100 rfl hl (by decide) rfl (fun ls hl => ?_)
    refine lv_iload_n hx hb dX10_putAtom_101 rfl (lv_at hl 0 rfl) ?_
    refine lv_i2l (v := ((p0).toInt32).toInt64) hx hb dX10_putAtom_102 rfl ?_
    refine lv_lstore (lv' := [(4, .long ((p0).toInt32).toInt64), (3, .int (p0).toInt32), (0, .ref (G.1 0)), (1, .long p0)]) hx hb dX10_putAtom_103 hl (by decide) rfl (fun ls hl => ?_)
    refine lv_iload_n hx hb dX10_putAtom_105 rfl (lv_at hl 1 rfl) ?_
    refine lv_if_ge (tgt := 120) hx hb dX10_putAtom_106 (by decide) (fun hc => ?_) (fun hc => ?_)
    · have h := h.1 hc
      refine lv_lconst (v := (1 : Int64)) hx hb dX10_putAtom_120 (by decide) ?_
      refine lv_lstore (lv' := [(6, .long (1 : Int64)), (4, .long ((p0).toInt32).toInt64), (3, .int (p0).toInt32), (0, .ref (G.1 0)), (1, .long p0)]) hx hb dX10_putAtom_121 hl (by decide) rfl (fun ls hl => ?_)
      obtain ⟨n, h⟩ := h
      refine L_123 (((p0).toInt32).toInt64) _ (fun y2 u3 H locs ls h hP hD hS hl => ?_) n (1 : Int64) u _ _ _ h hP hD hS (lv_sub hl [3, 1, 0] rfl)
      obtain ⟨n, h⟩ := h
      refine L_146 (((p0).toInt32).toInt64) _ (fun u5 H locs ls h hP hD hS hl => ?_) n y2 u3 _ _ _ h hP hD hS (lv_sub hl [0, 1, 2] rfl)
      exact retR_v E hr hlk hP hD hS h dX10_putAtom_181
    · have h := h.2 hc
      refine lv_aload_n hx hb dX10_putAtom_109 rfl (lv_at hl 2 rfl) ?_
      refine lv_bipush (v := (45 : Int32)) hx hb dX10_putAtom_110 (by decide) ?_
      refine cR_v (ci := 9) (q0 := 0) (As := [.int (45 : Int32)]) (rest := []) E hml hP hD hS hA (t_X10_put l D G (45 : Int32) u _ h) kmX10_338 mwyX10_put rfl rfl ⟨⟨rfl, rfl⟩, Nat.le_of_ble_eq_true rfl, Nat.le_of_ble_eq_true rfl⟩ rfl hl.1 rfl (Nat.le_of_ble_eq_true rfl) dX10_putAtom_112 ⟨Nat.zero_le _, Nat.zero_le _⟩ (fun u8 H locs hP hD hS h => ?_)
      refine lv_lload hx hb dX10_putAtom_115 (lv_at hl 0 rfl) ?_
      refine lv_lneg hx hb dX10_putAtom_117 ?_
      refine lv_lstore (lv' := [(4, .long (-((p0).toInt32).toInt64)), (3, .int (p0).toInt32), (0, .ref (G.1 0)), (1, .long p0)]) hx hb dX10_putAtom_118 hl (by decide) rfl (fun ls hl => ?_)
      refine lv_lconst (v := (1 : Int64)) hx hb dX10_putAtom_120 (by decide) ?_
      refine lv_lstore (lv' := [(6, .long (1 : Int64)), (4, .long (-((p0).toInt32).toInt64)), (3, .int (p0).toInt32), (0, .ref (G.1 0)), (1, .long p0)]) hx hb dX10_putAtom_121 hl (by decide) rfl (fun ls hl => ?_)
      obtain ⟨n, h⟩ := h
      refine L_123 (-((p0).toInt32).toInt64) _ (fun y9 u10 H locs ls h hP hD hS hl => ?_) n (1 : Int64) u8 _ _ _ h hP hD hS (lv_sub hl [3, 1, 0] rfl)
      obtain ⟨n, h⟩ := h
      refine L_146 (-((p0).toInt32).toInt64) _ (fun u11 H locs ls h hP hD hS hl => ?_) n y9 u10 _ _ _ h hP hD hS (lv_sub hl [0, 1, 2] rfl)
      exact retR_v E hr hlk hP hD hS h dX10_putAtom_181
  · have h := h.2 hc
    refine lv_aload_n hx hb dX10_putAtom_7 rfl (lv_at hl 0 rfl) ?_
    refine gR_19 E hP kfX10_70 dX10_putAtom_8 ?_
    refine lv_lload_n hx hb dX10_putAtom_11 rfl (lv_at hl 1 rfl) ?_
    refine lv_ldc2 (v := (4294967296 : Int64)) hx hb hown (hW _ kcX10_199) dX10_putAtom_12 ?_
    refine lv_lsub hx hb dX10_putAtom_15 ?_
    refine lv_l2i (v := ((p0 - (4294967296 : Int64))).toInt32) hx hb dX10_putAtom_16 rfl ?_
    obtain ⟨h9, h⟩ := h
    refine xR_19 E hP h9 (v := ((gB u 19) (((p0 - (4294967296 : Int64))).toInt32).toNatClampNeg)) rfl dX10_putAtom_17 ?_
    refine lv_lstore_n (lv' := [(3, .long ((gB u 19) (((p0 - (4294967296 : Int64))).toInt32).toNatClampNeg)), (0, .ref (G.1 0)), (1, .long p0)]) hx hb dX10_putAtom_18 rfl hl (by decide) rfl (fun ls hl => ?_)
    refine lv_lconst (v := (1 : Int64)) hx hb dX10_putAtom_19 (by decide) ?_
    refine lv_lstore (lv' := [(5, .long (1 : Int64)), (3, .long ((gB u 19) (((p0 - (4294967296 : Int64))).toInt32).toNatClampNeg)), (0, .ref (G.1 0)), (1, .long p0)]) hx hb dX10_putAtom_20 hl (by decide) rfl (fun ls hl => ?_)
    obtain ⟨n, h⟩ := h
    refine L_22 ((gB u 19) (((p0 - (4294967296 : Int64))).toInt32).toNatClampNeg) _ (fun y14 u15 H locs ls h hP hD hS hl => ?_) n (1 : Int64) u _ _ _ h hP hD hS (lv_sub hl [2, 1, 0] rfl)
    obtain ⟨n, h⟩ := h
    refine L_44 ((gB u 19) (((p0 - (4294967296 : Int64))).toInt32).toNatClampNeg) _ (fun u18 H locs ls h hP hD hS hl => ?_) n y14 u15 _ _ _ h hP hD hS (lv_sub hl [0, 1, 2] rfl)
    exact retR_v E hr hlk hP hD hS h dX10_putAtom_97
def l_X10_printAll_77 (Q : St → Prop)  (K : Int32 → Int64 → St → Prop) : Nat → Int32 → Int64 → Int32 → St → Prop
  | 0, _, _, _, _ => False
  | n + 1, x3, x4, x7, u => ((x7 = 0 → K x3 x4 u) ∧ (¬ x7 = 0 → ((x3 ≤ 0 → K x3 x4 u) ∧ (¬ x3 ≤ 0 → vp_in (x3 - (1 : Int32)) 1000 ∧ wp_X10_isPair ((gB u 17) ((x3 - (1 : Int32))).toNatClampNeg) (fun (r3 : Int32) => ((r3 = 0 → ((((gB u 17) ((x3 - (1 : Int32))).toNatClampNeg) = (4294967296 : Int64) → wp_X10_put (41 : Int32) u (fun (u9 : St) => l_X10_printAll_77 Q K n (x3 + (-1 : Int32)) x4 (1 : Int32) u9)) ∧ (¬ ((gB u 17) ((x3 - (1 : Int32))).toNatClampNeg) = (4294967296 : Int64) → wp_X10_put (32 : Int32) u (fun (u10 : St) => wp_X10_put (46 : Int32) u10 (fun (u11 : St) => wp_X10_put (32 : Int32) u11 (fun (u12 : St) => wp_X10_putAtom ((gB u 17) ((x3 - (1 : Int32))).toNatClampNeg) u12 (fun (u13 : St) => wp_X10_put (41 : Int32) u13 (fun (u14 : St) => l_X10_printAll_77 Q K n (x3 + (-1 : Int32)) x4 (1 : Int32) u14)))))))) ∧ (¬ r3 = 0 → wp_X10_put (32 : Int32) u (fun (u4 : St) => wp_X10_first ((gB u 17) ((x3 - (1 : Int32))).toNatClampNeg) u4 (fun (r5 : Int64) (u6 : St) => wp_X10_behind ((gB u 17) ((x3 - (1 : Int32))).toNatClampNeg) u6 (fun (r7 : Int64) (u8 : St) => vp_in (x3 - (1 : Int32)) 1000 ∧ l_X10_printAll_77 Q K n x3 r5 (0 : Int32) (sB u8 17 (vp_updL (gB u8 17) ((x3 - (1 : Int32))).toNatClampNeg r7))))))))))))
def l_X10_printAll_13 (Q : St → Prop)  (K : St → Prop) : Nat → Int32 → Int64 → Int32 → St → Prop
  | 0, _, _, _, _ => False
  | n + 1, x3, x4, x6, u => ((x6 = 0 → K u) ∧ (¬ x6 = 0 → (((400 : Int32) ≤ (gI u 12) → K u) ∧ (¬ (400 : Int32) ≤ (gI u 12) → wp_X10_isPair x4 (fun (r1 : Int32) => ((r1 = 0 → wp_X10_putAtom x4 u (fun (u2 : St) => (∃ k18 : Nat, l_X10_printAll_77 Q  (fun (y15 : Int32) (y16 : Int64) (u17 : St) => ((y15 ≤ 0 → l_X10_printAll_13 Q K n y15 y16 (0 : Int32) u17) ∧ (¬ y15 ≤ 0 → l_X10_printAll_13 Q K n y15 y16 (1 : Int32) u17))) k18 x3 x4 (1 : Int32) u2))) ∧ (¬ r1 = 0 → wp_X10_put (40 : Int32) u (fun (u19 : St) => wp_X10_behind x4 u19 (fun (r20 : Int64) (u21 : St) => vp_in x3 1000 ∧ wp_X10_first x4 (sB u21 17 (vp_updL (gB u21 17) (x3).toNatClampNeg r20)) (fun (r22 : Int64) (u23 : St) => l_X10_printAll_13 Q K n (x3 + (1 : Int32)) r22 x6 u23))))))))))
def wp_X10_printAll (p0 : Int64) (u : St) (Q : St → Prop) : Prop := (∃ k25 : Nat, l_X10_printAll_13 Q  (fun (u24 : St) => Q u24) k25 (0 : Int32) p0 (1 : Int32) (sI u 12 (0 : Int32)))
abbrev rm_X10_printAll : Room := { frames := 2, cells := 0, slots := 0, locals := 48 }
set_option maxHeartbeats 4000000 in
set_option maxRecDepth 100000 in
theorem t_X10_printAll (l : Launch) (D : va_G) (G : Gd) (p0 : Int64) (u : St) (Q : St → Prop) (h : wp_X10_printAll p0 u Q) : MRv l D G yX10_printAll cX10_printAll 10 none rm_X10_printAll [.ref (G.1 0), .long p0] u Q := by
  refine startR_v (by decide) ?_
  intro p e s m args below meth c E hr hlk hml hP hD hS hA
  have hx := E.1
  have hb := E.2.1
  have hown := E.2.2.1
  have hW := E.2.2.2.1
  have hl := lv_entry ([.ref (G.1 0), .long p0]) (n := 10) (Nat.le_of_ble_eq_true rfl)
  rw [lg_entry_eq]
  generalize (lg_sl ([.ref (G.1 0), .long p0]) ++ List.replicate (10 - (lg_sl ([.ref (G.1 0), .long p0])).length) Slot.unset).toArray = ls at hl ⊢
  have hl : lv_has ls 10 [(0, .ref (G.1 0)), (1, .long p0)] := hl
  have L_77 : ∀  (K : Int32 → Int64 → St → Prop), (∀ (x3 : Int32) (x4 : Int64) (u : St) (H : Heap) (locs : List Loc) (ls : Array Slot), K x3 x4 u → va_P D vwCl (wR G u) H → va_D (AR G s.heap.size) (wR G u) → va_S (AR G s.heap.size) s.heap H locs → lv_has ls 10 [(0, .ref (G.1 0)), (3, .int x3), (4, .long x4)] → W p l e rm_X10_printAll s m args below meth c H locs 0 0 (MQ below (va_Qv Q (BR D G s.heap.size) (AR G s.heap.size)) args s 0 0 (AR G s.heap.size)) (F0 m 192 ls [])) → ∀ (n : Nat) (x3 : Int32) (x4 : Int64) (x7 : Int32) (u : St) (H : Heap) (locs : List Loc) (ls : Array Slot), l_X10_printAll_77 Q K n x3 x4 x7 u → va_P D vwCl (wR G u) H → va_D (AR G s.heap.size) (wR G u) → va_S (AR G s.heap.size) s.heap H locs → lv_has ls 10 [(0, .ref (G.1 0)), (3, .int x3), (4, .long x4), (7, .int x7)] → W p l e rm_X10_printAll s m args below meth c H locs 0 0 (MQ below (va_Qv Q (BR D G s.heap.size) (AR G s.heap.size)) args s 0 0 (AR G s.heap.size)) (F0 m 77 ls []) := by
    intro  K hK n
    induction n with
    | zero => intro x3 x4 x7 u H locs ls h; exact False.elim h
    | succ n ih =>
      intro x3 x4 x7 u H locs ls h hP hD hS hl
      unfold l_X10_printAll_77 at h
      refine lv_iload hx hb dX10_printAll_77 (lv_at hl 3 rfl) ?_
      refine lv_if_eq (tgt := 192) hx hb dX10_printAll_79 (by decide) (fun hc => ?_) (fun hc => ?_)
      · have h := h.1 hc
        exact hK x3 x4 u _ _ _ h hP hD hS (lv_sub hl [0, 1, 2] rfl)
      · have h := h.2 hc
        refine lv_iload_n hx hb dX10_printAll_82 rfl (lv_at hl 1 rfl) ?_
        refine lv_if_le (tgt := 192) hx hb dX10_printAll_83 (by decide) (fun hc => ?_) (fun hc => ?_)
        · have h := h.1 hc
          exact hK x3 x4 u _ _ _ h hP hD hS (lv_sub hl [0, 1, 2] rfl)
        · have h := h.2 hc
          refine lv_aload_n hx hb dX10_printAll_86 rfl (lv_at hl 0 rfl) ?_
          refine gR_17 E hP kfX10_64 dX10_printAll_87 ?_
          refine lv_iload_n hx hb dX10_printAll_90 rfl (lv_at hl 1 rfl) ?_
          refine lv_iconst (v := (1 : Int32)) hx hb dX10_printAll_91 (by decide) ?_
          refine lv_isub hx hb dX10_printAll_92 ?_
          obtain ⟨h9, h⟩ := h
          refine xR_17 E hP h9 (v := ((gB u 17) ((x3 - (1 : Int32))).toNatClampNeg)) rfl dX10_printAll_93 ?_
          refine lv_lstore (lv' := [(8, .long ((gB u 17) ((x3 - (1 : Int32))).toNatClampNeg)), (0, .ref (G.1 0)), (3, .int x3), (4, .long x4), (7, .int x7)]) hx hb dX10_printAll_94 hl (by decide) rfl (fun ls hl => ?_)
          refine lv_lload hx hb dX10_printAll_96 (lv_at hl 0 rfl) ?_
          refine c0_i (As := [.long ((gB u 17) ((x3 - (1 : Int32))).toNatClampNeg)]) (rest := []) hx hb hml hown hW hP hS hA (t_X10_isPair l ((gB u 17) ((x3 - (1 : Int32))).toNatClampNeg) _ h) kmX10_205 mwyX10_isPair ⟨⟨rfl, rfl⟩, Nat.le_of_ble_eq_true rfl, Nat.le_of_ble_eq_true rfl⟩ rfl hl.1 rfl (Nat.le_of_ble_eq_true rfl) dX10_printAll_98 ⟨Nat.zero_le _, Nat.zero_le _⟩ (fun r3 H locs hP hS h => ?_)
          refine lv_if_ne (tgt := 108) hx hb dX10_printAll_101 (by decide) (fun hc => ?_) (fun hc => ?_)
          · have h := h.2 hc
            refine lv_iconst (v := (0 : Int32)) hx hb dX10_printAll_108 (by decide) ?_
            refine lv_istore (lv' := [(7, .int (0 : Int32)), (8, .long ((gB u 17) ((x3 - (1 : Int32))).toNatClampNeg)), (0, .ref (G.1 0)), (3, .int x3), (4, .long x4)]) hx hb dX10_printAll_109 hl (by decide) rfl (fun ls hl => ?_)
            refine lv_iload hx hb dX10_printAll_111 (lv_at hl 0 rfl) ?_
            refine lv_if_eq (tgt := 161) hx hb dX10_printAll_113 (by decide) (fun _ => ?_) (fun hc => absurd (by decide) hc)
            refine lv_aload_n hx hb dX10_printAll_161 rfl (lv_at hl 2 rfl) ?_
            refine lv_bipush (v := (32 : Int32)) hx hb dX10_printAll_162 (by decide) ?_
            refine cR_v (ci := 9) (q0 := 0) (As := [.int (32 : Int32)]) (rest := []) E hml hP hD hS hA (t_X10_put l D G (32 : Int32) u _ h) kmX10_338 mwyX10_put rfl rfl ⟨⟨rfl, rfl⟩, Nat.le_of_ble_eq_true rfl, Nat.le_of_ble_eq_true rfl⟩ rfl hl.1 rfl (Nat.le_of_ble_eq_true rfl) dX10_printAll_164 ⟨Nat.zero_le _, Nat.zero_le _⟩ (fun u4 H locs hP hD hS h => ?_)
            refine lv_aload_n hx hb dX10_printAll_167 rfl (lv_at hl 2 rfl) ?_
            refine lv_lload hx hb dX10_printAll_168 (lv_at hl 1 rfl) ?_
            refine cR_l (ci := 9) (q0 := 0) (As := [.long ((gB u 17) ((x3 - (1 : Int32))).toNatClampNeg)]) (rest := []) E hml hP hD hS hA (t_X10_first l D G ((gB u 17) ((x3 - (1 : Int32))).toNatClampNeg) u4 _ h) kmX10_209 mwyX10_first rfl rfl ⟨⟨rfl, rfl⟩, Nat.le_of_ble_eq_true rfl, Nat.le_of_ble_eq_true rfl⟩ rfl hl.1 rfl (Nat.le_of_ble_eq_true rfl) dX10_printAll_170 ⟨Nat.zero_le _, Nat.zero_le _⟩ (fun r5 u6 H locs hP hD hS h => ?_)
            refine lv_lstore (lv' := [(4, .long r5), (7, .int (0 : Int32)), (8, .long ((gB u 17) ((x3 - (1 : Int32))).toNatClampNeg)), (0, .ref (G.1 0)), (3, .int x3)]) hx hb dX10_printAll_173 hl (by decide) rfl (fun ls hl => ?_)
            refine lv_aload_n hx hb dX10_printAll_175 rfl (lv_at hl 3 rfl) ?_
            refine gR_17 E hP kfX10_64 dX10_printAll_176 ?_
            refine lv_iload_n hx hb dX10_printAll_179 rfl (lv_at hl 4 rfl) ?_
            refine lv_iconst (v := (1 : Int32)) hx hb dX10_printAll_180 (by decide) ?_
            refine lv_isub hx hb dX10_printAll_181 ?_
            refine lv_aload_n hx hb dX10_printAll_182 rfl (lv_at hl 3 rfl) ?_
            refine lv_lload hx hb dX10_printAll_183 (lv_at hl 2 rfl) ?_
            refine cR_l (ci := 9) (q0 := 0) (As := [.long ((gB u 17) ((x3 - (1 : Int32))).toNatClampNeg)]) (rest := [.int (x3 - (1 : Int32)), .ref (G.1 6)]) E hml hP hD hS hA (t_X10_behind l D G ((gB u 17) ((x3 - (1 : Int32))).toNatClampNeg) u6 _ h) kmX10_216 mwyX10_behind rfl rfl ⟨⟨rfl, rfl⟩, Nat.le_of_ble_eq_true rfl, Nat.le_of_ble_eq_true rfl⟩ rfl hl.1 rfl (Nat.le_of_ble_eq_true rfl) dX10_printAll_185 ⟨Nat.zero_le _, Nat.zero_le _⟩ (fun r7 u8 H locs hP hD hS h => ?_)
            obtain ⟨h9, h⟩ := h
            refine yR_17 E hP hD hS h9 (f := (gB u8 17)) rfl dX10_printAll_188 (fun H locs hP hD hS => ?_)
            refine lv_goto (tgt := 77) hx hb dX10_printAll_189 (by decide) ?_
            exact ih x3 r5 (0 : Int32) (sB u8 17 (vp_updL (gB u8 17) ((x3 - (1 : Int32))).toNatClampNeg r7)) _ _ _ h hP hD hS (lv_sub hl [3, 4, 0, 1] rfl)
          · have h := h.1 hc
            refine lv_iconst (v := (1 : Int32)) hx hb dX10_printAll_104 (by decide) ?_
            refine lv_goto (tgt := 109) hx hb dX10_printAll_105 (by decide) ?_
            refine lv_istore (lv' := [(7, .int (1 : Int32)), (8, .long ((gB u 17) ((x3 - (1 : Int32))).toNatClampNeg)), (0, .ref (G.1 0)), (3, .int x3), (4, .long x4)]) hx hb dX10_printAll_109 hl (by decide) rfl (fun ls hl => ?_)
            refine lv_iload hx hb dX10_printAll_111 (lv_at hl 0 rfl) ?_
            refine lv_if_eq (tgt := 161) hx hb dX10_printAll_113 (by decide) (fun hc => absurd hc (by decide)) (fun _ => ?_)
            refine lv_lload hx hb dX10_printAll_116 (lv_at hl 1 rfl) ?_
            refine lv_ldc2 (v := (4294967296 : Int64)) hx hb hown (hW _ kcX10_199) dX10_printAll_118 ?_
            refine lq_eq (tgt := 149) hx hb dX10_printAll_121 dX10_printAll_122 (by decide) (fun hc => ?_) (fun hc => ?_)
            · have h := h.1 hc
              refine lv_aload_n hx hb dX10_printAll_149 rfl (lv_at hl 2 rfl) ?_
              refine lv_bipush (v := (41 : Int32)) hx hb dX10_printAll_150 (by decide) ?_
              refine cR_v (ci := 9) (q0 := 0) (As := [.int (41 : Int32)]) (rest := []) E hml hP hD hS hA (t_X10_put l D G (41 : Int32) u _ h) kmX10_338 mwyX10_put rfl rfl ⟨⟨rfl, rfl⟩, Nat.le_of_ble_eq_true rfl, Nat.le_of_ble_eq_true rfl⟩ rfl hl.1 rfl (Nat.le_of_ble_eq_true rfl) dX10_printAll_152 ⟨Nat.zero_le _, Nat.zero_le _⟩ (fun u9 H locs hP hD hS h => ?_)
              refine lv_iinc (v := (x3 + (-1 : Int32))) (lv' := [(3, .int (x3 + (-1 : Int32))), (7, .int (1 : Int32)), (8, .long ((gB u 17) ((x3 - (1 : Int32))).toNatClampNeg)), (0, .ref (G.1 0)), (4, .long x4)]) hx hb dX10_printAll_155 hl (k := 3) rfl rfl (by decide) rfl (fun ls hl => ?_)
              refine lv_goto (tgt := 189) hx hb dX10_printAll_158 (by decide) ?_
              refine lv_goto (tgt := 77) hx hb dX10_printAll_189 (by decide) ?_
              exact ih (x3 + (-1 : Int32)) x4 (1 : Int32) u9 _ _ _ h hP hD hS (lv_sub hl [3, 0, 4, 1] rfl)
            · have h := h.2 hc
              refine lv_aload_n hx hb dX10_printAll_125 rfl (lv_at hl 2 rfl) ?_
              refine lv_bipush (v := (32 : Int32)) hx hb dX10_printAll_126 (by decide) ?_
              refine cR_v (ci := 9) (q0 := 0) (As := [.int (32 : Int32)]) (rest := []) E hml hP hD hS hA (t_X10_put l D G (32 : Int32) u _ h) kmX10_338 mwyX10_put rfl rfl ⟨⟨rfl, rfl⟩, Nat.le_of_ble_eq_true rfl, Nat.le_of_ble_eq_true rfl⟩ rfl hl.1 rfl (Nat.le_of_ble_eq_true rfl) dX10_printAll_128 ⟨Nat.zero_le _, Nat.zero_le _⟩ (fun u10 H locs hP hD hS h => ?_)
              refine lv_aload_n hx hb dX10_printAll_131 rfl (lv_at hl 2 rfl) ?_
              refine lv_bipush (v := (46 : Int32)) hx hb dX10_printAll_132 (by decide) ?_
              refine cR_v (ci := 9) (q0 := 0) (As := [.int (46 : Int32)]) (rest := []) E hml hP hD hS hA (t_X10_put l D G (46 : Int32) u10 _ h) kmX10_338 mwyX10_put rfl rfl ⟨⟨rfl, rfl⟩, Nat.le_of_ble_eq_true rfl, Nat.le_of_ble_eq_true rfl⟩ rfl hl.1 rfl (Nat.le_of_ble_eq_true rfl) dX10_printAll_134 ⟨Nat.zero_le _, Nat.zero_le _⟩ (fun u11 H locs hP hD hS h => ?_)
              refine lv_aload_n hx hb dX10_printAll_137 rfl (lv_at hl 2 rfl) ?_
              refine lv_bipush (v := (32 : Int32)) hx hb dX10_printAll_138 (by decide) ?_
              refine cR_v (ci := 9) (q0 := 0) (As := [.int (32 : Int32)]) (rest := []) E hml hP hD hS hA (t_X10_put l D G (32 : Int32) u11 _ h) kmX10_338 mwyX10_put rfl rfl ⟨⟨rfl, rfl⟩, Nat.le_of_ble_eq_true rfl, Nat.le_of_ble_eq_true rfl⟩ rfl hl.1 rfl (Nat.le_of_ble_eq_true rfl) dX10_printAll_140 ⟨Nat.zero_le _, Nat.zero_le _⟩ (fun u12 H locs hP hD hS h => ?_)
              refine lv_aload_n hx hb dX10_printAll_143 rfl (lv_at hl 2 rfl) ?_
              refine lv_lload hx hb dX10_printAll_144 (lv_at hl 1 rfl) ?_
              refine cR_v (ci := 9) (q0 := 0) (As := [.long ((gB u 17) ((x3 - (1 : Int32))).toNatClampNeg)]) (rest := []) E hml hP hD hS hA (t_X10_putAtom l D G ((gB u 17) ((x3 - (1 : Int32))).toNatClampNeg) u12 _ h) kmX10_341 mwyX10_putAtom rfl rfl ⟨⟨rfl, rfl⟩, Nat.le_of_ble_eq_true rfl, Nat.le_of_ble_eq_true rfl⟩ rfl hl.1 rfl (Nat.le_of_ble_eq_true rfl) dX10_printAll_146 ⟨Nat.zero_le _, Nat.zero_le _⟩ (fun u13 H locs hP hD hS h => ?_)
              refine lv_aload_n hx hb dX10_printAll_149 rfl (lv_at hl 2 rfl) ?_
              refine lv_bipush (v := (41 : Int32)) hx hb dX10_printAll_150 (by decide) ?_
              refine cR_v (ci := 9) (q0 := 0) (As := [.int (41 : Int32)]) (rest := []) E hml hP hD hS hA (t_X10_put l D G (41 : Int32) u13 _ h) kmX10_338 mwyX10_put rfl rfl ⟨⟨rfl, rfl⟩, Nat.le_of_ble_eq_true rfl, Nat.le_of_ble_eq_true rfl⟩ rfl hl.1 rfl (Nat.le_of_ble_eq_true rfl) dX10_printAll_152 ⟨Nat.zero_le _, Nat.zero_le _⟩ (fun u14 H locs hP hD hS h => ?_)
              refine lv_iinc (v := (x3 + (-1 : Int32))) (lv' := [(3, .int (x3 + (-1 : Int32))), (7, .int (1 : Int32)), (8, .long ((gB u 17) ((x3 - (1 : Int32))).toNatClampNeg)), (0, .ref (G.1 0)), (4, .long x4)]) hx hb dX10_printAll_155 hl (k := 3) rfl rfl (by decide) rfl (fun ls hl => ?_)
              refine lv_goto (tgt := 189) hx hb dX10_printAll_158 (by decide) ?_
              refine lv_goto (tgt := 77) hx hb dX10_printAll_189 (by decide) ?_
              exact ih (x3 + (-1 : Int32)) x4 (1 : Int32) u14 _ _ _ h hP hD hS (lv_sub hl [3, 0, 4, 1] rfl)
  have L_13 : ∀  (K : St → Prop), (∀  (u : St) (H : Heap) (locs : List Loc) (ls : Array Slot), K  u → va_P D vwCl (wR G u) H → va_D (AR G s.heap.size) (wR G u) → va_S (AR G s.heap.size) s.heap H locs → lv_has ls 10 [] → W p l e rm_X10_printAll s m args below meth c H locs 0 0 (MQ below (va_Qv Q (BR D G s.heap.size) (AR G s.heap.size)) args s 0 0 (AR G s.heap.size)) (F0 m 206 ls [])) → ∀ (n : Nat) (x3 : Int32) (x4 : Int64) (x6 : Int32) (u : St) (H : Heap) (locs : List Loc) (ls : Array Slot), l_X10_printAll_13 Q K n x3 x4 x6 u → va_P D vwCl (wR G u) H → va_D (AR G s.heap.size) (wR G u) → va_S (AR G s.heap.size) s.heap H locs → lv_has ls 10 [(0, .ref (G.1 0)), (3, .int x3), (4, .long x4), (6, .int x6)] → W p l e rm_X10_printAll s m args below meth c H locs 0 0 (MQ below (va_Qv Q (BR D G s.heap.size) (AR G s.heap.size)) args s 0 0 (AR G s.heap.size)) (F0 m 13 ls []) := by
    intro  K hK n
    induction n with
    | zero => intro x3 x4 x6 u H locs ls h; exact False.elim h
    | succ n ih =>
      intro x3 x4 x6 u H locs ls h hP hD hS hl
      unfold l_X10_printAll_13 at h
      refine lv_iload hx hb dX10_printAll_13 (lv_at hl 3 rfl) ?_
      refine lv_if_eq (tgt := 206) hx hb dX10_printAll_15 (by decide) (fun hc => ?_) (fun hc => ?_)
      · have h := h.1 hc
        exact hK u _ _ _ h hP hD hS (lv_sub hl [] rfl)
      · have h := h.2 hc
        refine lv_aload_n hx hb dX10_printAll_18 rfl (lv_at hl 0 rfl) ?_
        refine gR_12 E hP kfX10_47 (v := (gI u 12)) rfl dX10_printAll_19 ?_
        refine lv_sipush (v := (400 : Int32)) hx hb dX10_printAll_22 (by decide) ?_
        refine lv_icmp_ge (tgt := 206) hx hb dX10_printAll_25 (by decide) (fun hc => ?_) (fun hc => ?_)
        · have h := h.1 hc
          exact hK u _ _ _ h hP hD hS (lv_sub hl [] rfl)
        · have h := h.2 hc
          refine lv_lload hx hb dX10_printAll_28 (lv_at hl 2 rfl) ?_
          refine c0_i (As := [.long x4]) (rest := []) hx hb hml hown hW hP hS hA (t_X10_isPair l x4 _ h) kmX10_205 mwyX10_isPair ⟨⟨rfl, rfl⟩, Nat.le_of_ble_eq_true rfl, Nat.le_of_ble_eq_true rfl⟩ rfl hl.1 rfl (Nat.le_of_ble_eq_true rfl) dX10_printAll_30 ⟨Nat.zero_le _, Nat.zero_le _⟩ (fun r1 H locs hP hS h => ?_)
          refine lv_if_eq (tgt := 68) hx hb dX10_printAll_33 (by decide) (fun hc => ?_) (fun hc => ?_)
          · have h := h.1 hc
            refine lv_aload_n hx hb dX10_printAll_68 rfl (lv_at hl 0 rfl) ?_
            refine lv_lload hx hb dX10_printAll_69 (lv_at hl 2 rfl) ?_
            refine cR_v (ci := 9) (q0 := 0) (As := [.long x4]) (rest := []) E hml hP hD hS hA (t_X10_putAtom l D G x4 u _ h) kmX10_341 mwyX10_putAtom rfl rfl ⟨⟨rfl, rfl⟩, Nat.le_of_ble_eq_true rfl, Nat.le_of_ble_eq_true rfl⟩ rfl hl.1 rfl (Nat.le_of_ble_eq_true rfl) dX10_printAll_71 ⟨Nat.zero_le _, Nat.zero_le _⟩ (fun u2 H locs hP hD hS h => ?_)
            refine lv_iconst (v := (1 : Int32)) hx hb dX10_printAll_74 (by decide) ?_
            refine lv_istore (lv' := [(7, .int (1 : Int32)), (0, .ref (G.1 0)), (3, .int x3), (4, .long x4), (6, .int x6)]) hx hb dX10_printAll_75 hl (by decide) rfl (fun ls hl => ?_)
            obtain ⟨n, h⟩ := h
            refine L_77  _ (fun y15 y16 u17 H locs ls h hP hD hS hl => ?_) n x3 x4 (1 : Int32) u2 _ _ _ h hP hD hS (lv_sub hl [1, 2, 3, 0] rfl)
            refine lv_iload_n hx hb dX10_printAll_192 rfl (lv_at hl 1 rfl) ?_
            refine lv_if_le (tgt := 200) hx hb dX10_printAll_193 (by decide) (fun hc => ?_) (fun hc => ?_)
            · have h := h.1 hc
              refine lv_iconst (v := (0 : Int32)) hx hb dX10_printAll_200 (by decide) ?_
              refine lv_istore (lv' := [(6, .int (0 : Int32)), (0, .ref (G.1 0)), (3, .int y15), (4, .long y16)]) hx hb dX10_printAll_201 hl (by decide) rfl (fun ls hl => ?_)
              refine lv_goto (tgt := 13) hx hb dX10_printAll_203 (by decide) ?_
              exact ih y15 y16 (0 : Int32) u17 _ _ _ h hP hD hS (lv_sub hl [1, 2, 3, 0] rfl)
            · have h := h.2 hc
              refine lv_iconst (v := (1 : Int32)) hx hb dX10_printAll_196 (by decide) ?_
              refine lv_goto (tgt := 201) hx hb dX10_printAll_197 (by decide) ?_
              refine lv_istore (lv' := [(6, .int (1 : Int32)), (0, .ref (G.1 0)), (3, .int y15), (4, .long y16)]) hx hb dX10_printAll_201 hl (by decide) rfl (fun ls hl => ?_)
              refine lv_goto (tgt := 13) hx hb dX10_printAll_203 (by decide) ?_
              exact ih y15 y16 (1 : Int32) u17 _ _ _ h hP hD hS (lv_sub hl [1, 2, 3, 0] rfl)
          · have h := h.2 hc
            refine lv_aload_n hx hb dX10_printAll_36 rfl (lv_at hl 0 rfl) ?_
            refine lv_bipush (v := (40 : Int32)) hx hb dX10_printAll_37 (by decide) ?_
            refine cR_v (ci := 9) (q0 := 0) (As := [.int (40 : Int32)]) (rest := []) E hml hP hD hS hA (t_X10_put l D G (40 : Int32) u _ h) kmX10_338 mwyX10_put rfl rfl ⟨⟨rfl, rfl⟩, Nat.le_of_ble_eq_true rfl, Nat.le_of_ble_eq_true rfl⟩ rfl hl.1 rfl (Nat.le_of_ble_eq_true rfl) dX10_printAll_39 ⟨Nat.zero_le _, Nat.zero_le _⟩ (fun u19 H locs hP hD hS h => ?_)
            refine lv_aload_n hx hb dX10_printAll_42 rfl (lv_at hl 0 rfl) ?_
            refine gR_17 E hP kfX10_64 dX10_printAll_43 ?_
            refine lv_iload_n hx hb dX10_printAll_46 rfl (lv_at hl 1 rfl) ?_
            refine lv_aload_n hx hb dX10_printAll_47 rfl (lv_at hl 0 rfl) ?_
            refine lv_lload hx hb dX10_printAll_48 (lv_at hl 2 rfl) ?_
            refine cR_l (ci := 9) (q0 := 0) (As := [.long x4]) (rest := [.int x3, .ref (G.1 6)]) E hml hP hD hS hA (t_X10_behind l D G x4 u19 _ h) kmX10_216 mwyX10_behind rfl rfl ⟨⟨rfl, rfl⟩, Nat.le_of_ble_eq_true rfl, Nat.le_of_ble_eq_true rfl⟩ rfl hl.1 rfl (Nat.le_of_ble_eq_true rfl) dX10_printAll_50 ⟨Nat.zero_le _, Nat.zero_le _⟩ (fun r20 u21 H locs hP hD hS h => ?_)
            obtain ⟨h9, h⟩ := h
            refine yR_17 E hP hD hS h9 (f := (gB u21 17)) rfl dX10_printAll_53 (fun H locs hP hD hS => ?_)
            refine lv_iinc (v := (x3 + (1 : Int32))) (lv' := [(3, .int (x3 + (1 : Int32))), (0, .ref (G.1 0)), (4, .long x4), (6, .int x6)]) hx hb dX10_printAll_54 hl (k := 1) rfl rfl (by decide) rfl (fun ls hl => ?_)
            refine lv_aload_n hx hb dX10_printAll_57 rfl (lv_at hl 1 rfl) ?_
            refine lv_lload hx hb dX10_printAll_58 (lv_at hl 2 rfl) ?_
            refine cR_l (ci := 9) (q0 := 0) (As := [.long x4]) (rest := []) E hml hP hD hS hA (t_X10_first l D G x4 (sB u21 17 (vp_updL (gB u21 17) (x3).toNatClampNeg r20)) _ h) kmX10_209 mwyX10_first rfl rfl ⟨⟨rfl, rfl⟩, Nat.le_of_ble_eq_true rfl, Nat.le_of_ble_eq_true rfl⟩ rfl hl.1 rfl (Nat.le_of_ble_eq_true rfl) dX10_printAll_60 ⟨Nat.zero_le _, Nat.zero_le _⟩ (fun r22 u23 H locs hP hD hS h => ?_)
            refine lv_lstore (lv' := [(4, .long r22), (3, .int (x3 + (1 : Int32))), (0, .ref (G.1 0)), (6, .int x6)]) hx hb dX10_printAll_63 hl (by decide) rfl (fun ls hl => ?_)
            refine lv_goto (tgt := 13) hx hb dX10_printAll_65 (by decide) ?_
            exact ih (x3 + (1 : Int32)) r22 x6 u23 _ _ _ h hP hD hS (lv_sub hl [2, 1, 0, 3] rfl)
  unfold wp_X10_printAll at h
  refine lv_aload_n hx hb dX10_printAll_0 rfl (lv_at hl 0 rfl) ?_
  refine lv_iconst (v := (0 : Int32)) hx hb dX10_printAll_1 (by decide) ?_
  refine pR_12 E hP hD hS kfX10_47 dX10_printAll_2 (fun H locs hP hD hS => ?_)
  refine lv_iconst (v := (0 : Int32)) hx hb dX10_printAll_5 (by decide) ?_
  refine lv_istore_n (lv' := [(3, .int (0 : Int32)), (0, .ref (G.1 0)), (1, .long p0)]) hx hb dX10_printAll_6 rfl hl (by decide) rfl (fun ls hl => ?_)
  refine lv_lload_n hx hb dX10_printAll_7 rfl (lv_at hl 2 rfl) ?_
  refine lv_lstore (lv' := [(4, .long p0), (3, .int (0 : Int32)), (0, .ref (G.1 0)), (1, .long p0)]) hx hb dX10_printAll_8 hl (by decide) rfl (fun ls hl => ?_)
  refine lv_iconst (v := (1 : Int32)) hx hb dX10_printAll_10 (by decide) ?_
  refine lv_istore (lv' := [(6, .int (1 : Int32)), (4, .long p0), (3, .int (0 : Int32)), (0, .ref (G.1 0)), (1, .long p0)]) hx hb dX10_printAll_11 hl (by decide) rfl (fun ls hl => ?_)
  obtain ⟨n, h⟩ := h
  refine L_13  _ (fun u24 H locs ls h hP hD hS hl => ?_) n (0 : Int32) p0 (1 : Int32) (sI u 12 (0 : Int32)) _ _ _ h hP hD hS (lv_sub hl [3, 2, 1, 0] rfl)
  exact retR_v E hr hlk hP hD hS h dX10_printAll_206
def wp_X10_fails (p0 : Int32) (u : St) (Q : St → Prop) : Prop := (((gI u 8) = 0 → Q (sI u 8 p0)) ∧ (¬ (gI u 8) = 0 → Q u))
abbrev rm_X10_fails : Room := { frames := 0, cells := 0, slots := 0, locals := 0 }
set_option maxHeartbeats 4000000 in
set_option maxRecDepth 100000 in
theorem t_X10_fails (l : Launch) (D : va_G) (G : Gd) (p0 : Int32) (u : St) (Q : St → Prop) (h : wp_X10_fails p0 u Q) : MRv l D G yX10_fails cX10_fails 2 none rm_X10_fails [.ref (G.1 0), .int p0] u Q := by
  refine startR_v (by decide) ?_
  intro p e s m args below meth c E hr hlk hml hP hD hS hA
  have hx := E.1
  have hb := E.2.1
  have hown := E.2.2.1
  have hW := E.2.2.2.1
  have hl := lv_entry ([.ref (G.1 0), .int p0]) (n := 2) (Nat.le_of_ble_eq_true rfl)
  rw [lg_entry_eq]
  generalize (lg_sl ([.ref (G.1 0), .int p0]) ++ List.replicate (2 - (lg_sl ([.ref (G.1 0), .int p0])).length) Slot.unset).toArray = ls at hl ⊢
  have hl : lv_has ls 2 [(0, .ref (G.1 0)), (1, .int p0)] := hl
  unfold wp_X10_fails at h
  refine lv_aload_n hx hb dX10_fails_0 rfl (lv_at hl 0 rfl) ?_
  refine gR_8 E hP kfX10_35 (v := (gI u 8)) rfl dX10_fails_1 ?_
  refine lv_if_ne (tgt := 12) hx hb dX10_fails_4 (by decide) (fun hc => ?_) (fun hc => ?_)
  · have h := h.2 hc
    exact retR_v E hr hlk hP hD hS h dX10_fails_12
  · have h := h.1 hc
    refine lv_aload_n hx hb dX10_fails_7 rfl (lv_at hl 0 rfl) ?_
    refine lv_iload_n hx hb dX10_fails_8 rfl (lv_at hl 1 rfl) ?_
    refine pR_8 E hP hD hS kfX10_35 dX10_fails_9 (fun H locs hP hD hS => ?_)
    exact retR_v E hr hlk hP hD hS h dX10_fails_12
def wp_X10_begins  (u : St) (Q : Int32 → St → Prop) : Prop := (((gI u 9) = (gI u 3) → wp_X10_fails (8 : Int32) u (fun (u1 : St) => Q (0 : Int32) u1)) ∧ (¬ (gI u 9) = (gI u 3) → Q (1 : Int32) (sI u 9 ((gI u 9) + (1 : Int32)))))
abbrev rm_X10_begins : Room := { frames := 1, cells := 0, slots := 0, locals := 21 }
set_option maxHeartbeats 4000000 in
set_option maxRecDepth 100000 in
theorem t_X10_begins (l : Launch) (D : va_G) (G : Gd)  (u : St) (Q : Int32 → St → Prop) (h : wp_X10_begins  u Q) : MRi l D G yX10_begins cX10_begins 1 (some .boolean) rm_X10_begins [.ref (G.1 0)] u Q := by
  refine startR_i (by decide) ?_
  intro p e s m args below meth c E hr hlk hml hP hD hS hA
  have hx := E.1
  have hb := E.2.1
  have hown := E.2.2.1
  have hW := E.2.2.2.1
  have hl := lv_entry ([.ref (G.1 0)]) (n := 1) (Nat.le_of_ble_eq_true rfl)
  rw [lg_entry_eq]
  generalize (lg_sl ([.ref (G.1 0)]) ++ List.replicate (1 - (lg_sl ([.ref (G.1 0)])).length) Slot.unset).toArray = ls at hl ⊢
  have hl : lv_has ls 1 [(0, .ref (G.1 0))] := hl
  unfold wp_X10_begins at h
  refine lv_aload_n hx hb dX10_begins_0 rfl (lv_at hl 0 rfl) ?_
  refine gR_9 E hP kfX10_38 (v := (gI u 9)) rfl dX10_begins_1 ?_
  refine lv_aload_n hx hb dX10_begins_4 rfl (lv_at hl 0 rfl) ?_
  refine gR_3 E hP kfX10_19 (v := (gI u 3)) rfl dX10_begins_5 ?_
  refine lv_icmp_ne (tgt := 19) hx hb dX10_begins_8 (by decide) (fun hc => ?_) (fun hc => ?_)
  · have h := h.2 hc
    refine lv_aload_n hx hb dX10_begins_19 rfl (lv_at hl 0 rfl) ?_
    refine lv_dup hx hb dX10_begins_20 rfl ?_
    refine gR_9 E hP kfX10_38 (v := (gI u 9)) rfl dX10_begins_21 ?_
    refine lv_iconst (v := (1 : Int32)) hx hb dX10_begins_24 (by decide) ?_
    refine lv_iadd hx hb dX10_begins_25 ?_
    refine pR_9 E hP hD hS kfX10_38 dX10_begins_26 (fun H locs hP hD hS => ?_)
    refine lv_iconst (v := (1 : Int32)) hx hb dX10_begins_29 (by decide) ?_
    exact retR_z E hr hlk hP hD hS (vz_n vz_1) h dX10_begins_30
  · have h := h.1 hc
    refine lv_aload_n hx hb dX10_begins_11 rfl (lv_at hl 0 rfl) ?_
    refine lv_bipush (v := (8 : Int32)) hx hb dX10_begins_12 (by decide) ?_
    refine cR_v (ci := 9) (q0 := 0) (As := [.int (8 : Int32)]) (rest := []) E hml hP hD hS hA (t_X10_fails l D G (8 : Int32) u _ h) kmX10_265 mwyX10_fails rfl rfl ⟨⟨rfl, rfl⟩, Nat.le_of_ble_eq_true rfl, Nat.le_of_ble_eq_true rfl⟩ rfl hl.1 rfl (Nat.le_of_ble_eq_true rfl) dX10_begins_14 ⟨Nat.zero_le _, Nat.zero_le _⟩ (fun u1 H locs hP hD hS h => ?_)
    refine lv_iconst (v := (0 : Int32)) hx hb dX10_begins_17 (by decide) ?_
    exact retR_z E hr hlk hP hD hS (vz_n vz_0) h dX10_begins_18
def l_X10_listOf_6 (Q : Int32 → St → Prop) (c3 : Int32) (K : Int64 → St → Prop) : Nat → Int64 → Int32 → St → Prop
  | 0, _, _, _ => False
  | n + 1, x4, x6, u => ((c3 ≤ x6 → K x4 u) ∧ (¬ c3 ≤ x6 → wp_X10_isPair x4 (fun (r1 : Int32) => ((r1 = 0 → Q (0 : Int32) u) ∧ (¬ r1 = 0 → wp_X10_behind x4 u (fun (r2 : Int64) (u3 : St) => l_X10_listOf_6 Q c3 K n r2 (x6 + (1 : Int32)) u3))))))
def wp_X10_listOf (p0 : Int64) (p1 : Int32) (u : St) (Q : Int32 → St → Prop) : Prop := (∃ k6 : Nat, l_X10_listOf_6 Q p1 (fun (y4 : Int64) (u5 : St) => ((y4 = (4294967296 : Int64) → Q (1 : Int32) u5) ∧ (¬ y4 = (4294967296 : Int64) → Q (0 : Int32) u5))) k6 p0 (0 : Int32) u)
abbrev rm_X10_listOf : Room := { frames := 1, cells := 0, slots := 0, locals := 22 }
set_option maxHeartbeats 4000000 in
set_option maxRecDepth 100000 in
theorem t_X10_listOf (l : Launch) (D : va_G) (G : Gd) (p0 : Int64) (p1 : Int32) (u : St) (Q : Int32 → St → Prop) (h : wp_X10_listOf p0 p1 u Q) : MRi l D G yX10_listOf cX10_listOf 7 (some .boolean) rm_X10_listOf [.ref (G.1 0), .long p0, .int p1] u Q := by
  refine startR_i (by decide) ?_
  intro p e s m args below meth c E hr hlk hml hP hD hS hA
  have hx := E.1
  have hb := E.2.1
  have hown := E.2.2.1
  have hW := E.2.2.2.1
  have hl := lv_entry ([.ref (G.1 0), .long p0, .int p1]) (n := 7) (Nat.le_of_ble_eq_true rfl)
  rw [lg_entry_eq]
  generalize (lg_sl ([.ref (G.1 0), .long p0, .int p1]) ++ List.replicate (7 - (lg_sl ([.ref (G.1 0), .long p0, .int p1])).length) Slot.unset).toArray = ls at hl ⊢
  have hl : lv_has ls 7 [(0, .ref (G.1 0)), (1, .long p0), (3, .int p1)] := hl
  have L_6 : ∀ (c3 : Int32) (K : Int64 → St → Prop), (∀ (x4 : Int64) (u : St) (H : Heap) (locs : List Loc) (ls : Array Slot), K x4 u → va_P D vwCl (wR G u) H → va_D (AR G s.heap.size) (wR G u) → va_S (AR G s.heap.size) s.heap H locs → lv_has ls 7 [(4, .long x4)] → W p l e rm_X10_listOf s m args below meth c H locs 0 0 (MQ below (va_Qi Q (BR D G s.heap.size) (AR G s.heap.size)) args s 0 0 (AR G s.heap.size)) (F0 m 36 ls [])) → ∀ (n : Nat) (x4 : Int64) (x6 : Int32) (u : St) (H : Heap) (locs : List Loc) (ls : Array Slot), l_X10_listOf_6 Q c3 K n x4 x6 u → va_P D vwCl (wR G u) H → va_D (AR G s.heap.size) (wR G u) → va_S (AR G s.heap.size) s.heap H locs → lv_has ls 7 [(0, .ref (G.1 0)), (3, .int c3), (4, .long x4), (6, .int x6)] → W p l e rm_X10_listOf s m args below meth c H locs 0 0 (MQ below (va_Qi Q (BR D G s.heap.size) (AR G s.heap.size)) args s 0 0 (AR G s.heap.size)) (F0 m 6 ls []) := by
    intro c3 K hK n
    induction n with
    | zero => intro x4 x6 u H locs ls h; exact False.elim h
    | succ n ih =>
      intro x4 x6 u H locs ls h hP hD hS hl
      unfold l_X10_listOf_6 at h
      refine lv_iload hx hb dX10_listOf_6 (lv_at hl 3 rfl) ?_
      refine lv_iload_n hx hb dX10_listOf_8 rfl (lv_at hl 1 rfl) ?_
      refine lv_icmp_ge (tgt := 36) hx hb dX10_listOf_9 (by decide) (fun hc => ?_) (fun hc => ?_)
      · have h := h.1 hc
        exact hK x4 u _ _ _ h hP hD hS (lv_sub hl [2] rfl)
      · have h := h.2 hc
        refine lv_lload hx hb dX10_listOf_12 (lv_at hl 2 rfl) ?_
        refine c0_i (As := [.long x4]) (rest := []) hx hb hml hown hW hP hS hA (t_X10_isPair l x4 _ h) kmX10_205 mwyX10_isPair ⟨⟨rfl, rfl⟩, Nat.le_of_ble_eq_true rfl, Nat.le_of_ble_eq_true rfl⟩ rfl hl.1 rfl (Nat.le_of_ble_eq_true rfl) dX10_listOf_14 ⟨Nat.zero_le _, Nat.zero_le _⟩ (fun r1 H locs hP hS h => ?_)
        refine lv_if_ne (tgt := 22) hx hb dX10_listOf_17 (by decide) (fun hc => ?_) (fun hc => ?_)
        · have h := h.2 hc
          refine lv_aload_n hx hb dX10_listOf_22 rfl (lv_at hl 0 rfl) ?_
          refine lv_lload hx hb dX10_listOf_23 (lv_at hl 2 rfl) ?_
          refine cR_l (ci := 9) (q0 := 0) (As := [.long x4]) (rest := []) E hml hP hD hS hA (t_X10_behind l D G x4 u _ h) kmX10_216 mwyX10_behind rfl rfl ⟨⟨rfl, rfl⟩, Nat.le_of_ble_eq_true rfl, Nat.le_of_ble_eq_true rfl⟩ rfl hl.1 rfl (Nat.le_of_ble_eq_true rfl) dX10_listOf_25 ⟨Nat.zero_le _, Nat.zero_le _⟩ (fun r2 u3 H locs hP hD hS h => ?_)
          refine lv_lstore (lv' := [(4, .long r2), (0, .ref (G.1 0)), (3, .int c3), (6, .int x6)]) hx hb dX10_listOf_28 hl (by decide) rfl (fun ls hl => ?_)
          refine lv_iinc (v := (x6 + (1 : Int32))) (lv' := [(6, .int (x6 + (1 : Int32))), (4, .long r2), (0, .ref (G.1 0)), (3, .int c3)]) hx hb dX10_listOf_30 hl (k := 3) rfl rfl (by decide) rfl (fun ls hl => ?_)
          refine lv_goto (tgt := 6) hx hb dX10_listOf_33 (by decide) ?_
          exact ih r2 (x6 + (1 : Int32)) u3 _ _ _ h hP hD hS (lv_sub hl [2, 3, 1, 0] rfl)
        · have h := h.1 hc
          refine lv_iconst (v := (0 : Int32)) hx hb dX10_listOf_20 (by decide) ?_
          exact retR_z E hr hlk hP hD hS (vz_n vz_0) h dX10_listOf_21
  unfold wp_X10_listOf at h
  refine lv_lload_n hx hb dX10_listOf_0 rfl (lv_at hl 1 rfl) ?_
  refine lv_lstore (lv' := [(4, .long p0), (0, .ref (G.1 0)), (1, .long p0), (3, .int p1)]) hx hb dX10_listOf_1 hl (by decide) rfl (fun ls hl => ?_)
  refine lv_iconst (v := (0 : Int32)) hx hb dX10_listOf_3 (by decide) ?_
  refine lv_istore (lv' := [(6, .int (0 : Int32)), (4, .long p0), (0, .ref (G.1 0)), (1, .long p0), (3, .int p1)]) hx hb dX10_listOf_4 hl (by decide) rfl (fun ls hl => ?_)
  obtain ⟨n, h⟩ := h
  refine L_6 p1 _ (fun y4 u5 H locs ls h hP hD hS hl => ?_) n p0 (0 : Int32) u _ _ _ h hP hD hS (lv_sub hl [2, 4, 1, 0] rfl)
  refine lv_lload hx hb dX10_listOf_36 (lv_at hl 0 rfl) ?_
  refine lv_ldc2 (v := (4294967296 : Int64)) hx hb hown (hW _ kcX10_199) dX10_listOf_38 ?_
  refine lq_ne (tgt := 49) hx hb dX10_listOf_41 dX10_listOf_42 (by decide) (fun hc => ?_) (fun hc => ?_)
  · have h := h.2 hc
    refine lv_iconst (v := (0 : Int32)) hx hb dX10_listOf_49 (by decide) ?_
    exact retR_z E hr hlk hP hD hS (vz_n vz_0) h dX10_listOf_50
  · have h := h.1 hc
    refine lv_iconst (v := (1 : Int32)) hx hb dX10_listOf_45 (by decide) ?_
    refine lv_goto (tgt := 50) hx hb dX10_listOf_46 (by decide) ?_
    exact retR_z E hr hlk hP hD hS (vz_n vz_1) h dX10_listOf_50
def wp_X10_waits (p0 : Int32) (p1 : Int64) (p2 : Int64) (u : St) (Q : Int32 → St → Prop) : Prop := (((gI u 32) = (gI u 2) → wp_X10_fails (7 : Int32) u (fun (u1 : St) => Q (0 : Int32) u1)) ∧ (¬ (gI u 32) = (gI u 2) → vp_in (gI u 32) 200 ∧ vp_in (gI u 32) 200 ∧ vp_in (gI u 32) 200 ∧ vp_in (gI u 32) 200 ∧ vp_in (gI u 32) 200 ∧ ((((gI u 32) + (1 : Int32)) ≤ (gI u 10) → Q (1 : Int32) (sI (sA (sB (sB (sB (sA u 33 (upd (gA u 33) ((gI u 32)).toNatClampNeg p0)) 34 (vp_updL (gB u 34) ((gI u 32)).toNatClampNeg p1)) 35 (vp_updL (gB u 35) ((gI u 32)).toNatClampNeg p2)) 36 (vp_updL (gB u 36) ((gI u 32)).toNatClampNeg (gJ u 41))) 37 (upd (gA u 37) ((gI u 32)).toNatClampNeg (0 : Int32))) 32 ((gI u 32) + (1 : Int32)))) ∧ (¬ ((gI u 32) + (1 : Int32)) ≤ (gI u 10) → Q (1 : Int32) (sI (sI (sA (sB (sB (sB (sA u 33 (upd (gA u 33) ((gI u 32)).toNatClampNeg p0)) 34 (vp_updL (gB u 34) ((gI u 32)).toNatClampNeg p1)) 35 (vp_updL (gB u 35) ((gI u 32)).toNatClampNeg p2)) 36 (vp_updL (gB u 36) ((gI u 32)).toNatClampNeg (gJ u 41))) 37 (upd (gA u 37) ((gI u 32)).toNatClampNeg (0 : Int32))) 32 ((gI u 32) + (1 : Int32))) 10 ((gI u 32) + (1 : Int32)))))))
abbrev rm_X10_waits : Room := { frames := 1, cells := 0, slots := 0, locals := 21 }
set_option maxHeartbeats 4000000 in
set_option maxRecDepth 100000 in
theorem t_X10_waits (l : Launch) (D : va_G) (G : Gd) (p0 : Int32) (p1 : Int64) (p2 : Int64) (u : St) (Q : Int32 → St → Prop) (h : wp_X10_waits p0 p1 p2 u Q) : MRi l D G yX10_waits cX10_waits 6 (some .boolean) rm_X10_waits [.ref (G.1 0), .int p0, .long p1, .long p2] u Q := by
  refine startR_i (by decide) ?_
  intro p e s m args below meth c E hr hlk hml hP hD hS hA
  have hx := E.1
  have hb := E.2.1
  have hown := E.2.2.1
  have hW := E.2.2.2.1
  have hl := lv_entry ([.ref (G.1 0), .int p0, .long p1, .long p2]) (n := 6) (Nat.le_of_ble_eq_true rfl)
  rw [lg_entry_eq]
  generalize (lg_sl ([.ref (G.1 0), .int p0, .long p1, .long p2]) ++ List.replicate (6 - (lg_sl ([.ref (G.1 0), .int p0, .long p1, .long p2])).length) Slot.unset).toArray = ls at hl ⊢
  have hl : lv_has ls 6 [(0, .ref (G.1 0)), (1, .int p0), (2, .long p1), (4, .long p2)] := hl
  unfold wp_X10_waits at h
  refine lv_aload_n hx hb dX10_waits_0 rfl (lv_at hl 0 rfl) ?_
  refine gR_32 E hP kfX10_111 (v := (gI u 32)) rfl dX10_waits_1 ?_
  refine lv_aload_n hx hb dX10_waits_4 rfl (lv_at hl 0 rfl) ?_
  refine gR_2 E hP kfX10_16 (v := (gI u 2)) rfl dX10_waits_5 ?_
  refine lv_icmp_ne (tgt := 19) hx hb dX10_waits_8 (by decide) (fun hc => ?_) (fun hc => ?_)
  · have h := h.2 hc
    refine lv_aload_n hx hb dX10_waits_19 rfl (lv_at hl 0 rfl) ?_
    refine gR_33 E hP kfX10_114 dX10_waits_20 ?_
    refine lv_aload_n hx hb dX10_waits_23 rfl (lv_at hl 0 rfl) ?_
    refine gR_32 E hP kfX10_111 (v := (gI u 32)) rfl dX10_waits_24 ?_
    refine lv_iload_n hx hb dX10_waits_27 rfl (lv_at hl 1 rfl) ?_
    obtain ⟨h9, h⟩ := h
    refine yR_33 E hP hD hS h9 (f := (gA u 33)) rfl dX10_waits_28 (fun H locs hP hD hS => ?_)
    refine lv_aload_n hx hb dX10_waits_29 rfl (lv_at hl 0 rfl) ?_
    refine gR_34 E hP kfX10_117 dX10_waits_30 ?_
    refine lv_aload_n hx hb dX10_waits_33 rfl (lv_at hl 0 rfl) ?_
    refine gR_32 E hP kfX10_111 (v := (gI u 32)) rfl dX10_waits_34 ?_
    refine lv_lload_n hx hb dX10_waits_37 rfl (lv_at hl 2 rfl) ?_
    obtain ⟨h9, h⟩ := h
    refine yR_34 E hP hD hS h9 (f := (gB u 34)) rfl dX10_waits_38 (fun H locs hP hD hS => ?_)
    refine lv_aload_n hx hb dX10_waits_39 rfl (lv_at hl 0 rfl) ?_
    refine gR_35 E hP kfX10_120 dX10_waits_40 ?_
    refine lv_aload_n hx hb dX10_waits_43 rfl (lv_at hl 0 rfl) ?_
    refine gR_32 E hP kfX10_111 (v := (gI u 32)) rfl dX10_waits_44 ?_
    refine lv_lload hx hb dX10_waits_47 (lv_at hl 3 rfl) ?_
    obtain ⟨h9, h⟩ := h
    refine yR_35 E hP hD hS h9 (f := (gB u 35)) rfl dX10_waits_49 (fun H locs hP hD hS => ?_)
    refine lv_aload_n hx hb dX10_waits_50 rfl (lv_at hl 0 rfl) ?_
    refine gR_36 E hP kfX10_123 dX10_waits_51 ?_
    refine lv_aload_n hx hb dX10_waits_54 rfl (lv_at hl 0 rfl) ?_
    refine gR_32 E hP kfX10_111 (v := (gI u 32)) rfl dX10_waits_55 ?_
    refine lv_aload_n hx hb dX10_waits_58 rfl (lv_at hl 0 rfl) ?_
    refine gR_41 E hP kfX10_138 (v := (gJ u 41)) rfl dX10_waits_59 ?_
    obtain ⟨h9, h⟩ := h
    refine yR_36 E hP hD hS h9 (f := (gB u 36)) rfl dX10_waits_62 (fun H locs hP hD hS => ?_)
    refine lv_aload_n hx hb dX10_waits_63 rfl (lv_at hl 0 rfl) ?_
    refine gR_37 E hP kfX10_126 dX10_waits_64 ?_
    refine lv_aload_n hx hb dX10_waits_67 rfl (lv_at hl 0 rfl) ?_
    refine gR_32 E hP kfX10_111 (v := (gI u 32)) rfl dX10_waits_68 ?_
    refine lv_iconst (v := (0 : Int32)) hx hb dX10_waits_71 (by decide) ?_
    obtain ⟨h9, h⟩ := h
    refine yR_37 E hP hD hS h9 (f := (gA u 37)) rfl dX10_waits_72 (fun H locs hP hD hS => ?_)
    refine lv_aload_n hx hb dX10_waits_73 rfl (lv_at hl 0 rfl) ?_
    refine lv_dup hx hb dX10_waits_74 rfl ?_
    refine gR_32 E hP kfX10_111 (v := (gI u 32)) rfl dX10_waits_75 ?_
    refine lv_iconst (v := (1 : Int32)) hx hb dX10_waits_78 (by decide) ?_
    refine lv_iadd hx hb dX10_waits_79 ?_
    refine pR_32 E hP hD hS kfX10_111 dX10_waits_80 (fun H locs hP hD hS => ?_)
    refine lv_aload_n hx hb dX10_waits_83 rfl (lv_at hl 0 rfl) ?_
    refine gR_32 E hP kfX10_111 (v := ((gI u 32) + (1 : Int32))) rfl dX10_waits_84 ?_
    refine lv_aload_n hx hb dX10_waits_87 rfl (lv_at hl 0 rfl) ?_
    refine gR_10 E hP kfX10_41 (v := (gI u 10)) rfl dX10_waits_88 ?_
    refine lv_icmp_le (tgt := 102) hx hb dX10_waits_91 (by decide) (fun hc => ?_) (fun hc => ?_)
    · have h := h.1 hc
      refine lv_iconst (v := (1 : Int32)) hx hb dX10_waits_102 (by decide) ?_
      exact retR_z E hr hlk hP hD hS (vz_n vz_1) h dX10_waits_103
    · have h := h.2 hc
      refine lv_aload_n hx hb dX10_waits_94 rfl (lv_at hl 0 rfl) ?_
      refine lv_aload_n hx hb dX10_waits_95 rfl (lv_at hl 0 rfl) ?_
      refine gR_32 E hP kfX10_111 (v := ((gI u 32) + (1 : Int32))) rfl dX10_waits_96 ?_
      refine pR_10 E hP hD hS kfX10_41 dX10_waits_99 (fun H locs hP hD hS => ?_)
      refine lv_iconst (v := (1 : Int32)) hx hb dX10_waits_102 (by decide) ?_
      exact retR_z E hr hlk hP hD hS (vz_n vz_1) h dX10_waits_103
  · have h := h.1 hc
    refine lv_aload_n hx hb dX10_waits_11 rfl (lv_at hl 0 rfl) ?_
    refine lv_bipush (v := (7 : Int32)) hx hb dX10_waits_12 (by decide) ?_
    refine cR_v (ci := 9) (q0 := 0) (As := [.int (7 : Int32)]) (rest := []) E hml hP hD hS hA (t_X10_fails l D G (7 : Int32) u _ h) kmX10_265 mwyX10_fails rfl rfl ⟨⟨rfl, rfl⟩, Nat.le_of_ble_eq_true rfl, Nat.le_of_ble_eq_true rfl⟩ rfl hl.1 rfl (Nat.le_of_ble_eq_true rfl) dX10_waits_14 ⟨Nat.zero_le _, Nat.zero_le _⟩ (fun u1 H locs hP hD hS h => ?_)
    refine lv_iconst (v := (0 : Int32)) hx hb dX10_waits_17 (by decide) ?_
    exact retR_z E hr hlk hP hD hS (vz_n vz_0) h dX10_waits_18
def wp_X10_condition (p0 : Int64) (u : St) (Q : St → Prop) : Prop := ((p0 = (4294967296 : Int64) → wp_X10_fails (5 : Int32) u (fun (u14 : St) => Q u14)) ∧ (¬ p0 = (4294967296 : Int64) → wp_X10_isPair p0 (fun (r1 : Int32) => ((r1 = 0 → wp_X10_fails (3 : Int32) u (fun (u2 : St) => Q u2)) ∧ (¬ r1 = 0 → wp_X10_first p0 u (fun (r3 : Int64) (u4 : St) => wp_X10_listOf r3 (2 : Int32) u4 (fun (r5 : Int32) (u6 : St) => ((r5 = 0 → wp_X10_fails (3 : Int32) u6 (fun (u13 : St) => Q u13)) ∧ (¬ r5 = 0 → wp_X10_waits (1 : Int32) (4294967296 : Int64) p0 u6 (fun (r7 : Int32) (u8 : St) => ((r7 = 0 → Q u8) ∧ (¬ r7 = 0 → wp_X10_first p0 (sI u8 39 (0 : Int32)) (fun (r9 : Int64) (u10 : St) => wp_X10_first r9 u10 (fun (r11 : Int64) (u12 : St) => Q (sJ u12 40 r11)))))))))))))))
abbrev rm_X10_condition : Room := { frames := 2, cells := 0, slots := 0, locals := 48 }
set_option maxHeartbeats 4000000 in
set_option maxRecDepth 100000 in
theorem t_X10_condition (l : Launch) (D : va_G) (G : Gd) (p0 : Int64) (u : St) (Q : St → Prop) (h : wp_X10_condition p0 u Q) : MRv l D G yX10_condition cX10_condition 3 none rm_X10_condition [.ref (G.1 0), .long p0] u Q := by
  refine startR_v (by decide) ?_
  intro p e s m args below meth c E hr hlk hml hP hD hS hA
  have hx := E.1
  have hb := E.2.1
  have hown := E.2.2.1
  have hW := E.2.2.2.1
  have hl := lv_entry ([.ref (G.1 0), .long p0]) (n := 3) (Nat.le_of_ble_eq_true rfl)
  rw [lg_entry_eq]
  generalize (lg_sl ([.ref (G.1 0), .long p0]) ++ List.replicate (3 - (lg_sl ([.ref (G.1 0), .long p0])).length) Slot.unset).toArray = ls at hl ⊢
  have hl : lv_has ls 3 [(0, .ref (G.1 0)), (1, .long p0)] := hl
  unfold wp_X10_condition at h
  refine lv_lload_n hx hb dX10_condition_0 rfl (lv_at hl 1 rfl) ?_
  refine lv_ldc2 (v := (4294967296 : Int64)) hx hb hown (hW _ kcX10_199) dX10_condition_1 ?_
  refine lq_ne (tgt := 16) hx hb dX10_condition_4 dX10_condition_5 (by decide) (fun hc => ?_) (fun hc => ?_)
  · have h := h.2 hc
    refine lv_lload_n hx hb dX10_condition_16 rfl (lv_at hl 1 rfl) ?_
    refine c0_i (As := [.long p0]) (rest := []) hx hb hml hown hW hP hS hA (t_X10_isPair l p0 _ h) kmX10_205 mwyX10_isPair ⟨⟨rfl, rfl⟩, Nat.le_of_ble_eq_true rfl, Nat.le_of_ble_eq_true rfl⟩ rfl hl.1 rfl (Nat.le_of_ble_eq_true rfl) dX10_condition_17 ⟨Nat.zero_le _, Nat.zero_le _⟩ (fun r1 H locs hP hS h => ?_)
    refine lv_if_eq (tgt := 36) hx hb dX10_condition_20 (by decide) (fun hc => ?_) (fun hc => ?_)
    · have h := h.1 hc
      refine lv_aload_n hx hb dX10_condition_36 rfl (lv_at hl 0 rfl) ?_
      refine lv_iconst (v := (3 : Int32)) hx hb dX10_condition_37 (by decide) ?_
      refine cR_v (ci := 9) (q0 := 0) (As := [.int (3 : Int32)]) (rest := []) E hml hP hD hS hA (t_X10_fails l D G (3 : Int32) u _ h) kmX10_265 mwyX10_fails rfl rfl ⟨⟨rfl, rfl⟩, Nat.le_of_ble_eq_true rfl, Nat.le_of_ble_eq_true rfl⟩ rfl hl.1 rfl (Nat.le_of_ble_eq_true rfl) dX10_condition_38 ⟨Nat.zero_le _, Nat.zero_le _⟩ (fun u2 H locs hP hD hS h => ?_)
      refine lv_goto (tgt := 74) hx hb dX10_condition_41 (by decide) ?_
      exact retR_v E hr hlk hP hD hS h dX10_condition_74
    · have h := h.2 hc
      refine lv_aload_n hx hb dX10_condition_23 rfl (lv_at hl 0 rfl) ?_
      refine lv_aload_n hx hb dX10_condition_24 rfl (lv_at hl 0 rfl) ?_
      refine lv_lload_n hx hb dX10_condition_25 rfl (lv_at hl 1 rfl) ?_
      refine cR_l (ci := 9) (q0 := 0) (As := [.long p0]) (rest := [.ref (G.1 0)]) E hml hP hD hS hA (t_X10_first l D G p0 u _ h) kmX10_209 mwyX10_first rfl rfl ⟨⟨rfl, rfl⟩, Nat.le_of_ble_eq_true rfl, Nat.le_of_ble_eq_true rfl⟩ rfl hl.1 rfl (Nat.le_of_ble_eq_true rfl) dX10_condition_26 ⟨Nat.zero_le _, Nat.zero_le _⟩ (fun r3 u4 H locs hP hD hS h => ?_)
      refine lv_iconst (v := (2 : Int32)) hx hb dX10_condition_29 (by decide) ?_
      refine cR_i (ci := 9) (q0 := 0) (As := [.long r3, .int (2 : Int32)]) (rest := []) E hml hP hD hS hA (t_X10_listOf l D G r3 (2 : Int32) u4 _ h) kmX10_269 mwyX10_listOf rfl rfl ⟨⟨rfl, rfl⟩, Nat.le_of_ble_eq_true rfl, Nat.le_of_ble_eq_true rfl⟩ rfl hl.1 rfl (Nat.le_of_ble_eq_true rfl) dX10_condition_30 ⟨Nat.zero_le _, Nat.zero_le _⟩ (fun r5 u6 H locs hP hD hS h => ?_)
      refine lv_if_ne (tgt := 44) hx hb dX10_condition_33 (by decide) (fun hc => ?_) (fun hc => ?_)
      · have h := h.2 hc
        refine lv_aload_n hx hb dX10_condition_44 rfl (lv_at hl 0 rfl) ?_
        refine lv_iconst (v := (1 : Int32)) hx hb dX10_condition_45 (by decide) ?_
        refine lv_ldc2 (v := (4294967296 : Int64)) hx hb hown (hW _ kcX10_199) dX10_condition_46 ?_
        refine lv_lload_n hx hb dX10_condition_49 rfl (lv_at hl 1 rfl) ?_
        refine cR_i (ci := 9) (q0 := 0) (As := [.int (1 : Int32), .long (4294967296 : Int64), .long p0]) (rest := []) E hml hP hD hS hA (t_X10_waits l D G (1 : Int32) (4294967296 : Int64) p0 u6 _ h) kmX10_273 mwyX10_waits rfl rfl ⟨⟨rfl, rfl⟩, Nat.le_of_ble_eq_true rfl, Nat.le_of_ble_eq_true rfl⟩ rfl hl.1 rfl (Nat.le_of_ble_eq_true rfl) dX10_condition_50 ⟨Nat.zero_le _, Nat.zero_le _⟩ (fun r7 u8 H locs hP hD hS h => ?_)
        refine lv_if_eq (tgt := 74) hx hb dX10_condition_53 (by decide) (fun hc => ?_) (fun hc => ?_)
        · have h := h.1 hc
          exact retR_v E hr hlk hP hD hS h dX10_condition_74
        · have h := h.2 hc
          refine lv_aload_n hx hb dX10_condition_56 rfl (lv_at hl 0 rfl) ?_
          refine lv_iconst (v := (0 : Int32)) hx hb dX10_condition_57 (by decide) ?_
          refine pR_39 E hP hD hS kfX10_132 dX10_condition_58 (fun H locs hP hD hS => ?_)
          refine lv_aload_n hx hb dX10_condition_61 rfl (lv_at hl 0 rfl) ?_
          refine lv_aload_n hx hb dX10_condition_62 rfl (lv_at hl 0 rfl) ?_
          refine lv_aload_n hx hb dX10_condition_63 rfl (lv_at hl 0 rfl) ?_
          refine lv_lload_n hx hb dX10_condition_64 rfl (lv_at hl 1 rfl) ?_
          refine cR_l (ci := 9) (q0 := 0) (As := [.long p0]) (rest := [.ref (G.1 0), .ref (G.1 0)]) E hml hP hD hS hA (t_X10_first l D G p0 (sI u8 39 (0 : Int32)) _ h) kmX10_209 mwyX10_first rfl rfl ⟨⟨rfl, rfl⟩, Nat.le_of_ble_eq_true rfl, Nat.le_of_ble_eq_true rfl⟩ rfl hl.1 rfl (Nat.le_of_ble_eq_true rfl) dX10_condition_65 ⟨Nat.zero_le _, Nat.zero_le _⟩ (fun r9 u10 H locs hP hD hS h => ?_)
          refine cR_l (ci := 9) (q0 := 0) (As := [.long r9]) (rest := [.ref (G.1 0)]) E hml hP hD hS hA (t_X10_first l D G r9 u10 _ h) kmX10_209 mwyX10_first rfl rfl ⟨⟨rfl, rfl⟩, Nat.le_of_ble_eq_true rfl, Nat.le_of_ble_eq_true rfl⟩ rfl hl.1 rfl (Nat.le_of_ble_eq_true rfl) dX10_condition_68 ⟨Nat.zero_le _, Nat.zero_le _⟩ (fun r11 u12 H locs hP hD hS h => ?_)
          refine pR_40 E hP hD hS kfX10_135 dX10_condition_71 (fun H locs hP hD hS => ?_)
          exact retR_v E hr hlk hP hD hS h dX10_condition_74
      · have h := h.1 hc
        refine lv_aload_n hx hb dX10_condition_36 rfl (lv_at hl 0 rfl) ?_
        refine lv_iconst (v := (3 : Int32)) hx hb dX10_condition_37 (by decide) ?_
        refine cR_v (ci := 9) (q0 := 0) (As := [.int (3 : Int32)]) (rest := []) E hml hP hD hS hA (t_X10_fails l D G (3 : Int32) u6 _ h) kmX10_265 mwyX10_fails rfl rfl ⟨⟨rfl, rfl⟩, Nat.le_of_ble_eq_true rfl, Nat.le_of_ble_eq_true rfl⟩ rfl hl.1 rfl (Nat.le_of_ble_eq_true rfl) dX10_condition_38 ⟨Nat.zero_le _, Nat.zero_le _⟩ (fun u13 H locs hP hD hS h => ?_)
        refine lv_goto (tgt := 74) hx hb dX10_condition_41 (by decide) ?_
        exact retR_v E hr hlk hP hD hS h dX10_condition_74
  · have h := h.1 hc
    refine lv_aload_n hx hb dX10_condition_8 rfl (lv_at hl 0 rfl) ?_
    refine lv_iconst (v := (5 : Int32)) hx hb dX10_condition_9 (by decide) ?_
    refine cR_v (ci := 9) (q0 := 0) (As := [.int (5 : Int32)]) (rest := []) E hml hP hD hS hA (t_X10_fails l D G (5 : Int32) u _ h) kmX10_265 mwyX10_fails rfl rfl ⟨⟨rfl, rfl⟩, Nat.le_of_ble_eq_true rfl, Nat.le_of_ble_eq_true rfl⟩ rfl hl.1 rfl (Nat.le_of_ble_eq_true rfl) dX10_condition_10 ⟨Nat.zero_le _, Nat.zero_le _⟩ (fun u14 H locs hP hD hS h => ?_)
    refine lv_goto (tgt := 74) hx hb dX10_condition_13 (by decide) ?_
    exact retR_v E hr hlk hP hD hS h dX10_condition_74
def l_X10_back_240 (Q : St → Prop) (c1 : Int32) (K : St → Prop) : Nat → Int32 → St → Prop
  | 0, _, _ => False
  | n + 1, x2, u => (((gI u 43) ≤ x2 → K u) ∧ (¬ (gI u 43) ≤ x2 → vp_in (((8 : Int32) * c1) + x2) 1600 ∧ vp_in x2 8 ∧ l_X10_back_240 Q c1 K n (x2 + (1 : Int32)) (sB u 42 (vp_updL (gB u 42) (x2).toNatClampNeg ((gB u 38) ((((8 : Int32) * c1) + x2)).toNatClampNeg)))))
def l_X10_back_134 (Q : St → Prop) (c1 : Int32) (K : St → Prop) : Nat → Int32 → St → Prop
  | 0, _, _ => False
  | n + 1, x2, u => (((gI u 43) ≤ x2 → K u) ∧ (¬ (gI u 43) ≤ x2 → vp_in (((8 : Int32) * c1) + x2) 1600 ∧ vp_in x2 8 ∧ l_X10_back_134 Q c1 K n (x2 + (1 : Int32)) (sB u 42 (vp_updL (gB u 42) (x2).toNatClampNeg ((gB u 38) ((((8 : Int32) * c1) + x2)).toNatClampNeg)))))
def wp_X10_back  (u : St) (Q : St → Prop) : Prop := vp_in ((gI u 32) - (1 : Int32)) 200 ∧ vp_in ((gI u 32) - (1 : Int32)) 200 ∧ ((((gA u 33) (((gI u 32) - (1 : Int32))).toNatClampNeg) = (1 : Int32) → vp_in ((gI u 32) - (1 : Int32)) 200 ∧ wp_X10_first ((gB u 35) (((gI u 32) - (1 : Int32))).toNatClampNeg) (sI (sJ u 41 ((gB u 36) (((gI u 32) - (1 : Int32))).toNatClampNeg)) 32 ((gI u 32) - (1 : Int32))) (fun (r12 : Int64) (u13 : St) => (((gJ u13 40) = (4294967296 : Int64) → wp_X10_begins  (sI u13 39 (0 : Int32)) (fun (r14 : Int32) (u15 : St) => ((r14 = 0 → Q u15) ∧ (¬ r14 = 0 → vp_in ((gI u 32) - (1 : Int32)) 200 ∧ wp_X10_behind ((gB u15 35) (((gI u 32) - (1 : Int32))).toNatClampNeg) u15 (fun (r16 : Int64) (u17 : St) => wp_X10_condition r16 u17 (fun (u18 : St) => Q u18)))))) ∧ (¬ (gJ u13 40) = (4294967296 : Int64) → wp_X10_behind r12 (sI u13 39 (0 : Int32)) (fun (r19 : Int64) (u20 : St) => wp_X10_first r19 u20 (fun (r21 : Int64) (u22 : St) => Q (sJ u22 40 r21))))))) ∧ (¬ ((gA u 33) (((gI u 32) - (1 : Int32))).toNatClampNeg) = (1 : Int32) → vp_in ((gI u 32) - (1 : Int32)) 200 ∧ ((((gA u 33) (((gI u 32) - (1 : Int32))).toNatClampNeg) = (2 : Int32) → vp_in ((gI u 32) - (1 : Int32)) 200 ∧ (∃ k11 : Nat, l_X10_back_134 Q ((gI u 32) - (1 : Int32)) (fun (u10 : St) => Q (sI u10 39 (1 : Int32))) k11 (0 : Int32) (sI (sI (sJ u 41 ((gB u 36) (((gI u 32) - (1 : Int32))).toNatClampNeg)) 32 ((gI u 32) - (1 : Int32))) 43 ((gA u 37) (((gI u 32) - (1 : Int32))).toNatClampNeg)))) ∧ (¬ ((gA u 33) (((gI u 32) - (1 : Int32))).toNatClampNeg) = (2 : Int32) → vp_in ((gI u 32) - (1 : Int32)) 200 ∧ vp_in (((8 : Int32) * ((gI u 32) - (1 : Int32))) + ((gA u 37) (((gI u 32) - (1 : Int32))).toNatClampNeg)) 1600 ∧ vp_in ((gI u 32) - (1 : Int32)) 200 ∧ vp_in ((gI u 32) - (1 : Int32)) 200 ∧ vp_in ((gI u 32) - (1 : Int32)) 200 ∧ ((((gB u 35) (((gI u 32) - (1 : Int32))).toNatClampNeg) = (4294967296 : Int64) → vp_in ((gI u 32) - (1 : Int32)) 200 ∧ (∃ k9 : Nat, l_X10_back_240 Q ((gI u 32) - (1 : Int32)) (fun (u8 : St) => vp_in ((gI u 32) - (1 : Int32)) 200 ∧ Q (sJ (sI u8 39 (1 : Int32)) 40 ((gB u8 34) (((gI u 32) - (1 : Int32))).toNatClampNeg))) k9 (0 : Int32) (sI (sI (sA (sB (sJ u 41 ((gB u 36) (((gI u 32) - (1 : Int32))).toNatClampNeg)) 38 (vp_updL (gB u 38) ((((8 : Int32) * ((gI u 32) - (1 : Int32))) + ((gA u 37) (((gI u 32) - (1 : Int32))).toNatClampNeg))).toNatClampNeg (gJ u 40))) 37 (upd (gA u 37) (((gI u 32) - (1 : Int32))).toNatClampNeg (((gA u 37) (((gI u 32) - (1 : Int32))).toNatClampNeg) + (1 : Int32)))) 32 ((gI u 32) - (1 : Int32))) 43 ((upd (gA u 37) (((gI u 32) - (1 : Int32))).toNatClampNeg (((gA u 37) (((gI u 32) - (1 : Int32))).toNatClampNeg) + (1 : Int32))) (((gI u 32) - (1 : Int32))).toNatClampNeg)))) ∧ (¬ ((gB u 35) (((gI u 32) - (1 : Int32))).toNatClampNeg) = (4294967296 : Int64) → vp_in ((gI u 32) - (1 : Int32)) 200 ∧ wp_X10_isPair ((gB u 35) (((gI u 32) - (1 : Int32))).toNatClampNeg) (fun (r1 : Int32) => ((r1 = 0 → wp_X10_fails (3 : Int32) (sA (sB (sJ u 41 ((gB u 36) (((gI u 32) - (1 : Int32))).toNatClampNeg)) 38 (vp_updL (gB u 38) ((((8 : Int32) * ((gI u 32) - (1 : Int32))) + ((gA u 37) (((gI u 32) - (1 : Int32))).toNatClampNeg))).toNatClampNeg (gJ u 40))) 37 (upd (gA u 37) (((gI u 32) - (1 : Int32))).toNatClampNeg (((gA u 37) (((gI u 32) - (1 : Int32))).toNatClampNeg) + (1 : Int32)))) (fun (u2 : St) => Q u2)) ∧ (¬ r1 = 0 → vp_in ((gI u 32) - (1 : Int32)) 200 ∧ ((((upd (gA u 37) (((gI u 32) - (1 : Int32))).toNatClampNeg (((gA u 37) (((gI u 32) - (1 : Int32))).toNatClampNeg) + (1 : Int32))) (((gI u 32) - (1 : Int32))).toNatClampNeg) = (8 : Int32) → wp_X10_fails (3 : Int32) (sA (sB (sJ u 41 ((gB u 36) (((gI u 32) - (1 : Int32))).toNatClampNeg)) 38 (vp_updL (gB u 38) ((((8 : Int32) * ((gI u 32) - (1 : Int32))) + ((gA u 37) (((gI u 32) - (1 : Int32))).toNatClampNeg))).toNatClampNeg (gJ u 40))) 37 (upd (gA u 37) (((gI u 32) - (1 : Int32))).toNatClampNeg (((gA u 37) (((gI u 32) - (1 : Int32))).toNatClampNeg) + (1 : Int32)))) (fun (u7 : St) => Q u7)) ∧ (¬ ((upd (gA u 37) (((gI u 32) - (1 : Int32))).toNatClampNeg (((gA u 37) (((gI u 32) - (1 : Int32))).toNatClampNeg) + (1 : Int32))) (((gI u 32) - (1 : Int32))).toNatClampNeg) = (8 : Int32) → vp_in ((gI u 32) - (1 : Int32)) 200 ∧ wp_X10_first ((gB u 35) (((gI u 32) - (1 : Int32))).toNatClampNeg) (sI (sA (sB (sJ u 41 ((gB u 36) (((gI u 32) - (1 : Int32))).toNatClampNeg)) 38 (vp_updL (gB u 38) ((((8 : Int32) * ((gI u 32) - (1 : Int32))) + ((gA u 37) (((gI u 32) - (1 : Int32))).toNatClampNeg))).toNatClampNeg (gJ u 40))) 37 (upd (gA u 37) (((gI u 32) - (1 : Int32))).toNatClampNeg (((gA u 37) (((gI u 32) - (1 : Int32))).toNatClampNeg) + (1 : Int32)))) 39 (0 : Int32)) (fun (r3 : Int64) (u4 : St) => vp_in ((gI u 32) - (1 : Int32)) 200 ∧ wp_X10_behind ((gB u4 35) (((gI u 32) - (1 : Int32))).toNatClampNeg) (sJ u4 40 r3) (fun (r5 : Int64) (u6 : St) => vp_in ((gI u 32) - (1 : Int32)) 200 ∧ Q (sB u6 35 (vp_updL (gB u6 35) (((gI u 32) - (1 : Int32))).toNatClampNeg r5)))))))))))))))
abbrev rm_X10_back : Room := { frames := 3, cells := 0, slots := 0, locals := 70 }
set_option maxHeartbeats 4000000 in
set_option maxRecDepth 100000 in
theorem t_X10_back (l : Launch) (D : va_G) (G : Gd)  (u : St) (Q : St → Prop) (h : wp_X10_back  u Q) : MRv l D G yX10_back cX10_back 4 none rm_X10_back [.ref (G.1 0)] u Q := by
  refine startR_v (by decide) ?_
  intro p e s m args below meth c E hr hlk hml hP hD hS hA
  have hx := E.1
  have hb := E.2.1
  have hown := E.2.2.1
  have hW := E.2.2.2.1
  have hl := lv_entry ([.ref (G.1 0)]) (n := 4) (Nat.le_of_ble_eq_true rfl)
  rw [lg_entry_eq]
  generalize (lg_sl ([.ref (G.1 0)]) ++ List.replicate (4 - (lg_sl ([.ref (G.1 0)])).length) Slot.unset).toArray = ls at hl ⊢
  have hl : lv_has ls 4 [(0, .ref (G.1 0))] := hl
  have L_240 : ∀ (c1 : Int32) (K : St → Prop), (∀  (u : St) (H : Heap) (locs : List Loc) (ls : Array Slot), K  u → va_P D vwCl (wR G u) H → va_D (AR G s.heap.size) (wR G u) → va_S (AR G s.heap.size) s.heap H locs → lv_has ls 4 [(0, .ref (G.1 0)), (1, .int c1)] → W p l e rm_X10_back s m args below meth c H locs 0 0 (MQ below (va_Qv Q (BR D G s.heap.size) (AR G s.heap.size)) args s 0 0 (AR G s.heap.size)) (F0 m 271 ls [])) → ∀ (n : Nat) (x2 : Int32) (u : St) (H : Heap) (locs : List Loc) (ls : Array Slot), l_X10_back_240 Q c1 K n x2 u → va_P D vwCl (wR G u) H → va_D (AR G s.heap.size) (wR G u) → va_S (AR G s.heap.size) s.heap H locs → lv_has ls 4 [(0, .ref (G.1 0)), (1, .int c1), (2, .int x2)] → W p l e rm_X10_back s m args below meth c H locs 0 0 (MQ below (va_Qv Q (BR D G s.heap.size) (AR G s.heap.size)) args s 0 0 (AR G s.heap.size)) (F0 m 240 ls []) := by
    intro c1 K hK n
    induction n with
    | zero => intro x2 u H locs ls h; exact False.elim h
    | succ n ih =>
      intro x2 u H locs ls h hP hD hS hl
      unfold l_X10_back_240 at h
      refine lv_iload_n hx hb dX10_back_240 rfl (lv_at hl 2 rfl) ?_
      refine lv_aload_n hx hb dX10_back_241 rfl (lv_at hl 0 rfl) ?_
      refine gR_43 E hP kfX10_144 (v := (gI u 43)) rfl dX10_back_242 ?_
      refine lv_icmp_ge (tgt := 271) hx hb dX10_back_245 (by decide) (fun hc => ?_) (fun hc => ?_)
      · have h := h.1 hc
        exact hK u _ _ _ h hP hD hS (lv_sub hl [0, 1] rfl)
      · have h := h.2 hc
        refine lv_aload_n hx hb dX10_back_248 rfl (lv_at hl 0 rfl) ?_
        refine gR_42 E hP kfX10_141 dX10_back_249 ?_
        refine lv_iload_n hx hb dX10_back_252 rfl (lv_at hl 2 rfl) ?_
        refine lv_aload_n hx hb dX10_back_253 rfl (lv_at hl 0 rfl) ?_
        refine gR_38 E hP kfX10_129 dX10_back_254 ?_
        refine lv_bipush (v := (8 : Int32)) hx hb dX10_back_257 (by decide) ?_
        refine lv_iload_n hx hb dX10_back_259 rfl (lv_at hl 1 rfl) ?_
        refine lv_imul hx hb dX10_back_260 ?_
        refine lv_iload_n hx hb dX10_back_261 rfl (lv_at hl 2 rfl) ?_
        refine lv_iadd hx hb dX10_back_262 ?_
        obtain ⟨h9, h⟩ := h
        refine xR_38 E hP h9 (v := ((gB u 38) ((((8 : Int32) * c1) + x2)).toNatClampNeg)) rfl dX10_back_263 ?_
        obtain ⟨h9, h⟩ := h
        refine yR_42 E hP hD hS h9 (f := (gB u 42)) rfl dX10_back_264 (fun H locs hP hD hS => ?_)
        refine lv_iinc (v := (x2 + (1 : Int32))) (lv' := [(2, .int (x2 + (1 : Int32))), (0, .ref (G.1 0)), (1, .int c1)]) hx hb dX10_back_265 hl (k := 2) rfl rfl (by decide) rfl (fun ls hl => ?_)
        refine lv_goto (tgt := 240) hx hb dX10_back_268 (by decide) ?_
        exact ih (x2 + (1 : Int32)) (sB u 42 (vp_updL (gB u 42) (x2).toNatClampNeg ((gB u 38) ((((8 : Int32) * c1) + x2)).toNatClampNeg))) _ _ _ h hP hD hS (lv_sub hl [1, 2, 0] rfl)
  have L_134 : ∀ (c1 : Int32) (K : St → Prop), (∀  (u : St) (H : Heap) (locs : List Loc) (ls : Array Slot), K  u → va_P D vwCl (wR G u) H → va_D (AR G s.heap.size) (wR G u) → va_S (AR G s.heap.size) s.heap H locs → lv_has ls 4 [(0, .ref (G.1 0))] → W p l e rm_X10_back s m args below meth c H locs 0 0 (MQ below (va_Qv Q (BR D G s.heap.size) (AR G s.heap.size)) args s 0 0 (AR G s.heap.size)) (F0 m 165 ls [])) → ∀ (n : Nat) (x2 : Int32) (u : St) (H : Heap) (locs : List Loc) (ls : Array Slot), l_X10_back_134 Q c1 K n x2 u → va_P D vwCl (wR G u) H → va_D (AR G s.heap.size) (wR G u) → va_S (AR G s.heap.size) s.heap H locs → lv_has ls 4 [(0, .ref (G.1 0)), (1, .int c1), (2, .int x2)] → W p l e rm_X10_back s m args below meth c H locs 0 0 (MQ below (va_Qv Q (BR D G s.heap.size) (AR G s.heap.size)) args s 0 0 (AR G s.heap.size)) (F0 m 134 ls []) := by
    intro c1 K hK n
    induction n with
    | zero => intro x2 u H locs ls h; exact False.elim h
    | succ n ih =>
      intro x2 u H locs ls h hP hD hS hl
      unfold l_X10_back_134 at h
      refine lv_iload_n hx hb dX10_back_134 rfl (lv_at hl 2 rfl) ?_
      refine lv_aload_n hx hb dX10_back_135 rfl (lv_at hl 0 rfl) ?_
      refine gR_43 E hP kfX10_144 (v := (gI u 43)) rfl dX10_back_136 ?_
      refine lv_icmp_ge (tgt := 165) hx hb dX10_back_139 (by decide) (fun hc => ?_) (fun hc => ?_)
      · have h := h.1 hc
        exact hK u _ _ _ h hP hD hS (lv_sub hl [0] rfl)
      · have h := h.2 hc
        refine lv_aload_n hx hb dX10_back_142 rfl (lv_at hl 0 rfl) ?_
        refine gR_42 E hP kfX10_141 dX10_back_143 ?_
        refine lv_iload_n hx hb dX10_back_146 rfl (lv_at hl 2 rfl) ?_
        refine lv_aload_n hx hb dX10_back_147 rfl (lv_at hl 0 rfl) ?_
        refine gR_38 E hP kfX10_129 dX10_back_148 ?_
        refine lv_bipush (v := (8 : Int32)) hx hb dX10_back_151 (by decide) ?_
        refine lv_iload_n hx hb dX10_back_153 rfl (lv_at hl 1 rfl) ?_
        refine lv_imul hx hb dX10_back_154 ?_
        refine lv_iload_n hx hb dX10_back_155 rfl (lv_at hl 2 rfl) ?_
        refine lv_iadd hx hb dX10_back_156 ?_
        obtain ⟨h9, h⟩ := h
        refine xR_38 E hP h9 (v := ((gB u 38) ((((8 : Int32) * c1) + x2)).toNatClampNeg)) rfl dX10_back_157 ?_
        obtain ⟨h9, h⟩ := h
        refine yR_42 E hP hD hS h9 (f := (gB u 42)) rfl dX10_back_158 (fun H locs hP hD hS => ?_)
        refine lv_iinc (v := (x2 + (1 : Int32))) (lv' := [(2, .int (x2 + (1 : Int32))), (0, .ref (G.1 0)), (1, .int c1)]) hx hb dX10_back_159 hl (k := 2) rfl rfl (by decide) rfl (fun ls hl => ?_)
        refine lv_goto (tgt := 134) hx hb dX10_back_162 (by decide) ?_
        exact ih (x2 + (1 : Int32)) (sB u 42 (vp_updL (gB u 42) (x2).toNatClampNeg ((gB u 38) ((((8 : Int32) * c1) + x2)).toNatClampNeg))) _ _ _ h hP hD hS (lv_sub hl [1, 2, 0] rfl)
  unfold wp_X10_back at h
  refine lv_aload_n hx hb dX10_back_0 rfl (lv_at hl 0 rfl) ?_
  refine gR_32 E hP kfX10_111 (v := (gI u 32)) rfl dX10_back_1 ?_
  refine lv_iconst (v := (1 : Int32)) hx hb dX10_back_4 (by decide) ?_
  refine lv_isub hx hb dX10_back_5 ?_
  refine lv_istore_n (lv' := [(1, .int ((gI u 32) - (1 : Int32))), (0, .ref (G.1 0))]) hx hb dX10_back_6 rfl hl (by decide) rfl (fun ls hl => ?_)
  refine lv_aload_n hx hb dX10_back_7 rfl (lv_at hl 1 rfl) ?_
  refine lv_aload_n hx hb dX10_back_8 rfl (lv_at hl 1 rfl) ?_
  refine gR_36 E hP kfX10_123 dX10_back_9 ?_
  refine lv_iload_n hx hb dX10_back_12 rfl (lv_at hl 0 rfl) ?_
  obtain ⟨h9, h⟩ := h
  refine xR_36 E hP h9 (v := ((gB u 36) (((gI u 32) - (1 : Int32))).toNatClampNeg)) rfl dX10_back_13 ?_
  refine pR_41 E hP hD hS kfX10_138 dX10_back_14 (fun H locs hP hD hS => ?_)
  refine lv_aload_n hx hb dX10_back_17 rfl (lv_at hl 1 rfl) ?_
  refine gR_33 E hP kfX10_114 dX10_back_18 ?_
  refine lv_iload_n hx hb dX10_back_21 rfl (lv_at hl 0 rfl) ?_
  obtain ⟨h9, h⟩ := h
  refine xR_33 E hP h9 (v := ((gA u 33) (((gI u 32) - (1 : Int32))).toNatClampNeg)) rfl dX10_back_22 ?_
  refine lv_iconst (v := (1 : Int32)) hx hb dX10_back_23 (by decide) ?_
  refine lv_icmp_ne (tgt := 102) hx hb dX10_back_24 (by decide) (fun hc => ?_) (fun hc => ?_)
  · have h := h.2 hc
    refine lv_aload_n hx hb dX10_back_102 rfl (lv_at hl 1 rfl) ?_
    refine gR_33 E hP kfX10_114 dX10_back_103 ?_
    refine lv_iload_n hx hb dX10_back_106 rfl (lv_at hl 0 rfl) ?_
    obtain ⟨h9, h⟩ := h
    refine xR_33 E hP h9 (v := ((gA u 33) (((gI u 32) - (1 : Int32))).toNatClampNeg)) rfl dX10_back_107 ?_
    refine lv_iconst (v := (2 : Int32)) hx hb dX10_back_108 (by decide) ?_
    refine lv_icmp_ne (tgt := 171) hx hb dX10_back_109 (by decide) (fun hc => ?_) (fun hc => ?_)
    · have h := h.2 hc
      refine lv_aload_n hx hb dX10_back_171 rfl (lv_at hl 1 rfl) ?_
      refine gR_38 E hP kfX10_129 dX10_back_172 ?_
      refine lv_bipush (v := (8 : Int32)) hx hb dX10_back_175 (by decide) ?_
      refine lv_iload_n hx hb dX10_back_177 rfl (lv_at hl 0 rfl) ?_
      refine lv_imul hx hb dX10_back_178 ?_
      refine lv_aload_n hx hb dX10_back_179 rfl (lv_at hl 1 rfl) ?_
      refine gR_37 E hP kfX10_126 dX10_back_180 ?_
      refine lv_iload_n hx hb dX10_back_183 rfl (lv_at hl 0 rfl) ?_
      obtain ⟨h9, h⟩ := h
      refine xR_37 E hP h9 (v := ((gA u 37) (((gI u 32) - (1 : Int32))).toNatClampNeg)) rfl dX10_back_184 ?_
      refine lv_iadd hx hb dX10_back_185 ?_
      refine lv_aload_n hx hb dX10_back_186 rfl (lv_at hl 1 rfl) ?_
      refine gR_40 E hP kfX10_135 (v := (gJ u 40)) rfl dX10_back_187 ?_
      obtain ⟨h9, h⟩ := h
      refine yR_38 E hP hD hS h9 (f := (gB u 38)) rfl dX10_back_190 (fun H locs hP hD hS => ?_)
      refine lv_aload_n hx hb dX10_back_191 rfl (lv_at hl 1 rfl) ?_
      refine gR_37 E hP kfX10_126 dX10_back_192 ?_
      refine lv_iload_n hx hb dX10_back_195 rfl (lv_at hl 0 rfl) ?_
      refine lv_aload_n hx hb dX10_back_196 rfl (lv_at hl 1 rfl) ?_
      refine gR_37 E hP kfX10_126 dX10_back_197 ?_
      refine lv_iload_n hx hb dX10_back_200 rfl (lv_at hl 0 rfl) ?_
      obtain ⟨h9, h⟩ := h
      refine xR_37 E hP h9 (v := ((gA u 37) (((gI u 32) - (1 : Int32))).toNatClampNeg)) rfl dX10_back_201 ?_
      refine lv_iconst (v := (1 : Int32)) hx hb dX10_back_202 (by decide) ?_
      refine lv_iadd hx hb dX10_back_203 ?_
      obtain ⟨h9, h⟩ := h
      refine yR_37 E hP hD hS h9 (f := (gA u 37)) rfl dX10_back_204 (fun H locs hP hD hS => ?_)
      refine lv_aload_n hx hb dX10_back_205 rfl (lv_at hl 1 rfl) ?_
      refine gR_35 E hP kfX10_120 dX10_back_206 ?_
      refine lv_iload_n hx hb dX10_back_209 rfl (lv_at hl 0 rfl) ?_
      obtain ⟨h9, h⟩ := h
      refine xR_35 E hP h9 (v := ((gB u 35) (((gI u 32) - (1 : Int32))).toNatClampNeg)) rfl dX10_back_210 ?_
      refine lv_ldc2 (v := (4294967296 : Int64)) hx hb hown (hW _ kcX10_199) dX10_back_211 ?_
      refine lq_ne (tgt := 289) hx hb dX10_back_214 dX10_back_215 (by decide) (fun hc => ?_) (fun hc => ?_)
      · have h := h.2 hc
        refine lv_aload_n hx hb dX10_back_289 rfl (lv_at hl 1 rfl) ?_
        refine gR_35 E hP kfX10_120 dX10_back_290 ?_
        refine lv_iload_n hx hb dX10_back_293 rfl (lv_at hl 0 rfl) ?_
        obtain ⟨h9, h⟩ := h
        refine xR_35 E hP h9 (v := ((gB u 35) (((gI u 32) - (1 : Int32))).toNatClampNeg)) rfl dX10_back_294 ?_
        refine c0_i (As := [.long ((gB u 35) (((gI u 32) - (1 : Int32))).toNatClampNeg)]) (rest := []) hx hb hml hown hW hP hS hA (t_X10_isPair l ((gB u 35) (((gI u 32) - (1 : Int32))).toNatClampNeg) _ h) kmX10_205 mwyX10_isPair ⟨⟨rfl, rfl⟩, Nat.le_of_ble_eq_true rfl, Nat.le_of_ble_eq_true rfl⟩ rfl hl.1 rfl (Nat.le_of_ble_eq_true rfl) dX10_back_295 ⟨Nat.zero_le _, Nat.zero_le _⟩ (fun r1 H locs hP hS h => ?_)
        refine lv_if_eq (tgt := 312) hx hb dX10_back_298 (by decide) (fun hc => ?_) (fun hc => ?_)
        · have h := h.1 hc
          refine lv_aload_n hx hb dX10_back_312 rfl (lv_at hl 1 rfl) ?_
          refine lv_iconst (v := (3 : Int32)) hx hb dX10_back_313 (by decide) ?_
          refine cR_v (ci := 9) (q0 := 0) (As := [.int (3 : Int32)]) (rest := []) E hml hP hD hS hA (t_X10_fails l D G (3 : Int32) (sA (sB (sJ u 41 ((gB u 36) (((gI u 32) - (1 : Int32))).toNatClampNeg)) 38 (vp_updL (gB u 38) ((((8 : Int32) * ((gI u 32) - (1 : Int32))) + ((gA u 37) (((gI u 32) - (1 : Int32))).toNatClampNeg))).toNatClampNeg (gJ u 40))) 37 (upd (gA u 37) (((gI u 32) - (1 : Int32))).toNatClampNeg (((gA u 37) (((gI u 32) - (1 : Int32))).toNatClampNeg) + (1 : Int32)))) _ h) kmX10_265 mwyX10_fails rfl rfl ⟨⟨rfl, rfl⟩, Nat.le_of_ble_eq_true rfl, Nat.le_of_ble_eq_true rfl⟩ rfl hl.1 rfl (Nat.le_of_ble_eq_true rfl) dX10_back_314 ⟨Nat.zero_le _, Nat.zero_le _⟩ (fun u2 H locs hP hD hS h => ?_)
          refine lv_goto (tgt := 355) hx hb dX10_back_317 (by decide) ?_
          exact retR_v E hr hlk hP hD hS h dX10_back_355
        · have h := h.2 hc
          refine lv_aload_n hx hb dX10_back_301 rfl (lv_at hl 1 rfl) ?_
          refine gR_37 E hP kfX10_126 dX10_back_302 ?_
          refine lv_iload_n hx hb dX10_back_305 rfl (lv_at hl 0 rfl) ?_
          obtain ⟨h9, h⟩ := h
          refine xR_37 E hP h9 (v := ((upd (gA u 37) (((gI u 32) - (1 : Int32))).toNatClampNeg (((gA u 37) (((gI u 32) - (1 : Int32))).toNatClampNeg) + (1 : Int32))) (((gI u 32) - (1 : Int32))).toNatClampNeg)) rfl dX10_back_306 ?_
          refine lv_bipush (v := (8 : Int32)) hx hb dX10_back_307 (by decide) ?_
          refine lv_icmp_ne (tgt := 320) hx hb dX10_back_309 (by decide) (fun hc => ?_) (fun hc => ?_)
          · have h := h.2 hc
            refine lv_aload_n hx hb dX10_back_320 rfl (lv_at hl 1 rfl) ?_
            refine lv_iconst (v := (0 : Int32)) hx hb dX10_back_321 (by decide) ?_
            refine pR_39 E hP hD hS kfX10_132 dX10_back_322 (fun H locs hP hD hS => ?_)
            refine lv_aload_n hx hb dX10_back_325 rfl (lv_at hl 1 rfl) ?_
            refine lv_aload_n hx hb dX10_back_326 rfl (lv_at hl 1 rfl) ?_
            refine lv_aload_n hx hb dX10_back_327 rfl (lv_at hl 1 rfl) ?_
            refine gR_35 E hP kfX10_120 dX10_back_328 ?_
            refine lv_iload_n hx hb dX10_back_331 rfl (lv_at hl 0 rfl) ?_
            obtain ⟨h9, h⟩ := h
            refine xR_35 E hP h9 (v := ((gB u 35) (((gI u 32) - (1 : Int32))).toNatClampNeg)) rfl dX10_back_332 ?_
            refine cR_l (ci := 9) (q0 := 0) (As := [.long ((gB u 35) (((gI u 32) - (1 : Int32))).toNatClampNeg)]) (rest := [.ref (G.1 0)]) E hml hP hD hS hA (t_X10_first l D G ((gB u 35) (((gI u 32) - (1 : Int32))).toNatClampNeg) (sI (sA (sB (sJ u 41 ((gB u 36) (((gI u 32) - (1 : Int32))).toNatClampNeg)) 38 (vp_updL (gB u 38) ((((8 : Int32) * ((gI u 32) - (1 : Int32))) + ((gA u 37) (((gI u 32) - (1 : Int32))).toNatClampNeg))).toNatClampNeg (gJ u 40))) 37 (upd (gA u 37) (((gI u 32) - (1 : Int32))).toNatClampNeg (((gA u 37) (((gI u 32) - (1 : Int32))).toNatClampNeg) + (1 : Int32)))) 39 (0 : Int32)) _ h) kmX10_209 mwyX10_first rfl rfl ⟨⟨rfl, rfl⟩, Nat.le_of_ble_eq_true rfl, Nat.le_of_ble_eq_true rfl⟩ rfl hl.1 rfl (Nat.le_of_ble_eq_true rfl) dX10_back_333 ⟨Nat.zero_le _, Nat.zero_le _⟩ (fun r3 u4 H locs hP hD hS h => ?_)
            refine pR_40 E hP hD hS kfX10_135 dX10_back_336 (fun H locs hP hD hS => ?_)
            refine lv_aload_n hx hb dX10_back_339 rfl (lv_at hl 1 rfl) ?_
            refine gR_35 E hP kfX10_120 dX10_back_340 ?_
            refine lv_iload_n hx hb dX10_back_343 rfl (lv_at hl 0 rfl) ?_
            refine lv_aload_n hx hb dX10_back_344 rfl (lv_at hl 1 rfl) ?_
            refine lv_aload_n hx hb dX10_back_345 rfl (lv_at hl 1 rfl) ?_
            refine gR_35 E hP kfX10_120 dX10_back_346 ?_
            refine lv_iload_n hx hb dX10_back_349 rfl (lv_at hl 0 rfl) ?_
            obtain ⟨h9, h⟩ := h
            refine xR_35 E hP h9 (v := ((gB u4 35) (((gI u 32) - (1 : Int32))).toNatClampNeg)) rfl dX10_back_350 ?_
            refine cR_l (ci := 9) (q0 := 0) (As := [.long ((gB u4 35) (((gI u 32) - (1 : Int32))).toNatClampNeg)]) (rest := [.int ((gI u 32) - (1 : Int32)), .ref (G.1 15)]) E hml hP hD hS hA (t_X10_behind l D G ((gB u4 35) (((gI u 32) - (1 : Int32))).toNatClampNeg) (sJ u4 40 r3) _ h) kmX10_216 mwyX10_behind rfl rfl ⟨⟨rfl, rfl⟩, Nat.le_of_ble_eq_true rfl, Nat.le_of_ble_eq_true rfl⟩ rfl hl.1 rfl (Nat.le_of_ble_eq_true rfl) dX10_back_351 ⟨Nat.zero_le _, Nat.zero_le _⟩ (fun r5 u6 H locs hP hD hS h => ?_)
            obtain ⟨h9, h⟩ := h
            refine yR_35 E hP hD hS h9 (f := (gB u6 35)) rfl dX10_back_354 (fun H locs hP hD hS => ?_)
            exact retR_v E hr hlk hP hD hS h dX10_back_355
          · have h := h.1 hc
            refine lv_aload_n hx hb dX10_back_312 rfl (lv_at hl 1 rfl) ?_
            refine lv_iconst (v := (3 : Int32)) hx hb dX10_back_313 (by decide) ?_
            refine cR_v (ci := 9) (q0 := 0) (As := [.int (3 : Int32)]) (rest := []) E hml hP hD hS hA (t_X10_fails l D G (3 : Int32) (sA (sB (sJ u 41 ((gB u 36) (((gI u 32) - (1 : Int32))).toNatClampNeg)) 38 (vp_updL (gB u 38) ((((8 : Int32) * ((gI u 32) - (1 : Int32))) + ((gA u 37) (((gI u 32) - (1 : Int32))).toNatClampNeg))).toNatClampNeg (gJ u 40))) 37 (upd (gA u 37) (((gI u 32) - (1 : Int32))).toNatClampNeg (((gA u 37) (((gI u 32) - (1 : Int32))).toNatClampNeg) + (1 : Int32)))) _ h) kmX10_265 mwyX10_fails rfl rfl ⟨⟨rfl, rfl⟩, Nat.le_of_ble_eq_true rfl, Nat.le_of_ble_eq_true rfl⟩ rfl hl.1 rfl (Nat.le_of_ble_eq_true rfl) dX10_back_314 ⟨Nat.zero_le _, Nat.zero_le _⟩ (fun u7 H locs hP hD hS h => ?_)
            refine lv_goto (tgt := 355) hx hb dX10_back_317 (by decide) ?_
            exact retR_v E hr hlk hP hD hS h dX10_back_355
      · have h := h.1 hc
        refine lv_aload_n hx hb dX10_back_218 rfl (lv_at hl 1 rfl) ?_
        refine lv_dup hx hb dX10_back_219 rfl ?_
        refine gR_32 E hP kfX10_111 (v := (gI u 32)) rfl dX10_back_220 ?_
        refine lv_iconst (v := (1 : Int32)) hx hb dX10_back_223 (by decide) ?_
        refine lv_isub hx hb dX10_back_224 ?_
        refine pR_32 E hP hD hS kfX10_111 dX10_back_225 (fun H locs hP hD hS => ?_)
        refine lv_aload_n hx hb dX10_back_228 rfl (lv_at hl 1 rfl) ?_
        refine lv_aload_n hx hb dX10_back_229 rfl (lv_at hl 1 rfl) ?_
        refine gR_37 E hP kfX10_126 dX10_back_230 ?_
        refine lv_iload_n hx hb dX10_back_233 rfl (lv_at hl 0 rfl) ?_
        obtain ⟨h9, h⟩ := h
        refine xR_37 E hP h9 (v := ((upd (gA u 37) (((gI u 32) - (1 : Int32))).toNatClampNeg (((gA u 37) (((gI u 32) - (1 : Int32))).toNatClampNeg) + (1 : Int32))) (((gI u 32) - (1 : Int32))).toNatClampNeg)) rfl dX10_back_234 ?_
        refine pR_43 E hP hD hS kfX10_144 dX10_back_235 (fun H locs hP hD hS => ?_)
        refine lv_iconst (v := (0 : Int32)) hx hb dX10_back_238 (by decide) ?_
        refine lv_istore_n (lv' := [(2, .int (0 : Int32)), (1, .int ((gI u 32) - (1 : Int32))), (0, .ref (G.1 0))]) hx hb dX10_back_239 rfl hl (by decide) rfl (fun ls hl => ?_)
        obtain ⟨n, h⟩ := h
        refine L_240 ((gI u 32) - (1 : Int32)) _ (fun u8 H locs ls h hP hD hS hl => ?_) n (0 : Int32) (sI (sI (sA (sB (sJ u 41 ((gB u 36) (((gI u 32) - (1 : Int32))).toNatClampNeg)) 38 (vp_updL (gB u 38) ((((8 : Int32) * ((gI u 32) - (1 : Int32))) + ((gA u 37) (((gI u 32) - (1 : Int32))).toNatClampNeg))).toNatClampNeg (gJ u 40))) 37 (upd (gA u 37) (((gI u 32) - (1 : Int32))).toNatClampNeg (((gA u 37) (((gI u 32) - (1 : Int32))).toNatClampNeg) + (1 : Int32)))) 32 ((gI u 32) - (1 : Int32))) 43 ((upd (gA u 37) (((gI u 32) - (1 : Int32))).toNatClampNeg (((gA u 37) (((gI u 32) - (1 : Int32))).toNatClampNeg) + (1 : Int32))) (((gI u 32) - (1 : Int32))).toNatClampNeg)) _ _ _ h hP hD hS (lv_sub hl [2, 1, 0] rfl)
        refine lv_aload_n hx hb dX10_back_271 rfl (lv_at hl 0 rfl) ?_
        refine lv_iconst (v := (1 : Int32)) hx hb dX10_back_272 (by decide) ?_
        refine pR_39 E hP hD hS kfX10_132 dX10_back_273 (fun H locs hP hD hS => ?_)
        refine lv_aload_n hx hb dX10_back_276 rfl (lv_at hl 0 rfl) ?_
        refine lv_aload_n hx hb dX10_back_277 rfl (lv_at hl 0 rfl) ?_
        refine gR_34 E hP kfX10_117 dX10_back_278 ?_
        refine lv_iload_n hx hb dX10_back_281 rfl (lv_at hl 1 rfl) ?_
        obtain ⟨h9, h⟩ := h
        refine xR_34 E hP h9 (v := ((gB u8 34) (((gI u 32) - (1 : Int32))).toNatClampNeg)) rfl dX10_back_282 ?_
        refine pR_40 E hP hD hS kfX10_135 dX10_back_283 (fun H locs hP hD hS => ?_)
        refine lv_goto (tgt := 355) hx hb dX10_back_286 (by decide) ?_
        exact retR_v E hr hlk hP hD hS h dX10_back_355
    · have h := h.1 hc
      refine lv_aload_n hx hb dX10_back_112 rfl (lv_at hl 1 rfl) ?_
      refine lv_dup hx hb dX10_back_113 rfl ?_
      refine gR_32 E hP kfX10_111 (v := (gI u 32)) rfl dX10_back_114 ?_
      refine lv_iconst (v := (1 : Int32)) hx hb dX10_back_117 (by decide) ?_
      refine lv_isub hx hb dX10_back_118 ?_
      refine pR_32 E hP hD hS kfX10_111 dX10_back_119 (fun H locs hP hD hS => ?_)
      refine lv_aload_n hx hb dX10_back_122 rfl (lv_at hl 1 rfl) ?_
      refine lv_aload_n hx hb dX10_back_123 rfl (lv_at hl 1 rfl) ?_
      refine gR_37 E hP kfX10_126 dX10_back_124 ?_
      refine lv_iload_n hx hb dX10_back_127 rfl (lv_at hl 0 rfl) ?_
      obtain ⟨h9, h⟩ := h
      refine xR_37 E hP h9 (v := ((gA u 37) (((gI u 32) - (1 : Int32))).toNatClampNeg)) rfl dX10_back_128 ?_
      refine pR_43 E hP hD hS kfX10_144 dX10_back_129 (fun H locs hP hD hS => ?_)
      refine lv_iconst (v := (0 : Int32)) hx hb dX10_back_132 (by decide) ?_
      refine lv_istore_n (lv' := [(2, .int (0 : Int32)), (1, .int ((gI u 32) - (1 : Int32))), (0, .ref (G.1 0))]) hx hb dX10_back_133 rfl hl (by decide) rfl (fun ls hl => ?_)
      obtain ⟨n, h⟩ := h
      refine L_134 ((gI u 32) - (1 : Int32)) _ (fun u10 H locs ls h hP hD hS hl => ?_) n (0 : Int32) (sI (sI (sJ u 41 ((gB u 36) (((gI u 32) - (1 : Int32))).toNatClampNeg)) 32 ((gI u 32) - (1 : Int32))) 43 ((gA u 37) (((gI u 32) - (1 : Int32))).toNatClampNeg)) _ _ _ h hP hD hS (lv_sub hl [2, 1, 0] rfl)
      refine lv_aload_n hx hb dX10_back_165 rfl (lv_at hl 0 rfl) ?_
      refine lv_iconst (v := (1 : Int32)) hx hb dX10_back_166 (by decide) ?_
      refine pR_39 E hP hD hS kfX10_132 dX10_back_167 (fun H locs hP hD hS => ?_)
      exact retR_v E hr hlk hP hD hS h dX10_back_170
  · have h := h.1 hc
    refine lv_aload_n hx hb dX10_back_27 rfl (lv_at hl 1 rfl) ?_
    refine lv_dup hx hb dX10_back_28 rfl ?_
    refine gR_32 E hP kfX10_111 (v := (gI u 32)) rfl dX10_back_29 ?_
    refine lv_iconst (v := (1 : Int32)) hx hb dX10_back_32 (by decide) ?_
    refine lv_isub hx hb dX10_back_33 ?_
    refine pR_32 E hP hD hS kfX10_111 dX10_back_34 (fun H locs hP hD hS => ?_)
    refine lv_aload_n hx hb dX10_back_37 rfl (lv_at hl 1 rfl) ?_
    refine lv_aload_n hx hb dX10_back_38 rfl (lv_at hl 1 rfl) ?_
    refine gR_35 E hP kfX10_120 dX10_back_39 ?_
    refine lv_iload_n hx hb dX10_back_42 rfl (lv_at hl 0 rfl) ?_
    obtain ⟨h9, h⟩ := h
    refine xR_35 E hP h9 (v := ((gB u 35) (((gI u 32) - (1 : Int32))).toNatClampNeg)) rfl dX10_back_43 ?_
    refine cR_l (ci := 9) (q0 := 0) (As := [.long ((gB u 35) (((gI u 32) - (1 : Int32))).toNatClampNeg)]) (rest := []) E hml hP hD hS hA (t_X10_first l D G ((gB u 35) (((gI u 32) - (1 : Int32))).toNatClampNeg) (sI (sJ u 41 ((gB u 36) (((gI u 32) - (1 : Int32))).toNatClampNeg)) 32 ((gI u 32) - (1 : Int32))) _ h) kmX10_209 mwyX10_first rfl rfl ⟨⟨rfl, rfl⟩, Nat.le_of_ble_eq_true rfl, Nat.le_of_ble_eq_true rfl⟩ rfl hl.1 rfl (Nat.le_of_ble_eq_true rfl) dX10_back_44 ⟨Nat.zero_le _, Nat.zero_le _⟩ (fun r12 u13 H locs hP hD hS h => ?_)
    refine lv_lstore_n (lv' := [(2, .long r12), (1, .int ((gI u 32) - (1 : Int32))), (0, .ref (G.1 0))]) hx hb dX10_back_47 rfl hl (by decide) rfl (fun ls hl => ?_)
    refine lv_aload_n hx hb dX10_back_48 rfl (lv_at hl 2 rfl) ?_
    refine lv_iconst (v := (0 : Int32)) hx hb dX10_back_49 (by decide) ?_
    refine pR_39 E hP hD hS kfX10_132 dX10_back_50 (fun H locs hP hD hS => ?_)
    refine lv_aload_n hx hb dX10_back_53 rfl (lv_at hl 2 rfl) ?_
    refine gR_40 E hP kfX10_135 (v := (gJ u13 40)) rfl dX10_back_54 ?_
    refine lv_ldc2 (v := (4294967296 : Int64)) hx hb hown (hW _ kcX10_199) dX10_back_57 ?_
    refine lq_eq (tgt := 80) hx hb dX10_back_60 dX10_back_61 (by decide) (fun hc => ?_) (fun hc => ?_)
    · have h := h.1 hc
      refine lv_aload_n hx hb dX10_back_80 rfl (lv_at hl 2 rfl) ?_
      refine cR_i (ci := 9) (q0 := 0) (As := []) (rest := []) E hml hP hD hS hA (t_X10_begins l D G  (sI u13 39 (0 : Int32)) _ h) kmX10_277 mwyX10_begins rfl rfl ⟨⟨rfl, rfl⟩, Nat.le_of_ble_eq_true rfl, Nat.le_of_ble_eq_true rfl⟩ rfl hl.1 rfl (Nat.le_of_ble_eq_true rfl) dX10_back_81 ⟨Nat.zero_le _, Nat.zero_le _⟩ (fun r14 u15 H locs hP hD hS h => ?_)
      refine lv_if_eq (tgt := 101) hx hb dX10_back_84 (by decide) (fun hc => ?_) (fun hc => ?_)
      · have h := h.1 hc
        exact retR_v E hr hlk hP hD hS h dX10_back_101
      · have h := h.2 hc
        refine lv_aload_n hx hb dX10_back_87 rfl (lv_at hl 2 rfl) ?_
        refine lv_aload_n hx hb dX10_back_88 rfl (lv_at hl 2 rfl) ?_
        refine lv_aload_n hx hb dX10_back_89 rfl (lv_at hl 2 rfl) ?_
        refine gR_35 E hP kfX10_120 dX10_back_90 ?_
        refine lv_iload_n hx hb dX10_back_93 rfl (lv_at hl 1 rfl) ?_
        obtain ⟨h9, h⟩ := h
        refine xR_35 E hP h9 (v := ((gB u15 35) (((gI u 32) - (1 : Int32))).toNatClampNeg)) rfl dX10_back_94 ?_
        refine cR_l (ci := 9) (q0 := 0) (As := [.long ((gB u15 35) (((gI u 32) - (1 : Int32))).toNatClampNeg)]) (rest := [.ref (G.1 0)]) E hml hP hD hS hA (t_X10_behind l D G ((gB u15 35) (((gI u 32) - (1 : Int32))).toNatClampNeg) u15 _ h) kmX10_216 mwyX10_behind rfl rfl ⟨⟨rfl, rfl⟩, Nat.le_of_ble_eq_true rfl, Nat.le_of_ble_eq_true rfl⟩ rfl hl.1 rfl (Nat.le_of_ble_eq_true rfl) dX10_back_95 ⟨Nat.zero_le _, Nat.zero_le _⟩ (fun r16 u17 H locs hP hD hS h => ?_)
        refine cR_v (ci := 9) (q0 := 0) (As := [.long r16]) (rest := []) E hml hP hD hS hA (t_X10_condition l D G r16 u17 _ h) kmX10_299 mwyX10_condition rfl rfl ⟨⟨rfl, rfl⟩, Nat.le_of_ble_eq_true rfl, Nat.le_of_ble_eq_true rfl⟩ rfl hl.1 rfl (Nat.le_of_ble_eq_true rfl) dX10_back_98 ⟨Nat.zero_le _, Nat.zero_le _⟩ (fun u18 H locs hP hD hS h => ?_)
        exact retR_v E hr hlk hP hD hS h dX10_back_101
    · have h := h.2 hc
      refine lv_aload_n hx hb dX10_back_64 rfl (lv_at hl 2 rfl) ?_
      refine lv_aload_n hx hb dX10_back_65 rfl (lv_at hl 2 rfl) ?_
      refine lv_aload_n hx hb dX10_back_66 rfl (lv_at hl 2 rfl) ?_
      refine lv_lload_n hx hb dX10_back_67 rfl (lv_at hl 0 rfl) ?_
      refine cR_l (ci := 9) (q0 := 0) (As := [.long r12]) (rest := [.ref (G.1 0), .ref (G.1 0)]) E hml hP hD hS hA (t_X10_behind l D G r12 (sI u13 39 (0 : Int32)) _ h) kmX10_216 mwyX10_behind rfl rfl ⟨⟨rfl, rfl⟩, Nat.le_of_ble_eq_true rfl, Nat.le_of_ble_eq_true rfl⟩ rfl hl.1 rfl (Nat.le_of_ble_eq_true rfl) dX10_back_68 ⟨Nat.zero_le _, Nat.zero_le _⟩ (fun r19 u20 H locs hP hD hS h => ?_)
      refine cR_l (ci := 9) (q0 := 0) (As := [.long r19]) (rest := [.ref (G.1 0)]) E hml hP hD hS hA (t_X10_first l D G r19 u20 _ h) kmX10_209 mwyX10_first rfl rfl ⟨⟨rfl, rfl⟩, Nat.le_of_ble_eq_true rfl, Nat.le_of_ble_eq_true rfl⟩ rfl hl.1 rfl (Nat.le_of_ble_eq_true rfl) dX10_back_71 ⟨Nat.zero_le _, Nat.zero_le _⟩ (fun r21 u22 H locs hP hD hS h => ?_)
      refine pR_40 E hP hD hS kfX10_135 dX10_back_74 (fun H locs hP hD hS => ?_)
      refine lv_goto (tgt := 101) hx hb dX10_back_77 (by decide) ?_
      exact retR_v E hr hlk hP hD hS h dX10_back_101
def wp_X10_isNumber (p0 : Int64) (Q : Int32 → Prop) : Prop := ((p0 < (0 : Int64) → Q (0 : Int32)) ∧ (¬ p0 < (0 : Int64) → (((4294967296 : Int64) ≤ p0 → Q (0 : Int32)) ∧ (¬ (4294967296 : Int64) ≤ p0 → Q (1 : Int32)))))
abbrev rm_X10_isNumber : Room := { frames := 0, cells := 0, slots := 0, locals := 0 }
set_option maxHeartbeats 4000000 in
set_option maxRecDepth 100000 in
theorem t_X10_isNumber (l : Launch) (p0 : Int64) (Q : Int32 → Prop) (h : wp_X10_isNumber p0 Q) : M0i l yX10_isNumber cX10_isNumber 2 (some .boolean) rm_X10_isNumber [.long p0] Q := by
  refine start0_i (by decide) ?_
  intro p e s m args below meth c hx hb hown hW hr hlk hml hS
  have hP : va_P ((fun _ => 0), (fun _ _ => 0)) vwCl [] s.heap := fun k q h => by simp at h
  have hA : ∀ q, s.heap.size ≤ q → (fun q => s.heap.size ≤ q) q := fun _ h => h
  have hl := lv_entry ([.long p0]) (n := 2) (Nat.le_of_ble_eq_true rfl)
  rw [lg_entry_eq]
  generalize (lg_sl ([.long p0]) ++ List.replicate (2 - (lg_sl ([.long p0])).length) Slot.unset).toArray = ls at hl ⊢
  have hl : lv_has ls 2 [(0, .long p0)] := hl
  unfold wp_X10_isNumber at h
  refine lv_lload_n hx hb dX10_isNumber_0 rfl (lv_at hl 0 rfl) ?_
  refine lv_lconst (v := (0 : Int64)) hx hb dX10_isNumber_1 (by decide) ?_
  refine lq_lt (tgt := 18) hx hb dX10_isNumber_2 dX10_isNumber_3 (by decide) (fun hc => ?_) (fun hc => ?_)
  · have h := h.1 hc
    refine lv_iconst (v := (0 : Int32)) hx hb dX10_isNumber_18 (by decide) ?_
    exact ret0_z hx hb hr hlk hS (vz_n vz_0) h dX10_isNumber_19
  · have h := h.2 hc
    refine lv_lload_n hx hb dX10_isNumber_6 rfl (lv_at hl 0 rfl) ?_
    refine lv_ldc2 (v := (4294967296 : Int64)) hx hb hown (hW _ kcX10_199) dX10_isNumber_7 ?_
    refine lq_ge (tgt := 18) hx hb dX10_isNumber_10 dX10_isNumber_11 (by decide) (fun hc => ?_) (fun hc => ?_)
    · have h := h.1 hc
      refine lv_iconst (v := (0 : Int32)) hx hb dX10_isNumber_18 (by decide) ?_
      exact ret0_z hx hb hr hlk hS (vz_n vz_0) h dX10_isNumber_19
    · have h := h.2 hc
      refine lv_iconst (v := (1 : Int32)) hx hb dX10_isNumber_14 (by decide) ?_
      refine lv_goto (tgt := 19) hx hb dX10_isNumber_15 (by decide) ?_
      exact ret0_z hx hb hr hlk hS (vz_n vz_1) h dX10_isNumber_19
def l_X10_holdWaiting_46 (Q : St → Prop) (c1 : Int32) (K : St → Prop) : Nat → Int32 → St → Prop
  | 0, _, _ => False
  | n + 1, x2, u => vp_in c1 200 ∧ ((((gA u 37) (c1).toNatClampNeg) ≤ x2 → K u) ∧ (¬ ((gA u 37) (c1).toNatClampNeg) ≤ x2 → vp_in (((8 : Int32) * c1) + x2) 1600 ∧ wp_X10_hold ((gB u 38) ((((8 : Int32) * c1) + x2)).toNatClampNeg) u (fun (u5 : St) => l_X10_holdWaiting_46 Q c1 K n (x2 + (1 : Int32)) u5)))
def l_X10_holdWaiting_6 (Q : St → Prop)  (K : St → Prop) : Nat → Int32 → St → Prop
  | 0, _, _ => False
  | n + 1, x1, u => (((gI u 32) ≤ x1 → K u) ∧ (¬ (gI u 32) ≤ x1 → vp_in x1 200 ∧ wp_X10_hold ((gB u 34) (x1).toNatClampNeg) u (fun (u2 : St) => vp_in x1 200 ∧ wp_X10_hold ((gB u2 35) (x1).toNatClampNeg) u2 (fun (u3 : St) => vp_in x1 200 ∧ wp_X10_hold ((gB u3 36) (x1).toNatClampNeg) u3 (fun (u4 : St) => (∃ k8 : Nat, l_X10_holdWaiting_46 Q x1 (fun (u6 : St) => wp_X10_holdAll  u6 (fun (u7 : St) => l_X10_holdWaiting_6 Q K n (x1 + (1 : Int32)) u7)) k8 (0 : Int32) u4))))))
def wp_X10_holdWaiting  (u : St) (Q : St → Prop) : Prop := wp_X10_holdGlobals  u (fun (u1 : St) => (∃ k10 : Nat, l_X10_holdWaiting_6 Q  (fun (u9 : St) => Q u9) k10 (0 : Int32) u1))
abbrev rm_X10_holdWaiting : Room := { frames := 4, cells := 0, slots := 0, locals := 87 }
set_option maxHeartbeats 4000000 in
set_option maxRecDepth 100000 in
theorem t_X10_holdWaiting (l : Launch) (D : va_G) (G : Gd)  (u : St) (Q : St → Prop) (h : wp_X10_holdWaiting  u Q) : MRv l D G yX10_holdWaiting cX10_holdWaiting 3 none rm_X10_holdWaiting [.ref (G.1 0)] u Q := by
  refine startR_v (by decide) ?_
  intro p e s m args below meth c E hr hlk hml hP hD hS hA
  have hx := E.1
  have hb := E.2.1
  have hown := E.2.2.1
  have hW := E.2.2.2.1
  have hl := lv_entry ([.ref (G.1 0)]) (n := 3) (Nat.le_of_ble_eq_true rfl)
  rw [lg_entry_eq]
  generalize (lg_sl ([.ref (G.1 0)]) ++ List.replicate (3 - (lg_sl ([.ref (G.1 0)])).length) Slot.unset).toArray = ls at hl ⊢
  have hl : lv_has ls 3 [(0, .ref (G.1 0))] := hl
  have L_46 : ∀ (c1 : Int32) (K : St → Prop), (∀  (u : St) (H : Heap) (locs : List Loc) (ls : Array Slot), K  u → va_P D vwCl (wR G u) H → va_D (AR G s.heap.size) (wR G u) → va_S (AR G s.heap.size) s.heap H locs → lv_has ls 3 [(0, .ref (G.1 0)), (1, .int c1)] → W p l e rm_X10_holdWaiting s m args below meth c H locs 0 0 (MQ below (va_Qv Q (BR D G s.heap.size) (AR G s.heap.size)) args s 0 0 (AR G s.heap.size)) (F0 m 77 ls [])) → ∀ (n : Nat) (x2 : Int32) (u : St) (H : Heap) (locs : List Loc) (ls : Array Slot), l_X10_holdWaiting_46 Q c1 K n x2 u → va_P D vwCl (wR G u) H → va_D (AR G s.heap.size) (wR G u) → va_S (AR G s.heap.size) s.heap H locs → lv_has ls 3 [(0, .ref (G.1 0)), (1, .int c1), (2, .int x2)] → W p l e rm_X10_holdWaiting s m args below meth c H locs 0 0 (MQ below (va_Qv Q (BR D G s.heap.size) (AR G s.heap.size)) args s 0 0 (AR G s.heap.size)) (F0 m 46 ls []) := by
    intro c1 K hK n
    induction n with
    | zero => intro x2 u H locs ls h; exact False.elim h
    | succ n ih =>
      intro x2 u H locs ls h hP hD hS hl
      unfold l_X10_holdWaiting_46 at h
      refine lv_iload_n hx hb dX10_holdWaiting_46 rfl (lv_at hl 2 rfl) ?_
      refine lv_aload_n hx hb dX10_holdWaiting_47 rfl (lv_at hl 0 rfl) ?_
      refine gR_37 E hP kfX10_126 dX10_holdWaiting_48 ?_
      refine lv_iload_n hx hb dX10_holdWaiting_51 rfl (lv_at hl 1 rfl) ?_
      obtain ⟨h9, h⟩ := h
      refine xR_37 E hP h9 (v := ((gA u 37) (c1).toNatClampNeg)) rfl dX10_holdWaiting_52 ?_
      refine lv_icmp_ge (tgt := 77) hx hb dX10_holdWaiting_53 (by decide) (fun hc => ?_) (fun hc => ?_)
      · have h := h.1 hc
        exact hK u _ _ _ h hP hD hS (lv_sub hl [0, 1] rfl)
      · have h := h.2 hc
        refine lv_aload_n hx hb dX10_holdWaiting_56 rfl (lv_at hl 0 rfl) ?_
        refine lv_aload_n hx hb dX10_holdWaiting_57 rfl (lv_at hl 0 rfl) ?_
        refine gR_38 E hP kfX10_129 dX10_holdWaiting_58 ?_
        refine lv_bipush (v := (8 : Int32)) hx hb dX10_holdWaiting_61 (by decide) ?_
        refine lv_iload_n hx hb dX10_holdWaiting_63 rfl (lv_at hl 1 rfl) ?_
        refine lv_imul hx hb dX10_holdWaiting_64 ?_
        refine lv_iload_n hx hb dX10_holdWaiting_65 rfl (lv_at hl 2 rfl) ?_
        refine lv_iadd hx hb dX10_holdWaiting_66 ?_
        obtain ⟨h9, h⟩ := h
        refine xR_38 E hP h9 (v := ((gB u 38) ((((8 : Int32) * c1) + x2)).toNatClampNeg)) rfl dX10_holdWaiting_67 ?_
        refine cR_v (ci := 9) (q0 := 0) (As := [.long ((gB u 38) ((((8 : Int32) * c1) + x2)).toNatClampNeg)]) (rest := []) E hml hP hD hS hA (t_X10_hold l D G ((gB u 38) ((((8 : Int32) * c1) + x2)).toNatClampNeg) u _ h) kmX10_213 mwyX10_hold rfl rfl ⟨⟨rfl, rfl⟩, Nat.le_of_ble_eq_true rfl, Nat.le_of_ble_eq_true rfl⟩ rfl hl.1 rfl (Nat.le_of_ble_eq_true rfl) dX10_holdWaiting_68 ⟨Nat.zero_le _, Nat.zero_le _⟩ (fun u5 H locs hP hD hS h => ?_)
        refine lv_iinc (v := (x2 + (1 : Int32))) (lv' := [(2, .int (x2 + (1 : Int32))), (0, .ref (G.1 0)), (1, .int c1)]) hx hb dX10_holdWaiting_71 hl (k := 2) rfl rfl (by decide) rfl (fun ls hl => ?_)
        refine lv_goto (tgt := 46) hx hb dX10_holdWaiting_74 (by decide) ?_
        exact ih (x2 + (1 : Int32)) u5 _ _ _ h hP hD hS (lv_sub hl [1, 2, 0] rfl)
  have L_6 : ∀  (K : St → Prop), (∀  (u : St) (H : Heap) (locs : List Loc) (ls : Array Slot), K  u → va_P D vwCl (wR G u) H → va_D (AR G s.heap.size) (wR G u) → va_S (AR G s.heap.size) s.heap H locs → lv_has ls 3 [] → W p l e rm_X10_holdWaiting s m args below meth c H locs 0 0 (MQ below (va_Qv Q (BR D G s.heap.size) (AR G s.heap.size)) args s 0 0 (AR G s.heap.size)) (F0 m 87 ls [])) → ∀ (n : Nat) (x1 : Int32) (u : St) (H : Heap) (locs : List Loc) (ls : Array Slot), l_X10_holdWaiting_6 Q K n x1 u → va_P D vwCl (wR G u) H → va_D (AR G s.heap.size) (wR G u) → va_S (AR G s.heap.size) s.heap H locs → lv_has ls 3 [(0, .ref (G.1 0)), (1, .int x1)] → W p l e rm_X10_holdWaiting s m args below meth c H locs 0 0 (MQ below (va_Qv Q (BR D G s.heap.size) (AR G s.heap.size)) args s 0 0 (AR G s.heap.size)) (F0 m 6 ls []) := by
    intro  K hK n
    induction n with
    | zero => intro x1 u H locs ls h; exact False.elim h
    | succ n ih =>
      intro x1 u H locs ls h hP hD hS hl
      unfold l_X10_holdWaiting_6 at h
      refine lv_iload_n hx hb dX10_holdWaiting_6 rfl (lv_at hl 1 rfl) ?_
      refine lv_aload_n hx hb dX10_holdWaiting_7 rfl (lv_at hl 0 rfl) ?_
      refine gR_32 E hP kfX10_111 (v := (gI u 32)) rfl dX10_holdWaiting_8 ?_
      refine lv_icmp_ge (tgt := 87) hx hb dX10_holdWaiting_11 (by decide) (fun hc => ?_) (fun hc => ?_)
      · have h := h.1 hc
        exact hK u _ _ _ h hP hD hS (lv_sub hl [] rfl)
      · have h := h.2 hc
        refine lv_aload_n hx hb dX10_holdWaiting_14 rfl (lv_at hl 0 rfl) ?_
        refine lv_aload_n hx hb dX10_holdWaiting_15 rfl (lv_at hl 0 rfl) ?_
        refine gR_34 E hP kfX10_117 dX10_holdWaiting_16 ?_
        refine lv_iload_n hx hb dX10_holdWaiting_19 rfl (lv_at hl 1 rfl) ?_
        obtain ⟨h9, h⟩ := h
        refine xR_34 E hP h9 (v := ((gB u 34) (x1).toNatClampNeg)) rfl dX10_holdWaiting_20 ?_
        refine cR_v (ci := 9) (q0 := 0) (As := [.long ((gB u 34) (x1).toNatClampNeg)]) (rest := []) E hml hP hD hS hA (t_X10_hold l D G ((gB u 34) (x1).toNatClampNeg) u _ h) kmX10_213 mwyX10_hold rfl rfl ⟨⟨rfl, rfl⟩, Nat.le_of_ble_eq_true rfl, Nat.le_of_ble_eq_true rfl⟩ rfl hl.1 rfl (Nat.le_of_ble_eq_true rfl) dX10_holdWaiting_21 ⟨Nat.zero_le _, Nat.zero_le _⟩ (fun u2 H locs hP hD hS h => ?_)
        refine lv_aload_n hx hb dX10_holdWaiting_24 rfl (lv_at hl 0 rfl) ?_
        refine lv_aload_n hx hb dX10_holdWaiting_25 rfl (lv_at hl 0 rfl) ?_
        refine gR_35 E hP kfX10_120 dX10_holdWaiting_26 ?_
        refine lv_iload_n hx hb dX10_holdWaiting_29 rfl (lv_at hl 1 rfl) ?_
        obtain ⟨h9, h⟩ := h
        refine xR_35 E hP h9 (v := ((gB u2 35) (x1).toNatClampNeg)) rfl dX10_holdWaiting_30 ?_
        refine cR_v (ci := 9) (q0 := 0) (As := [.long ((gB u2 35) (x1).toNatClampNeg)]) (rest := []) E hml hP hD hS hA (t_X10_hold l D G ((gB u2 35) (x1).toNatClampNeg) u2 _ h) kmX10_213 mwyX10_hold rfl rfl ⟨⟨rfl, rfl⟩, Nat.le_of_ble_eq_true rfl, Nat.le_of_ble_eq_true rfl⟩ rfl hl.1 rfl (Nat.le_of_ble_eq_true rfl) dX10_holdWaiting_31 ⟨Nat.zero_le _, Nat.zero_le _⟩ (fun u3 H locs hP hD hS h => ?_)
        refine lv_aload_n hx hb dX10_holdWaiting_34 rfl (lv_at hl 0 rfl) ?_
        refine lv_aload_n hx hb dX10_holdWaiting_35 rfl (lv_at hl 0 rfl) ?_
        refine gR_36 E hP kfX10_123 dX10_holdWaiting_36 ?_
        refine lv_iload_n hx hb dX10_holdWaiting_39 rfl (lv_at hl 1 rfl) ?_
        obtain ⟨h9, h⟩ := h
        refine xR_36 E hP h9 (v := ((gB u3 36) (x1).toNatClampNeg)) rfl dX10_holdWaiting_40 ?_
        refine cR_v (ci := 9) (q0 := 0) (As := [.long ((gB u3 36) (x1).toNatClampNeg)]) (rest := []) E hml hP hD hS hA (t_X10_hold l D G ((gB u3 36) (x1).toNatClampNeg) u3 _ h) kmX10_213 mwyX10_hold rfl rfl ⟨⟨rfl, rfl⟩, Nat.le_of_ble_eq_true rfl, Nat.le_of_ble_eq_true rfl⟩ rfl hl.1 rfl (Nat.le_of_ble_eq_true rfl) dX10_holdWaiting_41 ⟨Nat.zero_le _, Nat.zero_le _⟩ (fun u4 H locs hP hD hS h => ?_)
        refine lv_iconst (v := (0 : Int32)) hx hb dX10_holdWaiting_44 (by decide) ?_
        refine lv_istore_n (lv' := [(2, .int (0 : Int32)), (0, .ref (G.1 0)), (1, .int x1)]) hx hb dX10_holdWaiting_45 rfl hl (by decide) rfl (fun ls hl => ?_)
        obtain ⟨n, h⟩ := h
        refine L_46 x1 _ (fun u6 H locs ls h hP hD hS hl => ?_) n (0 : Int32) u4 _ _ _ h hP hD hS (lv_sub hl [1, 2, 0] rfl)
        refine lv_aload_n hx hb dX10_holdWaiting_77 rfl (lv_at hl 0 rfl) ?_
        refine cR_v (ci := 9) (q0 := 0) (As := []) (rest := []) E hml hP hD hS hA (t_X10_holdAll l D G  u6 _ h) kmX10_219 mwyX10_holdAll rfl rfl ⟨⟨rfl, rfl⟩, Nat.le_of_ble_eq_true rfl, Nat.le_of_ble_eq_true rfl⟩ rfl hl.1 rfl (Nat.le_of_ble_eq_true rfl) dX10_holdWaiting_78 ⟨Nat.zero_le _, Nat.zero_le _⟩ (fun u7 H locs hP hD hS h => ?_)
        refine lv_iinc (v := (x1 + (1 : Int32))) (lv' := [(1, .int (x1 + (1 : Int32))), (0, .ref (G.1 0))]) hx hb dX10_holdWaiting_81 hl (k := 1) rfl rfl (by decide) rfl (fun ls hl => ?_)
        refine lv_goto (tgt := 6) hx hb dX10_holdWaiting_84 (by decide) ?_
        exact ih (x1 + (1 : Int32)) u7 _ _ _ h hP hD hS (lv_sub hl [1, 0] rfl)
  unfold wp_X10_holdWaiting at h
  refine lv_aload_n hx hb dX10_holdWaiting_0 rfl (lv_at hl 0 rfl) ?_
  refine cR_v (ci := 9) (q0 := 0) (As := []) (rest := []) E hml hP hD hS hA (t_X10_holdGlobals l D G  u _ h) kmX10_222 mwyX10_holdGlobals rfl rfl ⟨⟨rfl, rfl⟩, Nat.le_of_ble_eq_true rfl, Nat.le_of_ble_eq_true rfl⟩ rfl hl.1 rfl (Nat.le_of_ble_eq_true rfl) dX10_holdWaiting_1 ⟨Nat.zero_le _, Nat.zero_le _⟩ (fun u1 H locs hP hD hS h => ?_)
  refine lv_iconst (v := (0 : Int32)) hx hb dX10_holdWaiting_4 (by decide) ?_
  refine lv_istore_n (lv' := [(1, .int (0 : Int32)), (0, .ref (G.1 0))]) hx hb dX10_holdWaiting_5 rfl hl (by decide) rfl (fun ls hl => ?_)
  obtain ⟨n, h⟩ := h
  refine L_6  _ (fun u9 H locs ls h hP hD hS hl => ?_) n (0 : Int32) u1 _ _ _ h hP hD hS (lv_sub hl [1, 0] rfl)
  exact retR_v E hr hlk hP hD hS h dX10_holdWaiting_87
def l_X10_holdForBinding_19 (Q : St → Prop)  (K : St → Prop) : Nat → Int32 → St → Prop
  | 0, _, _ => False
  | n + 1, x3, u => (((gI u 43) ≤ x3 → K u) ∧ (¬ (gI u 43) ≤ x3 → vp_in x3 8 ∧ wp_X10_hold ((gB u 42) (x3).toNatClampNeg) u (fun (u4 : St) => l_X10_holdForBinding_19 Q K n (x3 + (1 : Int32)) u4)))
def wp_X10_holdForBinding (p0 : Int64) (u : St) (Q : St → Prop) : Prop := wp_X10_holdWaiting  u (fun (u1 : St) => wp_X10_hold p0 u1 (fun (u2 : St) => wp_X10_hold (gJ u2 41) u2 (fun (u3 : St) => (∃ k6 : Nat, l_X10_holdForBinding_19 Q  (fun (u5 : St) => Q u5) k6 (0 : Int32) u3))))
abbrev rm_X10_holdForBinding : Room := { frames := 5, cells := 0, slots := 0, locals := 109 }
set_option maxHeartbeats 4000000 in
set_option maxRecDepth 100000 in
theorem t_X10_holdForBinding (l : Launch) (D : va_G) (G : Gd) (p0 : Int64) (u : St) (Q : St → Prop) (h : wp_X10_holdForBinding p0 u Q) : MRv l D G yX10_holdForBinding cX10_holdForBinding 4 none rm_X10_holdForBinding [.ref (G.1 0), .long p0] u Q := by
  refine startR_v (by decide) ?_
  intro p e s m args below meth c E hr hlk hml hP hD hS hA
  have hx := E.1
  have hb := E.2.1
  have hown := E.2.2.1
  have hW := E.2.2.2.1
  have hl := lv_entry ([.ref (G.1 0), .long p0]) (n := 4) (Nat.le_of_ble_eq_true rfl)
  rw [lg_entry_eq]
  generalize (lg_sl ([.ref (G.1 0), .long p0]) ++ List.replicate (4 - (lg_sl ([.ref (G.1 0), .long p0])).length) Slot.unset).toArray = ls at hl ⊢
  have hl : lv_has ls 4 [(0, .ref (G.1 0)), (1, .long p0)] := hl
  have L_19 : ∀  (K : St → Prop), (∀  (u : St) (H : Heap) (locs : List Loc) (ls : Array Slot), K  u → va_P D vwCl (wR G u) H → va_D (AR G s.heap.size) (wR G u) → va_S (AR G s.heap.size) s.heap H locs → lv_has ls 4 [] → W p l e rm_X10_holdForBinding s m args below meth c H locs 0 0 (MQ below (va_Qv Q (BR D G s.heap.size) (AR G s.heap.size)) args s 0 0 (AR G s.heap.size)) (F0 m 43 ls [])) → ∀ (n : Nat) (x3 : Int32) (u : St) (H : Heap) (locs : List Loc) (ls : Array Slot), l_X10_holdForBinding_19 Q K n x3 u → va_P D vwCl (wR G u) H → va_D (AR G s.heap.size) (wR G u) → va_S (AR G s.heap.size) s.heap H locs → lv_has ls 4 [(0, .ref (G.1 0)), (3, .int x3)] → W p l e rm_X10_holdForBinding s m args below meth c H locs 0 0 (MQ below (va_Qv Q (BR D G s.heap.size) (AR G s.heap.size)) args s 0 0 (AR G s.heap.size)) (F0 m 19 ls []) := by
    intro  K hK n
    induction n with
    | zero => intro x3 u H locs ls h; exact False.elim h
    | succ n ih =>
      intro x3 u H locs ls h hP hD hS hl
      unfold l_X10_holdForBinding_19 at h
      refine lv_iload_n hx hb dX10_holdForBinding_19 rfl (lv_at hl 1 rfl) ?_
      refine lv_aload_n hx hb dX10_holdForBinding_20 rfl (lv_at hl 0 rfl) ?_
      refine gR_43 E hP kfX10_144 (v := (gI u 43)) rfl dX10_holdForBinding_21 ?_
      refine lv_icmp_ge (tgt := 43) hx hb dX10_holdForBinding_24 (by decide) (fun hc => ?_) (fun hc => ?_)
      · have h := h.1 hc
        exact hK u _ _ _ h hP hD hS (lv_sub hl [] rfl)
      · have h := h.2 hc
        refine lv_aload_n hx hb dX10_holdForBinding_27 rfl (lv_at hl 0 rfl) ?_
        refine lv_aload_n hx hb dX10_holdForBinding_28 rfl (lv_at hl 0 rfl) ?_
        refine gR_42 E hP kfX10_141 dX10_holdForBinding_29 ?_
        refine lv_iload_n hx hb dX10_holdForBinding_32 rfl (lv_at hl 1 rfl) ?_
        obtain ⟨h9, h⟩ := h
        refine xR_42 E hP h9 (v := ((gB u 42) (x3).toNatClampNeg)) rfl dX10_holdForBinding_33 ?_
        refine cR_v (ci := 9) (q0 := 0) (As := [.long ((gB u 42) (x3).toNatClampNeg)]) (rest := []) E hml hP hD hS hA (t_X10_hold l D G ((gB u 42) (x3).toNatClampNeg) u _ h) kmX10_213 mwyX10_hold rfl rfl ⟨⟨rfl, rfl⟩, Nat.le_of_ble_eq_true rfl, Nat.le_of_ble_eq_true rfl⟩ rfl hl.1 rfl (Nat.le_of_ble_eq_true rfl) dX10_holdForBinding_34 ⟨Nat.zero_le _, Nat.zero_le _⟩ (fun u4 H locs hP hD hS h => ?_)
        refine lv_iinc (v := (x3 + (1 : Int32))) (lv' := [(3, .int (x3 + (1 : Int32))), (0, .ref (G.1 0))]) hx hb dX10_holdForBinding_37 hl (k := 1) rfl rfl (by decide) rfl (fun ls hl => ?_)
        refine lv_goto (tgt := 19) hx hb dX10_holdForBinding_40 (by decide) ?_
        exact ih (x3 + (1 : Int32)) u4 _ _ _ h hP hD hS (lv_sub hl [1, 0] rfl)
  unfold wp_X10_holdForBinding at h
  refine lv_aload_n hx hb dX10_holdForBinding_0 rfl (lv_at hl 0 rfl) ?_
  refine cR_v (ci := 9) (q0 := 0) (As := []) (rest := []) E hml hP hD hS hA (t_X10_holdWaiting l D G  u _ h) kmX10_304 mwyX10_holdWaiting rfl rfl ⟨⟨rfl, rfl⟩, Nat.le_of_ble_eq_true rfl, Nat.le_of_ble_eq_true rfl⟩ rfl hl.1 rfl (Nat.le_of_ble_eq_true rfl) dX10_holdForBinding_1 ⟨Nat.zero_le _, Nat.zero_le _⟩ (fun u1 H locs hP hD hS h => ?_)
  refine lv_aload_n hx hb dX10_holdForBinding_4 rfl (lv_at hl 0 rfl) ?_
  refine lv_lload_n hx hb dX10_holdForBinding_5 rfl (lv_at hl 1 rfl) ?_
  refine cR_v (ci := 9) (q0 := 0) (As := [.long p0]) (rest := []) E hml hP hD hS hA (t_X10_hold l D G p0 u1 _ h) kmX10_213 mwyX10_hold rfl rfl ⟨⟨rfl, rfl⟩, Nat.le_of_ble_eq_true rfl, Nat.le_of_ble_eq_true rfl⟩ rfl hl.1 rfl (Nat.le_of_ble_eq_true rfl) dX10_holdForBinding_6 ⟨Nat.zero_le _, Nat.zero_le _⟩ (fun u2 H locs hP hD hS h => ?_)
  refine lv_aload_n hx hb dX10_holdForBinding_9 rfl (lv_at hl 0 rfl) ?_
  refine lv_aload_n hx hb dX10_holdForBinding_10 rfl (lv_at hl 0 rfl) ?_
  refine gR_41 E hP kfX10_138 (v := (gJ u2 41)) rfl dX10_holdForBinding_11 ?_
  refine cR_v (ci := 9) (q0 := 0) (As := [.long (gJ u2 41)]) (rest := []) E hml hP hD hS hA (t_X10_hold l D G (gJ u2 41) u2 _ h) kmX10_213 mwyX10_hold rfl rfl ⟨⟨rfl, rfl⟩, Nat.le_of_ble_eq_true rfl, Nat.le_of_ble_eq_true rfl⟩ rfl hl.1 rfl (Nat.le_of_ble_eq_true rfl) dX10_holdForBinding_14 ⟨Nat.zero_le _, Nat.zero_le _⟩ (fun u3 H locs hP hD hS h => ?_)
  refine lv_iconst (v := (0 : Int32)) hx hb dX10_holdForBinding_17 (by decide) ?_
  refine lv_istore_n (lv' := [(3, .int (0 : Int32)), (0, .ref (G.1 0)), (1, .long p0)]) hx hb dX10_holdForBinding_18 rfl hl (by decide) rfl (fun ls hl => ?_)
  obtain ⟨n, h⟩ := h
  refine L_19  _ (fun u5 H locs ls h hP hD hS hl => ?_) n (0 : Int32) u3 _ _ _ h hP hD hS (lv_sub hl [1, 0] rfl)
  exact retR_v E hr hlk hP hD hS h dX10_holdForBinding_43
def wp_X10_label (p0 : Int64) (u : St) (Q : St → Prop) : Prop := wp_X10_behind p0 u (fun (r1 : Int64) (u2 : St) => wp_X10_listOf r1 (2 : Int32) u2 (fun (r3 : Int32) (u4 : St) => ((r3 = 0 → wp_X10_fails (3 : Int32) u4 (fun (u5 : St) => Q u5)) ∧ (¬ r3 = 0 → wp_X10_first r1 u4 (fun (r6 : Int64) (u7 : St) => wp_X10_isName r6 (fun (r8 : Int32) => ((r8 = 0 → wp_X10_fails (3 : Int32) u7 (fun (u26 : St) => Q u26)) ∧ (¬ r8 = 0 → wp_X10_holdForBinding p0 u7 (fun (u9 : St) => wp_X10_room (2 : Int32) u9 (fun (r10 : Int32) (u11 : St) => ((r10 = 0 → Q u11) ∧ (¬ r10 = 0 → wp_X10_first r1 u11 (fun (r12 : Int64) (u13 : St) => wp_X10_behind r1 u13 (fun (r14 : Int64) (u15 : St) => wp_X10_first r14 u15 (fun (r16 : Int64) (u17 : St) => wp_X10_pair r12 r16 u17 (fun (r18 : Int64) (u19 : St) => wp_X10_pair r18 (gJ u19 41) u19 (fun (r20 : Int64) (u21 : St) => wp_X10_behind r1 (sJ u21 41 r20) (fun (r22 : Int64) (u23 : St) => wp_X10_first r22 u23 (fun (r24 : Int64) (u25 : St) => Q (sJ u25 40 r24))))))))))))))))))))
abbrev rm_X10_label : Room := { frames := 6, cells := 0, slots := 0, locals := 132 }
set_option maxHeartbeats 4000000 in
set_option maxRecDepth 100000 in
theorem t_X10_label (l : Launch) (D : va_G) (G : Gd) (p0 : Int64) (u : St) (Q : St → Prop) (h : wp_X10_label p0 u Q) : MRv l D G yX10_label cX10_label 5 none rm_X10_label [.ref (G.1 0), .long p0] u Q := by
  refine startR_v (by decide) ?_
  intro p e s m args below meth c E hr hlk hml hP hD hS hA
  have hx := E.1
  have hb := E.2.1
  have hown := E.2.2.1
  have hW := E.2.2.2.1
  have hl := lv_entry ([.ref (G.1 0), .long p0]) (n := 5) (Nat.le_of_ble_eq_true rfl)
  rw [lg_entry_eq]
  generalize (lg_sl ([.ref (G.1 0), .long p0]) ++ List.replicate (5 - (lg_sl ([.ref (G.1 0), .long p0])).length) Slot.unset).toArray = ls at hl ⊢
  have hl : lv_has ls 5 [(0, .ref (G.1 0)), (1, .long p0)] := hl
  unfold wp_X10_label at h
  refine lv_aload_n hx hb dX10_label_0 rfl (lv_at hl 0 rfl) ?_
  refine lv_lload_n hx hb dX10_label_1 rfl (lv_at hl 1 rfl) ?_
  refine cR_l (ci := 9) (q0 := 0) (As := [.long p0]) (rest := []) E hml hP hD hS hA (t_X10_behind l D G p0 u _ h) kmX10_216 mwyX10_behind rfl rfl ⟨⟨rfl, rfl⟩, Nat.le_of_ble_eq_true rfl, Nat.le_of_ble_eq_true rfl⟩ rfl hl.1 rfl (Nat.le_of_ble_eq_true rfl) dX10_label_2 ⟨Nat.zero_le _, Nat.zero_le _⟩ (fun r1 u2 H locs hP hD hS h => ?_)
  refine lv_lstore_n (lv' := [(3, .long r1), (0, .ref (G.1 0)), (1, .long p0)]) hx hb dX10_label_5 rfl hl (by decide) rfl (fun ls hl => ?_)
  refine lv_aload_n hx hb dX10_label_6 rfl (lv_at hl 1 rfl) ?_
  refine lv_lload_n hx hb dX10_label_7 rfl (lv_at hl 0 rfl) ?_
  refine lv_iconst (v := (2 : Int32)) hx hb dX10_label_8 (by decide) ?_
  refine cR_i (ci := 9) (q0 := 0) (As := [.long r1, .int (2 : Int32)]) (rest := []) E hml hP hD hS hA (t_X10_listOf l D G r1 (2 : Int32) u2 _ h) kmX10_269 mwyX10_listOf rfl rfl ⟨⟨rfl, rfl⟩, Nat.le_of_ble_eq_true rfl, Nat.le_of_ble_eq_true rfl⟩ rfl hl.1 rfl (Nat.le_of_ble_eq_true rfl) dX10_label_9 ⟨Nat.zero_le _, Nat.zero_le _⟩ (fun r3 u4 H locs hP hD hS h => ?_)
  refine lv_if_eq (tgt := 26) hx hb dX10_label_12 (by decide) (fun hc => ?_) (fun hc => ?_)
  · have h := h.1 hc
    refine lv_aload_n hx hb dX10_label_26 rfl (lv_at hl 1 rfl) ?_
    refine lv_iconst (v := (3 : Int32)) hx hb dX10_label_27 (by decide) ?_
    refine cR_v (ci := 9) (q0 := 0) (As := [.int (3 : Int32)]) (rest := []) E hml hP hD hS hA (t_X10_fails l D G (3 : Int32) u4 _ h) kmX10_265 mwyX10_fails rfl rfl ⟨⟨rfl, rfl⟩, Nat.le_of_ble_eq_true rfl, Nat.le_of_ble_eq_true rfl⟩ rfl hl.1 rfl (Nat.le_of_ble_eq_true rfl) dX10_label_28 ⟨Nat.zero_le _, Nat.zero_le _⟩ (fun u5 H locs hP hD hS h => ?_)
    exact retR_v E hr hlk hP hD hS h dX10_label_31
  · have h := h.2 hc
    refine lv_aload_n hx hb dX10_label_15 rfl (lv_at hl 1 rfl) ?_
    refine lv_lload_n hx hb dX10_label_16 rfl (lv_at hl 0 rfl) ?_
    refine cR_l (ci := 9) (q0 := 0) (As := [.long r1]) (rest := []) E hml hP hD hS hA (t_X10_first l D G r1 u4 _ h) kmX10_209 mwyX10_first rfl rfl ⟨⟨rfl, rfl⟩, Nat.le_of_ble_eq_true rfl, Nat.le_of_ble_eq_true rfl⟩ rfl hl.1 rfl (Nat.le_of_ble_eq_true rfl) dX10_label_17 ⟨Nat.zero_le _, Nat.zero_le _⟩ (fun r6 u7 H locs hP hD hS h => ?_)
    refine c0_i (As := [.long r6]) (rest := []) hx hb hml hown hW hP hS hA (t_X10_isName l r6 _ h) kmX10_289 mwyX10_isName ⟨⟨rfl, rfl⟩, Nat.le_of_ble_eq_true rfl, Nat.le_of_ble_eq_true rfl⟩ rfl hl.1 rfl (Nat.le_of_ble_eq_true rfl) dX10_label_20 ⟨Nat.zero_le _, Nat.zero_le _⟩ (fun r8 H locs hP hS h => ?_)
    refine lv_if_ne (tgt := 32) hx hb dX10_label_23 (by decide) (fun hc => ?_) (fun hc => ?_)
    · have h := h.2 hc
      refine lv_aload_n hx hb dX10_label_32 rfl (lv_at hl 1 rfl) ?_
      refine lv_lload_n hx hb dX10_label_33 rfl (lv_at hl 2 rfl) ?_
      refine cR_v (ci := 9) (q0 := 0) (As := [.long p0]) (rest := []) E hml hP hD hS hA (t_X10_holdForBinding l D G p0 u7 _ h) kmX10_313 mwyX10_holdForBinding rfl rfl ⟨⟨rfl, rfl⟩, Nat.le_of_ble_eq_true rfl, Nat.le_of_ble_eq_true rfl⟩ rfl hl.1 rfl (Nat.le_of_ble_eq_true rfl) dX10_label_34 ⟨Nat.zero_le _, Nat.zero_le _⟩ (fun u9 H locs hP hD hS h => ?_)
      refine lv_aload_n hx hb dX10_label_37 rfl (lv_at hl 1 rfl) ?_
      refine lv_iconst (v := (2 : Int32)) hx hb dX10_label_38 (by decide) ?_
      refine cR_i (ci := 9) (q0 := 0) (As := [.int (2 : Int32)]) (rest := []) E hml hP hD hS hA (t_X10_room l D G (2 : Int32) u9 _ h) kmX10_307 mwyX10_room rfl rfl ⟨⟨rfl, rfl⟩, Nat.le_of_ble_eq_true rfl, Nat.le_of_ble_eq_true rfl⟩ rfl hl.1 rfl (Nat.le_of_ble_eq_true rfl) dX10_label_39 ⟨Nat.zero_le _, Nat.zero_le _⟩ (fun r10 u11 H locs hP hD hS h => ?_)
      refine lv_if_ne (tgt := 46) hx hb dX10_label_42 (by decide) (fun hc => ?_) (fun hc => ?_)
      · have h := h.2 hc
        refine lv_aload_n hx hb dX10_label_46 rfl (lv_at hl 1 rfl) ?_
        refine lv_aload_n hx hb dX10_label_47 rfl (lv_at hl 1 rfl) ?_
        refine lv_aload_n hx hb dX10_label_48 rfl (lv_at hl 1 rfl) ?_
        refine lv_aload_n hx hb dX10_label_49 rfl (lv_at hl 1 rfl) ?_
        refine lv_lload_n hx hb dX10_label_50 rfl (lv_at hl 0 rfl) ?_
        refine cR_l (ci := 9) (q0 := 0) (As := [.long r1]) (rest := [.ref (G.1 0), .ref (G.1 0), .ref (G.1 0)]) E hml hP hD hS hA (t_X10_first l D G r1 u11 _ h) kmX10_209 mwyX10_first rfl rfl ⟨⟨rfl, rfl⟩, Nat.le_of_ble_eq_true rfl, Nat.le_of_ble_eq_true rfl⟩ rfl hl.1 rfl (Nat.le_of_ble_eq_true rfl) dX10_label_51 ⟨Nat.zero_le _, Nat.zero_le _⟩ (fun r12 u13 H locs hP hD hS h => ?_)
        refine lv_aload_n hx hb dX10_label_54 rfl (lv_at hl 1 rfl) ?_
        refine lv_aload_n hx hb dX10_label_55 rfl (lv_at hl 1 rfl) ?_
        refine lv_lload_n hx hb dX10_label_56 rfl (lv_at hl 0 rfl) ?_
        refine cR_l (ci := 9) (q0 := 0) (As := [.long r1]) (rest := [.ref (G.1 0), .long r12, .ref (G.1 0), .ref (G.1 0), .ref (G.1 0)]) E hml hP hD hS hA (t_X10_behind l D G r1 u13 _ h) kmX10_216 mwyX10_behind rfl rfl ⟨⟨rfl, rfl⟩, Nat.le_of_ble_eq_true rfl, Nat.le_of_ble_eq_true rfl⟩ rfl hl.1 rfl (Nat.le_of_ble_eq_true rfl) dX10_label_57 ⟨Nat.zero_le _, Nat.zero_le _⟩ (fun r14 u15 H locs hP hD hS h => ?_)
        refine cR_l (ci := 9) (q0 := 0) (As := [.long r14]) (rest := [.long r12, .ref (G.1 0), .ref (G.1 0), .ref (G.1 0)]) E hml hP hD hS hA (t_X10_first l D G r14 u15 _ h) kmX10_209 mwyX10_first rfl rfl ⟨⟨rfl, rfl⟩, Nat.le_of_ble_eq_true rfl, Nat.le_of_ble_eq_true rfl⟩ rfl hl.1 rfl (Nat.le_of_ble_eq_true rfl) dX10_label_60 ⟨Nat.zero_le _, Nat.zero_le _⟩ (fun r16 u17 H locs hP hD hS h => ?_)
        refine cR_l (ci := 9) (q0 := 0) (As := [.long r12, .long r16]) (rest := [.ref (G.1 0), .ref (G.1 0)]) E hml hP hD hS hA (t_X10_pair l D G r12 r16 u17 _ h) kmX10_244 mwyX10_pair rfl rfl ⟨⟨rfl, rfl⟩, Nat.le_of_ble_eq_true rfl, Nat.le_of_ble_eq_true rfl⟩ rfl hl.1 rfl (Nat.le_of_ble_eq_true rfl) dX10_label_63 ⟨Nat.zero_le _, Nat.zero_le _⟩ (fun r18 u19 H locs hP hD hS h => ?_)
        refine lv_aload_n hx hb dX10_label_66 rfl (lv_at hl 1 rfl) ?_
        refine gR_41 E hP kfX10_138 (v := (gJ u19 41)) rfl dX10_label_67 ?_
        refine cR_l (ci := 9) (q0 := 0) (As := [.long r18, .long (gJ u19 41)]) (rest := [.ref (G.1 0)]) E hml hP hD hS hA (t_X10_pair l D G r18 (gJ u19 41) u19 _ h) kmX10_244 mwyX10_pair rfl rfl ⟨⟨rfl, rfl⟩, Nat.le_of_ble_eq_true rfl, Nat.le_of_ble_eq_true rfl⟩ rfl hl.1 rfl (Nat.le_of_ble_eq_true rfl) dX10_label_70 ⟨Nat.zero_le _, Nat.zero_le _⟩ (fun r20 u21 H locs hP hD hS h => ?_)
        refine pR_41 E hP hD hS kfX10_138 dX10_label_73 (fun H locs hP hD hS => ?_)
        refine lv_aload_n hx hb dX10_label_76 rfl (lv_at hl 1 rfl) ?_
        refine lv_aload_n hx hb dX10_label_77 rfl (lv_at hl 1 rfl) ?_
        refine lv_aload_n hx hb dX10_label_78 rfl (lv_at hl 1 rfl) ?_
        refine lv_lload_n hx hb dX10_label_79 rfl (lv_at hl 0 rfl) ?_
        refine cR_l (ci := 9) (q0 := 0) (As := [.long r1]) (rest := [.ref (G.1 0), .ref (G.1 0)]) E hml hP hD hS hA (t_X10_behind l D G r1 (sJ u21 41 r20) _ h) kmX10_216 mwyX10_behind rfl rfl ⟨⟨rfl, rfl⟩, Nat.le_of_ble_eq_true rfl, Nat.le_of_ble_eq_true rfl⟩ rfl hl.1 rfl (Nat.le_of_ble_eq_true rfl) dX10_label_80 ⟨Nat.zero_le _, Nat.zero_le _⟩ (fun r22 u23 H locs hP hD hS h => ?_)
        refine cR_l (ci := 9) (q0 := 0) (As := [.long r22]) (rest := [.ref (G.1 0)]) E hml hP hD hS hA (t_X10_first l D G r22 u23 _ h) kmX10_209 mwyX10_first rfl rfl ⟨⟨rfl, rfl⟩, Nat.le_of_ble_eq_true rfl, Nat.le_of_ble_eq_true rfl⟩ rfl hl.1 rfl (Nat.le_of_ble_eq_true rfl) dX10_label_83 ⟨Nat.zero_le _, Nat.zero_le _⟩ (fun r24 u25 H locs hP hD hS h => ?_)
        refine pR_40 E hP hD hS kfX10_135 dX10_label_86 (fun H locs hP hD hS => ?_)
        exact retR_v E hr hlk hP hD hS h dX10_label_89
      · have h := h.1 hc
        exact retR_v E hr hlk hP hD hS h dX10_label_45
    · have h := h.1 hc
      refine lv_aload_n hx hb dX10_label_26 rfl (lv_at hl 1 rfl) ?_
      refine lv_iconst (v := (3 : Int32)) hx hb dX10_label_27 (by decide) ?_
      refine cR_v (ci := 9) (q0 := 0) (As := [.int (3 : Int32)]) (rest := []) E hml hP hD hS hA (t_X10_fails l D G (3 : Int32) u7 _ h) kmX10_265 mwyX10_fails rfl rfl ⟨⟨rfl, rfl⟩, Nat.le_of_ble_eq_true rfl, Nat.le_of_ble_eq_true rfl⟩ rfl hl.1 rfl (Nat.le_of_ble_eq_true rfl) dX10_label_28 ⟨Nat.zero_le _, Nat.zero_le _⟩ (fun u26 H locs hP hD hS h => ?_)
      exact retR_v E hr hlk hP hD hS h dX10_label_31
def l_X10_namesIn_5 (Q : Int32 → St → Prop)  (K : Int32 → Int64 → St → Prop) : Nat → Int32 → Int64 → St → Prop
  | 0, _, _, _ => False
  | n + 1, x3, x4, u => wp_X10_isPair x4 (fun (r1 : Int32) => ((r1 = 0 → K x3 x4 u) ∧ (¬ r1 = 0 → wp_X10_first x4 u (fun (r2 : Int64) (u3 : St) => wp_X10_isName r2 (fun (r4 : Int32) => ((r4 = 0 → Q (-1 : Int32) u3) ∧ (¬ r4 = 0 → wp_X10_behind x4 u3 (fun (r5 : Int64) (u6 : St) => l_X10_namesIn_5 Q K n (x3 + (1 : Int32)) r5 u6))))))))
def wp_X10_namesIn (p0 : Int64) (u : St) (Q : Int32 → St → Prop) : Prop := (∃ k10 : Nat, l_X10_namesIn_5 Q  (fun (y7 : Int32) (y8 : Int64) (u9 : St) => ((y8 = (4294967296 : Int64) → Q y7 u9) ∧ (¬ y8 = (4294967296 : Int64) → Q (-1 : Int32) u9))) k10 (0 : Int32) p0 u)
abbrev rm_X10_namesIn : Room := { frames := 1, cells := 0, slots := 0, locals := 22 }
set_option maxHeartbeats 4000000 in
set_option maxRecDepth 100000 in
theorem t_X10_namesIn (l : Launch) (D : va_G) (G : Gd) (p0 : Int64) (u : St) (Q : Int32 → St → Prop) (h : wp_X10_namesIn p0 u Q) : MRi l D G yX10_namesIn cX10_namesIn 6 (some .int) rm_X10_namesIn [.ref (G.1 0), .long p0] u Q := by
  refine startR_i (by decide) ?_
  intro p e s m args below meth c E hr hlk hml hP hD hS hA
  have hx := E.1
  have hb := E.2.1
  have hown := E.2.2.1
  have hW := E.2.2.2.1
  have hl := lv_entry ([.ref (G.1 0), .long p0]) (n := 6) (Nat.le_of_ble_eq_true rfl)
  rw [lg_entry_eq]
  generalize (lg_sl ([.ref (G.1 0), .long p0]) ++ List.replicate (6 - (lg_sl ([.ref (G.1 0), .long p0])).length) Slot.unset).toArray = ls at hl ⊢
  have hl : lv_has ls 6 [(0, .ref (G.1 0)), (1, .long p0)] := hl
  have L_5 : ∀  (K : Int32 → Int64 → St → Prop), (∀ (x3 : Int32) (x4 : Int64) (u : St) (H : Heap) (locs : List Loc) (ls : Array Slot), K x3 x4 u → va_P D vwCl (wR G u) H → va_D (AR G s.heap.size) (wR G u) → va_S (AR G s.heap.size) s.heap H locs → lv_has ls 6 [(3, .int x3), (4, .long x4)] → W p l e rm_X10_namesIn s m args below meth c H locs 0 0 (MQ below (va_Qi Q (BR D G s.heap.size) (AR G s.heap.size)) args s 0 0 (AR G s.heap.size)) (F0 m 41 ls [])) → ∀ (n : Nat) (x3 : Int32) (x4 : Int64) (u : St) (H : Heap) (locs : List Loc) (ls : Array Slot), l_X10_namesIn_5 Q K n x3 x4 u → va_P D vwCl (wR G u) H → va_D (AR G s.heap.size) (wR G u) → va_S (AR G s.heap.size) s.heap H locs → lv_has ls 6 [(0, .ref (G.1 0)), (3, .int x3), (4, .long x4)] → W p l e rm_X10_namesIn s m args below meth c H locs 0 0 (MQ below (va_Qi Q (BR D G s.heap.size) (AR G s.heap.size)) args s 0 0 (AR G s.heap.size)) (F0 m 5 ls []) := by
    intro  K hK n
    induction n with
    | zero => intro x3 x4 u H locs ls h; exact False.elim h
    | succ n ih =>
      intro x3 x4 u H locs ls h hP hD hS hl
      unfold l_X10_namesIn_5 at h
      refine lv_lload hx hb dX10_namesIn_5 (lv_at hl 2 rfl) ?_
      refine c0_i (As := [.long x4]) (rest := []) hx hb hml hown hW hP hS hA (t_X10_isPair l x4 _ h) kmX10_205 mwyX10_isPair ⟨⟨rfl, rfl⟩, Nat.le_of_ble_eq_true rfl, Nat.le_of_ble_eq_true rfl⟩ rfl hl.1 rfl (Nat.le_of_ble_eq_true rfl) dX10_namesIn_7 ⟨Nat.zero_le _, Nat.zero_le _⟩ (fun r1 H locs hP hS h => ?_)
      refine lv_if_eq (tgt := 41) hx hb dX10_namesIn_10 (by decide) (fun hc => ?_) (fun hc => ?_)
      · have h := h.1 hc
        exact hK x3 x4 u _ _ _ h hP hD hS (lv_sub hl [1, 2] rfl)
      · have h := h.2 hc
        refine lv_aload_n hx hb dX10_namesIn_13 rfl (lv_at hl 0 rfl) ?_
        refine lv_lload hx hb dX10_namesIn_14 (lv_at hl 2 rfl) ?_
        refine cR_l (ci := 9) (q0 := 0) (As := [.long x4]) (rest := []) E hml hP hD hS hA (t_X10_first l D G x4 u _ h) kmX10_209 mwyX10_first rfl rfl ⟨⟨rfl, rfl⟩, Nat.le_of_ble_eq_true rfl, Nat.le_of_ble_eq_true rfl⟩ rfl hl.1 rfl (Nat.le_of_ble_eq_true rfl) dX10_namesIn_16 ⟨Nat.zero_le _, Nat.zero_le _⟩ (fun r2 u3 H locs hP hD hS h => ?_)
        refine c0_i (As := [.long r2]) (rest := []) hx hb hml hown hW hP hS hA (t_X10_isName l r2 _ h) kmX10_289 mwyX10_isName ⟨⟨rfl, rfl⟩, Nat.le_of_ble_eq_true rfl, Nat.le_of_ble_eq_true rfl⟩ rfl hl.1 rfl (Nat.le_of_ble_eq_true rfl) dX10_namesIn_19 ⟨Nat.zero_le _, Nat.zero_le _⟩ (fun r4 H locs hP hS h => ?_)
        refine lv_if_ne (tgt := 27) hx hb dX10_namesIn_22 (by decide) (fun hc => ?_) (fun hc => ?_)
        · have h := h.2 hc
          refine lv_iinc (v := (x3 + (1 : Int32))) (lv' := [(3, .int (x3 + (1 : Int32))), (0, .ref (G.1 0)), (4, .long x4)]) hx hb dX10_namesIn_27 hl (k := 1) rfl rfl (by decide) rfl (fun ls hl => ?_)
          refine lv_aload_n hx hb dX10_namesIn_30 rfl (lv_at hl 1 rfl) ?_
          refine lv_lload hx hb dX10_namesIn_31 (lv_at hl 2 rfl) ?_
          refine cR_l (ci := 9) (q0 := 0) (As := [.long x4]) (rest := []) E hml hP hD hS hA (t_X10_behind l D G x4 u3 _ h) kmX10_216 mwyX10_behind rfl rfl ⟨⟨rfl, rfl⟩, Nat.le_of_ble_eq_true rfl, Nat.le_of_ble_eq_true rfl⟩ rfl hl.1 rfl (Nat.le_of_ble_eq_true rfl) dX10_namesIn_33 ⟨Nat.zero_le _, Nat.zero_le _⟩ (fun r5 u6 H locs hP hD hS h => ?_)
          refine lv_lstore (lv' := [(4, .long r5), (3, .int (x3 + (1 : Int32))), (0, .ref (G.1 0))]) hx hb dX10_namesIn_36 hl (by decide) rfl (fun ls hl => ?_)
          refine lv_goto (tgt := 5) hx hb dX10_namesIn_38 (by decide) ?_
          exact ih (x3 + (1 : Int32)) r5 u6 _ _ _ h hP hD hS (lv_sub hl [2, 1, 0] rfl)
        · have h := h.1 hc
          refine lv_iconst (v := (-1 : Int32)) hx hb dX10_namesIn_25 (by decide) ?_
          exact retR_i E hr hlk hP hD hS h dX10_namesIn_26
  unfold wp_X10_namesIn at h
  refine lv_iconst (v := (0 : Int32)) hx hb dX10_namesIn_0 (by decide) ?_
  refine lv_istore_n (lv' := [(3, .int (0 : Int32)), (0, .ref (G.1 0)), (1, .long p0)]) hx hb dX10_namesIn_1 rfl hl (by decide) rfl (fun ls hl => ?_)
  refine lv_lload_n hx hb dX10_namesIn_2 rfl (lv_at hl 2 rfl) ?_
  refine lv_lstore (lv' := [(4, .long p0), (3, .int (0 : Int32)), (0, .ref (G.1 0)), (1, .long p0)]) hx hb dX10_namesIn_3 hl (by decide) rfl (fun ls hl => ?_)
  obtain ⟨n, h⟩ := h
  refine L_5  _ (fun y7 y8 u9 H locs ls h hP hD hS hl => ?_) n (0 : Int32) p0 u _ _ _ h hP hD hS (lv_sub hl [2, 1, 0] rfl)
  refine lv_lload hx hb dX10_namesIn_41 (lv_at hl 1 rfl) ?_
  refine lv_ldc2 (v := (4294967296 : Int64)) hx hb hown (hW _ kcX10_199) dX10_namesIn_43 ?_
  refine lq_ne (tgt := 54) hx hb dX10_namesIn_46 dX10_namesIn_47 (by decide) (fun hc => ?_) (fun hc => ?_)
  · have h := h.2 hc
    refine lv_iconst (v := (-1 : Int32)) hx hb dX10_namesIn_54 (by decide) ?_
    exact retR_i E hr hlk hP hD hS h dX10_namesIn_55
  · have h := h.1 hc
    refine lv_iload_n hx hb dX10_namesIn_50 rfl (lv_at hl 0 rfl) ?_
    refine lv_goto (tgt := 55) hx hb dX10_namesIn_51 (by decide) ?_
    exact retR_i E hr hlk hP hD hS h dX10_namesIn_55
def l_X10_lambda_85 (Q : St → Prop) (c3 : Int64) (c5 : Int64) (c7 : Int32) (K : Int64 → St → Prop) : Nat → Int64 → Int32 → St → Prop
  | 0, _, _, _ => False
  | n + 1, x8, x10, u => ((c7 ≤ x10 → K x8 u) ∧ (¬ c7 ≤ x10 → wp_X10_behind x8 u (fun (r15 : Int64) (u16 : St) => l_X10_lambda_85 Q c3 c5 c7 K n r15 (x10 + (1 : Int32)) u16)))
def l_X10_lambda_70 (Q : St → Prop) (c3 : Int64) (K : Int64 → St → Prop) : Nat → Int64 → Int32 → St → Prop
  | 0, _, _, _ => False
  | n + 1, x5, x7, u => ((x7 < 0 → K x5 u) ∧ (¬ x7 < 0 → wp_X10_first c3 u (fun (r13 : Int64) (u14 : St) => (∃ k25 : Nat, l_X10_lambda_85 Q c3 x5 x7 (fun (y17 : Int64) (u18 : St) => wp_X10_first y17 u18 (fun (r19 : Int64) (u20 : St) => vp_in x7 8 ∧ wp_X10_pair r19 ((gB u20 42) (x7).toNatClampNeg) u20 (fun (r21 : Int64) (u22 : St) => wp_X10_pair r21 x5 u22 (fun (r23 : Int64) (u24 : St) => l_X10_lambda_70 Q c3 K n r23 (x7 + (-1 : Int32)) u24)))) k25 r13 (0 : Int32) u14))))
def wp_X10_lambda (p0 : Int64) (u : St) (Q : St → Prop) : Prop := wp_X10_behind p0 u (fun (r1 : Int64) (u2 : St) => wp_X10_listOf r1 (2 : Int32) u2 (fun (r3 : Int32) (u4 : St) => ((r3 = 0 → wp_X10_fails (3 : Int32) u4 (fun (u5 : St) => Q u5)) ∧ (¬ r3 = 0 → wp_X10_first r1 u4 (fun (r6 : Int64) (u7 : St) => wp_X10_namesIn r6 u7 (fun (r8 : Int32) (u9 : St) => ((r8 = (gI u9 43) → wp_X10_holdForBinding p0 u9 (fun (u10 : St) => wp_X10_room ((2 : Int32) * (gI u10 43)) u10 (fun (r11 : Int32) (u12 : St) => ((r11 = 0 → Q u12) ∧ (¬ r11 = 0 → (∃ k32 : Nat, l_X10_lambda_70 Q r1 (fun (y26 : Int64) (u27 : St) => wp_X10_behind r1 (sI (sJ u27 41 y26) 39 (0 : Int32)) (fun (r28 : Int64) (u29 : St) => wp_X10_first r28 u29 (fun (r30 : Int64) (u31 : St) => Q (sJ u31 40 r30)))) k32 (gJ u12 41) ((gI u12 43) - (1 : Int32)) u12)))))) ∧ (¬ r8 = (gI u9 43) → wp_X10_fails (3 : Int32) u9 (fun (u33 : St) => Q u33)))))))))
abbrev rm_X10_lambda : Room := { frames := 6, cells := 0, slots := 0, locals := 132 }
set_option maxHeartbeats 4000000 in
set_option maxRecDepth 100000 in
theorem t_X10_lambda (l : Launch) (D : va_G) (G : Gd) (p0 : Int64) (u : St) (Q : St → Prop) (h : wp_X10_lambda p0 u Q) : MRv l D G yX10_lambda cX10_lambda 11 none rm_X10_lambda [.ref (G.1 0), .long p0] u Q := by
  refine startR_v (by decide) ?_
  intro p e s m args below meth c E hr hlk hml hP hD hS hA
  have hx := E.1
  have hb := E.2.1
  have hown := E.2.2.1
  have hW := E.2.2.2.1
  have hl := lv_entry ([.ref (G.1 0), .long p0]) (n := 11) (Nat.le_of_ble_eq_true rfl)
  rw [lg_entry_eq]
  generalize (lg_sl ([.ref (G.1 0), .long p0]) ++ List.replicate (11 - (lg_sl ([.ref (G.1 0), .long p0])).length) Slot.unset).toArray = ls at hl ⊢
  have hl : lv_has ls 11 [(0, .ref (G.1 0)), (1, .long p0)] := hl
  have L_85 : ∀ (c3 : Int64) (c5 : Int64) (c7 : Int32) (K : Int64 → St → Prop), (∀ (x8 : Int64) (u : St) (H : Heap) (locs : List Loc) (ls : Array Slot), K x8 u → va_P D vwCl (wR G u) H → va_D (AR G s.heap.size) (wR G u) → va_S (AR G s.heap.size) s.heap H locs → lv_has ls 11 [(0, .ref (G.1 0)), (3, .long c3), (5, .long c5), (7, .int c7), (8, .long x8)] → W p l e rm_X10_lambda s m args below meth c H locs 0 0 (MQ below (va_Qv Q (BR D G s.heap.size) (AR G s.heap.size)) args s 0 0 (AR G s.heap.size)) (F0 m 106 ls [])) → ∀ (n : Nat) (x8 : Int64) (x10 : Int32) (u : St) (H : Heap) (locs : List Loc) (ls : Array Slot), l_X10_lambda_85 Q c3 c5 c7 K n x8 x10 u → va_P D vwCl (wR G u) H → va_D (AR G s.heap.size) (wR G u) → va_S (AR G s.heap.size) s.heap H locs → lv_has ls 11 [(0, .ref (G.1 0)), (3, .long c3), (5, .long c5), (7, .int c7), (8, .long x8), (10, .int x10)] → W p l e rm_X10_lambda s m args below meth c H locs 0 0 (MQ below (va_Qv Q (BR D G s.heap.size) (AR G s.heap.size)) args s 0 0 (AR G s.heap.size)) (F0 m 85 ls []) := by
    intro c3 c5 c7 K hK n
    induction n with
    | zero => intro x8 x10 u H locs ls h; exact False.elim h
    | succ n ih =>
      intro x8 x10 u H locs ls h hP hD hS hl
      unfold l_X10_lambda_85 at h
      refine lv_iload hx hb dX10_lambda_85 (lv_at hl 5 rfl) ?_
      refine lv_iload hx hb dX10_lambda_87 (lv_at hl 3 rfl) ?_
      refine lv_icmp_ge (tgt := 106) hx hb dX10_lambda_89 (by decide) (fun hc => ?_) (fun hc => ?_)
      · have h := h.1 hc
        exact hK x8 u _ _ _ h hP hD hS (lv_sub hl [0, 1, 2, 3, 4] rfl)
      · have h := h.2 hc
        refine lv_aload_n hx hb dX10_lambda_92 rfl (lv_at hl 0 rfl) ?_
        refine lv_lload hx hb dX10_lambda_93 (lv_at hl 4 rfl) ?_
        refine cR_l (ci := 9) (q0 := 0) (As := [.long x8]) (rest := []) E hml hP hD hS hA (t_X10_behind l D G x8 u _ h) kmX10_216 mwyX10_behind rfl rfl ⟨⟨rfl, rfl⟩, Nat.le_of_ble_eq_true rfl, Nat.le_of_ble_eq_true rfl⟩ rfl hl.1 rfl (Nat.le_of_ble_eq_true rfl) dX10_lambda_95 ⟨Nat.zero_le _, Nat.zero_le _⟩ (fun r15 u16 H locs hP hD hS h => ?_)
        refine lv_lstore (lv' := [(8, .long r15), (0, .ref (G.1 0)), (3, .long c3), (5, .long c5), (7, .int c7), (10, .int x10)]) hx hb dX10_lambda_98 hl (by decide) rfl (fun ls hl => ?_)
        refine lv_iinc (v := (x10 + (1 : Int32))) (lv' := [(10, .int (x10 + (1 : Int32))), (8, .long r15), (0, .ref (G.1 0)), (3, .long c3), (5, .long c5), (7, .int c7)]) hx hb dX10_lambda_100 hl (k := 5) rfl rfl (by decide) rfl (fun ls hl => ?_)
        refine lv_goto (tgt := 85) hx hb dX10_lambda_103 (by decide) ?_
        exact ih r15 (x10 + (1 : Int32)) u16 _ _ _ h hP hD hS (lv_sub hl [2, 3, 4, 5, 1, 0] rfl)
  have L_70 : ∀ (c3 : Int64) (K : Int64 → St → Prop), (∀ (x5 : Int64) (u : St) (H : Heap) (locs : List Loc) (ls : Array Slot), K x5 u → va_P D vwCl (wR G u) H → va_D (AR G s.heap.size) (wR G u) → va_S (AR G s.heap.size) s.heap H locs → lv_has ls 11 [(0, .ref (G.1 0)), (3, .long c3), (5, .long x5)] → W p l e rm_X10_lambda s m args below meth c H locs 0 0 (MQ below (va_Qv Q (BR D G s.heap.size) (AR G s.heap.size)) args s 0 0 (AR G s.heap.size)) (F0 m 137 ls [])) → ∀ (n : Nat) (x5 : Int64) (x7 : Int32) (u : St) (H : Heap) (locs : List Loc) (ls : Array Slot), l_X10_lambda_70 Q c3 K n x5 x7 u → va_P D vwCl (wR G u) H → va_D (AR G s.heap.size) (wR G u) → va_S (AR G s.heap.size) s.heap H locs → lv_has ls 11 [(0, .ref (G.1 0)), (3, .long c3), (5, .long x5), (7, .int x7)] → W p l e rm_X10_lambda s m args below meth c H locs 0 0 (MQ below (va_Qv Q (BR D G s.heap.size) (AR G s.heap.size)) args s 0 0 (AR G s.heap.size)) (F0 m 70 ls []) := by
    intro c3 K hK n
    induction n with
    | zero => intro x5 x7 u H locs ls h; exact False.elim h
    | succ n ih =>
      intro x5 x7 u H locs ls h hP hD hS hl
      unfold l_X10_lambda_70 at h
      refine lv_iload hx hb dX10_lambda_70 (lv_at hl 3 rfl) ?_
      refine lv_if_lt (tgt := 137) hx hb dX10_lambda_72 (by decide) (fun hc => ?_) (fun hc => ?_)
      · have h := h.1 hc
        exact hK x5 u _ _ _ h hP hD hS (lv_sub hl [0, 1, 2] rfl)
      · have h := h.2 hc
        refine lv_aload_n hx hb dX10_lambda_75 rfl (lv_at hl 0 rfl) ?_
        refine lv_lload_n hx hb dX10_lambda_76 rfl (lv_at hl 1 rfl) ?_
        refine cR_l (ci := 9) (q0 := 0) (As := [.long c3]) (rest := []) E hml hP hD hS hA (t_X10_first l D G c3 u _ h) kmX10_209 mwyX10_first rfl rfl ⟨⟨rfl, rfl⟩, Nat.le_of_ble_eq_true rfl, Nat.le_of_ble_eq_true rfl⟩ rfl hl.1 rfl (Nat.le_of_ble_eq_true rfl) dX10_lambda_77 ⟨Nat.zero_le _, Nat.zero_le _⟩ (fun r13 u14 H locs hP hD hS h => ?_)
        refine lv_lstore (lv' := [(8, .long r13), (0, .ref (G.1 0)), (3, .long c3), (5, .long x5), (7, .int x7)]) hx hb dX10_lambda_80 hl (by decide) rfl (fun ls hl => ?_)
        refine lv_iconst (v := (0 : Int32)) hx hb dX10_lambda_82 (by decide) ?_
        refine lv_istore (lv' := [(10, .int (0 : Int32)), (8, .long r13), (0, .ref (G.1 0)), (3, .long c3), (5, .long x5), (7, .int x7)]) hx hb dX10_lambda_83 hl (by decide) rfl (fun ls hl => ?_)
        obtain ⟨n, h⟩ := h
        refine L_85 c3 x5 x7 _ (fun y17 u18 H locs ls h hP hD hS hl => ?_) n r13 (0 : Int32) u14 _ _ _ h hP hD hS (lv_sub hl [2, 3, 4, 5, 1, 0] rfl)
        refine lv_aload_n hx hb dX10_lambda_106 rfl (lv_at hl 0 rfl) ?_
        refine lv_aload_n hx hb dX10_lambda_107 rfl (lv_at hl 0 rfl) ?_
        refine lv_aload_n hx hb dX10_lambda_108 rfl (lv_at hl 0 rfl) ?_
        refine lv_lload hx hb dX10_lambda_109 (lv_at hl 4 rfl) ?_
        refine cR_l (ci := 9) (q0 := 0) (As := [.long y17]) (rest := [.ref (G.1 0), .ref (G.1 0)]) E hml hP hD hS hA (t_X10_first l D G y17 u18 _ h) kmX10_209 mwyX10_first rfl rfl ⟨⟨rfl, rfl⟩, Nat.le_of_ble_eq_true rfl, Nat.le_of_ble_eq_true rfl⟩ rfl hl.1 rfl (Nat.le_of_ble_eq_true rfl) dX10_lambda_111 ⟨Nat.zero_le _, Nat.zero_le _⟩ (fun r19 u20 H locs hP hD hS h => ?_)
        refine lv_aload_n hx hb dX10_lambda_114 rfl (lv_at hl 0 rfl) ?_
        refine gR_42 E hP kfX10_141 dX10_lambda_115 ?_
        refine lv_iload hx hb dX10_lambda_118 (lv_at hl 3 rfl) ?_
        obtain ⟨h9, h⟩ := h
        refine xR_42 E hP h9 (v := ((gB u20 42) (x7).toNatClampNeg)) rfl dX10_lambda_120 ?_
        refine cR_l (ci := 9) (q0 := 0) (As := [.long r19, .long ((gB u20 42) (x7).toNatClampNeg)]) (rest := [.ref (G.1 0)]) E hml hP hD hS hA (t_X10_pair l D G r19 ((gB u20 42) (x7).toNatClampNeg) u20 _ h) kmX10_244 mwyX10_pair rfl rfl ⟨⟨rfl, rfl⟩, Nat.le_of_ble_eq_true rfl, Nat.le_of_ble_eq_true rfl⟩ rfl hl.1 rfl (Nat.le_of_ble_eq_true rfl) dX10_lambda_121 ⟨Nat.zero_le _, Nat.zero_le _⟩ (fun r21 u22 H locs hP hD hS h => ?_)
        refine lv_lload hx hb dX10_lambda_124 (lv_at hl 2 rfl) ?_
        refine cR_l (ci := 9) (q0 := 0) (As := [.long r21, .long x5]) (rest := []) E hml hP hD hS hA (t_X10_pair l D G r21 x5 u22 _ h) kmX10_244 mwyX10_pair rfl rfl ⟨⟨rfl, rfl⟩, Nat.le_of_ble_eq_true rfl, Nat.le_of_ble_eq_true rfl⟩ rfl hl.1 rfl (Nat.le_of_ble_eq_true rfl) dX10_lambda_126 ⟨Nat.zero_le _, Nat.zero_le _⟩ (fun r23 u24 H locs hP hD hS h => ?_)
        refine lv_lstore (lv' := [(5, .long r23), (0, .ref (G.1 0)), (3, .long c3), (7, .int x7), (8, .long y17)]) hx hb dX10_lambda_129 hl (by decide) rfl (fun ls hl => ?_)
        refine lv_iinc (v := (x7 + (-1 : Int32))) (lv' := [(7, .int (x7 + (-1 : Int32))), (5, .long r23), (0, .ref (G.1 0)), (3, .long c3), (8, .long y17)]) hx hb dX10_lambda_131 hl (k := 3) rfl rfl (by decide) rfl (fun ls hl => ?_)
        refine lv_goto (tgt := 70) hx hb dX10_lambda_134 (by decide) ?_
        exact ih r23 (x7 + (-1 : Int32)) u24 _ _ _ h hP hD hS (lv_sub hl [2, 3, 1, 0] rfl)
  unfold wp_X10_lambda at h
  refine lv_aload_n hx hb dX10_lambda_0 rfl (lv_at hl 0 rfl) ?_
  refine lv_lload_n hx hb dX10_lambda_1 rfl (lv_at hl 1 rfl) ?_
  refine cR_l (ci := 9) (q0 := 0) (As := [.long p0]) (rest := []) E hml hP hD hS hA (t_X10_behind l D G p0 u _ h) kmX10_216 mwyX10_behind rfl rfl ⟨⟨rfl, rfl⟩, Nat.le_of_ble_eq_true rfl, Nat.le_of_ble_eq_true rfl⟩ rfl hl.1 rfl (Nat.le_of_ble_eq_true rfl) dX10_lambda_2 ⟨Nat.zero_le _, Nat.zero_le _⟩ (fun r1 u2 H locs hP hD hS h => ?_)
  refine lv_lstore_n (lv' := [(3, .long r1), (0, .ref (G.1 0)), (1, .long p0)]) hx hb dX10_lambda_5 rfl hl (by decide) rfl (fun ls hl => ?_)
  refine lv_aload_n hx hb dX10_lambda_6 rfl (lv_at hl 1 rfl) ?_
  refine lv_lload_n hx hb dX10_lambda_7 rfl (lv_at hl 0 rfl) ?_
  refine lv_iconst (v := (2 : Int32)) hx hb dX10_lambda_8 (by decide) ?_
  refine cR_i (ci := 9) (q0 := 0) (As := [.long r1, .int (2 : Int32)]) (rest := []) E hml hP hD hS hA (t_X10_listOf l D G r1 (2 : Int32) u2 _ h) kmX10_269 mwyX10_listOf rfl rfl ⟨⟨rfl, rfl⟩, Nat.le_of_ble_eq_true rfl, Nat.le_of_ble_eq_true rfl⟩ rfl hl.1 rfl (Nat.le_of_ble_eq_true rfl) dX10_lambda_9 ⟨Nat.zero_le _, Nat.zero_le _⟩ (fun r3 u4 H locs hP hD hS h => ?_)
  refine lv_if_eq (tgt := 31) hx hb dX10_lambda_12 (by decide) (fun hc => ?_) (fun hc => ?_)
  · have h := h.1 hc
    refine lv_aload_n hx hb dX10_lambda_31 rfl (lv_at hl 1 rfl) ?_
    refine lv_iconst (v := (3 : Int32)) hx hb dX10_lambda_32 (by decide) ?_
    refine cR_v (ci := 9) (q0 := 0) (As := [.int (3 : Int32)]) (rest := []) E hml hP hD hS hA (t_X10_fails l D G (3 : Int32) u4 _ h) kmX10_265 mwyX10_fails rfl rfl ⟨⟨rfl, rfl⟩, Nat.le_of_ble_eq_true rfl, Nat.le_of_ble_eq_true rfl⟩ rfl hl.1 rfl (Nat.le_of_ble_eq_true rfl) dX10_lambda_33 ⟨Nat.zero_le _, Nat.zero_le _⟩ (fun u5 H locs hP hD hS h => ?_)
    exact retR_v E hr hlk hP hD hS h dX10_lambda_36
  · have h := h.2 hc
    refine lv_aload_n hx hb dX10_lambda_15 rfl (lv_at hl 1 rfl) ?_
    refine lv_aload_n hx hb dX10_lambda_16 rfl (lv_at hl 1 rfl) ?_
    refine lv_lload_n hx hb dX10_lambda_17 rfl (lv_at hl 0 rfl) ?_
    refine cR_l (ci := 9) (q0 := 0) (As := [.long r1]) (rest := [.ref (G.1 0)]) E hml hP hD hS hA (t_X10_first l D G r1 u4 _ h) kmX10_209 mwyX10_first rfl rfl ⟨⟨rfl, rfl⟩, Nat.le_of_ble_eq_true rfl, Nat.le_of_ble_eq_true rfl⟩ rfl hl.1 rfl (Nat.le_of_ble_eq_true rfl) dX10_lambda_18 ⟨Nat.zero_le _, Nat.zero_le _⟩ (fun r6 u7 H locs hP hD hS h => ?_)
    refine cR_i (ci := 9) (q0 := 0) (As := [.long r6]) (rest := []) E hml hP hD hS hA (t_X10_namesIn l D G r6 u7 _ h) kmX10_310 mwyX10_namesIn rfl rfl ⟨⟨rfl, rfl⟩, Nat.le_of_ble_eq_true rfl, Nat.le_of_ble_eq_true rfl⟩ rfl hl.1 rfl (Nat.le_of_ble_eq_true rfl) dX10_lambda_21 ⟨Nat.zero_le _, Nat.zero_le _⟩ (fun r8 u9 H locs hP hD hS h => ?_)
    refine lv_aload_n hx hb dX10_lambda_24 rfl (lv_at hl 1 rfl) ?_
    refine gR_43 E hP kfX10_144 (v := (gI u9 43)) rfl dX10_lambda_25 ?_
    refine lv_icmp_eq (tgt := 37) hx hb dX10_lambda_28 (by decide) (fun hc => ?_) (fun hc => ?_)
    · have h := h.1 hc
      refine lv_aload_n hx hb dX10_lambda_37 rfl (lv_at hl 1 rfl) ?_
      refine lv_lload_n hx hb dX10_lambda_38 rfl (lv_at hl 2 rfl) ?_
      refine cR_v (ci := 9) (q0 := 0) (As := [.long p0]) (rest := []) E hml hP hD hS hA (t_X10_holdForBinding l D G p0 u9 _ h) kmX10_313 mwyX10_holdForBinding rfl rfl ⟨⟨rfl, rfl⟩, Nat.le_of_ble_eq_true rfl, Nat.le_of_ble_eq_true rfl⟩ rfl hl.1 rfl (Nat.le_of_ble_eq_true rfl) dX10_lambda_39 ⟨Nat.zero_le _, Nat.zero_le _⟩ (fun u10 H locs hP hD hS h => ?_)
      refine lv_aload_n hx hb dX10_lambda_42 rfl (lv_at hl 1 rfl) ?_
      refine lv_iconst (v := (2 : Int32)) hx hb dX10_lambda_43 (by decide) ?_
      refine lv_aload_n hx hb dX10_lambda_44 rfl (lv_at hl 1 rfl) ?_
      refine gR_43 E hP kfX10_144 (v := (gI u10 43)) rfl dX10_lambda_45 ?_
      refine lv_imul hx hb dX10_lambda_48 ?_
      refine cR_i (ci := 9) (q0 := 0) (As := [.int ((2 : Int32) * (gI u10 43))]) (rest := []) E hml hP hD hS hA (t_X10_room l D G ((2 : Int32) * (gI u10 43)) u10 _ h) kmX10_307 mwyX10_room rfl rfl ⟨⟨rfl, rfl⟩, Nat.le_of_ble_eq_true rfl, Nat.le_of_ble_eq_true rfl⟩ rfl hl.1 rfl (Nat.le_of_ble_eq_true rfl) dX10_lambda_49 ⟨Nat.zero_le _, Nat.zero_le _⟩ (fun r11 u12 H locs hP hD hS h => ?_)
      refine lv_if_ne (tgt := 56) hx hb dX10_lambda_52 (by decide) (fun hc => ?_) (fun hc => ?_)
      · have h := h.2 hc
        refine lv_aload_n hx hb dX10_lambda_56 rfl (lv_at hl 1 rfl) ?_
        refine gR_41 E hP kfX10_138 (v := (gJ u12 41)) rfl dX10_lambda_57 ?_
        refine lv_lstore (lv' := [(5, .long (gJ u12 41)), (3, .long r1), (0, .ref (G.1 0)), (1, .long p0)]) hx hb dX10_lambda_60 hl (by decide) rfl (fun ls hl => ?_)
        refine lv_aload_n hx hb dX10_lambda_62 rfl (lv_at hl 2 rfl) ?_
        refine gR_43 E hP kfX10_144 (v := (gI u12 43)) rfl dX10_lambda_63 ?_
        refine lv_iconst (v := (1 : Int32)) hx hb dX10_lambda_66 (by decide) ?_
        refine lv_isub hx hb dX10_lambda_67 ?_
        refine lv_istore (lv' := [(7, .int ((gI u12 43) - (1 : Int32))), (5, .long (gJ u12 41)), (3, .long r1), (0, .ref (G.1 0)), (1, .long p0)]) hx hb dX10_lambda_68 hl (by decide) rfl (fun ls hl => ?_)
        obtain ⟨n, h⟩ := h
        refine L_70 r1 _ (fun y26 u27 H locs ls h hP hD hS hl => ?_) n (gJ u12 41) ((gI u12 43) - (1 : Int32)) u12 _ _ _ h hP hD hS (lv_sub hl [3, 2, 1, 0] rfl)
        refine lv_aload_n hx hb dX10_lambda_137 rfl (lv_at hl 0 rfl) ?_
        refine lv_lload hx hb dX10_lambda_138 (lv_at hl 2 rfl) ?_
        refine pR_41 E hP hD hS kfX10_138 dX10_lambda_140 (fun H locs hP hD hS => ?_)
        refine lv_aload_n hx hb dX10_lambda_143 rfl (lv_at hl 0 rfl) ?_
        refine lv_iconst (v := (0 : Int32)) hx hb dX10_lambda_144 (by decide) ?_
        refine pR_39 E hP hD hS kfX10_132 dX10_lambda_145 (fun H locs hP hD hS => ?_)
        refine lv_aload_n hx hb dX10_lambda_148 rfl (lv_at hl 0 rfl) ?_
        refine lv_aload_n hx hb dX10_lambda_149 rfl (lv_at hl 0 rfl) ?_
        refine lv_aload_n hx hb dX10_lambda_150 rfl (lv_at hl 0 rfl) ?_
        refine lv_lload_n hx hb dX10_lambda_151 rfl (lv_at hl 1 rfl) ?_
        refine cR_l (ci := 9) (q0 := 0) (As := [.long r1]) (rest := [.ref (G.1 0), .ref (G.1 0)]) E hml hP hD hS hA (t_X10_behind l D G r1 (sI (sJ u27 41 y26) 39 (0 : Int32)) _ h) kmX10_216 mwyX10_behind rfl rfl ⟨⟨rfl, rfl⟩, Nat.le_of_ble_eq_true rfl, Nat.le_of_ble_eq_true rfl⟩ rfl hl.1 rfl (Nat.le_of_ble_eq_true rfl) dX10_lambda_152 ⟨Nat.zero_le _, Nat.zero_le _⟩ (fun r28 u29 H locs hP hD hS h => ?_)
        refine cR_l (ci := 9) (q0 := 0) (As := [.long r28]) (rest := [.ref (G.1 0)]) E hml hP hD hS hA (t_X10_first l D G r28 u29 _ h) kmX10_209 mwyX10_first rfl rfl ⟨⟨rfl, rfl⟩, Nat.le_of_ble_eq_true rfl, Nat.le_of_ble_eq_true rfl⟩ rfl hl.1 rfl (Nat.le_of_ble_eq_true rfl) dX10_lambda_155 ⟨Nat.zero_le _, Nat.zero_le _⟩ (fun r30 u31 H locs hP hD hS h => ?_)
        refine pR_40 E hP hD hS kfX10_135 dX10_lambda_158 (fun H locs hP hD hS => ?_)
        exact retR_v E hr hlk hP hD hS h dX10_lambda_161
      · have h := h.1 hc
        exact retR_v E hr hlk hP hD hS h dX10_lambda_55
    · have h := h.2 hc
      refine lv_aload_n hx hb dX10_lambda_31 rfl (lv_at hl 1 rfl) ?_
      refine lv_iconst (v := (3 : Int32)) hx hb dX10_lambda_32 (by decide) ?_
      refine cR_v (ci := 9) (q0 := 0) (As := [.int (3 : Int32)]) (rest := []) E hml hP hD hS hA (t_X10_fails l D G (3 : Int32) u9 _ h) kmX10_265 mwyX10_fails rfl rfl ⟨⟨rfl, rfl⟩, Nat.le_of_ble_eq_true rfl, Nat.le_of_ble_eq_true rfl⟩ rfl hl.1 rfl (Nat.le_of_ble_eq_true rfl) dX10_lambda_33 ⟨Nat.zero_le _, Nat.zero_le _⟩ (fun u33 H locs hP hD hS h => ?_)
      exact retR_v E hr hlk hP hD hS h dX10_lambda_36
def l_X10_lookUp_5 (Q : Int64 → St → Prop) (c1 : Int64) (K : St → Prop) : Nat → Int64 → St → Prop
  | 0, _, _ => False
  | n + 1, x3, u => wp_X10_isPair x3 (fun (r1 : Int32) => ((r1 = 0 → K u) ∧ (¬ r1 = 0 → wp_X10_first x3 u (fun (r2 : Int64) (u3 : St) => wp_X10_first r2 u3 (fun (r4 : Int64) (u5 : St) => ((r4 = c1 → wp_X10_first x3 u5 (fun (r8 : Int64) (u9 : St) => wp_X10_behind r8 u9 (fun (r10 : Int64) (u11 : St) => Q r10 u11))) ∧ (¬ r4 = c1 → wp_X10_behind x3 u5 (fun (r6 : Int64) (u7 : St) => l_X10_lookUp_5 Q c1 K n r6 u7))))))))
def wp_X10_lookUp (p0 : Int64) (u : St) (Q : Int64 → St → Prop) : Prop := (∃ k14 : Nat, l_X10_lookUp_5 Q p0 (fun (u12 : St) => vp_in (((p0 - (4294967296 : Int64))).toInt32) 150 ∧ (((0 : Int64) ≤ ((gB u12 20) (((p0 - (4294967296 : Int64))).toInt32).toNatClampNeg) → Q ((gB u12 20) (((p0 - (4294967296 : Int64))).toInt32).toNatClampNeg) u12) ∧ (¬ (0 : Int64) ≤ ((gB u12 20) (((p0 - (4294967296 : Int64))).toInt32).toNatClampNeg) → wp_X10_fails (1 : Int32) u12 (fun (u13 : St) => Q ((gB u12 20) (((p0 - (4294967296 : Int64))).toInt32).toNatClampNeg) u13)))) k14 (gJ u 41) u)
abbrev rm_X10_lookUp : Room := { frames := 1, cells := 0, slots := 0, locals := 22 }
set_option maxHeartbeats 4000000 in
set_option maxRecDepth 100000 in
theorem t_X10_lookUp (l : Launch) (D : va_G) (G : Gd) (p0 : Int64) (u : St) (Q : Int64 → St → Prop) (h : wp_X10_lookUp p0 u Q) : MRl l D G yX10_lookUp cX10_lookUp 7 (some .long) rm_X10_lookUp [.ref (G.1 0), .long p0] u Q := by
  refine startR_l (by decide) ?_
  intro p e s m args below meth c E hr hlk hml hP hD hS hA
  have hx := E.1
  have hb := E.2.1
  have hown := E.2.2.1
  have hW := E.2.2.2.1
  have hl := lv_entry ([.ref (G.1 0), .long p0]) (n := 7) (Nat.le_of_ble_eq_true rfl)
  rw [lg_entry_eq]
  generalize (lg_sl ([.ref (G.1 0), .long p0]) ++ List.replicate (7 - (lg_sl ([.ref (G.1 0), .long p0])).length) Slot.unset).toArray = ls at hl ⊢
  have hl : lv_has ls 7 [(0, .ref (G.1 0)), (1, .long p0)] := hl
  have L_5 : ∀ (c1 : Int64) (K : St → Prop), (∀  (u : St) (H : Heap) (locs : List Loc) (ls : Array Slot), K  u → va_P D vwCl (wR G u) H → va_D (AR G s.heap.size) (wR G u) → va_S (AR G s.heap.size) s.heap H locs → lv_has ls 7 [(0, .ref (G.1 0)), (1, .long c1)] → W p l e rm_X10_lookUp s m args below meth c H locs 0 0 (MQ below (va_Ql Q (BR D G s.heap.size) (AR G s.heap.size)) args s 0 0 (AR G s.heap.size)) (F0 m 45 ls [])) → ∀ (n : Nat) (x3 : Int64) (u : St) (H : Heap) (locs : List Loc) (ls : Array Slot), l_X10_lookUp_5 Q c1 K n x3 u → va_P D vwCl (wR G u) H → va_D (AR G s.heap.size) (wR G u) → va_S (AR G s.heap.size) s.heap H locs → lv_has ls 7 [(0, .ref (G.1 0)), (1, .long c1), (3, .long x3)] → W p l e rm_X10_lookUp s m args below meth c H locs 0 0 (MQ below (va_Ql Q (BR D G s.heap.size) (AR G s.heap.size)) args s 0 0 (AR G s.heap.size)) (F0 m 5 ls []) := by
    intro c1 K hK n
    induction n with
    | zero => intro x3 u H locs ls h; exact False.elim h
    | succ n ih =>
      intro x3 u H locs ls h hP hD hS hl
      unfold l_X10_lookUp_5 at h
      refine lv_lload_n hx hb dX10_lookUp_5 rfl (lv_at hl 2 rfl) ?_
      refine c0_i (As := [.long x3]) (rest := []) hx hb hml hown hW hP hS hA (t_X10_isPair l x3 _ h) kmX10_205 mwyX10_isPair ⟨⟨rfl, rfl⟩, Nat.le_of_ble_eq_true rfl, Nat.le_of_ble_eq_true rfl⟩ rfl hl.1 rfl (Nat.le_of_ble_eq_true rfl) dX10_lookUp_6 ⟨Nat.zero_le _, Nat.zero_le _⟩ (fun r1 H locs hP hS h => ?_)
      refine lv_if_eq (tgt := 45) hx hb dX10_lookUp_9 (by decide) (fun hc => ?_) (fun hc => ?_)
      · have h := h.1 hc
        exact hK u _ _ _ h hP hD hS (lv_sub hl [0, 1] rfl)
      · have h := h.2 hc
        refine lv_aload_n hx hb dX10_lookUp_12 rfl (lv_at hl 0 rfl) ?_
        refine lv_aload_n hx hb dX10_lookUp_13 rfl (lv_at hl 0 rfl) ?_
        refine lv_lload_n hx hb dX10_lookUp_14 rfl (lv_at hl 2 rfl) ?_
        refine cR_l (ci := 9) (q0 := 0) (As := [.long x3]) (rest := [.ref (G.1 0)]) E hml hP hD hS hA (t_X10_first l D G x3 u _ h) kmX10_209 mwyX10_first rfl rfl ⟨⟨rfl, rfl⟩, Nat.le_of_ble_eq_true rfl, Nat.le_of_ble_eq_true rfl⟩ rfl hl.1 rfl (Nat.le_of_ble_eq_true rfl) dX10_lookUp_15 ⟨Nat.zero_le _, Nat.zero_le _⟩ (fun r2 u3 H locs hP hD hS h => ?_)
        refine cR_l (ci := 9) (q0 := 0) (As := [.long r2]) (rest := []) E hml hP hD hS hA (t_X10_first l D G r2 u3 _ h) kmX10_209 mwyX10_first rfl rfl ⟨⟨rfl, rfl⟩, Nat.le_of_ble_eq_true rfl, Nat.le_of_ble_eq_true rfl⟩ rfl hl.1 rfl (Nat.le_of_ble_eq_true rfl) dX10_lookUp_18 ⟨Nat.zero_le _, Nat.zero_le _⟩ (fun r4 u5 H locs hP hD hS h => ?_)
        refine lv_lload_n hx hb dX10_lookUp_21 rfl (lv_at hl 1 rfl) ?_
        refine lq_ne (tgt := 36) hx hb dX10_lookUp_22 dX10_lookUp_23 (by decide) (fun hc => ?_) (fun hc => ?_)
        · have h := h.2 hc
          refine lv_aload_n hx hb dX10_lookUp_36 rfl (lv_at hl 0 rfl) ?_
          refine lv_lload_n hx hb dX10_lookUp_37 rfl (lv_at hl 2 rfl) ?_
          refine cR_l (ci := 9) (q0 := 0) (As := [.long x3]) (rest := []) E hml hP hD hS hA (t_X10_behind l D G x3 u5 _ h) kmX10_216 mwyX10_behind rfl rfl ⟨⟨rfl, rfl⟩, Nat.le_of_ble_eq_true rfl, Nat.le_of_ble_eq_true rfl⟩ rfl hl.1 rfl (Nat.le_of_ble_eq_true rfl) dX10_lookUp_38 ⟨Nat.zero_le _, Nat.zero_le _⟩ (fun r6 u7 H locs hP hD hS h => ?_)
          refine lv_lstore_n (lv' := [(3, .long r6), (0, .ref (G.1 0)), (1, .long c1)]) hx hb dX10_lookUp_41 rfl hl (by decide) rfl (fun ls hl => ?_)
          refine lv_goto (tgt := 5) hx hb dX10_lookUp_42 (by decide) ?_
          exact ih r6 u7 _ _ _ h hP hD hS (lv_sub hl [1, 2, 0] rfl)
        · have h := h.1 hc
          refine lv_aload_n hx hb dX10_lookUp_26 rfl (lv_at hl 0 rfl) ?_
          refine lv_aload_n hx hb dX10_lookUp_27 rfl (lv_at hl 0 rfl) ?_
          refine lv_lload_n hx hb dX10_lookUp_28 rfl (lv_at hl 2 rfl) ?_
          refine cR_l (ci := 9) (q0 := 0) (As := [.long x3]) (rest := [.ref (G.1 0)]) E hml hP hD hS hA (t_X10_first l D G x3 u5 _ h) kmX10_209 mwyX10_first rfl rfl ⟨⟨rfl, rfl⟩, Nat.le_of_ble_eq_true rfl, Nat.le_of_ble_eq_true rfl⟩ rfl hl.1 rfl (Nat.le_of_ble_eq_true rfl) dX10_lookUp_29 ⟨Nat.zero_le _, Nat.zero_le _⟩ (fun r8 u9 H locs hP hD hS h => ?_)
          refine cR_l (ci := 9) (q0 := 0) (As := [.long r8]) (rest := []) E hml hP hD hS hA (t_X10_behind l D G r8 u9 _ h) kmX10_216 mwyX10_behind rfl rfl ⟨⟨rfl, rfl⟩, Nat.le_of_ble_eq_true rfl, Nat.le_of_ble_eq_true rfl⟩ rfl hl.1 rfl (Nat.le_of_ble_eq_true rfl) dX10_lookUp_32 ⟨Nat.zero_le _, Nat.zero_le _⟩ (fun r10 u11 H locs hP hD hS h => ?_)
          exact retR_l E hr hlk hP hD hS h dX10_lookUp_35
  unfold wp_X10_lookUp at h
  refine lv_aload_n hx hb dX10_lookUp_0 rfl (lv_at hl 0 rfl) ?_
  refine gR_41 E hP kfX10_138 (v := (gJ u 41)) rfl dX10_lookUp_1 ?_
  refine lv_lstore_n (lv' := [(3, .long (gJ u 41)), (0, .ref (G.1 0)), (1, .long p0)]) hx hb dX10_lookUp_4 rfl hl (by decide) rfl (fun ls hl => ?_)
  obtain ⟨n, h⟩ := h
  refine L_5 p0 _ (fun u12 H locs ls h hP hD hS hl => ?_) n (gJ u 41) u _ _ _ h hP hD hS (lv_sub hl [1, 2, 0] rfl)
  refine lv_aload_n hx hb dX10_lookUp_45 rfl (lv_at hl 0 rfl) ?_
  refine gR_20 E hP kfX10_73 dX10_lookUp_46 ?_
  refine lv_lload_n hx hb dX10_lookUp_49 rfl (lv_at hl 1 rfl) ?_
  refine lv_ldc2 (v := (4294967296 : Int64)) hx hb hown (hW _ kcX10_199) dX10_lookUp_50 ?_
  refine lv_lsub hx hb dX10_lookUp_53 ?_
  refine lv_l2i (v := ((p0 - (4294967296 : Int64))).toInt32) hx hb dX10_lookUp_54 rfl ?_
  obtain ⟨h9, h⟩ := h
  refine xR_20 E hP h9 (v := ((gB u12 20) (((p0 - (4294967296 : Int64))).toInt32).toNatClampNeg)) rfl dX10_lookUp_55 ?_
  refine lv_lstore (lv' := [(5, .long ((gB u12 20) (((p0 - (4294967296 : Int64))).toInt32).toNatClampNeg)), (0, .ref (G.1 0)), (1, .long p0)]) hx hb dX10_lookUp_56 hl (by decide) rfl (fun ls hl => ?_)
  refine lv_lload hx hb dX10_lookUp_58 (lv_at hl 0 rfl) ?_
  refine lv_lconst (v := (0 : Int64)) hx hb dX10_lookUp_60 (by decide) ?_
  refine lq_ge (tgt := 70) hx hb dX10_lookUp_61 dX10_lookUp_62 (by decide) (fun hc => ?_) (fun hc => ?_)
  · have h := h.1 hc
    refine lv_lload hx hb dX10_lookUp_70 (lv_at hl 0 rfl) ?_
    exact retR_l E hr hlk hP hD hS h dX10_lookUp_72
  · have h := h.2 hc
    refine lv_aload_n hx hb dX10_lookUp_65 rfl (lv_at hl 1 rfl) ?_
    refine lv_iconst (v := (1 : Int32)) hx hb dX10_lookUp_66 (by decide) ?_
    refine cR_v (ci := 9) (q0 := 0) (As := [.int (1 : Int32)]) (rest := []) E hml hP hD hS hA (t_X10_fails l D G (1 : Int32) u12 _ h) kmX10_265 mwyX10_fails rfl rfl ⟨⟨rfl, rfl⟩, Nat.le_of_ble_eq_true rfl, Nat.le_of_ble_eq_true rfl⟩ rfl hl.1 rfl (Nat.le_of_ble_eq_true rfl) dX10_lookUp_67 ⟨Nat.zero_le _, Nat.zero_le _⟩ (fun u13 H locs hP hD hS h => ?_)
    refine lv_lload hx hb dX10_lookUp_70 (lv_at hl 0 rfl) ?_
    exact retR_l E hr hlk hP hD hS h dX10_lookUp_72
def wp_X10_gives (p0 : Int64) (u : St) (Q : St → Prop) : Prop := Q (sJ (sI u 39 (2 : Int32)) 40 p0)
abbrev rm_X10_gives : Room := { frames := 0, cells := 0, slots := 0, locals := 0 }
set_option maxHeartbeats 4000000 in
set_option maxRecDepth 100000 in
theorem t_X10_gives (l : Launch) (D : va_G) (G : Gd) (p0 : Int64) (u : St) (Q : St → Prop) (h : wp_X10_gives p0 u Q) : MRv l D G yX10_gives cX10_gives 3 none rm_X10_gives [.ref (G.1 0), .long p0] u Q := by
  refine startR_v (by decide) ?_
  intro p e s m args below meth c E hr hlk hml hP hD hS hA
  have hx := E.1
  have hb := E.2.1
  have hown := E.2.2.1
  have hW := E.2.2.2.1
  have hl := lv_entry ([.ref (G.1 0), .long p0]) (n := 3) (Nat.le_of_ble_eq_true rfl)
  rw [lg_entry_eq]
  generalize (lg_sl ([.ref (G.1 0), .long p0]) ++ List.replicate (3 - (lg_sl ([.ref (G.1 0), .long p0])).length) Slot.unset).toArray = ls at hl ⊢
  have hl : lv_has ls 3 [(0, .ref (G.1 0)), (1, .long p0)] := hl
  unfold wp_X10_gives at h
  refine lv_aload_n hx hb dX10_gives_0 rfl (lv_at hl 0 rfl) ?_
  refine lv_iconst (v := (2 : Int32)) hx hb dX10_gives_1 (by decide) ?_
  refine pR_39 E hP hD hS kfX10_132 dX10_gives_2 (fun H locs hP hD hS => ?_)
  refine lv_aload_n hx hb dX10_gives_5 rfl (lv_at hl 0 rfl) ?_
  refine lv_lload_n hx hb dX10_gives_6 rfl (lv_at hl 1 rfl) ?_
  refine pR_40 E hP hD hS kfX10_135 dX10_gives_7 (fun H locs hP hD hS => ?_)
  exact retR_v E hr hlk hP hD hS h dX10_gives_10
def wp_X10_primitive (p0 : Int32) (u : St) (Q : St → Prop) : Prop := ((p0 = (7 : Int32) → (((gI u 43) = (1 : Int32) → ((p0 = (7 : Int32) → wp_X10_isPair ((gB u 42) ((0 : Int32)).toNatClampNeg) (fun (r1 : Int32) => ((r1 = 0 → wp_X10_fails (2 : Int32) u (fun (u8 : St) => Q u8)) ∧ (¬ r1 = 0 → ((p0 = (7 : Int32) → wp_X10_first ((gB u 42) ((0 : Int32)).toNatClampNeg) u (fun (r5 : Int64) (u6 : St) => wp_X10_gives r5 u6 (fun (u7 : St) => Q u7))) ∧ (¬ p0 = (7 : Int32) → wp_X10_behind ((gB u 42) ((0 : Int32)).toNatClampNeg) u (fun (r2 : Int64) (u3 : St) => wp_X10_gives r2 u3 (fun (u4 : St) => Q u4)))))))) ∧ (¬ p0 = (7 : Int32) → ((p0 = (8 : Int32) → wp_X10_isPair ((gB u 42) ((0 : Int32)).toNatClampNeg) (fun (r43 : Int32) => ((r43 = 0 → wp_X10_fails (2 : Int32) u (fun (u50 : St) => Q u50)) ∧ (¬ r43 = 0 → ((p0 = (7 : Int32) → wp_X10_first ((gB u 42) ((0 : Int32)).toNatClampNeg) u (fun (r47 : Int64) (u48 : St) => wp_X10_gives r47 u48 (fun (u49 : St) => Q u49))) ∧ (¬ p0 = (7 : Int32) → wp_X10_behind ((gB u 42) ((0 : Int32)).toNatClampNeg) u (fun (r44 : Int64) (u45 : St) => wp_X10_gives r44 u45 (fun (u46 : St) => Q u46)))))))) ∧ (¬ p0 = (8 : Int32) → ((p0 = (9 : Int32) → wp_X10_holdWaiting  u (fun (u35 : St) => wp_X10_hold ((gB u 42) ((0 : Int32)).toNatClampNeg) u35 (fun (u36 : St) => wp_X10_hold ((gB u 42) ((1 : Int32)).toNatClampNeg) u36 (fun (u37 : St) => wp_X10_room (1 : Int32) u37 (fun (r38 : Int32) (u39 : St) => ((r38 = 0 → Q u39) ∧ (¬ r38 = 0 → wp_X10_pair ((gB u 42) ((0 : Int32)).toNatClampNeg) ((gB u 42) ((1 : Int32)).toNatClampNeg) u39 (fun (r40 : Int64) (u41 : St) => wp_X10_gives r40 u41 (fun (u42 : St) => Q u42))))))))) ∧ (¬ p0 = (9 : Int32) → ((p0 = (10 : Int32) → wp_X10_isPair ((gB u 42) ((0 : Int32)).toNatClampNeg) (fun (r32 : Int32) => ((r32 = 0 → wp_X10_gives (4294967297 : Int64) u (fun (u33 : St) => Q u33)) ∧ (¬ r32 = 0 → wp_X10_gives (4294967296 : Int64) u (fun (u34 : St) => Q u34))))) ∧ (¬ p0 = (10 : Int32) → ((p0 = (11 : Int32) → wp_X10_isPair ((gB u 42) ((0 : Int32)).toNatClampNeg) (fun (r26 : Int32) => ((r26 = 0 → wp_X10_isPair ((gB u 42) ((1 : Int32)).toNatClampNeg) (fun (r28 : Int32) => ((r28 = 0 → ((((gB u 42) ((0 : Int32)).toNatClampNeg) = ((gB u 42) ((1 : Int32)).toNatClampNeg) → wp_X10_gives (4294967297 : Int64) u (fun (u30 : St) => Q u30)) ∧ (¬ ((gB u 42) ((0 : Int32)).toNatClampNeg) = ((gB u 42) ((1 : Int32)).toNatClampNeg) → wp_X10_gives (4294967296 : Int64) u (fun (u29 : St) => Q u29)))) ∧ (¬ r28 = 0 → wp_X10_fails (2 : Int32) u (fun (u31 : St) => Q u31))))) ∧ (¬ r26 = 0 → wp_X10_fails (2 : Int32) u (fun (u27 : St) => Q u27))))) ∧ (¬ p0 = (11 : Int32) → ((p0 = (12 : Int32) → ((((gB u 42) ((0 : Int32)).toNatClampNeg) = (4294967296 : Int64) → wp_X10_gives (4294967297 : Int64) u (fun (u25 : St) => Q u25)) ∧ (¬ ((gB u 42) ((0 : Int32)).toNatClampNeg) = (4294967296 : Int64) → wp_X10_gives (4294967296 : Int64) u (fun (u24 : St) => Q u24)))) ∧ (¬ p0 = (12 : Int32) → ((p0 = (13 : Int32) → wp_X10_isNumber ((gB u 42) ((0 : Int32)).toNatClampNeg) (fun (r21 : Int32) => ((r21 = 0 → wp_X10_gives (4294967296 : Int64) u (fun (u22 : St) => Q u22)) ∧ (¬ r21 = 0 → wp_X10_gives (4294967297 : Int64) u (fun (u23 : St) => Q u23))))) ∧ (¬ p0 = (13 : Int32) → wp_X10_isNumber ((gB u 42) ((0 : Int32)).toNatClampNeg) (fun (r9 : Int32) => ((r9 = 0 → wp_X10_fails (2 : Int32) u (fun (u10 : St) => Q u10)) ∧ (¬ r9 = 0 → wp_X10_isNumber ((gB u 42) ((1 : Int32)).toNatClampNeg) (fun (r11 : Int32) => ((r11 = 0 → wp_X10_fails (2 : Int32) u (fun (u20 : St) => Q u20)) ∧ (¬ r11 = 0 → ((p0 = (14 : Int32) → wp_X10_number ((((gB u 42) ((0 : Int32)).toNatClampNeg)).toInt32 + (((gB u 42) ((1 : Int32)).toNatClampNeg)).toInt32) (fun (r18 : Int64) => wp_X10_gives r18 u (fun (u19 : St) => Q u19))) ∧ (¬ p0 = (14 : Int32) → ((p0 = (15 : Int32) → wp_X10_number ((((gB u 42) ((0 : Int32)).toNatClampNeg)).toInt32 - (((gB u 42) ((1 : Int32)).toNatClampNeg)).toInt32) (fun (r16 : Int64) => wp_X10_gives r16 u (fun (u17 : St) => Q u17))) ∧ (¬ p0 = (15 : Int32) → ((p0 = (16 : Int32) → wp_X10_number ((((gB u 42) ((0 : Int32)).toNatClampNeg)).toInt32 * (((gB u 42) ((1 : Int32)).toNatClampNeg)).toInt32) (fun (r14 : Int64) => wp_X10_gives r14 u (fun (u15 : St) => Q u15))) ∧ (¬ p0 = (16 : Int32) → (((((gB u 42) ((1 : Int32)).toNatClampNeg)).toInt32 ≤ (((gB u 42) ((0 : Int32)).toNatClampNeg)).toInt32 → wp_X10_gives (4294967296 : Int64) u (fun (u12 : St) => Q u12)) ∧ (¬ (((gB u 42) ((1 : Int32)).toNatClampNeg)).toInt32 ≤ (((gB u 42) ((0 : Int32)).toNatClampNeg)).toInt32 → wp_X10_gives (4294967297 : Int64) u (fun (u13 : St) => Q u13)))))))))))))))))))))))))))))) ∧ (¬ (gI u 43) = (1 : Int32) → wp_X10_fails (3 : Int32) u (fun (u51 : St) => Q u51)))) ∧ (¬ p0 = (7 : Int32) → ((p0 = (8 : Int32) → (((gI u 43) = (1 : Int32) → ((p0 = (7 : Int32) → wp_X10_isPair ((gB u 42) ((0 : Int32)).toNatClampNeg) (fun (r52 : Int32) => ((r52 = 0 → wp_X10_fails (2 : Int32) u (fun (u59 : St) => Q u59)) ∧ (¬ r52 = 0 → ((p0 = (7 : Int32) → wp_X10_first ((gB u 42) ((0 : Int32)).toNatClampNeg) u (fun (r56 : Int64) (u57 : St) => wp_X10_gives r56 u57 (fun (u58 : St) => Q u58))) ∧ (¬ p0 = (7 : Int32) → wp_X10_behind ((gB u 42) ((0 : Int32)).toNatClampNeg) u (fun (r53 : Int64) (u54 : St) => wp_X10_gives r53 u54 (fun (u55 : St) => Q u55)))))))) ∧ (¬ p0 = (7 : Int32) → ((p0 = (8 : Int32) → wp_X10_isPair ((gB u 42) ((0 : Int32)).toNatClampNeg) (fun (r94 : Int32) => ((r94 = 0 → wp_X10_fails (2 : Int32) u (fun (u101 : St) => Q u101)) ∧ (¬ r94 = 0 → ((p0 = (7 : Int32) → wp_X10_first ((gB u 42) ((0 : Int32)).toNatClampNeg) u (fun (r98 : Int64) (u99 : St) => wp_X10_gives r98 u99 (fun (u100 : St) => Q u100))) ∧ (¬ p0 = (7 : Int32) → wp_X10_behind ((gB u 42) ((0 : Int32)).toNatClampNeg) u (fun (r95 : Int64) (u96 : St) => wp_X10_gives r95 u96 (fun (u97 : St) => Q u97)))))))) ∧ (¬ p0 = (8 : Int32) → ((p0 = (9 : Int32) → wp_X10_holdWaiting  u (fun (u86 : St) => wp_X10_hold ((gB u 42) ((0 : Int32)).toNatClampNeg) u86 (fun (u87 : St) => wp_X10_hold ((gB u 42) ((1 : Int32)).toNatClampNeg) u87 (fun (u88 : St) => wp_X10_room (1 : Int32) u88 (fun (r89 : Int32) (u90 : St) => ((r89 = 0 → Q u90) ∧ (¬ r89 = 0 → wp_X10_pair ((gB u 42) ((0 : Int32)).toNatClampNeg) ((gB u 42) ((1 : Int32)).toNatClampNeg) u90 (fun (r91 : Int64) (u92 : St) => wp_X10_gives r91 u92 (fun (u93 : St) => Q u93))))))))) ∧ (¬ p0 = (9 : Int32) → ((p0 = (10 : Int32) → wp_X10_isPair ((gB u 42) ((0 : Int32)).toNatClampNeg) (fun (r83 : Int32) => ((r83 = 0 → wp_X10_gives (4294967297 : Int64) u (fun (u84 : St) => Q u84)) ∧ (¬ r83 = 0 → wp_X10_gives (4294967296 : Int64) u (fun (u85 : St) => Q u85))))) ∧ (¬ p0 = (10 : Int32) → ((p0 = (11 : Int32) → wp_X10_isPair ((gB u 42) ((0 : Int32)).toNatClampNeg) (fun (r77 : Int32) => ((r77 = 0 → wp_X10_isPair ((gB u 42) ((1 : Int32)).toNatClampNeg) (fun (r79 : Int32) => ((r79 = 0 → ((((gB u 42) ((0 : Int32)).toNatClampNeg) = ((gB u 42) ((1 : Int32)).toNatClampNeg) → wp_X10_gives (4294967297 : Int64) u (fun (u81 : St) => Q u81)) ∧ (¬ ((gB u 42) ((0 : Int32)).toNatClampNeg) = ((gB u 42) ((1 : Int32)).toNatClampNeg) → wp_X10_gives (4294967296 : Int64) u (fun (u80 : St) => Q u80)))) ∧ (¬ r79 = 0 → wp_X10_fails (2 : Int32) u (fun (u82 : St) => Q u82))))) ∧ (¬ r77 = 0 → wp_X10_fails (2 : Int32) u (fun (u78 : St) => Q u78))))) ∧ (¬ p0 = (11 : Int32) → ((p0 = (12 : Int32) → ((((gB u 42) ((0 : Int32)).toNatClampNeg) = (4294967296 : Int64) → wp_X10_gives (4294967297 : Int64) u (fun (u76 : St) => Q u76)) ∧ (¬ ((gB u 42) ((0 : Int32)).toNatClampNeg) = (4294967296 : Int64) → wp_X10_gives (4294967296 : Int64) u (fun (u75 : St) => Q u75)))) ∧ (¬ p0 = (12 : Int32) → ((p0 = (13 : Int32) → wp_X10_isNumber ((gB u 42) ((0 : Int32)).toNatClampNeg) (fun (r72 : Int32) => ((r72 = 0 → wp_X10_gives (4294967296 : Int64) u (fun (u73 : St) => Q u73)) ∧ (¬ r72 = 0 → wp_X10_gives (4294967297 : Int64) u (fun (u74 : St) => Q u74))))) ∧ (¬ p0 = (13 : Int32) → wp_X10_isNumber ((gB u 42) ((0 : Int32)).toNatClampNeg) (fun (r60 : Int32) => ((r60 = 0 → wp_X10_fails (2 : Int32) u (fun (u61 : St) => Q u61)) ∧ (¬ r60 = 0 → wp_X10_isNumber ((gB u 42) ((1 : Int32)).toNatClampNeg) (fun (r62 : Int32) => ((r62 = 0 → wp_X10_fails (2 : Int32) u (fun (u71 : St) => Q u71)) ∧ (¬ r62 = 0 → ((p0 = (14 : Int32) → wp_X10_number ((((gB u 42) ((0 : Int32)).toNatClampNeg)).toInt32 + (((gB u 42) ((1 : Int32)).toNatClampNeg)).toInt32) (fun (r69 : Int64) => wp_X10_gives r69 u (fun (u70 : St) => Q u70))) ∧ (¬ p0 = (14 : Int32) → ((p0 = (15 : Int32) → wp_X10_number ((((gB u 42) ((0 : Int32)).toNatClampNeg)).toInt32 - (((gB u 42) ((1 : Int32)).toNatClampNeg)).toInt32) (fun (r67 : Int64) => wp_X10_gives r67 u (fun (u68 : St) => Q u68))) ∧ (¬ p0 = (15 : Int32) → ((p0 = (16 : Int32) → wp_X10_number ((((gB u 42) ((0 : Int32)).toNatClampNeg)).toInt32 * (((gB u 42) ((1 : Int32)).toNatClampNeg)).toInt32) (fun (r65 : Int64) => wp_X10_gives r65 u (fun (u66 : St) => Q u66))) ∧ (¬ p0 = (16 : Int32) → (((((gB u 42) ((1 : Int32)).toNatClampNeg)).toInt32 ≤ (((gB u 42) ((0 : Int32)).toNatClampNeg)).toInt32 → wp_X10_gives (4294967296 : Int64) u (fun (u63 : St) => Q u63)) ∧ (¬ (((gB u 42) ((1 : Int32)).toNatClampNeg)).toInt32 ≤ (((gB u 42) ((0 : Int32)).toNatClampNeg)).toInt32 → wp_X10_gives (4294967297 : Int64) u (fun (u64 : St) => Q u64)))))))))))))))))))))))))))))) ∧ (¬ (gI u 43) = (1 : Int32) → wp_X10_fails (3 : Int32) u (fun (u102 : St) => Q u102)))) ∧ (¬ p0 = (8 : Int32) → ((p0 = (10 : Int32) → (((gI u 43) = (1 : Int32) → ((p0 = (7 : Int32) → wp_X10_isPair ((gB u 42) ((0 : Int32)).toNatClampNeg) (fun (r103 : Int32) => ((r103 = 0 → wp_X10_fails (2 : Int32) u (fun (u110 : St) => Q u110)) ∧ (¬ r103 = 0 → ((p0 = (7 : Int32) → wp_X10_first ((gB u 42) ((0 : Int32)).toNatClampNeg) u (fun (r107 : Int64) (u108 : St) => wp_X10_gives r107 u108 (fun (u109 : St) => Q u109))) ∧ (¬ p0 = (7 : Int32) → wp_X10_behind ((gB u 42) ((0 : Int32)).toNatClampNeg) u (fun (r104 : Int64) (u105 : St) => wp_X10_gives r104 u105 (fun (u106 : St) => Q u106)))))))) ∧ (¬ p0 = (7 : Int32) → ((p0 = (8 : Int32) → wp_X10_isPair ((gB u 42) ((0 : Int32)).toNatClampNeg) (fun (r145 : Int32) => ((r145 = 0 → wp_X10_fails (2 : Int32) u (fun (u152 : St) => Q u152)) ∧ (¬ r145 = 0 → ((p0 = (7 : Int32) → wp_X10_first ((gB u 42) ((0 : Int32)).toNatClampNeg) u (fun (r149 : Int64) (u150 : St) => wp_X10_gives r149 u150 (fun (u151 : St) => Q u151))) ∧ (¬ p0 = (7 : Int32) → wp_X10_behind ((gB u 42) ((0 : Int32)).toNatClampNeg) u (fun (r146 : Int64) (u147 : St) => wp_X10_gives r146 u147 (fun (u148 : St) => Q u148)))))))) ∧ (¬ p0 = (8 : Int32) → ((p0 = (9 : Int32) → wp_X10_holdWaiting  u (fun (u137 : St) => wp_X10_hold ((gB u 42) ((0 : Int32)).toNatClampNeg) u137 (fun (u138 : St) => wp_X10_hold ((gB u 42) ((1 : Int32)).toNatClampNeg) u138 (fun (u139 : St) => wp_X10_room (1 : Int32) u139 (fun (r140 : Int32) (u141 : St) => ((r140 = 0 → Q u141) ∧ (¬ r140 = 0 → wp_X10_pair ((gB u 42) ((0 : Int32)).toNatClampNeg) ((gB u 42) ((1 : Int32)).toNatClampNeg) u141 (fun (r142 : Int64) (u143 : St) => wp_X10_gives r142 u143 (fun (u144 : St) => Q u144))))))))) ∧ (¬ p0 = (9 : Int32) → ((p0 = (10 : Int32) → wp_X10_isPair ((gB u 42) ((0 : Int32)).toNatClampNeg) (fun (r134 : Int32) => ((r134 = 0 → wp_X10_gives (4294967297 : Int64) u (fun (u135 : St) => Q u135)) ∧ (¬ r134 = 0 → wp_X10_gives (4294967296 : Int64) u (fun (u136 : St) => Q u136))))) ∧ (¬ p0 = (10 : Int32) → ((p0 = (11 : Int32) → wp_X10_isPair ((gB u 42) ((0 : Int32)).toNatClampNeg) (fun (r128 : Int32) => ((r128 = 0 → wp_X10_isPair ((gB u 42) ((1 : Int32)).toNatClampNeg) (fun (r130 : Int32) => ((r130 = 0 → ((((gB u 42) ((0 : Int32)).toNatClampNeg) = ((gB u 42) ((1 : Int32)).toNatClampNeg) → wp_X10_gives (4294967297 : Int64) u (fun (u132 : St) => Q u132)) ∧ (¬ ((gB u 42) ((0 : Int32)).toNatClampNeg) = ((gB u 42) ((1 : Int32)).toNatClampNeg) → wp_X10_gives (4294967296 : Int64) u (fun (u131 : St) => Q u131)))) ∧ (¬ r130 = 0 → wp_X10_fails (2 : Int32) u (fun (u133 : St) => Q u133))))) ∧ (¬ r128 = 0 → wp_X10_fails (2 : Int32) u (fun (u129 : St) => Q u129))))) ∧ (¬ p0 = (11 : Int32) → ((p0 = (12 : Int32) → ((((gB u 42) ((0 : Int32)).toNatClampNeg) = (4294967296 : Int64) → wp_X10_gives (4294967297 : Int64) u (fun (u127 : St) => Q u127)) ∧ (¬ ((gB u 42) ((0 : Int32)).toNatClampNeg) = (4294967296 : Int64) → wp_X10_gives (4294967296 : Int64) u (fun (u126 : St) => Q u126)))) ∧ (¬ p0 = (12 : Int32) → ((p0 = (13 : Int32) → wp_X10_isNumber ((gB u 42) ((0 : Int32)).toNatClampNeg) (fun (r123 : Int32) => ((r123 = 0 → wp_X10_gives (4294967296 : Int64) u (fun (u124 : St) => Q u124)) ∧ (¬ r123 = 0 → wp_X10_gives (4294967297 : Int64) u (fun (u125 : St) => Q u125))))) ∧ (¬ p0 = (13 : Int32) → wp_X10_isNumber ((gB u 42) ((0 : Int32)).toNatClampNeg) (fun (r111 : Int32) => ((r111 = 0 → wp_X10_fails (2 : Int32) u (fun (u112 : St) => Q u112)) ∧ (¬ r111 = 0 → wp_X10_isNumber ((gB u 42) ((1 : Int32)).toNatClampNeg) (fun (r113 : Int32) => ((r113 = 0 → wp_X10_fails (2 : Int32) u (fun (u122 : St) => Q u122)) ∧ (¬ r113 = 0 → ((p0 = (14 : Int32) → wp_X10_number ((((gB u 42) ((0 : Int32)).toNatClampNeg)).toInt32 + (((gB u 42) ((1 : Int32)).toNatClampNeg)).toInt32) (fun (r120 : Int64) => wp_X10_gives r120 u (fun (u121 : St) => Q u121))) ∧ (¬ p0 = (14 : Int32) → ((p0 = (15 : Int32) → wp_X10_number ((((gB u 42) ((0 : Int32)).toNatClampNeg)).toInt32 - (((gB u 42) ((1 : Int32)).toNatClampNeg)).toInt32) (fun (r118 : Int64) => wp_X10_gives r118 u (fun (u119 : St) => Q u119))) ∧ (¬ p0 = (15 : Int32) → ((p0 = (16 : Int32) → wp_X10_number ((((gB u 42) ((0 : Int32)).toNatClampNeg)).toInt32 * (((gB u 42) ((1 : Int32)).toNatClampNeg)).toInt32) (fun (r116 : Int64) => wp_X10_gives r116 u (fun (u117 : St) => Q u117))) ∧ (¬ p0 = (16 : Int32) → (((((gB u 42) ((1 : Int32)).toNatClampNeg)).toInt32 ≤ (((gB u 42) ((0 : Int32)).toNatClampNeg)).toInt32 → wp_X10_gives (4294967296 : Int64) u (fun (u114 : St) => Q u114)) ∧ (¬ (((gB u 42) ((1 : Int32)).toNatClampNeg)).toInt32 ≤ (((gB u 42) ((0 : Int32)).toNatClampNeg)).toInt32 → wp_X10_gives (4294967297 : Int64) u (fun (u115 : St) => Q u115)))))))))))))))))))))))))))))) ∧ (¬ (gI u 43) = (1 : Int32) → wp_X10_fails (3 : Int32) u (fun (u153 : St) => Q u153)))) ∧ (¬ p0 = (10 : Int32) → ((p0 = (12 : Int32) → (((gI u 43) = (1 : Int32) → ((p0 = (7 : Int32) → wp_X10_isPair ((gB u 42) ((0 : Int32)).toNatClampNeg) (fun (r154 : Int32) => ((r154 = 0 → wp_X10_fails (2 : Int32) u (fun (u161 : St) => Q u161)) ∧ (¬ r154 = 0 → ((p0 = (7 : Int32) → wp_X10_first ((gB u 42) ((0 : Int32)).toNatClampNeg) u (fun (r158 : Int64) (u159 : St) => wp_X10_gives r158 u159 (fun (u160 : St) => Q u160))) ∧ (¬ p0 = (7 : Int32) → wp_X10_behind ((gB u 42) ((0 : Int32)).toNatClampNeg) u (fun (r155 : Int64) (u156 : St) => wp_X10_gives r155 u156 (fun (u157 : St) => Q u157)))))))) ∧ (¬ p0 = (7 : Int32) → ((p0 = (8 : Int32) → wp_X10_isPair ((gB u 42) ((0 : Int32)).toNatClampNeg) (fun (r196 : Int32) => ((r196 = 0 → wp_X10_fails (2 : Int32) u (fun (u203 : St) => Q u203)) ∧ (¬ r196 = 0 → ((p0 = (7 : Int32) → wp_X10_first ((gB u 42) ((0 : Int32)).toNatClampNeg) u (fun (r200 : Int64) (u201 : St) => wp_X10_gives r200 u201 (fun (u202 : St) => Q u202))) ∧ (¬ p0 = (7 : Int32) → wp_X10_behind ((gB u 42) ((0 : Int32)).toNatClampNeg) u (fun (r197 : Int64) (u198 : St) => wp_X10_gives r197 u198 (fun (u199 : St) => Q u199)))))))) ∧ (¬ p0 = (8 : Int32) → ((p0 = (9 : Int32) → wp_X10_holdWaiting  u (fun (u188 : St) => wp_X10_hold ((gB u 42) ((0 : Int32)).toNatClampNeg) u188 (fun (u189 : St) => wp_X10_hold ((gB u 42) ((1 : Int32)).toNatClampNeg) u189 (fun (u190 : St) => wp_X10_room (1 : Int32) u190 (fun (r191 : Int32) (u192 : St) => ((r191 = 0 → Q u192) ∧ (¬ r191 = 0 → wp_X10_pair ((gB u 42) ((0 : Int32)).toNatClampNeg) ((gB u 42) ((1 : Int32)).toNatClampNeg) u192 (fun (r193 : Int64) (u194 : St) => wp_X10_gives r193 u194 (fun (u195 : St) => Q u195))))))))) ∧ (¬ p0 = (9 : Int32) → ((p0 = (10 : Int32) → wp_X10_isPair ((gB u 42) ((0 : Int32)).toNatClampNeg) (fun (r185 : Int32) => ((r185 = 0 → wp_X10_gives (4294967297 : Int64) u (fun (u186 : St) => Q u186)) ∧ (¬ r185 = 0 → wp_X10_gives (4294967296 : Int64) u (fun (u187 : St) => Q u187))))) ∧ (¬ p0 = (10 : Int32) → ((p0 = (11 : Int32) → wp_X10_isPair ((gB u 42) ((0 : Int32)).toNatClampNeg) (fun (r179 : Int32) => ((r179 = 0 → wp_X10_isPair ((gB u 42) ((1 : Int32)).toNatClampNeg) (fun (r181 : Int32) => ((r181 = 0 → ((((gB u 42) ((0 : Int32)).toNatClampNeg) = ((gB u 42) ((1 : Int32)).toNatClampNeg) → wp_X10_gives (4294967297 : Int64) u (fun (u183 : St) => Q u183)) ∧ (¬ ((gB u 42) ((0 : Int32)).toNatClampNeg) = ((gB u 42) ((1 : Int32)).toNatClampNeg) → wp_X10_gives (4294967296 : Int64) u (fun (u182 : St) => Q u182)))) ∧ (¬ r181 = 0 → wp_X10_fails (2 : Int32) u (fun (u184 : St) => Q u184))))) ∧ (¬ r179 = 0 → wp_X10_fails (2 : Int32) u (fun (u180 : St) => Q u180))))) ∧ (¬ p0 = (11 : Int32) → ((p0 = (12 : Int32) → ((((gB u 42) ((0 : Int32)).toNatClampNeg) = (4294967296 : Int64) → wp_X10_gives (4294967297 : Int64) u (fun (u178 : St) => Q u178)) ∧ (¬ ((gB u 42) ((0 : Int32)).toNatClampNeg) = (4294967296 : Int64) → wp_X10_gives (4294967296 : Int64) u (fun (u177 : St) => Q u177)))) ∧ (¬ p0 = (12 : Int32) → ((p0 = (13 : Int32) → wp_X10_isNumber ((gB u 42) ((0 : Int32)).toNatClampNeg) (fun (r174 : Int32) => ((r174 = 0 → wp_X10_gives (4294967296 : Int64) u (fun (u175 : St) => Q u175)) ∧ (¬ r174 = 0 → wp_X10_gives (4294967297 : Int64) u (fun (u176 : St) => Q u176))))) ∧ (¬ p0 = (13 : Int32) → wp_X10_isNumber ((gB u 42) ((0 : Int32)).toNatClampNeg) (fun (r162 : Int32) => ((r162 = 0 → wp_X10_fails (2 : Int32) u (fun (u163 : St) => Q u163)) ∧ (¬ r162 = 0 → wp_X10_isNumber ((gB u 42) ((1 : Int32)).toNatClampNeg) (fun (r164 : Int32) => ((r164 = 0 → wp_X10_fails (2 : Int32) u (fun (u173 : St) => Q u173)) ∧ (¬ r164 = 0 → ((p0 = (14 : Int32) → wp_X10_number ((((gB u 42) ((0 : Int32)).toNatClampNeg)).toInt32 + (((gB u 42) ((1 : Int32)).toNatClampNeg)).toInt32) (fun (r171 : Int64) => wp_X10_gives r171 u (fun (u172 : St) => Q u172))) ∧ (¬ p0 = (14 : Int32) → ((p0 = (15 : Int32) → wp_X10_number ((((gB u 42) ((0 : Int32)).toNatClampNeg)).toInt32 - (((gB u 42) ((1 : Int32)).toNatClampNeg)).toInt32) (fun (r169 : Int64) => wp_X10_gives r169 u (fun (u170 : St) => Q u170))) ∧ (¬ p0 = (15 : Int32) → ((p0 = (16 : Int32) → wp_X10_number ((((gB u 42) ((0 : Int32)).toNatClampNeg)).toInt32 * (((gB u 42) ((1 : Int32)).toNatClampNeg)).toInt32) (fun (r167 : Int64) => wp_X10_gives r167 u (fun (u168 : St) => Q u168))) ∧ (¬ p0 = (16 : Int32) → (((((gB u 42) ((1 : Int32)).toNatClampNeg)).toInt32 ≤ (((gB u 42) ((0 : Int32)).toNatClampNeg)).toInt32 → wp_X10_gives (4294967296 : Int64) u (fun (u165 : St) => Q u165)) ∧ (¬ (((gB u 42) ((1 : Int32)).toNatClampNeg)).toInt32 ≤ (((gB u 42) ((0 : Int32)).toNatClampNeg)).toInt32 → wp_X10_gives (4294967297 : Int64) u (fun (u166 : St) => Q u166)))))))))))))))))))))))))))))) ∧ (¬ (gI u 43) = (1 : Int32) → wp_X10_fails (3 : Int32) u (fun (u204 : St) => Q u204)))) ∧ (¬ p0 = (12 : Int32) → ((p0 = (13 : Int32) → (((gI u 43) = (1 : Int32) → ((p0 = (7 : Int32) → wp_X10_isPair ((gB u 42) ((0 : Int32)).toNatClampNeg) (fun (r256 : Int32) => ((r256 = 0 → wp_X10_fails (2 : Int32) u (fun (u263 : St) => Q u263)) ∧ (¬ r256 = 0 → ((p0 = (7 : Int32) → wp_X10_first ((gB u 42) ((0 : Int32)).toNatClampNeg) u (fun (r260 : Int64) (u261 : St) => wp_X10_gives r260 u261 (fun (u262 : St) => Q u262))) ∧ (¬ p0 = (7 : Int32) → wp_X10_behind ((gB u 42) ((0 : Int32)).toNatClampNeg) u (fun (r257 : Int64) (u258 : St) => wp_X10_gives r257 u258 (fun (u259 : St) => Q u259)))))))) ∧ (¬ p0 = (7 : Int32) → ((p0 = (8 : Int32) → wp_X10_isPair ((gB u 42) ((0 : Int32)).toNatClampNeg) (fun (r298 : Int32) => ((r298 = 0 → wp_X10_fails (2 : Int32) u (fun (u305 : St) => Q u305)) ∧ (¬ r298 = 0 → ((p0 = (7 : Int32) → wp_X10_first ((gB u 42) ((0 : Int32)).toNatClampNeg) u (fun (r302 : Int64) (u303 : St) => wp_X10_gives r302 u303 (fun (u304 : St) => Q u304))) ∧ (¬ p0 = (7 : Int32) → wp_X10_behind ((gB u 42) ((0 : Int32)).toNatClampNeg) u (fun (r299 : Int64) (u300 : St) => wp_X10_gives r299 u300 (fun (u301 : St) => Q u301)))))))) ∧ (¬ p0 = (8 : Int32) → ((p0 = (9 : Int32) → wp_X10_holdWaiting  u (fun (u290 : St) => wp_X10_hold ((gB u 42) ((0 : Int32)).toNatClampNeg) u290 (fun (u291 : St) => wp_X10_hold ((gB u 42) ((1 : Int32)).toNatClampNeg) u291 (fun (u292 : St) => wp_X10_room (1 : Int32) u292 (fun (r293 : Int32) (u294 : St) => ((r293 = 0 → Q u294) ∧ (¬ r293 = 0 → wp_X10_pair ((gB u 42) ((0 : Int32)).toNatClampNeg) ((gB u 42) ((1 : Int32)).toNatClampNeg) u294 (fun (r295 : Int64) (u296 : St) => wp_X10_gives r295 u296 (fun (u297 : St) => Q u297))))))))) ∧ (¬ p0 = (9 : Int32) → ((p0 = (10 : Int32) → wp_X10_isPair ((gB u 42) ((0 : Int32)).toNatClampNeg) (fun (r287 : Int32) => ((r287 = 0 → wp_X10_gives (4294967297 : Int64) u (fun (u288 : St) => Q u288)) ∧ (¬ r287 = 0 → wp_X10_gives (4294967296 : Int64) u (fun (u289 : St) => Q u289))))) ∧ (¬ p0 = (10 : Int32) → ((p0 = (11 : Int32) → wp_X10_isPair ((gB u 42) ((0 : Int32)).toNatClampNeg) (fun (r281 : Int32) => ((r281 = 0 → wp_X10_isPair ((gB u 42) ((1 : Int32)).toNatClampNeg) (fun (r283 : Int32) => ((r283 = 0 → ((((gB u 42) ((0 : Int32)).toNatClampNeg) = ((gB u 42) ((1 : Int32)).toNatClampNeg) → wp_X10_gives (4294967297 : Int64) u (fun (u285 : St) => Q u285)) ∧ (¬ ((gB u 42) ((0 : Int32)).toNatClampNeg) = ((gB u 42) ((1 : Int32)).toNatClampNeg) → wp_X10_gives (4294967296 : Int64) u (fun (u284 : St) => Q u284)))) ∧ (¬ r283 = 0 → wp_X10_fails (2 : Int32) u (fun (u286 : St) => Q u286))))) ∧ (¬ r281 = 0 → wp_X10_fails (2 : Int32) u (fun (u282 : St) => Q u282))))) ∧ (¬ p0 = (11 : Int32) → ((p0 = (12 : Int32) → ((((gB u 42) ((0 : Int32)).toNatClampNeg) = (4294967296 : Int64) → wp_X10_gives (4294967297 : Int64) u (fun (u280 : St) => Q u280)) ∧ (¬ ((gB u 42) ((0 : Int32)).toNatClampNeg) = (4294967296 : Int64) → wp_X10_gives (4294967296 : Int64) u (fun (u279 : St) => Q u279)))) ∧ (¬ p0 = (12 : Int32) → ((p0 = (13 : Int32) → wp_X10_isNumber ((gB u 42) ((0 : Int32)).toNatClampNeg) (fun (r276 : Int32) => ((r276 = 0 → wp_X10_gives (4294967296 : Int64) u (fun (u277 : St) => Q u277)) ∧ (¬ r276 = 0 → wp_X10_gives (4294967297 : Int64) u (fun (u278 : St) => Q u278))))) ∧ (¬ p0 = (13 : Int32) → wp_X10_isNumber ((gB u 42) ((0 : Int32)).toNatClampNeg) (fun (r264 : Int32) => ((r264 = 0 → wp_X10_fails (2 : Int32) u (fun (u265 : St) => Q u265)) ∧ (¬ r264 = 0 → wp_X10_isNumber ((gB u 42) ((1 : Int32)).toNatClampNeg) (fun (r266 : Int32) => ((r266 = 0 → wp_X10_fails (2 : Int32) u (fun (u275 : St) => Q u275)) ∧ (¬ r266 = 0 → ((p0 = (14 : Int32) → wp_X10_number ((((gB u 42) ((0 : Int32)).toNatClampNeg)).toInt32 + (((gB u 42) ((1 : Int32)).toNatClampNeg)).toInt32) (fun (r273 : Int64) => wp_X10_gives r273 u (fun (u274 : St) => Q u274))) ∧ (¬ p0 = (14 : Int32) → ((p0 = (15 : Int32) → wp_X10_number ((((gB u 42) ((0 : Int32)).toNatClampNeg)).toInt32 - (((gB u 42) ((1 : Int32)).toNatClampNeg)).toInt32) (fun (r271 : Int64) => wp_X10_gives r271 u (fun (u272 : St) => Q u272))) ∧ (¬ p0 = (15 : Int32) → ((p0 = (16 : Int32) → wp_X10_number ((((gB u 42) ((0 : Int32)).toNatClampNeg)).toInt32 * (((gB u 42) ((1 : Int32)).toNatClampNeg)).toInt32) (fun (r269 : Int64) => wp_X10_gives r269 u (fun (u270 : St) => Q u270))) ∧ (¬ p0 = (16 : Int32) → (((((gB u 42) ((1 : Int32)).toNatClampNeg)).toInt32 ≤ (((gB u 42) ((0 : Int32)).toNatClampNeg)).toInt32 → wp_X10_gives (4294967296 : Int64) u (fun (u267 : St) => Q u267)) ∧ (¬ (((gB u 42) ((1 : Int32)).toNatClampNeg)).toInt32 ≤ (((gB u 42) ((0 : Int32)).toNatClampNeg)).toInt32 → wp_X10_gives (4294967297 : Int64) u (fun (u268 : St) => Q u268)))))))))))))))))))))))))))))) ∧ (¬ (gI u 43) = (1 : Int32) → wp_X10_fails (3 : Int32) u (fun (u306 : St) => Q u306)))) ∧ (¬ p0 = (13 : Int32) → (((gI u 43) = (2 : Int32) → ((p0 = (7 : Int32) → wp_X10_isPair ((gB u 42) ((0 : Int32)).toNatClampNeg) (fun (r205 : Int32) => ((r205 = 0 → wp_X10_fails (2 : Int32) u (fun (u212 : St) => Q u212)) ∧ (¬ r205 = 0 → ((p0 = (7 : Int32) → wp_X10_first ((gB u 42) ((0 : Int32)).toNatClampNeg) u (fun (r209 : Int64) (u210 : St) => wp_X10_gives r209 u210 (fun (u211 : St) => Q u211))) ∧ (¬ p0 = (7 : Int32) → wp_X10_behind ((gB u 42) ((0 : Int32)).toNatClampNeg) u (fun (r206 : Int64) (u207 : St) => wp_X10_gives r206 u207 (fun (u208 : St) => Q u208)))))))) ∧ (¬ p0 = (7 : Int32) → ((p0 = (8 : Int32) → wp_X10_isPair ((gB u 42) ((0 : Int32)).toNatClampNeg) (fun (r247 : Int32) => ((r247 = 0 → wp_X10_fails (2 : Int32) u (fun (u254 : St) => Q u254)) ∧ (¬ r247 = 0 → ((p0 = (7 : Int32) → wp_X10_first ((gB u 42) ((0 : Int32)).toNatClampNeg) u (fun (r251 : Int64) (u252 : St) => wp_X10_gives r251 u252 (fun (u253 : St) => Q u253))) ∧ (¬ p0 = (7 : Int32) → wp_X10_behind ((gB u 42) ((0 : Int32)).toNatClampNeg) u (fun (r248 : Int64) (u249 : St) => wp_X10_gives r248 u249 (fun (u250 : St) => Q u250)))))))) ∧ (¬ p0 = (8 : Int32) → ((p0 = (9 : Int32) → wp_X10_holdWaiting  u (fun (u239 : St) => wp_X10_hold ((gB u 42) ((0 : Int32)).toNatClampNeg) u239 (fun (u240 : St) => wp_X10_hold ((gB u 42) ((1 : Int32)).toNatClampNeg) u240 (fun (u241 : St) => wp_X10_room (1 : Int32) u241 (fun (r242 : Int32) (u243 : St) => ((r242 = 0 → Q u243) ∧ (¬ r242 = 0 → wp_X10_pair ((gB u 42) ((0 : Int32)).toNatClampNeg) ((gB u 42) ((1 : Int32)).toNatClampNeg) u243 (fun (r244 : Int64) (u245 : St) => wp_X10_gives r244 u245 (fun (u246 : St) => Q u246))))))))) ∧ (¬ p0 = (9 : Int32) → ((p0 = (10 : Int32) → wp_X10_isPair ((gB u 42) ((0 : Int32)).toNatClampNeg) (fun (r236 : Int32) => ((r236 = 0 → wp_X10_gives (4294967297 : Int64) u (fun (u237 : St) => Q u237)) ∧ (¬ r236 = 0 → wp_X10_gives (4294967296 : Int64) u (fun (u238 : St) => Q u238))))) ∧ (¬ p0 = (10 : Int32) → ((p0 = (11 : Int32) → wp_X10_isPair ((gB u 42) ((0 : Int32)).toNatClampNeg) (fun (r230 : Int32) => ((r230 = 0 → wp_X10_isPair ((gB u 42) ((1 : Int32)).toNatClampNeg) (fun (r232 : Int32) => ((r232 = 0 → ((((gB u 42) ((0 : Int32)).toNatClampNeg) = ((gB u 42) ((1 : Int32)).toNatClampNeg) → wp_X10_gives (4294967297 : Int64) u (fun (u234 : St) => Q u234)) ∧ (¬ ((gB u 42) ((0 : Int32)).toNatClampNeg) = ((gB u 42) ((1 : Int32)).toNatClampNeg) → wp_X10_gives (4294967296 : Int64) u (fun (u233 : St) => Q u233)))) ∧ (¬ r232 = 0 → wp_X10_fails (2 : Int32) u (fun (u235 : St) => Q u235))))) ∧ (¬ r230 = 0 → wp_X10_fails (2 : Int32) u (fun (u231 : St) => Q u231))))) ∧ (¬ p0 = (11 : Int32) → ((p0 = (12 : Int32) → ((((gB u 42) ((0 : Int32)).toNatClampNeg) = (4294967296 : Int64) → wp_X10_gives (4294967297 : Int64) u (fun (u229 : St) => Q u229)) ∧ (¬ ((gB u 42) ((0 : Int32)).toNatClampNeg) = (4294967296 : Int64) → wp_X10_gives (4294967296 : Int64) u (fun (u228 : St) => Q u228)))) ∧ (¬ p0 = (12 : Int32) → ((p0 = (13 : Int32) → wp_X10_isNumber ((gB u 42) ((0 : Int32)).toNatClampNeg) (fun (r225 : Int32) => ((r225 = 0 → wp_X10_gives (4294967296 : Int64) u (fun (u226 : St) => Q u226)) ∧ (¬ r225 = 0 → wp_X10_gives (4294967297 : Int64) u (fun (u227 : St) => Q u227))))) ∧ (¬ p0 = (13 : Int32) → wp_X10_isNumber ((gB u 42) ((0 : Int32)).toNatClampNeg) (fun (r213 : Int32) => ((r213 = 0 → wp_X10_fails (2 : Int32) u (fun (u214 : St) => Q u214)) ∧ (¬ r213 = 0 → wp_X10_isNumber ((gB u 42) ((1 : Int32)).toNatClampNeg) (fun (r215 : Int32) => ((r215 = 0 → wp_X10_fails (2 : Int32) u (fun (u224 : St) => Q u224)) ∧ (¬ r215 = 0 → ((p0 = (14 : Int32) → wp_X10_number ((((gB u 42) ((0 : Int32)).toNatClampNeg)).toInt32 + (((gB u 42) ((1 : Int32)).toNatClampNeg)).toInt32) (fun (r222 : Int64) => wp_X10_gives r222 u (fun (u223 : St) => Q u223))) ∧ (¬ p0 = (14 : Int32) → ((p0 = (15 : Int32) → wp_X10_number ((((gB u 42) ((0 : Int32)).toNatClampNeg)).toInt32 - (((gB u 42) ((1 : Int32)).toNatClampNeg)).toInt32) (fun (r220 : Int64) => wp_X10_gives r220 u (fun (u221 : St) => Q u221))) ∧ (¬ p0 = (15 : Int32) → ((p0 = (16 : Int32) → wp_X10_number ((((gB u 42) ((0 : Int32)).toNatClampNeg)).toInt32 * (((gB u 42) ((1 : Int32)).toNatClampNeg)).toInt32) (fun (r218 : Int64) => wp_X10_gives r218 u (fun (u219 : St) => Q u219))) ∧ (¬ p0 = (16 : Int32) → (((((gB u 42) ((1 : Int32)).toNatClampNeg)).toInt32 ≤ (((gB u 42) ((0 : Int32)).toNatClampNeg)).toInt32 → wp_X10_gives (4294967296 : Int64) u (fun (u216 : St) => Q u216)) ∧ (¬ (((gB u 42) ((1 : Int32)).toNatClampNeg)).toInt32 ≤ (((gB u 42) ((0 : Int32)).toNatClampNeg)).toInt32 → wp_X10_gives (4294967297 : Int64) u (fun (u217 : St) => Q u217)))))))))))))))))))))))))))))) ∧ (¬ (gI u 43) = (2 : Int32) → wp_X10_fails (3 : Int32) u (fun (u255 : St) => Q u255)))))))))))))
abbrev rm_X10_primitive : Room := { frames := 5, cells := 0, slots := 0, locals := 109 }
set_option maxHeartbeats 4000000 in
set_option maxRecDepth 100000 in
theorem t_X10_primitive (l : Launch) (D : va_G) (G : Gd) (p0 : Int32) (u : St) (Q : St → Prop) (h : wp_X10_primitive p0 u Q) : MRv l D G yX10_primitive cX10_primitive 9 none rm_X10_primitive [.ref (G.1 0), .int p0] u Q := by
  refine startR_v (by decide) ?_
  intro p e s m args below meth c E hr hlk hml hP hD hS hA
  have hx := E.1
  have hb := E.2.1
  have hown := E.2.2.1
  have hW := E.2.2.2.1
  have hl := lv_entry ([.ref (G.1 0), .int p0]) (n := 9) (Nat.le_of_ble_eq_true rfl)
  rw [lg_entry_eq]
  generalize (lg_sl ([.ref (G.1 0), .int p0]) ++ List.replicate (9 - (lg_sl ([.ref (G.1 0), .int p0])).length) Slot.unset).toArray = ls at hl ⊢
  have hl : lv_has ls 9 [(0, .ref (G.1 0)), (1, .int p0)] := hl
  unfold wp_X10_primitive at h
  refine lv_iload_n hx hb dX10_primitive_0 rfl (lv_at hl 1 rfl) ?_
  refine lv_bipush (v := (7 : Int32)) hx hb dX10_primitive_1 (by decide) ?_
  refine lv_icmp_eq (tgt := 30) hx hb dX10_primitive_3 (by decide) (fun hc => ?_) (fun hc => ?_)
  · have h := h.1 hc
    refine lv_iconst (v := (1 : Int32)) hx hb dX10_primitive_30 (by decide) ?_
    refine lv_goto (tgt := 35) hx hb dX10_primitive_31 (by decide) ?_
    refine lv_istore_n (lv' := [(2, .int (1 : Int32)), (0, .ref (G.1 0)), (1, .int p0)]) hx hb dX10_primitive_35 rfl hl (by decide) rfl (fun ls hl => ?_)
    refine lv_aload_n hx hb dX10_primitive_36 rfl (lv_at hl 1 rfl) ?_
    refine gR_43 E hP kfX10_144 (v := (gI u 43)) rfl dX10_primitive_37 ?_
    refine lv_iload_n hx hb dX10_primitive_40 rfl (lv_at hl 0 rfl) ?_
    refine lv_icmp_eq (tgt := 50) hx hb dX10_primitive_41 (by decide) (fun hc => ?_) (fun hc => ?_)
    · have h := h.1 hc
      refine lv_aload_n hx hb dX10_primitive_50 rfl (lv_at hl 1 rfl) ?_
      refine gR_42 E hP kfX10_141 dX10_primitive_51 ?_
      refine lv_iconst (v := (0 : Int32)) hx hb dX10_primitive_54 (by decide) ?_
      refine xR_42 E hP (by unfold vp_in; decide) (v := ((gB u 42) ((0 : Int32)).toNatClampNeg)) rfl dX10_primitive_55 ?_
      refine lv_lstore_n (lv' := [(3, .long ((gB u 42) ((0 : Int32)).toNatClampNeg)), (2, .int (1 : Int32)), (0, .ref (G.1 0)), (1, .int p0)]) hx hb dX10_primitive_56 rfl hl (by decide) rfl (fun ls hl => ?_)
      refine lv_aload_n hx hb dX10_primitive_57 rfl (lv_at hl 2 rfl) ?_
      refine gR_42 E hP kfX10_141 dX10_primitive_58 ?_
      refine lv_iconst (v := (1 : Int32)) hx hb dX10_primitive_61 (by decide) ?_
      refine xR_42 E hP (by unfold vp_in; decide) (v := ((gB u 42) ((1 : Int32)).toNatClampNeg)) rfl dX10_primitive_62 ?_
      refine lv_lstore (lv' := [(5, .long ((gB u 42) ((1 : Int32)).toNatClampNeg)), (3, .long ((gB u 42) ((0 : Int32)).toNatClampNeg)), (2, .int (1 : Int32)), (0, .ref (G.1 0)), (1, .int p0)]) hx hb dX10_primitive_63 hl (by decide) rfl (fun ls hl => ?_)
      refine lv_iload_n hx hb dX10_primitive_65 rfl (lv_at hl 4 rfl) ?_
      refine lv_bipush (v := (7 : Int32)) hx hb dX10_primitive_66 (by decide) ?_
      refine lv_icmp_eq (tgt := 77) hx hb dX10_primitive_68 (by decide) (fun hc => ?_) (fun hc => ?_)
      · have h := h.1 hc
        refine lv_lload_n hx hb dX10_primitive_77 rfl (lv_at hl 1 rfl) ?_
        refine c0_i (As := [.long ((gB u 42) ((0 : Int32)).toNatClampNeg)]) (rest := []) hx hb hml hown hW hP hS hA (t_X10_isPair l ((gB u 42) ((0 : Int32)).toNatClampNeg) _ h) kmX10_205 mwyX10_isPair ⟨⟨rfl, rfl⟩, Nat.le_of_ble_eq_true rfl, Nat.le_of_ble_eq_true rfl⟩ rfl hl.1 rfl (Nat.le_of_ble_eq_true rfl) dX10_primitive_78 ⟨Nat.zero_le _, Nat.zero_le _⟩ (fun r1 H locs hP hS h => ?_)
        refine lv_if_ne (tgt := 92) hx hb dX10_primitive_81 (by decide) (fun hc => ?_) (fun hc => ?_)
        · have h := h.2 hc
          refine lv_aload_n hx hb dX10_primitive_92 rfl (lv_at hl 3 rfl) ?_
          refine lv_iload_n hx hb dX10_primitive_93 rfl (lv_at hl 4 rfl) ?_
          refine lv_bipush (v := (7 : Int32)) hx hb dX10_primitive_94 (by decide) ?_
          refine lv_icmp_ne (tgt := 107) hx hb dX10_primitive_96 (by decide) (fun hc => ?_) (fun hc => ?_)
          · have h := h.2 hc
            refine lv_aload_n hx hb dX10_primitive_107 rfl (lv_at hl 3 rfl) ?_
            refine lv_lload_n hx hb dX10_primitive_108 rfl (lv_at hl 1 rfl) ?_
            refine cR_l (ci := 9) (q0 := 0) (As := [.long ((gB u 42) ((0 : Int32)).toNatClampNeg)]) (rest := [.ref (G.1 0)]) E hml hP hD hS hA (t_X10_behind l D G ((gB u 42) ((0 : Int32)).toNatClampNeg) u _ h) kmX10_216 mwyX10_behind rfl rfl ⟨⟨rfl, rfl⟩, Nat.le_of_ble_eq_true rfl, Nat.le_of_ble_eq_true rfl⟩ rfl hl.1 rfl (Nat.le_of_ble_eq_true rfl) dX10_primitive_109 ⟨Nat.zero_le _, Nat.zero_le _⟩ (fun r2 u3 H locs hP hD hS h => ?_)
            refine cR_v (ci := 9) (q0 := 0) (As := [.long r2]) (rest := []) E hml hP hD hS hA (t_X10_gives l D G r2 u3 _ h) kmX10_286 mwyX10_gives rfl rfl ⟨⟨rfl, rfl⟩, Nat.le_of_ble_eq_true rfl, Nat.le_of_ble_eq_true rfl⟩ rfl hl.1 rfl (Nat.le_of_ble_eq_true rfl) dX10_primitive_112 ⟨Nat.zero_le _, Nat.zero_le _⟩ (fun u4 H locs hP hD hS h => ?_)
            refine lv_goto (tgt := 404) hx hb dX10_primitive_115 (by decide) ?_
            exact retR_v E hr hlk hP hD hS h dX10_primitive_404
          · have h := h.1 hc
            refine lv_aload_n hx hb dX10_primitive_99 rfl (lv_at hl 3 rfl) ?_
            refine lv_lload_n hx hb dX10_primitive_100 rfl (lv_at hl 1 rfl) ?_
            refine cR_l (ci := 9) (q0 := 0) (As := [.long ((gB u 42) ((0 : Int32)).toNatClampNeg)]) (rest := [.ref (G.1 0)]) E hml hP hD hS hA (t_X10_first l D G ((gB u 42) ((0 : Int32)).toNatClampNeg) u _ h) kmX10_209 mwyX10_first rfl rfl ⟨⟨rfl, rfl⟩, Nat.le_of_ble_eq_true rfl, Nat.le_of_ble_eq_true rfl⟩ rfl hl.1 rfl (Nat.le_of_ble_eq_true rfl) dX10_primitive_101 ⟨Nat.zero_le _, Nat.zero_le _⟩ (fun r5 u6 H locs hP hD hS h => ?_)
            refine lv_goto (tgt := 112) hx hb dX10_primitive_104 (by decide) ?_
            refine cR_v (ci := 9) (q0 := 0) (As := [.long r5]) (rest := []) E hml hP hD hS hA (t_X10_gives l D G r5 u6 _ h) kmX10_286 mwyX10_gives rfl rfl ⟨⟨rfl, rfl⟩, Nat.le_of_ble_eq_true rfl, Nat.le_of_ble_eq_true rfl⟩ rfl hl.1 rfl (Nat.le_of_ble_eq_true rfl) dX10_primitive_112 ⟨Nat.zero_le _, Nat.zero_le _⟩ (fun u7 H locs hP hD hS h => ?_)
            refine lv_goto (tgt := 404) hx hb dX10_primitive_115 (by decide) ?_
            exact retR_v E hr hlk hP hD hS h dX10_primitive_404
        · have h := h.1 hc
          refine lv_aload_n hx hb dX10_primitive_84 rfl (lv_at hl 3 rfl) ?_
          refine lv_iconst (v := (2 : Int32)) hx hb dX10_primitive_85 (by decide) ?_
          refine cR_v (ci := 9) (q0 := 0) (As := [.int (2 : Int32)]) (rest := []) E hml hP hD hS hA (t_X10_fails l D G (2 : Int32) u _ h) kmX10_265 mwyX10_fails rfl rfl ⟨⟨rfl, rfl⟩, Nat.le_of_ble_eq_true rfl, Nat.le_of_ble_eq_true rfl⟩ rfl hl.1 rfl (Nat.le_of_ble_eq_true rfl) dX10_primitive_86 ⟨Nat.zero_le _, Nat.zero_le _⟩ (fun u8 H locs hP hD hS h => ?_)
          refine lv_goto (tgt := 404) hx hb dX10_primitive_89 (by decide) ?_
          exact retR_v E hr hlk hP hD hS h dX10_primitive_404
      · have h := h.2 hc
        refine lv_iload_n hx hb dX10_primitive_71 rfl (lv_at hl 4 rfl) ?_
        refine lv_bipush (v := (8 : Int32)) hx hb dX10_primitive_72 (by decide) ?_
        refine lv_icmp_ne (tgt := 118) hx hb dX10_primitive_74 (by decide) (fun hc => ?_) (fun hc => ?_)
        · have h := h.2 hc
          refine lv_iload_n hx hb dX10_primitive_118 rfl (lv_at hl 4 rfl) ?_
          refine lv_bipush (v := (9 : Int32)) hx hb dX10_primitive_119 (by decide) ?_
          refine lv_icmp_ne (tgt := 161) hx hb dX10_primitive_121 (by decide) (fun hc => ?_) (fun hc => ?_)
          · have h := h.2 hc
            refine lv_iload_n hx hb dX10_primitive_161 rfl (lv_at hl 4 rfl) ?_
            refine lv_bipush (v := (10 : Int32)) hx hb dX10_primitive_162 (by decide) ?_
            refine lv_icmp_ne (tgt := 190) hx hb dX10_primitive_164 (by decide) (fun hc => ?_) (fun hc => ?_)
            · have h := h.2 hc
              refine lv_iload_n hx hb dX10_primitive_190 rfl (lv_at hl 4 rfl) ?_
              refine lv_bipush (v := (11 : Int32)) hx hb dX10_primitive_191 (by decide) ?_
              refine lv_icmp_ne (tgt := 242) hx hb dX10_primitive_193 (by decide) (fun hc => ?_) (fun hc => ?_)
              · have h := h.2 hc
                refine lv_iload_n hx hb dX10_primitive_242 rfl (lv_at hl 4 rfl) ?_
                refine lv_bipush (v := (12 : Int32)) hx hb dX10_primitive_243 (by decide) ?_
                refine lv_icmp_ne (tgt := 272) hx hb dX10_primitive_245 (by decide) (fun hc => ?_) (fun hc => ?_)
                · have h := h.2 hc
                  refine lv_iload_n hx hb dX10_primitive_272 rfl (lv_at hl 4 rfl) ?_
                  refine lv_bipush (v := (13 : Int32)) hx hb dX10_primitive_273 (by decide) ?_
                  refine lv_icmp_ne (tgt := 301) hx hb dX10_primitive_275 (by decide) (fun hc => ?_) (fun hc => ?_)
                  · have h := h.2 hc
                    refine lv_lload_n hx hb dX10_primitive_301 rfl (lv_at hl 1 rfl) ?_
                    refine c0_i (As := [.long ((gB u 42) ((0 : Int32)).toNatClampNeg)]) (rest := []) hx hb hml hown hW hP hS hA (t_X10_isNumber l ((gB u 42) ((0 : Int32)).toNatClampNeg) _ h) kmX10_281 mwyX10_isNumber ⟨⟨rfl, rfl⟩, Nat.le_of_ble_eq_true rfl, Nat.le_of_ble_eq_true rfl⟩ rfl hl.1 rfl (Nat.le_of_ble_eq_true rfl) dX10_primitive_302 ⟨Nat.zero_le _, Nat.zero_le _⟩ (fun r9 H locs hP hS h => ?_)
                    refine lv_if_eq (tgt := 316) hx hb dX10_primitive_305 (by decide) (fun hc => ?_) (fun hc => ?_)
                    · have h := h.1 hc
                      refine lv_aload_n hx hb dX10_primitive_316 rfl (lv_at hl 3 rfl) ?_
                      refine lv_iconst (v := (2 : Int32)) hx hb dX10_primitive_317 (by decide) ?_
                      refine cR_v (ci := 9) (q0 := 0) (As := [.int (2 : Int32)]) (rest := []) E hml hP hD hS hA (t_X10_fails l D G (2 : Int32) u _ h) kmX10_265 mwyX10_fails rfl rfl ⟨⟨rfl, rfl⟩, Nat.le_of_ble_eq_true rfl, Nat.le_of_ble_eq_true rfl⟩ rfl hl.1 rfl (Nat.le_of_ble_eq_true rfl) dX10_primitive_318 ⟨Nat.zero_le _, Nat.zero_le _⟩ (fun u10 H locs hP hD hS h => ?_)
                      refine lv_goto (tgt := 404) hx hb dX10_primitive_321 (by decide) ?_
                      exact retR_v E hr hlk hP hD hS h dX10_primitive_404
                    · have h := h.2 hc
                      refine lv_lload hx hb dX10_primitive_308 (lv_at hl 0 rfl) ?_
                      refine c0_i (As := [.long ((gB u 42) ((1 : Int32)).toNatClampNeg)]) (rest := []) hx hb hml hown hW hP hS hA (t_X10_isNumber l ((gB u 42) ((1 : Int32)).toNatClampNeg) _ h) kmX10_281 mwyX10_isNumber ⟨⟨rfl, rfl⟩, Nat.le_of_ble_eq_true rfl, Nat.le_of_ble_eq_true rfl⟩ rfl hl.1 rfl (Nat.le_of_ble_eq_true rfl) dX10_primitive_310 ⟨Nat.zero_le _, Nat.zero_le _⟩ (fun r11 H locs hP hS h => ?_)
                      refine lv_if_ne (tgt := 324) hx hb dX10_primitive_313 (by decide) (fun hc => ?_) (fun hc => ?_)
                      · have h := h.2 hc
                        refine lv_lload_n hx hb dX10_primitive_324 rfl (lv_at hl 1 rfl) ?_
                        refine lv_l2i (v := (((gB u 42) ((0 : Int32)).toNatClampNeg)).toInt32) hx hb dX10_primitive_325 rfl ?_
                        refine lv_istore (lv' := [(7, .int (((gB u 42) ((0 : Int32)).toNatClampNeg)).toInt32), (5, .long ((gB u 42) ((1 : Int32)).toNatClampNeg)), (3, .long ((gB u 42) ((0 : Int32)).toNatClampNeg)), (2, .int (1 : Int32)), (0, .ref (G.1 0)), (1, .int p0)]) hx hb dX10_primitive_326 hl (by decide) rfl (fun ls hl => ?_)
                        refine lv_lload hx hb dX10_primitive_328 (lv_at hl 1 rfl) ?_
                        refine lv_l2i (v := (((gB u 42) ((1 : Int32)).toNatClampNeg)).toInt32) hx hb dX10_primitive_330 rfl ?_
                        refine lv_istore (lv' := [(8, .int (((gB u 42) ((1 : Int32)).toNatClampNeg)).toInt32), (7, .int (((gB u 42) ((0 : Int32)).toNatClampNeg)).toInt32), (5, .long ((gB u 42) ((1 : Int32)).toNatClampNeg)), (3, .long ((gB u 42) ((0 : Int32)).toNatClampNeg)), (2, .int (1 : Int32)), (0, .ref (G.1 0)), (1, .int p0)]) hx hb dX10_primitive_331 hl (by decide) rfl (fun ls hl => ?_)
                        refine lv_aload_n hx hb dX10_primitive_333 rfl (lv_at hl 5 rfl) ?_
                        refine lv_iload_n hx hb dX10_primitive_334 rfl (lv_at hl 6 rfl) ?_
                        refine lv_bipush (v := (14 : Int32)) hx hb dX10_primitive_335 (by decide) ?_
                        refine lv_icmp_ne (tgt := 351) hx hb dX10_primitive_337 (by decide) (fun hc => ?_) (fun hc => ?_)
                        · have h := h.2 hc
                          refine lv_iload_n hx hb dX10_primitive_351 rfl (lv_at hl 6 rfl) ?_
                          refine lv_bipush (v := (15 : Int32)) hx hb dX10_primitive_352 (by decide) ?_
                          refine lv_icmp_ne (tgt := 368) hx hb dX10_primitive_354 (by decide) (fun hc => ?_) (fun hc => ?_)
                          · have h := h.2 hc
                            refine lv_iload_n hx hb dX10_primitive_368 rfl (lv_at hl 6 rfl) ?_
                            refine lv_bipush (v := (16 : Int32)) hx hb dX10_primitive_369 (by decide) ?_
                            refine lv_icmp_ne (tgt := 385) hx hb dX10_primitive_371 (by decide) (fun hc => ?_) (fun hc => ?_)
                            · have h := h.2 hc
                              refine lv_iload hx hb dX10_primitive_385 (lv_at hl 1 rfl) ?_
                              refine lv_iload hx hb dX10_primitive_387 (lv_at hl 0 rfl) ?_
                              refine lv_icmp_ge (tgt := 398) hx hb dX10_primitive_389 (by decide) (fun hc => ?_) (fun hc => ?_)
                              · have h := h.1 hc
                                refine lv_ldc2 (v := (4294967296 : Int64)) hx hb hown (hW _ kcX10_199) dX10_primitive_398 ?_
                                refine cR_v (ci := 9) (q0 := 0) (As := [.long (4294967296 : Int64)]) (rest := []) E hml hP hD hS hA (t_X10_gives l D G (4294967296 : Int64) u _ h) kmX10_286 mwyX10_gives rfl rfl ⟨⟨rfl, rfl⟩, Nat.le_of_ble_eq_true rfl, Nat.le_of_ble_eq_true rfl⟩ rfl hl.1 rfl (Nat.le_of_ble_eq_true rfl) dX10_primitive_401 ⟨Nat.zero_le _, Nat.zero_le _⟩ (fun u12 H locs hP hD hS h => ?_)
                                exact retR_v E hr hlk hP hD hS h dX10_primitive_404
                              · have h := h.2 hc
                                refine lv_ldc2 (v := (4294967297 : Int64)) hx hb hown (hW _ kcX10_284) dX10_primitive_392 ?_
                                refine lv_goto (tgt := 401) hx hb dX10_primitive_395 (by decide) ?_
                                refine cR_v (ci := 9) (q0 := 0) (As := [.long (4294967297 : Int64)]) (rest := []) E hml hP hD hS hA (t_X10_gives l D G (4294967297 : Int64) u _ h) kmX10_286 mwyX10_gives rfl rfl ⟨⟨rfl, rfl⟩, Nat.le_of_ble_eq_true rfl, Nat.le_of_ble_eq_true rfl⟩ rfl hl.1 rfl (Nat.le_of_ble_eq_true rfl) dX10_primitive_401 ⟨Nat.zero_le _, Nat.zero_le _⟩ (fun u13 H locs hP hD hS h => ?_)
                                exact retR_v E hr hlk hP hD hS h dX10_primitive_404
                            · have h := h.1 hc
                              refine lv_iload hx hb dX10_primitive_374 (lv_at hl 1 rfl) ?_
                              refine lv_iload hx hb dX10_primitive_376 (lv_at hl 0 rfl) ?_
                              refine lv_imul hx hb dX10_primitive_378 ?_
                              refine c0_l (As := [.int ((((gB u 42) ((0 : Int32)).toNatClampNeg)).toInt32 * (((gB u 42) ((1 : Int32)).toNatClampNeg)).toInt32)]) (rest := [.ref (G.1 0)]) hx hb hml hown hW hP hS hA (t_X10_number l ((((gB u 42) ((0 : Int32)).toNatClampNeg)).toInt32 * (((gB u 42) ((1 : Int32)).toNatClampNeg)).toInt32) _ h) kmX10_236 mwyX10_number ⟨⟨rfl, rfl⟩, Nat.le_of_ble_eq_true rfl, Nat.le_of_ble_eq_true rfl⟩ rfl hl.1 rfl (Nat.le_of_ble_eq_true rfl) dX10_primitive_379 ⟨Nat.zero_le _, Nat.zero_le _⟩ (fun r14 H locs hP hS h => ?_)
                              refine lv_goto (tgt := 401) hx hb dX10_primitive_382 (by decide) ?_
                              refine cR_v (ci := 9) (q0 := 0) (As := [.long r14]) (rest := []) E hml hP hD hS hA (t_X10_gives l D G r14 u _ h) kmX10_286 mwyX10_gives rfl rfl ⟨⟨rfl, rfl⟩, Nat.le_of_ble_eq_true rfl, Nat.le_of_ble_eq_true rfl⟩ rfl hl.1 rfl (Nat.le_of_ble_eq_true rfl) dX10_primitive_401 ⟨Nat.zero_le _, Nat.zero_le _⟩ (fun u15 H locs hP hD hS h => ?_)
                              exact retR_v E hr hlk hP hD hS h dX10_primitive_404
                          · have h := h.1 hc
                            refine lv_iload hx hb dX10_primitive_357 (lv_at hl 1 rfl) ?_
                            refine lv_iload hx hb dX10_primitive_359 (lv_at hl 0 rfl) ?_
                            refine lv_isub hx hb dX10_primitive_361 ?_
                            refine c0_l (As := [.int ((((gB u 42) ((0 : Int32)).toNatClampNeg)).toInt32 - (((gB u 42) ((1 : Int32)).toNatClampNeg)).toInt32)]) (rest := [.ref (G.1 0)]) hx hb hml hown hW hP hS hA (t_X10_number l ((((gB u 42) ((0 : Int32)).toNatClampNeg)).toInt32 - (((gB u 42) ((1 : Int32)).toNatClampNeg)).toInt32) _ h) kmX10_236 mwyX10_number ⟨⟨rfl, rfl⟩, Nat.le_of_ble_eq_true rfl, Nat.le_of_ble_eq_true rfl⟩ rfl hl.1 rfl (Nat.le_of_ble_eq_true rfl) dX10_primitive_362 ⟨Nat.zero_le _, Nat.zero_le _⟩ (fun r16 H locs hP hS h => ?_)
                            refine lv_goto (tgt := 401) hx hb dX10_primitive_365 (by decide) ?_
                            refine cR_v (ci := 9) (q0 := 0) (As := [.long r16]) (rest := []) E hml hP hD hS hA (t_X10_gives l D G r16 u _ h) kmX10_286 mwyX10_gives rfl rfl ⟨⟨rfl, rfl⟩, Nat.le_of_ble_eq_true rfl, Nat.le_of_ble_eq_true rfl⟩ rfl hl.1 rfl (Nat.le_of_ble_eq_true rfl) dX10_primitive_401 ⟨Nat.zero_le _, Nat.zero_le _⟩ (fun u17 H locs hP hD hS h => ?_)
                            exact retR_v E hr hlk hP hD hS h dX10_primitive_404
                        · have h := h.1 hc
                          refine lv_iload hx hb dX10_primitive_340 (lv_at hl 1 rfl) ?_
                          refine lv_iload hx hb dX10_primitive_342 (lv_at hl 0 rfl) ?_
                          refine lv_iadd hx hb dX10_primitive_344 ?_
                          refine c0_l (As := [.int ((((gB u 42) ((0 : Int32)).toNatClampNeg)).toInt32 + (((gB u 42) ((1 : Int32)).toNatClampNeg)).toInt32)]) (rest := [.ref (G.1 0)]) hx hb hml hown hW hP hS hA (t_X10_number l ((((gB u 42) ((0 : Int32)).toNatClampNeg)).toInt32 + (((gB u 42) ((1 : Int32)).toNatClampNeg)).toInt32) _ h) kmX10_236 mwyX10_number ⟨⟨rfl, rfl⟩, Nat.le_of_ble_eq_true rfl, Nat.le_of_ble_eq_true rfl⟩ rfl hl.1 rfl (Nat.le_of_ble_eq_true rfl) dX10_primitive_345 ⟨Nat.zero_le _, Nat.zero_le _⟩ (fun r18 H locs hP hS h => ?_)
                          refine lv_goto (tgt := 401) hx hb dX10_primitive_348 (by decide) ?_
                          refine cR_v (ci := 9) (q0 := 0) (As := [.long r18]) (rest := []) E hml hP hD hS hA (t_X10_gives l D G r18 u _ h) kmX10_286 mwyX10_gives rfl rfl ⟨⟨rfl, rfl⟩, Nat.le_of_ble_eq_true rfl, Nat.le_of_ble_eq_true rfl⟩ rfl hl.1 rfl (Nat.le_of_ble_eq_true rfl) dX10_primitive_401 ⟨Nat.zero_le _, Nat.zero_le _⟩ (fun u19 H locs hP hD hS h => ?_)
                          exact retR_v E hr hlk hP hD hS h dX10_primitive_404
                      · have h := h.1 hc
                        refine lv_aload_n hx hb dX10_primitive_316 rfl (lv_at hl 3 rfl) ?_
                        refine lv_iconst (v := (2 : Int32)) hx hb dX10_primitive_317 (by decide) ?_
                        refine cR_v (ci := 9) (q0 := 0) (As := [.int (2 : Int32)]) (rest := []) E hml hP hD hS hA (t_X10_fails l D G (2 : Int32) u _ h) kmX10_265 mwyX10_fails rfl rfl ⟨⟨rfl, rfl⟩, Nat.le_of_ble_eq_true rfl, Nat.le_of_ble_eq_true rfl⟩ rfl hl.1 rfl (Nat.le_of_ble_eq_true rfl) dX10_primitive_318 ⟨Nat.zero_le _, Nat.zero_le _⟩ (fun u20 H locs hP hD hS h => ?_)
                        refine lv_goto (tgt := 404) hx hb dX10_primitive_321 (by decide) ?_
                        exact retR_v E hr hlk hP hD hS h dX10_primitive_404
                  · have h := h.1 hc
                    refine lv_aload_n hx hb dX10_primitive_278 rfl (lv_at hl 3 rfl) ?_
                    refine lv_lload_n hx hb dX10_primitive_279 rfl (lv_at hl 1 rfl) ?_
                    refine c0_i (As := [.long ((gB u 42) ((0 : Int32)).toNatClampNeg)]) (rest := [.ref (G.1 0)]) hx hb hml hown hW hP hS hA (t_X10_isNumber l ((gB u 42) ((0 : Int32)).toNatClampNeg) _ h) kmX10_281 mwyX10_isNumber ⟨⟨rfl, rfl⟩, Nat.le_of_ble_eq_true rfl, Nat.le_of_ble_eq_true rfl⟩ rfl hl.1 rfl (Nat.le_of_ble_eq_true rfl) dX10_primitive_280 ⟨Nat.zero_le _, Nat.zero_le _⟩ (fun r21 H locs hP hS h => ?_)
                    refine lv_if_eq (tgt := 292) hx hb dX10_primitive_283 (by decide) (fun hc => ?_) (fun hc => ?_)
                    · have h := h.1 hc
                      refine lv_ldc2 (v := (4294967296 : Int64)) hx hb hown (hW _ kcX10_199) dX10_primitive_292 ?_
                      refine cR_v (ci := 9) (q0 := 0) (As := [.long (4294967296 : Int64)]) (rest := []) E hml hP hD hS hA (t_X10_gives l D G (4294967296 : Int64) u _ h) kmX10_286 mwyX10_gives rfl rfl ⟨⟨rfl, rfl⟩, Nat.le_of_ble_eq_true rfl, Nat.le_of_ble_eq_true rfl⟩ rfl hl.1 rfl (Nat.le_of_ble_eq_true rfl) dX10_primitive_295 ⟨Nat.zero_le _, Nat.zero_le _⟩ (fun u22 H locs hP hD hS h => ?_)
                      refine lv_goto (tgt := 404) hx hb dX10_primitive_298 (by decide) ?_
                      exact retR_v E hr hlk hP hD hS h dX10_primitive_404
                    · have h := h.2 hc
                      refine lv_ldc2 (v := (4294967297 : Int64)) hx hb hown (hW _ kcX10_284) dX10_primitive_286 ?_
                      refine lv_goto (tgt := 295) hx hb dX10_primitive_289 (by decide) ?_
                      refine cR_v (ci := 9) (q0 := 0) (As := [.long (4294967297 : Int64)]) (rest := []) E hml hP hD hS hA (t_X10_gives l D G (4294967297 : Int64) u _ h) kmX10_286 mwyX10_gives rfl rfl ⟨⟨rfl, rfl⟩, Nat.le_of_ble_eq_true rfl, Nat.le_of_ble_eq_true rfl⟩ rfl hl.1 rfl (Nat.le_of_ble_eq_true rfl) dX10_primitive_295 ⟨Nat.zero_le _, Nat.zero_le _⟩ (fun u23 H locs hP hD hS h => ?_)
                      refine lv_goto (tgt := 404) hx hb dX10_primitive_298 (by decide) ?_
                      exact retR_v E hr hlk hP hD hS h dX10_primitive_404
                · have h := h.1 hc
                  refine lv_aload_n hx hb dX10_primitive_248 rfl (lv_at hl 3 rfl) ?_
                  refine lv_lload_n hx hb dX10_primitive_249 rfl (lv_at hl 1 rfl) ?_
                  refine lv_ldc2 (v := (4294967296 : Int64)) hx hb hown (hW _ kcX10_199) dX10_primitive_250 ?_
                  refine lq_ne (tgt := 263) hx hb dX10_primitive_253 dX10_primitive_254 (by decide) (fun hc => ?_) (fun hc => ?_)
                  · have h := h.2 hc
                    refine lv_ldc2 (v := (4294967296 : Int64)) hx hb hown (hW _ kcX10_199) dX10_primitive_263 ?_
                    refine cR_v (ci := 9) (q0 := 0) (As := [.long (4294967296 : Int64)]) (rest := []) E hml hP hD hS hA (t_X10_gives l D G (4294967296 : Int64) u _ h) kmX10_286 mwyX10_gives rfl rfl ⟨⟨rfl, rfl⟩, Nat.le_of_ble_eq_true rfl, Nat.le_of_ble_eq_true rfl⟩ rfl hl.1 rfl (Nat.le_of_ble_eq_true rfl) dX10_primitive_266 ⟨Nat.zero_le _, Nat.zero_le _⟩ (fun u24 H locs hP hD hS h => ?_)
                    refine lv_goto (tgt := 404) hx hb dX10_primitive_269 (by decide) ?_
                    exact retR_v E hr hlk hP hD hS h dX10_primitive_404
                  · have h := h.1 hc
                    refine lv_ldc2 (v := (4294967297 : Int64)) hx hb hown (hW _ kcX10_284) dX10_primitive_257 ?_
                    refine lv_goto (tgt := 266) hx hb dX10_primitive_260 (by decide) ?_
                    refine cR_v (ci := 9) (q0 := 0) (As := [.long (4294967297 : Int64)]) (rest := []) E hml hP hD hS hA (t_X10_gives l D G (4294967297 : Int64) u _ h) kmX10_286 mwyX10_gives rfl rfl ⟨⟨rfl, rfl⟩, Nat.le_of_ble_eq_true rfl, Nat.le_of_ble_eq_true rfl⟩ rfl hl.1 rfl (Nat.le_of_ble_eq_true rfl) dX10_primitive_266 ⟨Nat.zero_le _, Nat.zero_le _⟩ (fun u25 H locs hP hD hS h => ?_)
                    refine lv_goto (tgt := 404) hx hb dX10_primitive_269 (by decide) ?_
                    exact retR_v E hr hlk hP hD hS h dX10_primitive_404
              · have h := h.1 hc
                refine lv_lload_n hx hb dX10_primitive_196 rfl (lv_at hl 1 rfl) ?_
                refine c0_i (As := [.long ((gB u 42) ((0 : Int32)).toNatClampNeg)]) (rest := []) hx hb hml hown hW hP hS hA (t_X10_isPair l ((gB u 42) ((0 : Int32)).toNatClampNeg) _ h) kmX10_205 mwyX10_isPair ⟨⟨rfl, rfl⟩, Nat.le_of_ble_eq_true rfl, Nat.le_of_ble_eq_true rfl⟩ rfl hl.1 rfl (Nat.le_of_ble_eq_true rfl) dX10_primitive_197 ⟨Nat.zero_le _, Nat.zero_le _⟩ (fun r26 H locs hP hS h => ?_)
                refine lv_if_ne (tgt := 211) hx hb dX10_primitive_200 (by decide) (fun hc => ?_) (fun hc => ?_)
                · have h := h.2 hc
                  refine lv_aload_n hx hb dX10_primitive_211 rfl (lv_at hl 3 rfl) ?_
                  refine lv_iconst (v := (2 : Int32)) hx hb dX10_primitive_212 (by decide) ?_
                  refine cR_v (ci := 9) (q0 := 0) (As := [.int (2 : Int32)]) (rest := []) E hml hP hD hS hA (t_X10_fails l D G (2 : Int32) u _ h) kmX10_265 mwyX10_fails rfl rfl ⟨⟨rfl, rfl⟩, Nat.le_of_ble_eq_true rfl, Nat.le_of_ble_eq_true rfl⟩ rfl hl.1 rfl (Nat.le_of_ble_eq_true rfl) dX10_primitive_213 ⟨Nat.zero_le _, Nat.zero_le _⟩ (fun u27 H locs hP hD hS h => ?_)
                  refine lv_goto (tgt := 404) hx hb dX10_primitive_216 (by decide) ?_
                  exact retR_v E hr hlk hP hD hS h dX10_primitive_404
                · have h := h.1 hc
                  refine lv_lload hx hb dX10_primitive_203 (lv_at hl 0 rfl) ?_
                  refine c0_i (As := [.long ((gB u 42) ((1 : Int32)).toNatClampNeg)]) (rest := []) hx hb hml hown hW hP hS hA (t_X10_isPair l ((gB u 42) ((1 : Int32)).toNatClampNeg) _ h) kmX10_205 mwyX10_isPair ⟨⟨rfl, rfl⟩, Nat.le_of_ble_eq_true rfl, Nat.le_of_ble_eq_true rfl⟩ rfl hl.1 rfl (Nat.le_of_ble_eq_true rfl) dX10_primitive_205 ⟨Nat.zero_le _, Nat.zero_le _⟩ (fun r28 H locs hP hS h => ?_)
                  refine lv_if_eq (tgt := 219) hx hb dX10_primitive_208 (by decide) (fun hc => ?_) (fun hc => ?_)
                  · have h := h.1 hc
                    refine lv_aload_n hx hb dX10_primitive_219 rfl (lv_at hl 3 rfl) ?_
                    refine lv_lload_n hx hb dX10_primitive_220 rfl (lv_at hl 1 rfl) ?_
                    refine lv_lload hx hb dX10_primitive_221 (lv_at hl 0 rfl) ?_
                    refine lq_ne (tgt := 233) hx hb dX10_primitive_223 dX10_primitive_224 (by decide) (fun hc => ?_) (fun hc => ?_)
                    · have h := h.2 hc
                      refine lv_ldc2 (v := (4294967296 : Int64)) hx hb hown (hW _ kcX10_199) dX10_primitive_233 ?_
                      refine cR_v (ci := 9) (q0 := 0) (As := [.long (4294967296 : Int64)]) (rest := []) E hml hP hD hS hA (t_X10_gives l D G (4294967296 : Int64) u _ h) kmX10_286 mwyX10_gives rfl rfl ⟨⟨rfl, rfl⟩, Nat.le_of_ble_eq_true rfl, Nat.le_of_ble_eq_true rfl⟩ rfl hl.1 rfl (Nat.le_of_ble_eq_true rfl) dX10_primitive_236 ⟨Nat.zero_le _, Nat.zero_le _⟩ (fun u29 H locs hP hD hS h => ?_)
                      refine lv_goto (tgt := 404) hx hb dX10_primitive_239 (by decide) ?_
                      exact retR_v E hr hlk hP hD hS h dX10_primitive_404
                    · have h := h.1 hc
                      refine lv_ldc2 (v := (4294967297 : Int64)) hx hb hown (hW _ kcX10_284) dX10_primitive_227 ?_
                      refine lv_goto (tgt := 236) hx hb dX10_primitive_230 (by decide) ?_
                      refine cR_v (ci := 9) (q0 := 0) (As := [.long (4294967297 : Int64)]) (rest := []) E hml hP hD hS hA (t_X10_gives l D G (4294967297 : Int64) u _ h) kmX10_286 mwyX10_gives rfl rfl ⟨⟨rfl, rfl⟩, Nat.le_of_ble_eq_true rfl, Nat.le_of_ble_eq_true rfl⟩ rfl hl.1 rfl (Nat.le_of_ble_eq_true rfl) dX10_primitive_236 ⟨Nat.zero_le _, Nat.zero_le _⟩ (fun u30 H locs hP hD hS h => ?_)
                      refine lv_goto (tgt := 404) hx hb dX10_primitive_239 (by decide) ?_
                      exact retR_v E hr hlk hP hD hS h dX10_primitive_404
                  · have h := h.2 hc
                    refine lv_aload_n hx hb dX10_primitive_211 rfl (lv_at hl 3 rfl) ?_
                    refine lv_iconst (v := (2 : Int32)) hx hb dX10_primitive_212 (by decide) ?_
                    refine cR_v (ci := 9) (q0 := 0) (As := [.int (2 : Int32)]) (rest := []) E hml hP hD hS hA (t_X10_fails l D G (2 : Int32) u _ h) kmX10_265 mwyX10_fails rfl rfl ⟨⟨rfl, rfl⟩, Nat.le_of_ble_eq_true rfl, Nat.le_of_ble_eq_true rfl⟩ rfl hl.1 rfl (Nat.le_of_ble_eq_true rfl) dX10_primitive_213 ⟨Nat.zero_le _, Nat.zero_le _⟩ (fun u31 H locs hP hD hS h => ?_)
                    refine lv_goto (tgt := 404) hx hb dX10_primitive_216 (by decide) ?_
                    exact retR_v E hr hlk hP hD hS h dX10_primitive_404
            · have h := h.1 hc
              refine lv_aload_n hx hb dX10_primitive_167 rfl (lv_at hl 3 rfl) ?_
              refine lv_lload_n hx hb dX10_primitive_168 rfl (lv_at hl 1 rfl) ?_
              refine c0_i (As := [.long ((gB u 42) ((0 : Int32)).toNatClampNeg)]) (rest := [.ref (G.1 0)]) hx hb hml hown hW hP hS hA (t_X10_isPair l ((gB u 42) ((0 : Int32)).toNatClampNeg) _ h) kmX10_205 mwyX10_isPair ⟨⟨rfl, rfl⟩, Nat.le_of_ble_eq_true rfl, Nat.le_of_ble_eq_true rfl⟩ rfl hl.1 rfl (Nat.le_of_ble_eq_true rfl) dX10_primitive_169 ⟨Nat.zero_le _, Nat.zero_le _⟩ (fun r32 H locs hP hS h => ?_)
              refine lv_if_eq (tgt := 181) hx hb dX10_primitive_172 (by decide) (fun hc => ?_) (fun hc => ?_)
              · have h := h.1 hc
                refine lv_ldc2 (v := (4294967297 : Int64)) hx hb hown (hW _ kcX10_284) dX10_primitive_181 ?_
                refine cR_v (ci := 9) (q0 := 0) (As := [.long (4294967297 : Int64)]) (rest := []) E hml hP hD hS hA (t_X10_gives l D G (4294967297 : Int64) u _ h) kmX10_286 mwyX10_gives rfl rfl ⟨⟨rfl, rfl⟩, Nat.le_of_ble_eq_true rfl, Nat.le_of_ble_eq_true rfl⟩ rfl hl.1 rfl (Nat.le_of_ble_eq_true rfl) dX10_primitive_184 ⟨Nat.zero_le _, Nat.zero_le _⟩ (fun u33 H locs hP hD hS h => ?_)
                refine lv_goto (tgt := 404) hx hb dX10_primitive_187 (by decide) ?_
                exact retR_v E hr hlk hP hD hS h dX10_primitive_404
              · have h := h.2 hc
                refine lv_ldc2 (v := (4294967296 : Int64)) hx hb hown (hW _ kcX10_199) dX10_primitive_175 ?_
                refine lv_goto (tgt := 184) hx hb dX10_primitive_178 (by decide) ?_
                refine cR_v (ci := 9) (q0 := 0) (As := [.long (4294967296 : Int64)]) (rest := []) E hml hP hD hS hA (t_X10_gives l D G (4294967296 : Int64) u _ h) kmX10_286 mwyX10_gives rfl rfl ⟨⟨rfl, rfl⟩, Nat.le_of_ble_eq_true rfl, Nat.le_of_ble_eq_true rfl⟩ rfl hl.1 rfl (Nat.le_of_ble_eq_true rfl) dX10_primitive_184 ⟨Nat.zero_le _, Nat.zero_le _⟩ (fun u34 H locs hP hD hS h => ?_)
                refine lv_goto (tgt := 404) hx hb dX10_primitive_187 (by decide) ?_
                exact retR_v E hr hlk hP hD hS h dX10_primitive_404
          · have h := h.1 hc
            refine lv_aload_n hx hb dX10_primitive_124 rfl (lv_at hl 3 rfl) ?_
            refine cR_v (ci := 9) (q0 := 0) (As := []) (rest := []) E hml hP hD hS hA (t_X10_holdWaiting l D G  u _ h) kmX10_304 mwyX10_holdWaiting rfl rfl ⟨⟨rfl, rfl⟩, Nat.le_of_ble_eq_true rfl, Nat.le_of_ble_eq_true rfl⟩ rfl hl.1 rfl (Nat.le_of_ble_eq_true rfl) dX10_primitive_125 ⟨Nat.zero_le _, Nat.zero_le _⟩ (fun u35 H locs hP hD hS h => ?_)
            refine lv_aload_n hx hb dX10_primitive_128 rfl (lv_at hl 3 rfl) ?_
            refine lv_lload_n hx hb dX10_primitive_129 rfl (lv_at hl 1 rfl) ?_
            refine cR_v (ci := 9) (q0 := 0) (As := [.long ((gB u 42) ((0 : Int32)).toNatClampNeg)]) (rest := []) E hml hP hD hS hA (t_X10_hold l D G ((gB u 42) ((0 : Int32)).toNatClampNeg) u35 _ h) kmX10_213 mwyX10_hold rfl rfl ⟨⟨rfl, rfl⟩, Nat.le_of_ble_eq_true rfl, Nat.le_of_ble_eq_true rfl⟩ rfl hl.1 rfl (Nat.le_of_ble_eq_true rfl) dX10_primitive_130 ⟨Nat.zero_le _, Nat.zero_le _⟩ (fun u36 H locs hP hD hS h => ?_)
            refine lv_aload_n hx hb dX10_primitive_133 rfl (lv_at hl 3 rfl) ?_
            refine lv_lload hx hb dX10_primitive_134 (lv_at hl 0 rfl) ?_
            refine cR_v (ci := 9) (q0 := 0) (As := [.long ((gB u 42) ((1 : Int32)).toNatClampNeg)]) (rest := []) E hml hP hD hS hA (t_X10_hold l D G ((gB u 42) ((1 : Int32)).toNatClampNeg) u36 _ h) kmX10_213 mwyX10_hold rfl rfl ⟨⟨rfl, rfl⟩, Nat.le_of_ble_eq_true rfl, Nat.le_of_ble_eq_true rfl⟩ rfl hl.1 rfl (Nat.le_of_ble_eq_true rfl) dX10_primitive_136 ⟨Nat.zero_le _, Nat.zero_le _⟩ (fun u37 H locs hP hD hS h => ?_)
            refine lv_aload_n hx hb dX10_primitive_139 rfl (lv_at hl 3 rfl) ?_
            refine lv_iconst (v := (1 : Int32)) hx hb dX10_primitive_140 (by decide) ?_
            refine cR_i (ci := 9) (q0 := 0) (As := [.int (1 : Int32)]) (rest := []) E hml hP hD hS hA (t_X10_room l D G (1 : Int32) u37 _ h) kmX10_307 mwyX10_room rfl rfl ⟨⟨rfl, rfl⟩, Nat.le_of_ble_eq_true rfl, Nat.le_of_ble_eq_true rfl⟩ rfl hl.1 rfl (Nat.le_of_ble_eq_true rfl) dX10_primitive_141 ⟨Nat.zero_le _, Nat.zero_le _⟩ (fun r38 u39 H locs hP hD hS h => ?_)
            refine lv_if_eq (tgt := 404) hx hb dX10_primitive_144 (by decide) (fun hc => ?_) (fun hc => ?_)
            · have h := h.1 hc
              exact retR_v E hr hlk hP hD hS h dX10_primitive_404
            · have h := h.2 hc
              refine lv_aload_n hx hb dX10_primitive_147 rfl (lv_at hl 3 rfl) ?_
              refine lv_aload_n hx hb dX10_primitive_148 rfl (lv_at hl 3 rfl) ?_
              refine lv_lload_n hx hb dX10_primitive_149 rfl (lv_at hl 1 rfl) ?_
              refine lv_lload hx hb dX10_primitive_150 (lv_at hl 0 rfl) ?_
              refine cR_l (ci := 9) (q0 := 0) (As := [.long ((gB u 42) ((0 : Int32)).toNatClampNeg), .long ((gB u 42) ((1 : Int32)).toNatClampNeg)]) (rest := [.ref (G.1 0)]) E hml hP hD hS hA (t_X10_pair l D G ((gB u 42) ((0 : Int32)).toNatClampNeg) ((gB u 42) ((1 : Int32)).toNatClampNeg) u39 _ h) kmX10_244 mwyX10_pair rfl rfl ⟨⟨rfl, rfl⟩, Nat.le_of_ble_eq_true rfl, Nat.le_of_ble_eq_true rfl⟩ rfl hl.1 rfl (Nat.le_of_ble_eq_true rfl) dX10_primitive_152 ⟨Nat.zero_le _, Nat.zero_le _⟩ (fun r40 u41 H locs hP hD hS h => ?_)
              refine cR_v (ci := 9) (q0 := 0) (As := [.long r40]) (rest := []) E hml hP hD hS hA (t_X10_gives l D G r40 u41 _ h) kmX10_286 mwyX10_gives rfl rfl ⟨⟨rfl, rfl⟩, Nat.le_of_ble_eq_true rfl, Nat.le_of_ble_eq_true rfl⟩ rfl hl.1 rfl (Nat.le_of_ble_eq_true rfl) dX10_primitive_155 ⟨Nat.zero_le _, Nat.zero_le _⟩ (fun u42 H locs hP hD hS h => ?_)
              refine lv_goto (tgt := 404) hx hb dX10_primitive_158 (by decide) ?_
              exact retR_v E hr hlk hP hD hS h dX10_primitive_404
        · have h := h.1 hc
          refine lv_lload_n hx hb dX10_primitive_77 rfl (lv_at hl 1 rfl) ?_
          refine c0_i (As := [.long ((gB u 42) ((0 : Int32)).toNatClampNeg)]) (rest := []) hx hb hml hown hW hP hS hA (t_X10_isPair l ((gB u 42) ((0 : Int32)).toNatClampNeg) _ h) kmX10_205 mwyX10_isPair ⟨⟨rfl, rfl⟩, Nat.le_of_ble_eq_true rfl, Nat.le_of_ble_eq_true rfl⟩ rfl hl.1 rfl (Nat.le_of_ble_eq_true rfl) dX10_primitive_78 ⟨Nat.zero_le _, Nat.zero_le _⟩ (fun r43 H locs hP hS h => ?_)
          refine lv_if_ne (tgt := 92) hx hb dX10_primitive_81 (by decide) (fun hc => ?_) (fun hc => ?_)
          · have h := h.2 hc
            refine lv_aload_n hx hb dX10_primitive_92 rfl (lv_at hl 3 rfl) ?_
            refine lv_iload_n hx hb dX10_primitive_93 rfl (lv_at hl 4 rfl) ?_
            refine lv_bipush (v := (7 : Int32)) hx hb dX10_primitive_94 (by decide) ?_
            refine lv_icmp_ne (tgt := 107) hx hb dX10_primitive_96 (by decide) (fun hc => ?_) (fun hc => ?_)
            · have h := h.2 hc
              refine lv_aload_n hx hb dX10_primitive_107 rfl (lv_at hl 3 rfl) ?_
              refine lv_lload_n hx hb dX10_primitive_108 rfl (lv_at hl 1 rfl) ?_
              refine cR_l (ci := 9) (q0 := 0) (As := [.long ((gB u 42) ((0 : Int32)).toNatClampNeg)]) (rest := [.ref (G.1 0)]) E hml hP hD hS hA (t_X10_behind l D G ((gB u 42) ((0 : Int32)).toNatClampNeg) u _ h) kmX10_216 mwyX10_behind rfl rfl ⟨⟨rfl, rfl⟩, Nat.le_of_ble_eq_true rfl, Nat.le_of_ble_eq_true rfl⟩ rfl hl.1 rfl (Nat.le_of_ble_eq_true rfl) dX10_primitive_109 ⟨Nat.zero_le _, Nat.zero_le _⟩ (fun r44 u45 H locs hP hD hS h => ?_)
              refine cR_v (ci := 9) (q0 := 0) (As := [.long r44]) (rest := []) E hml hP hD hS hA (t_X10_gives l D G r44 u45 _ h) kmX10_286 mwyX10_gives rfl rfl ⟨⟨rfl, rfl⟩, Nat.le_of_ble_eq_true rfl, Nat.le_of_ble_eq_true rfl⟩ rfl hl.1 rfl (Nat.le_of_ble_eq_true rfl) dX10_primitive_112 ⟨Nat.zero_le _, Nat.zero_le _⟩ (fun u46 H locs hP hD hS h => ?_)
              refine lv_goto (tgt := 404) hx hb dX10_primitive_115 (by decide) ?_
              exact retR_v E hr hlk hP hD hS h dX10_primitive_404
            · have h := h.1 hc
              refine lv_aload_n hx hb dX10_primitive_99 rfl (lv_at hl 3 rfl) ?_
              refine lv_lload_n hx hb dX10_primitive_100 rfl (lv_at hl 1 rfl) ?_
              refine cR_l (ci := 9) (q0 := 0) (As := [.long ((gB u 42) ((0 : Int32)).toNatClampNeg)]) (rest := [.ref (G.1 0)]) E hml hP hD hS hA (t_X10_first l D G ((gB u 42) ((0 : Int32)).toNatClampNeg) u _ h) kmX10_209 mwyX10_first rfl rfl ⟨⟨rfl, rfl⟩, Nat.le_of_ble_eq_true rfl, Nat.le_of_ble_eq_true rfl⟩ rfl hl.1 rfl (Nat.le_of_ble_eq_true rfl) dX10_primitive_101 ⟨Nat.zero_le _, Nat.zero_le _⟩ (fun r47 u48 H locs hP hD hS h => ?_)
              refine lv_goto (tgt := 112) hx hb dX10_primitive_104 (by decide) ?_
              refine cR_v (ci := 9) (q0 := 0) (As := [.long r47]) (rest := []) E hml hP hD hS hA (t_X10_gives l D G r47 u48 _ h) kmX10_286 mwyX10_gives rfl rfl ⟨⟨rfl, rfl⟩, Nat.le_of_ble_eq_true rfl, Nat.le_of_ble_eq_true rfl⟩ rfl hl.1 rfl (Nat.le_of_ble_eq_true rfl) dX10_primitive_112 ⟨Nat.zero_le _, Nat.zero_le _⟩ (fun u49 H locs hP hD hS h => ?_)
              refine lv_goto (tgt := 404) hx hb dX10_primitive_115 (by decide) ?_
              exact retR_v E hr hlk hP hD hS h dX10_primitive_404
          · have h := h.1 hc
            refine lv_aload_n hx hb dX10_primitive_84 rfl (lv_at hl 3 rfl) ?_
            refine lv_iconst (v := (2 : Int32)) hx hb dX10_primitive_85 (by decide) ?_
            refine cR_v (ci := 9) (q0 := 0) (As := [.int (2 : Int32)]) (rest := []) E hml hP hD hS hA (t_X10_fails l D G (2 : Int32) u _ h) kmX10_265 mwyX10_fails rfl rfl ⟨⟨rfl, rfl⟩, Nat.le_of_ble_eq_true rfl, Nat.le_of_ble_eq_true rfl⟩ rfl hl.1 rfl (Nat.le_of_ble_eq_true rfl) dX10_primitive_86 ⟨Nat.zero_le _, Nat.zero_le _⟩ (fun u50 H locs hP hD hS h => ?_)
            refine lv_goto (tgt := 404) hx hb dX10_primitive_89 (by decide) ?_
            exact retR_v E hr hlk hP hD hS h dX10_primitive_404
    · have h := h.2 hc
      refine lv_aload_n hx hb dX10_primitive_44 rfl (lv_at hl 1 rfl) ?_
      refine lv_iconst (v := (3 : Int32)) hx hb dX10_primitive_45 (by decide) ?_
      refine cR_v (ci := 9) (q0 := 0) (As := [.int (3 : Int32)]) (rest := []) E hml hP hD hS hA (t_X10_fails l D G (3 : Int32) u _ h) kmX10_265 mwyX10_fails rfl rfl ⟨⟨rfl, rfl⟩, Nat.le_of_ble_eq_true rfl, Nat.le_of_ble_eq_true rfl⟩ rfl hl.1 rfl (Nat.le_of_ble_eq_true rfl) dX10_primitive_46 ⟨Nat.zero_le _, Nat.zero_le _⟩ (fun u51 H locs hP hD hS h => ?_)
      exact retR_v E hr hlk hP hD hS h dX10_primitive_49
  · have h := h.2 hc
    refine lv_iload_n hx hb dX10_primitive_6 rfl (lv_at hl 1 rfl) ?_
    refine lv_bipush (v := (8 : Int32)) hx hb dX10_primitive_7 (by decide) ?_
    refine lv_icmp_eq (tgt := 30) hx hb dX10_primitive_9 (by decide) (fun hc => ?_) (fun hc => ?_)
    · have h := h.1 hc
      refine lv_iconst (v := (1 : Int32)) hx hb dX10_primitive_30 (by decide) ?_
      refine lv_goto (tgt := 35) hx hb dX10_primitive_31 (by decide) ?_
      refine lv_istore_n (lv' := [(2, .int (1 : Int32)), (0, .ref (G.1 0)), (1, .int p0)]) hx hb dX10_primitive_35 rfl hl (by decide) rfl (fun ls hl => ?_)
      refine lv_aload_n hx hb dX10_primitive_36 rfl (lv_at hl 1 rfl) ?_
      refine gR_43 E hP kfX10_144 (v := (gI u 43)) rfl dX10_primitive_37 ?_
      refine lv_iload_n hx hb dX10_primitive_40 rfl (lv_at hl 0 rfl) ?_
      refine lv_icmp_eq (tgt := 50) hx hb dX10_primitive_41 (by decide) (fun hc => ?_) (fun hc => ?_)
      · have h := h.1 hc
        refine lv_aload_n hx hb dX10_primitive_50 rfl (lv_at hl 1 rfl) ?_
        refine gR_42 E hP kfX10_141 dX10_primitive_51 ?_
        refine lv_iconst (v := (0 : Int32)) hx hb dX10_primitive_54 (by decide) ?_
        refine xR_42 E hP (by unfold vp_in; decide) (v := ((gB u 42) ((0 : Int32)).toNatClampNeg)) rfl dX10_primitive_55 ?_
        refine lv_lstore_n (lv' := [(3, .long ((gB u 42) ((0 : Int32)).toNatClampNeg)), (2, .int (1 : Int32)), (0, .ref (G.1 0)), (1, .int p0)]) hx hb dX10_primitive_56 rfl hl (by decide) rfl (fun ls hl => ?_)
        refine lv_aload_n hx hb dX10_primitive_57 rfl (lv_at hl 2 rfl) ?_
        refine gR_42 E hP kfX10_141 dX10_primitive_58 ?_
        refine lv_iconst (v := (1 : Int32)) hx hb dX10_primitive_61 (by decide) ?_
        refine xR_42 E hP (by unfold vp_in; decide) (v := ((gB u 42) ((1 : Int32)).toNatClampNeg)) rfl dX10_primitive_62 ?_
        refine lv_lstore (lv' := [(5, .long ((gB u 42) ((1 : Int32)).toNatClampNeg)), (3, .long ((gB u 42) ((0 : Int32)).toNatClampNeg)), (2, .int (1 : Int32)), (0, .ref (G.1 0)), (1, .int p0)]) hx hb dX10_primitive_63 hl (by decide) rfl (fun ls hl => ?_)
        refine lv_iload_n hx hb dX10_primitive_65 rfl (lv_at hl 4 rfl) ?_
        refine lv_bipush (v := (7 : Int32)) hx hb dX10_primitive_66 (by decide) ?_
        refine lv_icmp_eq (tgt := 77) hx hb dX10_primitive_68 (by decide) (fun hc => ?_) (fun hc => ?_)
        · have h := h.1 hc
          refine lv_lload_n hx hb dX10_primitive_77 rfl (lv_at hl 1 rfl) ?_
          refine c0_i (As := [.long ((gB u 42) ((0 : Int32)).toNatClampNeg)]) (rest := []) hx hb hml hown hW hP hS hA (t_X10_isPair l ((gB u 42) ((0 : Int32)).toNatClampNeg) _ h) kmX10_205 mwyX10_isPair ⟨⟨rfl, rfl⟩, Nat.le_of_ble_eq_true rfl, Nat.le_of_ble_eq_true rfl⟩ rfl hl.1 rfl (Nat.le_of_ble_eq_true rfl) dX10_primitive_78 ⟨Nat.zero_le _, Nat.zero_le _⟩ (fun r52 H locs hP hS h => ?_)
          refine lv_if_ne (tgt := 92) hx hb dX10_primitive_81 (by decide) (fun hc => ?_) (fun hc => ?_)
          · have h := h.2 hc
            refine lv_aload_n hx hb dX10_primitive_92 rfl (lv_at hl 3 rfl) ?_
            refine lv_iload_n hx hb dX10_primitive_93 rfl (lv_at hl 4 rfl) ?_
            refine lv_bipush (v := (7 : Int32)) hx hb dX10_primitive_94 (by decide) ?_
            refine lv_icmp_ne (tgt := 107) hx hb dX10_primitive_96 (by decide) (fun hc => ?_) (fun hc => ?_)
            · have h := h.2 hc
              refine lv_aload_n hx hb dX10_primitive_107 rfl (lv_at hl 3 rfl) ?_
              refine lv_lload_n hx hb dX10_primitive_108 rfl (lv_at hl 1 rfl) ?_
              refine cR_l (ci := 9) (q0 := 0) (As := [.long ((gB u 42) ((0 : Int32)).toNatClampNeg)]) (rest := [.ref (G.1 0)]) E hml hP hD hS hA (t_X10_behind l D G ((gB u 42) ((0 : Int32)).toNatClampNeg) u _ h) kmX10_216 mwyX10_behind rfl rfl ⟨⟨rfl, rfl⟩, Nat.le_of_ble_eq_true rfl, Nat.le_of_ble_eq_true rfl⟩ rfl hl.1 rfl (Nat.le_of_ble_eq_true rfl) dX10_primitive_109 ⟨Nat.zero_le _, Nat.zero_le _⟩ (fun r53 u54 H locs hP hD hS h => ?_)
              refine cR_v (ci := 9) (q0 := 0) (As := [.long r53]) (rest := []) E hml hP hD hS hA (t_X10_gives l D G r53 u54 _ h) kmX10_286 mwyX10_gives rfl rfl ⟨⟨rfl, rfl⟩, Nat.le_of_ble_eq_true rfl, Nat.le_of_ble_eq_true rfl⟩ rfl hl.1 rfl (Nat.le_of_ble_eq_true rfl) dX10_primitive_112 ⟨Nat.zero_le _, Nat.zero_le _⟩ (fun u55 H locs hP hD hS h => ?_)
              refine lv_goto (tgt := 404) hx hb dX10_primitive_115 (by decide) ?_
              exact retR_v E hr hlk hP hD hS h dX10_primitive_404
            · have h := h.1 hc
              refine lv_aload_n hx hb dX10_primitive_99 rfl (lv_at hl 3 rfl) ?_
              refine lv_lload_n hx hb dX10_primitive_100 rfl (lv_at hl 1 rfl) ?_
              refine cR_l (ci := 9) (q0 := 0) (As := [.long ((gB u 42) ((0 : Int32)).toNatClampNeg)]) (rest := [.ref (G.1 0)]) E hml hP hD hS hA (t_X10_first l D G ((gB u 42) ((0 : Int32)).toNatClampNeg) u _ h) kmX10_209 mwyX10_first rfl rfl ⟨⟨rfl, rfl⟩, Nat.le_of_ble_eq_true rfl, Nat.le_of_ble_eq_true rfl⟩ rfl hl.1 rfl (Nat.le_of_ble_eq_true rfl) dX10_primitive_101 ⟨Nat.zero_le _, Nat.zero_le _⟩ (fun r56 u57 H locs hP hD hS h => ?_)
              refine lv_goto (tgt := 112) hx hb dX10_primitive_104 (by decide) ?_
              refine cR_v (ci := 9) (q0 := 0) (As := [.long r56]) (rest := []) E hml hP hD hS hA (t_X10_gives l D G r56 u57 _ h) kmX10_286 mwyX10_gives rfl rfl ⟨⟨rfl, rfl⟩, Nat.le_of_ble_eq_true rfl, Nat.le_of_ble_eq_true rfl⟩ rfl hl.1 rfl (Nat.le_of_ble_eq_true rfl) dX10_primitive_112 ⟨Nat.zero_le _, Nat.zero_le _⟩ (fun u58 H locs hP hD hS h => ?_)
              refine lv_goto (tgt := 404) hx hb dX10_primitive_115 (by decide) ?_
              exact retR_v E hr hlk hP hD hS h dX10_primitive_404
          · have h := h.1 hc
            refine lv_aload_n hx hb dX10_primitive_84 rfl (lv_at hl 3 rfl) ?_
            refine lv_iconst (v := (2 : Int32)) hx hb dX10_primitive_85 (by decide) ?_
            refine cR_v (ci := 9) (q0 := 0) (As := [.int (2 : Int32)]) (rest := []) E hml hP hD hS hA (t_X10_fails l D G (2 : Int32) u _ h) kmX10_265 mwyX10_fails rfl rfl ⟨⟨rfl, rfl⟩, Nat.le_of_ble_eq_true rfl, Nat.le_of_ble_eq_true rfl⟩ rfl hl.1 rfl (Nat.le_of_ble_eq_true rfl) dX10_primitive_86 ⟨Nat.zero_le _, Nat.zero_le _⟩ (fun u59 H locs hP hD hS h => ?_)
            refine lv_goto (tgt := 404) hx hb dX10_primitive_89 (by decide) ?_
            exact retR_v E hr hlk hP hD hS h dX10_primitive_404
        · have h := h.2 hc
          refine lv_iload_n hx hb dX10_primitive_71 rfl (lv_at hl 4 rfl) ?_
          refine lv_bipush (v := (8 : Int32)) hx hb dX10_primitive_72 (by decide) ?_
          refine lv_icmp_ne (tgt := 118) hx hb dX10_primitive_74 (by decide) (fun hc => ?_) (fun hc => ?_)
          · have h := h.2 hc
            refine lv_iload_n hx hb dX10_primitive_118 rfl (lv_at hl 4 rfl) ?_
            refine lv_bipush (v := (9 : Int32)) hx hb dX10_primitive_119 (by decide) ?_
            refine lv_icmp_ne (tgt := 161) hx hb dX10_primitive_121 (by decide) (fun hc => ?_) (fun hc => ?_)
            · have h := h.2 hc
              refine lv_iload_n hx hb dX10_primitive_161 rfl (lv_at hl 4 rfl) ?_
              refine lv_bipush (v := (10 : Int32)) hx hb dX10_primitive_162 (by decide) ?_
              refine lv_icmp_ne (tgt := 190) hx hb dX10_primitive_164 (by decide) (fun hc => ?_) (fun hc => ?_)
              · have h := h.2 hc
                refine lv_iload_n hx hb dX10_primitive_190 rfl (lv_at hl 4 rfl) ?_
                refine lv_bipush (v := (11 : Int32)) hx hb dX10_primitive_191 (by decide) ?_
                refine lv_icmp_ne (tgt := 242) hx hb dX10_primitive_193 (by decide) (fun hc => ?_) (fun hc => ?_)
                · have h := h.2 hc
                  refine lv_iload_n hx hb dX10_primitive_242 rfl (lv_at hl 4 rfl) ?_
                  refine lv_bipush (v := (12 : Int32)) hx hb dX10_primitive_243 (by decide) ?_
                  refine lv_icmp_ne (tgt := 272) hx hb dX10_primitive_245 (by decide) (fun hc => ?_) (fun hc => ?_)
                  · have h := h.2 hc
                    refine lv_iload_n hx hb dX10_primitive_272 rfl (lv_at hl 4 rfl) ?_
                    refine lv_bipush (v := (13 : Int32)) hx hb dX10_primitive_273 (by decide) ?_
                    refine lv_icmp_ne (tgt := 301) hx hb dX10_primitive_275 (by decide) (fun hc => ?_) (fun hc => ?_)
                    · have h := h.2 hc
                      refine lv_lload_n hx hb dX10_primitive_301 rfl (lv_at hl 1 rfl) ?_
                      refine c0_i (As := [.long ((gB u 42) ((0 : Int32)).toNatClampNeg)]) (rest := []) hx hb hml hown hW hP hS hA (t_X10_isNumber l ((gB u 42) ((0 : Int32)).toNatClampNeg) _ h) kmX10_281 mwyX10_isNumber ⟨⟨rfl, rfl⟩, Nat.le_of_ble_eq_true rfl, Nat.le_of_ble_eq_true rfl⟩ rfl hl.1 rfl (Nat.le_of_ble_eq_true rfl) dX10_primitive_302 ⟨Nat.zero_le _, Nat.zero_le _⟩ (fun r60 H locs hP hS h => ?_)
                      refine lv_if_eq (tgt := 316) hx hb dX10_primitive_305 (by decide) (fun hc => ?_) (fun hc => ?_)
                      · have h := h.1 hc
                        refine lv_aload_n hx hb dX10_primitive_316 rfl (lv_at hl 3 rfl) ?_
                        refine lv_iconst (v := (2 : Int32)) hx hb dX10_primitive_317 (by decide) ?_
                        refine cR_v (ci := 9) (q0 := 0) (As := [.int (2 : Int32)]) (rest := []) E hml hP hD hS hA (t_X10_fails l D G (2 : Int32) u _ h) kmX10_265 mwyX10_fails rfl rfl ⟨⟨rfl, rfl⟩, Nat.le_of_ble_eq_true rfl, Nat.le_of_ble_eq_true rfl⟩ rfl hl.1 rfl (Nat.le_of_ble_eq_true rfl) dX10_primitive_318 ⟨Nat.zero_le _, Nat.zero_le _⟩ (fun u61 H locs hP hD hS h => ?_)
                        refine lv_goto (tgt := 404) hx hb dX10_primitive_321 (by decide) ?_
                        exact retR_v E hr hlk hP hD hS h dX10_primitive_404
                      · have h := h.2 hc
                        refine lv_lload hx hb dX10_primitive_308 (lv_at hl 0 rfl) ?_
                        refine c0_i (As := [.long ((gB u 42) ((1 : Int32)).toNatClampNeg)]) (rest := []) hx hb hml hown hW hP hS hA (t_X10_isNumber l ((gB u 42) ((1 : Int32)).toNatClampNeg) _ h) kmX10_281 mwyX10_isNumber ⟨⟨rfl, rfl⟩, Nat.le_of_ble_eq_true rfl, Nat.le_of_ble_eq_true rfl⟩ rfl hl.1 rfl (Nat.le_of_ble_eq_true rfl) dX10_primitive_310 ⟨Nat.zero_le _, Nat.zero_le _⟩ (fun r62 H locs hP hS h => ?_)
                        refine lv_if_ne (tgt := 324) hx hb dX10_primitive_313 (by decide) (fun hc => ?_) (fun hc => ?_)
                        · have h := h.2 hc
                          refine lv_lload_n hx hb dX10_primitive_324 rfl (lv_at hl 1 rfl) ?_
                          refine lv_l2i (v := (((gB u 42) ((0 : Int32)).toNatClampNeg)).toInt32) hx hb dX10_primitive_325 rfl ?_
                          refine lv_istore (lv' := [(7, .int (((gB u 42) ((0 : Int32)).toNatClampNeg)).toInt32), (5, .long ((gB u 42) ((1 : Int32)).toNatClampNeg)), (3, .long ((gB u 42) ((0 : Int32)).toNatClampNeg)), (2, .int (1 : Int32)), (0, .ref (G.1 0)), (1, .int p0)]) hx hb dX10_primitive_326 hl (by decide) rfl (fun ls hl => ?_)
                          refine lv_lload hx hb dX10_primitive_328 (lv_at hl 1 rfl) ?_
                          refine lv_l2i (v := (((gB u 42) ((1 : Int32)).toNatClampNeg)).toInt32) hx hb dX10_primitive_330 rfl ?_
                          refine lv_istore (lv' := [(8, .int (((gB u 42) ((1 : Int32)).toNatClampNeg)).toInt32), (7, .int (((gB u 42) ((0 : Int32)).toNatClampNeg)).toInt32), (5, .long ((gB u 42) ((1 : Int32)).toNatClampNeg)), (3, .long ((gB u 42) ((0 : Int32)).toNatClampNeg)), (2, .int (1 : Int32)), (0, .ref (G.1 0)), (1, .int p0)]) hx hb dX10_primitive_331 hl (by decide) rfl (fun ls hl => ?_)
                          refine lv_aload_n hx hb dX10_primitive_333 rfl (lv_at hl 5 rfl) ?_
                          refine lv_iload_n hx hb dX10_primitive_334 rfl (lv_at hl 6 rfl) ?_
                          refine lv_bipush (v := (14 : Int32)) hx hb dX10_primitive_335 (by decide) ?_
                          refine lv_icmp_ne (tgt := 351) hx hb dX10_primitive_337 (by decide) (fun hc => ?_) (fun hc => ?_)
                          · have h := h.2 hc
                            refine lv_iload_n hx hb dX10_primitive_351 rfl (lv_at hl 6 rfl) ?_
                            refine lv_bipush (v := (15 : Int32)) hx hb dX10_primitive_352 (by decide) ?_
                            refine lv_icmp_ne (tgt := 368) hx hb dX10_primitive_354 (by decide) (fun hc => ?_) (fun hc => ?_)
                            · have h := h.2 hc
                              refine lv_iload_n hx hb dX10_primitive_368 rfl (lv_at hl 6 rfl) ?_
                              refine lv_bipush (v := (16 : Int32)) hx hb dX10_primitive_369 (by decide) ?_
                              refine lv_icmp_ne (tgt := 385) hx hb dX10_primitive_371 (by decide) (fun hc => ?_) (fun hc => ?_)
                              · have h := h.2 hc
                                refine lv_iload hx hb dX10_primitive_385 (lv_at hl 1 rfl) ?_
                                refine lv_iload hx hb dX10_primitive_387 (lv_at hl 0 rfl) ?_
                                refine lv_icmp_ge (tgt := 398) hx hb dX10_primitive_389 (by decide) (fun hc => ?_) (fun hc => ?_)
                                · have h := h.1 hc
                                  refine lv_ldc2 (v := (4294967296 : Int64)) hx hb hown (hW _ kcX10_199) dX10_primitive_398 ?_
                                  refine cR_v (ci := 9) (q0 := 0) (As := [.long (4294967296 : Int64)]) (rest := []) E hml hP hD hS hA (t_X10_gives l D G (4294967296 : Int64) u _ h) kmX10_286 mwyX10_gives rfl rfl ⟨⟨rfl, rfl⟩, Nat.le_of_ble_eq_true rfl, Nat.le_of_ble_eq_true rfl⟩ rfl hl.1 rfl (Nat.le_of_ble_eq_true rfl) dX10_primitive_401 ⟨Nat.zero_le _, Nat.zero_le _⟩ (fun u63 H locs hP hD hS h => ?_)
                                  exact retR_v E hr hlk hP hD hS h dX10_primitive_404
                                · have h := h.2 hc
                                  refine lv_ldc2 (v := (4294967297 : Int64)) hx hb hown (hW _ kcX10_284) dX10_primitive_392 ?_
                                  refine lv_goto (tgt := 401) hx hb dX10_primitive_395 (by decide) ?_
                                  refine cR_v (ci := 9) (q0 := 0) (As := [.long (4294967297 : Int64)]) (rest := []) E hml hP hD hS hA (t_X10_gives l D G (4294967297 : Int64) u _ h) kmX10_286 mwyX10_gives rfl rfl ⟨⟨rfl, rfl⟩, Nat.le_of_ble_eq_true rfl, Nat.le_of_ble_eq_true rfl⟩ rfl hl.1 rfl (Nat.le_of_ble_eq_true rfl) dX10_primitive_401 ⟨Nat.zero_le _, Nat.zero_le _⟩ (fun u64 H locs hP hD hS h => ?_)
                                  exact retR_v E hr hlk hP hD hS h dX10_primitive_404
                              · have h := h.1 hc
                                refine lv_iload hx hb dX10_primitive_374 (lv_at hl 1 rfl) ?_
                                refine lv_iload hx hb dX10_primitive_376 (lv_at hl 0 rfl) ?_
                                refine lv_imul hx hb dX10_primitive_378 ?_
                                refine c0_l (As := [.int ((((gB u 42) ((0 : Int32)).toNatClampNeg)).toInt32 * (((gB u 42) ((1 : Int32)).toNatClampNeg)).toInt32)]) (rest := [.ref (G.1 0)]) hx hb hml hown hW hP hS hA (t_X10_number l ((((gB u 42) ((0 : Int32)).toNatClampNeg)).toInt32 * (((gB u 42) ((1 : Int32)).toNatClampNeg)).toInt32) _ h) kmX10_236 mwyX10_number ⟨⟨rfl, rfl⟩, Nat.le_of_ble_eq_true rfl, Nat.le_of_ble_eq_true rfl⟩ rfl hl.1 rfl (Nat.le_of_ble_eq_true rfl) dX10_primitive_379 ⟨Nat.zero_le _, Nat.zero_le _⟩ (fun r65 H locs hP hS h => ?_)
                                refine lv_goto (tgt := 401) hx hb dX10_primitive_382 (by decide) ?_
                                refine cR_v (ci := 9) (q0 := 0) (As := [.long r65]) (rest := []) E hml hP hD hS hA (t_X10_gives l D G r65 u _ h) kmX10_286 mwyX10_gives rfl rfl ⟨⟨rfl, rfl⟩, Nat.le_of_ble_eq_true rfl, Nat.le_of_ble_eq_true rfl⟩ rfl hl.1 rfl (Nat.le_of_ble_eq_true rfl) dX10_primitive_401 ⟨Nat.zero_le _, Nat.zero_le _⟩ (fun u66 H locs hP hD hS h => ?_)
                                exact retR_v E hr hlk hP hD hS h dX10_primitive_404
                            · have h := h.1 hc
                              refine lv_iload hx hb dX10_primitive_357 (lv_at hl 1 rfl) ?_
                              refine lv_iload hx hb dX10_primitive_359 (lv_at hl 0 rfl) ?_
                              refine lv_isub hx hb dX10_primitive_361 ?_
                              refine c0_l (As := [.int ((((gB u 42) ((0 : Int32)).toNatClampNeg)).toInt32 - (((gB u 42) ((1 : Int32)).toNatClampNeg)).toInt32)]) (rest := [.ref (G.1 0)]) hx hb hml hown hW hP hS hA (t_X10_number l ((((gB u 42) ((0 : Int32)).toNatClampNeg)).toInt32 - (((gB u 42) ((1 : Int32)).toNatClampNeg)).toInt32) _ h) kmX10_236 mwyX10_number ⟨⟨rfl, rfl⟩, Nat.le_of_ble_eq_true rfl, Nat.le_of_ble_eq_true rfl⟩ rfl hl.1 rfl (Nat.le_of_ble_eq_true rfl) dX10_primitive_362 ⟨Nat.zero_le _, Nat.zero_le _⟩ (fun r67 H locs hP hS h => ?_)
                              refine lv_goto (tgt := 401) hx hb dX10_primitive_365 (by decide) ?_
                              refine cR_v (ci := 9) (q0 := 0) (As := [.long r67]) (rest := []) E hml hP hD hS hA (t_X10_gives l D G r67 u _ h) kmX10_286 mwyX10_gives rfl rfl ⟨⟨rfl, rfl⟩, Nat.le_of_ble_eq_true rfl, Nat.le_of_ble_eq_true rfl⟩ rfl hl.1 rfl (Nat.le_of_ble_eq_true rfl) dX10_primitive_401 ⟨Nat.zero_le _, Nat.zero_le _⟩ (fun u68 H locs hP hD hS h => ?_)
                              exact retR_v E hr hlk hP hD hS h dX10_primitive_404
                          · have h := h.1 hc
                            refine lv_iload hx hb dX10_primitive_340 (lv_at hl 1 rfl) ?_
                            refine lv_iload hx hb dX10_primitive_342 (lv_at hl 0 rfl) ?_
                            refine lv_iadd hx hb dX10_primitive_344 ?_
                            refine c0_l (As := [.int ((((gB u 42) ((0 : Int32)).toNatClampNeg)).toInt32 + (((gB u 42) ((1 : Int32)).toNatClampNeg)).toInt32)]) (rest := [.ref (G.1 0)]) hx hb hml hown hW hP hS hA (t_X10_number l ((((gB u 42) ((0 : Int32)).toNatClampNeg)).toInt32 + (((gB u 42) ((1 : Int32)).toNatClampNeg)).toInt32) _ h) kmX10_236 mwyX10_number ⟨⟨rfl, rfl⟩, Nat.le_of_ble_eq_true rfl, Nat.le_of_ble_eq_true rfl⟩ rfl hl.1 rfl (Nat.le_of_ble_eq_true rfl) dX10_primitive_345 ⟨Nat.zero_le _, Nat.zero_le _⟩ (fun r69 H locs hP hS h => ?_)
                            refine lv_goto (tgt := 401) hx hb dX10_primitive_348 (by decide) ?_
                            refine cR_v (ci := 9) (q0 := 0) (As := [.long r69]) (rest := []) E hml hP hD hS hA (t_X10_gives l D G r69 u _ h) kmX10_286 mwyX10_gives rfl rfl ⟨⟨rfl, rfl⟩, Nat.le_of_ble_eq_true rfl, Nat.le_of_ble_eq_true rfl⟩ rfl hl.1 rfl (Nat.le_of_ble_eq_true rfl) dX10_primitive_401 ⟨Nat.zero_le _, Nat.zero_le _⟩ (fun u70 H locs hP hD hS h => ?_)
                            exact retR_v E hr hlk hP hD hS h dX10_primitive_404
                        · have h := h.1 hc
                          refine lv_aload_n hx hb dX10_primitive_316 rfl (lv_at hl 3 rfl) ?_
                          refine lv_iconst (v := (2 : Int32)) hx hb dX10_primitive_317 (by decide) ?_
                          refine cR_v (ci := 9) (q0 := 0) (As := [.int (2 : Int32)]) (rest := []) E hml hP hD hS hA (t_X10_fails l D G (2 : Int32) u _ h) kmX10_265 mwyX10_fails rfl rfl ⟨⟨rfl, rfl⟩, Nat.le_of_ble_eq_true rfl, Nat.le_of_ble_eq_true rfl⟩ rfl hl.1 rfl (Nat.le_of_ble_eq_true rfl) dX10_primitive_318 ⟨Nat.zero_le _, Nat.zero_le _⟩ (fun u71 H locs hP hD hS h => ?_)
                          refine lv_goto (tgt := 404) hx hb dX10_primitive_321 (by decide) ?_
                          exact retR_v E hr hlk hP hD hS h dX10_primitive_404
                    · have h := h.1 hc
                      refine lv_aload_n hx hb dX10_primitive_278 rfl (lv_at hl 3 rfl) ?_
                      refine lv_lload_n hx hb dX10_primitive_279 rfl (lv_at hl 1 rfl) ?_
                      refine c0_i (As := [.long ((gB u 42) ((0 : Int32)).toNatClampNeg)]) (rest := [.ref (G.1 0)]) hx hb hml hown hW hP hS hA (t_X10_isNumber l ((gB u 42) ((0 : Int32)).toNatClampNeg) _ h) kmX10_281 mwyX10_isNumber ⟨⟨rfl, rfl⟩, Nat.le_of_ble_eq_true rfl, Nat.le_of_ble_eq_true rfl⟩ rfl hl.1 rfl (Nat.le_of_ble_eq_true rfl) dX10_primitive_280 ⟨Nat.zero_le _, Nat.zero_le _⟩ (fun r72 H locs hP hS h => ?_)
                      refine lv_if_eq (tgt := 292) hx hb dX10_primitive_283 (by decide) (fun hc => ?_) (fun hc => ?_)
                      · have h := h.1 hc
                        refine lv_ldc2 (v := (4294967296 : Int64)) hx hb hown (hW _ kcX10_199) dX10_primitive_292 ?_
                        refine cR_v (ci := 9) (q0 := 0) (As := [.long (4294967296 : Int64)]) (rest := []) E hml hP hD hS hA (t_X10_gives l D G (4294967296 : Int64) u _ h) kmX10_286 mwyX10_gives rfl rfl ⟨⟨rfl, rfl⟩, Nat.le_of_ble_eq_true rfl, Nat.le_of_ble_eq_true rfl⟩ rfl hl.1 rfl (Nat.le_of_ble_eq_true rfl) dX10_primitive_295 ⟨Nat.zero_le _, Nat.zero_le _⟩ (fun u73 H locs hP hD hS h => ?_)
                        refine lv_goto (tgt := 404) hx hb dX10_primitive_298 (by decide) ?_
                        exact retR_v E hr hlk hP hD hS h dX10_primitive_404
                      · have h := h.2 hc
                        refine lv_ldc2 (v := (4294967297 : Int64)) hx hb hown (hW _ kcX10_284) dX10_primitive_286 ?_
                        refine lv_goto (tgt := 295) hx hb dX10_primitive_289 (by decide) ?_
                        refine cR_v (ci := 9) (q0 := 0) (As := [.long (4294967297 : Int64)]) (rest := []) E hml hP hD hS hA (t_X10_gives l D G (4294967297 : Int64) u _ h) kmX10_286 mwyX10_gives rfl rfl ⟨⟨rfl, rfl⟩, Nat.le_of_ble_eq_true rfl, Nat.le_of_ble_eq_true rfl⟩ rfl hl.1 rfl (Nat.le_of_ble_eq_true rfl) dX10_primitive_295 ⟨Nat.zero_le _, Nat.zero_le _⟩ (fun u74 H locs hP hD hS h => ?_)
                        refine lv_goto (tgt := 404) hx hb dX10_primitive_298 (by decide) ?_
                        exact retR_v E hr hlk hP hD hS h dX10_primitive_404
                  · have h := h.1 hc
                    refine lv_aload_n hx hb dX10_primitive_248 rfl (lv_at hl 3 rfl) ?_
                    refine lv_lload_n hx hb dX10_primitive_249 rfl (lv_at hl 1 rfl) ?_
                    refine lv_ldc2 (v := (4294967296 : Int64)) hx hb hown (hW _ kcX10_199) dX10_primitive_250 ?_
                    refine lq_ne (tgt := 263) hx hb dX10_primitive_253 dX10_primitive_254 (by decide) (fun hc => ?_) (fun hc => ?_)
                    · have h := h.2 hc
                      refine lv_ldc2 (v := (4294967296 : Int64)) hx hb hown (hW _ kcX10_199) dX10_primitive_263 ?_
                      refine cR_v (ci := 9) (q0 := 0) (As := [.long (4294967296 : Int64)]) (rest := []) E hml hP hD hS hA (t_X10_gives l D G (4294967296 : Int64) u _ h) kmX10_286 mwyX10_gives rfl rfl ⟨⟨rfl, rfl⟩, Nat.le_of_ble_eq_true rfl, Nat.le_of_ble_eq_true rfl⟩ rfl hl.1 rfl (Nat.le_of_ble_eq_true rfl) dX10_primitive_266 ⟨Nat.zero_le _, Nat.zero_le _⟩ (fun u75 H locs hP hD hS h => ?_)
                      refine lv_goto (tgt := 404) hx hb dX10_primitive_269 (by decide) ?_
                      exact retR_v E hr hlk hP hD hS h dX10_primitive_404
                    · have h := h.1 hc
                      refine lv_ldc2 (v := (4294967297 : Int64)) hx hb hown (hW _ kcX10_284) dX10_primitive_257 ?_
                      refine lv_goto (tgt := 266) hx hb dX10_primitive_260 (by decide) ?_
                      refine cR_v (ci := 9) (q0 := 0) (As := [.long (4294967297 : Int64)]) (rest := []) E hml hP hD hS hA (t_X10_gives l D G (4294967297 : Int64) u _ h) kmX10_286 mwyX10_gives rfl rfl ⟨⟨rfl, rfl⟩, Nat.le_of_ble_eq_true rfl, Nat.le_of_ble_eq_true rfl⟩ rfl hl.1 rfl (Nat.le_of_ble_eq_true rfl) dX10_primitive_266 ⟨Nat.zero_le _, Nat.zero_le _⟩ (fun u76 H locs hP hD hS h => ?_)
                      refine lv_goto (tgt := 404) hx hb dX10_primitive_269 (by decide) ?_
                      exact retR_v E hr hlk hP hD hS h dX10_primitive_404
                · have h := h.1 hc
                  refine lv_lload_n hx hb dX10_primitive_196 rfl (lv_at hl 1 rfl) ?_
                  refine c0_i (As := [.long ((gB u 42) ((0 : Int32)).toNatClampNeg)]) (rest := []) hx hb hml hown hW hP hS hA (t_X10_isPair l ((gB u 42) ((0 : Int32)).toNatClampNeg) _ h) kmX10_205 mwyX10_isPair ⟨⟨rfl, rfl⟩, Nat.le_of_ble_eq_true rfl, Nat.le_of_ble_eq_true rfl⟩ rfl hl.1 rfl (Nat.le_of_ble_eq_true rfl) dX10_primitive_197 ⟨Nat.zero_le _, Nat.zero_le _⟩ (fun r77 H locs hP hS h => ?_)
                  refine lv_if_ne (tgt := 211) hx hb dX10_primitive_200 (by decide) (fun hc => ?_) (fun hc => ?_)
                  · have h := h.2 hc
                    refine lv_aload_n hx hb dX10_primitive_211 rfl (lv_at hl 3 rfl) ?_
                    refine lv_iconst (v := (2 : Int32)) hx hb dX10_primitive_212 (by decide) ?_
                    refine cR_v (ci := 9) (q0 := 0) (As := [.int (2 : Int32)]) (rest := []) E hml hP hD hS hA (t_X10_fails l D G (2 : Int32) u _ h) kmX10_265 mwyX10_fails rfl rfl ⟨⟨rfl, rfl⟩, Nat.le_of_ble_eq_true rfl, Nat.le_of_ble_eq_true rfl⟩ rfl hl.1 rfl (Nat.le_of_ble_eq_true rfl) dX10_primitive_213 ⟨Nat.zero_le _, Nat.zero_le _⟩ (fun u78 H locs hP hD hS h => ?_)
                    refine lv_goto (tgt := 404) hx hb dX10_primitive_216 (by decide) ?_
                    exact retR_v E hr hlk hP hD hS h dX10_primitive_404
                  · have h := h.1 hc
                    refine lv_lload hx hb dX10_primitive_203 (lv_at hl 0 rfl) ?_
                    refine c0_i (As := [.long ((gB u 42) ((1 : Int32)).toNatClampNeg)]) (rest := []) hx hb hml hown hW hP hS hA (t_X10_isPair l ((gB u 42) ((1 : Int32)).toNatClampNeg) _ h) kmX10_205 mwyX10_isPair ⟨⟨rfl, rfl⟩, Nat.le_of_ble_eq_true rfl, Nat.le_of_ble_eq_true rfl⟩ rfl hl.1 rfl (Nat.le_of_ble_eq_true rfl) dX10_primitive_205 ⟨Nat.zero_le _, Nat.zero_le _⟩ (fun r79 H locs hP hS h => ?_)
                    refine lv_if_eq (tgt := 219) hx hb dX10_primitive_208 (by decide) (fun hc => ?_) (fun hc => ?_)
                    · have h := h.1 hc
                      refine lv_aload_n hx hb dX10_primitive_219 rfl (lv_at hl 3 rfl) ?_
                      refine lv_lload_n hx hb dX10_primitive_220 rfl (lv_at hl 1 rfl) ?_
                      refine lv_lload hx hb dX10_primitive_221 (lv_at hl 0 rfl) ?_
                      refine lq_ne (tgt := 233) hx hb dX10_primitive_223 dX10_primitive_224 (by decide) (fun hc => ?_) (fun hc => ?_)
                      · have h := h.2 hc
                        refine lv_ldc2 (v := (4294967296 : Int64)) hx hb hown (hW _ kcX10_199) dX10_primitive_233 ?_
                        refine cR_v (ci := 9) (q0 := 0) (As := [.long (4294967296 : Int64)]) (rest := []) E hml hP hD hS hA (t_X10_gives l D G (4294967296 : Int64) u _ h) kmX10_286 mwyX10_gives rfl rfl ⟨⟨rfl, rfl⟩, Nat.le_of_ble_eq_true rfl, Nat.le_of_ble_eq_true rfl⟩ rfl hl.1 rfl (Nat.le_of_ble_eq_true rfl) dX10_primitive_236 ⟨Nat.zero_le _, Nat.zero_le _⟩ (fun u80 H locs hP hD hS h => ?_)
                        refine lv_goto (tgt := 404) hx hb dX10_primitive_239 (by decide) ?_
                        exact retR_v E hr hlk hP hD hS h dX10_primitive_404
                      · have h := h.1 hc
                        refine lv_ldc2 (v := (4294967297 : Int64)) hx hb hown (hW _ kcX10_284) dX10_primitive_227 ?_
                        refine lv_goto (tgt := 236) hx hb dX10_primitive_230 (by decide) ?_
                        refine cR_v (ci := 9) (q0 := 0) (As := [.long (4294967297 : Int64)]) (rest := []) E hml hP hD hS hA (t_X10_gives l D G (4294967297 : Int64) u _ h) kmX10_286 mwyX10_gives rfl rfl ⟨⟨rfl, rfl⟩, Nat.le_of_ble_eq_true rfl, Nat.le_of_ble_eq_true rfl⟩ rfl hl.1 rfl (Nat.le_of_ble_eq_true rfl) dX10_primitive_236 ⟨Nat.zero_le _, Nat.zero_le _⟩ (fun u81 H locs hP hD hS h => ?_)
                        refine lv_goto (tgt := 404) hx hb dX10_primitive_239 (by decide) ?_
                        exact retR_v E hr hlk hP hD hS h dX10_primitive_404
                    · have h := h.2 hc
                      refine lv_aload_n hx hb dX10_primitive_211 rfl (lv_at hl 3 rfl) ?_
                      refine lv_iconst (v := (2 : Int32)) hx hb dX10_primitive_212 (by decide) ?_
                      refine cR_v (ci := 9) (q0 := 0) (As := [.int (2 : Int32)]) (rest := []) E hml hP hD hS hA (t_X10_fails l D G (2 : Int32) u _ h) kmX10_265 mwyX10_fails rfl rfl ⟨⟨rfl, rfl⟩, Nat.le_of_ble_eq_true rfl, Nat.le_of_ble_eq_true rfl⟩ rfl hl.1 rfl (Nat.le_of_ble_eq_true rfl) dX10_primitive_213 ⟨Nat.zero_le _, Nat.zero_le _⟩ (fun u82 H locs hP hD hS h => ?_)
                      refine lv_goto (tgt := 404) hx hb dX10_primitive_216 (by decide) ?_
                      exact retR_v E hr hlk hP hD hS h dX10_primitive_404
              · have h := h.1 hc
                refine lv_aload_n hx hb dX10_primitive_167 rfl (lv_at hl 3 rfl) ?_
                refine lv_lload_n hx hb dX10_primitive_168 rfl (lv_at hl 1 rfl) ?_
                refine c0_i (As := [.long ((gB u 42) ((0 : Int32)).toNatClampNeg)]) (rest := [.ref (G.1 0)]) hx hb hml hown hW hP hS hA (t_X10_isPair l ((gB u 42) ((0 : Int32)).toNatClampNeg) _ h) kmX10_205 mwyX10_isPair ⟨⟨rfl, rfl⟩, Nat.le_of_ble_eq_true rfl, Nat.le_of_ble_eq_true rfl⟩ rfl hl.1 rfl (Nat.le_of_ble_eq_true rfl) dX10_primitive_169 ⟨Nat.zero_le _, Nat.zero_le _⟩ (fun r83 H locs hP hS h => ?_)
                refine lv_if_eq (tgt := 181) hx hb dX10_primitive_172 (by decide) (fun hc => ?_) (fun hc => ?_)
                · have h := h.1 hc
                  refine lv_ldc2 (v := (4294967297 : Int64)) hx hb hown (hW _ kcX10_284) dX10_primitive_181 ?_
                  refine cR_v (ci := 9) (q0 := 0) (As := [.long (4294967297 : Int64)]) (rest := []) E hml hP hD hS hA (t_X10_gives l D G (4294967297 : Int64) u _ h) kmX10_286 mwyX10_gives rfl rfl ⟨⟨rfl, rfl⟩, Nat.le_of_ble_eq_true rfl, Nat.le_of_ble_eq_true rfl⟩ rfl hl.1 rfl (Nat.le_of_ble_eq_true rfl) dX10_primitive_184 ⟨Nat.zero_le _, Nat.zero_le _⟩ (fun u84 H locs hP hD hS h => ?_)
                  refine lv_goto (tgt := 404) hx hb dX10_primitive_187 (by decide) ?_
                  exact retR_v E hr hlk hP hD hS h dX10_primitive_404
                · have h := h.2 hc
                  refine lv_ldc2 (v := (4294967296 : Int64)) hx hb hown (hW _ kcX10_199) dX10_primitive_175 ?_
                  refine lv_goto (tgt := 184) hx hb dX10_primitive_178 (by decide) ?_
                  refine cR_v (ci := 9) (q0 := 0) (As := [.long (4294967296 : Int64)]) (rest := []) E hml hP hD hS hA (t_X10_gives l D G (4294967296 : Int64) u _ h) kmX10_286 mwyX10_gives rfl rfl ⟨⟨rfl, rfl⟩, Nat.le_of_ble_eq_true rfl, Nat.le_of_ble_eq_true rfl⟩ rfl hl.1 rfl (Nat.le_of_ble_eq_true rfl) dX10_primitive_184 ⟨Nat.zero_le _, Nat.zero_le _⟩ (fun u85 H locs hP hD hS h => ?_)
                  refine lv_goto (tgt := 404) hx hb dX10_primitive_187 (by decide) ?_
                  exact retR_v E hr hlk hP hD hS h dX10_primitive_404
            · have h := h.1 hc
              refine lv_aload_n hx hb dX10_primitive_124 rfl (lv_at hl 3 rfl) ?_
              refine cR_v (ci := 9) (q0 := 0) (As := []) (rest := []) E hml hP hD hS hA (t_X10_holdWaiting l D G  u _ h) kmX10_304 mwyX10_holdWaiting rfl rfl ⟨⟨rfl, rfl⟩, Nat.le_of_ble_eq_true rfl, Nat.le_of_ble_eq_true rfl⟩ rfl hl.1 rfl (Nat.le_of_ble_eq_true rfl) dX10_primitive_125 ⟨Nat.zero_le _, Nat.zero_le _⟩ (fun u86 H locs hP hD hS h => ?_)
              refine lv_aload_n hx hb dX10_primitive_128 rfl (lv_at hl 3 rfl) ?_
              refine lv_lload_n hx hb dX10_primitive_129 rfl (lv_at hl 1 rfl) ?_
              refine cR_v (ci := 9) (q0 := 0) (As := [.long ((gB u 42) ((0 : Int32)).toNatClampNeg)]) (rest := []) E hml hP hD hS hA (t_X10_hold l D G ((gB u 42) ((0 : Int32)).toNatClampNeg) u86 _ h) kmX10_213 mwyX10_hold rfl rfl ⟨⟨rfl, rfl⟩, Nat.le_of_ble_eq_true rfl, Nat.le_of_ble_eq_true rfl⟩ rfl hl.1 rfl (Nat.le_of_ble_eq_true rfl) dX10_primitive_130 ⟨Nat.zero_le _, Nat.zero_le _⟩ (fun u87 H locs hP hD hS h => ?_)
              refine lv_aload_n hx hb dX10_primitive_133 rfl (lv_at hl 3 rfl) ?_
              refine lv_lload hx hb dX10_primitive_134 (lv_at hl 0 rfl) ?_
              refine cR_v (ci := 9) (q0 := 0) (As := [.long ((gB u 42) ((1 : Int32)).toNatClampNeg)]) (rest := []) E hml hP hD hS hA (t_X10_hold l D G ((gB u 42) ((1 : Int32)).toNatClampNeg) u87 _ h) kmX10_213 mwyX10_hold rfl rfl ⟨⟨rfl, rfl⟩, Nat.le_of_ble_eq_true rfl, Nat.le_of_ble_eq_true rfl⟩ rfl hl.1 rfl (Nat.le_of_ble_eq_true rfl) dX10_primitive_136 ⟨Nat.zero_le _, Nat.zero_le _⟩ (fun u88 H locs hP hD hS h => ?_)
              refine lv_aload_n hx hb dX10_primitive_139 rfl (lv_at hl 3 rfl) ?_
              refine lv_iconst (v := (1 : Int32)) hx hb dX10_primitive_140 (by decide) ?_
              refine cR_i (ci := 9) (q0 := 0) (As := [.int (1 : Int32)]) (rest := []) E hml hP hD hS hA (t_X10_room l D G (1 : Int32) u88 _ h) kmX10_307 mwyX10_room rfl rfl ⟨⟨rfl, rfl⟩, Nat.le_of_ble_eq_true rfl, Nat.le_of_ble_eq_true rfl⟩ rfl hl.1 rfl (Nat.le_of_ble_eq_true rfl) dX10_primitive_141 ⟨Nat.zero_le _, Nat.zero_le _⟩ (fun r89 u90 H locs hP hD hS h => ?_)
              refine lv_if_eq (tgt := 404) hx hb dX10_primitive_144 (by decide) (fun hc => ?_) (fun hc => ?_)
              · have h := h.1 hc
                exact retR_v E hr hlk hP hD hS h dX10_primitive_404
              · have h := h.2 hc
                refine lv_aload_n hx hb dX10_primitive_147 rfl (lv_at hl 3 rfl) ?_
                refine lv_aload_n hx hb dX10_primitive_148 rfl (lv_at hl 3 rfl) ?_
                refine lv_lload_n hx hb dX10_primitive_149 rfl (lv_at hl 1 rfl) ?_
                refine lv_lload hx hb dX10_primitive_150 (lv_at hl 0 rfl) ?_
                refine cR_l (ci := 9) (q0 := 0) (As := [.long ((gB u 42) ((0 : Int32)).toNatClampNeg), .long ((gB u 42) ((1 : Int32)).toNatClampNeg)]) (rest := [.ref (G.1 0)]) E hml hP hD hS hA (t_X10_pair l D G ((gB u 42) ((0 : Int32)).toNatClampNeg) ((gB u 42) ((1 : Int32)).toNatClampNeg) u90 _ h) kmX10_244 mwyX10_pair rfl rfl ⟨⟨rfl, rfl⟩, Nat.le_of_ble_eq_true rfl, Nat.le_of_ble_eq_true rfl⟩ rfl hl.1 rfl (Nat.le_of_ble_eq_true rfl) dX10_primitive_152 ⟨Nat.zero_le _, Nat.zero_le _⟩ (fun r91 u92 H locs hP hD hS h => ?_)
                refine cR_v (ci := 9) (q0 := 0) (As := [.long r91]) (rest := []) E hml hP hD hS hA (t_X10_gives l D G r91 u92 _ h) kmX10_286 mwyX10_gives rfl rfl ⟨⟨rfl, rfl⟩, Nat.le_of_ble_eq_true rfl, Nat.le_of_ble_eq_true rfl⟩ rfl hl.1 rfl (Nat.le_of_ble_eq_true rfl) dX10_primitive_155 ⟨Nat.zero_le _, Nat.zero_le _⟩ (fun u93 H locs hP hD hS h => ?_)
                refine lv_goto (tgt := 404) hx hb dX10_primitive_158 (by decide) ?_
                exact retR_v E hr hlk hP hD hS h dX10_primitive_404
          · have h := h.1 hc
            refine lv_lload_n hx hb dX10_primitive_77 rfl (lv_at hl 1 rfl) ?_
            refine c0_i (As := [.long ((gB u 42) ((0 : Int32)).toNatClampNeg)]) (rest := []) hx hb hml hown hW hP hS hA (t_X10_isPair l ((gB u 42) ((0 : Int32)).toNatClampNeg) _ h) kmX10_205 mwyX10_isPair ⟨⟨rfl, rfl⟩, Nat.le_of_ble_eq_true rfl, Nat.le_of_ble_eq_true rfl⟩ rfl hl.1 rfl (Nat.le_of_ble_eq_true rfl) dX10_primitive_78 ⟨Nat.zero_le _, Nat.zero_le _⟩ (fun r94 H locs hP hS h => ?_)
            refine lv_if_ne (tgt := 92) hx hb dX10_primitive_81 (by decide) (fun hc => ?_) (fun hc => ?_)
            · have h := h.2 hc
              refine lv_aload_n hx hb dX10_primitive_92 rfl (lv_at hl 3 rfl) ?_
              refine lv_iload_n hx hb dX10_primitive_93 rfl (lv_at hl 4 rfl) ?_
              refine lv_bipush (v := (7 : Int32)) hx hb dX10_primitive_94 (by decide) ?_
              refine lv_icmp_ne (tgt := 107) hx hb dX10_primitive_96 (by decide) (fun hc => ?_) (fun hc => ?_)
              · have h := h.2 hc
                refine lv_aload_n hx hb dX10_primitive_107 rfl (lv_at hl 3 rfl) ?_
                refine lv_lload_n hx hb dX10_primitive_108 rfl (lv_at hl 1 rfl) ?_
                refine cR_l (ci := 9) (q0 := 0) (As := [.long ((gB u 42) ((0 : Int32)).toNatClampNeg)]) (rest := [.ref (G.1 0)]) E hml hP hD hS hA (t_X10_behind l D G ((gB u 42) ((0 : Int32)).toNatClampNeg) u _ h) kmX10_216 mwyX10_behind rfl rfl ⟨⟨rfl, rfl⟩, Nat.le_of_ble_eq_true rfl, Nat.le_of_ble_eq_true rfl⟩ rfl hl.1 rfl (Nat.le_of_ble_eq_true rfl) dX10_primitive_109 ⟨Nat.zero_le _, Nat.zero_le _⟩ (fun r95 u96 H locs hP hD hS h => ?_)
                refine cR_v (ci := 9) (q0 := 0) (As := [.long r95]) (rest := []) E hml hP hD hS hA (t_X10_gives l D G r95 u96 _ h) kmX10_286 mwyX10_gives rfl rfl ⟨⟨rfl, rfl⟩, Nat.le_of_ble_eq_true rfl, Nat.le_of_ble_eq_true rfl⟩ rfl hl.1 rfl (Nat.le_of_ble_eq_true rfl) dX10_primitive_112 ⟨Nat.zero_le _, Nat.zero_le _⟩ (fun u97 H locs hP hD hS h => ?_)
                refine lv_goto (tgt := 404) hx hb dX10_primitive_115 (by decide) ?_
                exact retR_v E hr hlk hP hD hS h dX10_primitive_404
              · have h := h.1 hc
                refine lv_aload_n hx hb dX10_primitive_99 rfl (lv_at hl 3 rfl) ?_
                refine lv_lload_n hx hb dX10_primitive_100 rfl (lv_at hl 1 rfl) ?_
                refine cR_l (ci := 9) (q0 := 0) (As := [.long ((gB u 42) ((0 : Int32)).toNatClampNeg)]) (rest := [.ref (G.1 0)]) E hml hP hD hS hA (t_X10_first l D G ((gB u 42) ((0 : Int32)).toNatClampNeg) u _ h) kmX10_209 mwyX10_first rfl rfl ⟨⟨rfl, rfl⟩, Nat.le_of_ble_eq_true rfl, Nat.le_of_ble_eq_true rfl⟩ rfl hl.1 rfl (Nat.le_of_ble_eq_true rfl) dX10_primitive_101 ⟨Nat.zero_le _, Nat.zero_le _⟩ (fun r98 u99 H locs hP hD hS h => ?_)
                refine lv_goto (tgt := 112) hx hb dX10_primitive_104 (by decide) ?_
                refine cR_v (ci := 9) (q0 := 0) (As := [.long r98]) (rest := []) E hml hP hD hS hA (t_X10_gives l D G r98 u99 _ h) kmX10_286 mwyX10_gives rfl rfl ⟨⟨rfl, rfl⟩, Nat.le_of_ble_eq_true rfl, Nat.le_of_ble_eq_true rfl⟩ rfl hl.1 rfl (Nat.le_of_ble_eq_true rfl) dX10_primitive_112 ⟨Nat.zero_le _, Nat.zero_le _⟩ (fun u100 H locs hP hD hS h => ?_)
                refine lv_goto (tgt := 404) hx hb dX10_primitive_115 (by decide) ?_
                exact retR_v E hr hlk hP hD hS h dX10_primitive_404
            · have h := h.1 hc
              refine lv_aload_n hx hb dX10_primitive_84 rfl (lv_at hl 3 rfl) ?_
              refine lv_iconst (v := (2 : Int32)) hx hb dX10_primitive_85 (by decide) ?_
              refine cR_v (ci := 9) (q0 := 0) (As := [.int (2 : Int32)]) (rest := []) E hml hP hD hS hA (t_X10_fails l D G (2 : Int32) u _ h) kmX10_265 mwyX10_fails rfl rfl ⟨⟨rfl, rfl⟩, Nat.le_of_ble_eq_true rfl, Nat.le_of_ble_eq_true rfl⟩ rfl hl.1 rfl (Nat.le_of_ble_eq_true rfl) dX10_primitive_86 ⟨Nat.zero_le _, Nat.zero_le _⟩ (fun u101 H locs hP hD hS h => ?_)
              refine lv_goto (tgt := 404) hx hb dX10_primitive_89 (by decide) ?_
              exact retR_v E hr hlk hP hD hS h dX10_primitive_404
      · have h := h.2 hc
        refine lv_aload_n hx hb dX10_primitive_44 rfl (lv_at hl 1 rfl) ?_
        refine lv_iconst (v := (3 : Int32)) hx hb dX10_primitive_45 (by decide) ?_
        refine cR_v (ci := 9) (q0 := 0) (As := [.int (3 : Int32)]) (rest := []) E hml hP hD hS hA (t_X10_fails l D G (3 : Int32) u _ h) kmX10_265 mwyX10_fails rfl rfl ⟨⟨rfl, rfl⟩, Nat.le_of_ble_eq_true rfl, Nat.le_of_ble_eq_true rfl⟩ rfl hl.1 rfl (Nat.le_of_ble_eq_true rfl) dX10_primitive_46 ⟨Nat.zero_le _, Nat.zero_le _⟩ (fun u102 H locs hP hD hS h => ?_)
        exact retR_v E hr hlk hP hD hS h dX10_primitive_49
    · have h := h.2 hc
      refine lv_iload_n hx hb dX10_primitive_12 rfl (lv_at hl 1 rfl) ?_
      refine lv_bipush (v := (10 : Int32)) hx hb dX10_primitive_13 (by decide) ?_
      refine lv_icmp_eq (tgt := 30) hx hb dX10_primitive_15 (by decide) (fun hc => ?_) (fun hc => ?_)
      · have h := h.1 hc
        refine lv_iconst (v := (1 : Int32)) hx hb dX10_primitive_30 (by decide) ?_
        refine lv_goto (tgt := 35) hx hb dX10_primitive_31 (by decide) ?_
        refine lv_istore_n (lv' := [(2, .int (1 : Int32)), (0, .ref (G.1 0)), (1, .int p0)]) hx hb dX10_primitive_35 rfl hl (by decide) rfl (fun ls hl => ?_)
        refine lv_aload_n hx hb dX10_primitive_36 rfl (lv_at hl 1 rfl) ?_
        refine gR_43 E hP kfX10_144 (v := (gI u 43)) rfl dX10_primitive_37 ?_
        refine lv_iload_n hx hb dX10_primitive_40 rfl (lv_at hl 0 rfl) ?_
        refine lv_icmp_eq (tgt := 50) hx hb dX10_primitive_41 (by decide) (fun hc => ?_) (fun hc => ?_)
        · have h := h.1 hc
          refine lv_aload_n hx hb dX10_primitive_50 rfl (lv_at hl 1 rfl) ?_
          refine gR_42 E hP kfX10_141 dX10_primitive_51 ?_
          refine lv_iconst (v := (0 : Int32)) hx hb dX10_primitive_54 (by decide) ?_
          refine xR_42 E hP (by unfold vp_in; decide) (v := ((gB u 42) ((0 : Int32)).toNatClampNeg)) rfl dX10_primitive_55 ?_
          refine lv_lstore_n (lv' := [(3, .long ((gB u 42) ((0 : Int32)).toNatClampNeg)), (2, .int (1 : Int32)), (0, .ref (G.1 0)), (1, .int p0)]) hx hb dX10_primitive_56 rfl hl (by decide) rfl (fun ls hl => ?_)
          refine lv_aload_n hx hb dX10_primitive_57 rfl (lv_at hl 2 rfl) ?_
          refine gR_42 E hP kfX10_141 dX10_primitive_58 ?_
          refine lv_iconst (v := (1 : Int32)) hx hb dX10_primitive_61 (by decide) ?_
          refine xR_42 E hP (by unfold vp_in; decide) (v := ((gB u 42) ((1 : Int32)).toNatClampNeg)) rfl dX10_primitive_62 ?_
          refine lv_lstore (lv' := [(5, .long ((gB u 42) ((1 : Int32)).toNatClampNeg)), (3, .long ((gB u 42) ((0 : Int32)).toNatClampNeg)), (2, .int (1 : Int32)), (0, .ref (G.1 0)), (1, .int p0)]) hx hb dX10_primitive_63 hl (by decide) rfl (fun ls hl => ?_)
          refine lv_iload_n hx hb dX10_primitive_65 rfl (lv_at hl 4 rfl) ?_
          refine lv_bipush (v := (7 : Int32)) hx hb dX10_primitive_66 (by decide) ?_
          refine lv_icmp_eq (tgt := 77) hx hb dX10_primitive_68 (by decide) (fun hc => ?_) (fun hc => ?_)
          · have h := h.1 hc
            refine lv_lload_n hx hb dX10_primitive_77 rfl (lv_at hl 1 rfl) ?_
            refine c0_i (As := [.long ((gB u 42) ((0 : Int32)).toNatClampNeg)]) (rest := []) hx hb hml hown hW hP hS hA (t_X10_isPair l ((gB u 42) ((0 : Int32)).toNatClampNeg) _ h) kmX10_205 mwyX10_isPair ⟨⟨rfl, rfl⟩, Nat.le_of_ble_eq_true rfl, Nat.le_of_ble_eq_true rfl⟩ rfl hl.1 rfl (Nat.le_of_ble_eq_true rfl) dX10_primitive_78 ⟨Nat.zero_le _, Nat.zero_le _⟩ (fun r103 H locs hP hS h => ?_)
            refine lv_if_ne (tgt := 92) hx hb dX10_primitive_81 (by decide) (fun hc => ?_) (fun hc => ?_)
            · have h := h.2 hc
              refine lv_aload_n hx hb dX10_primitive_92 rfl (lv_at hl 3 rfl) ?_
              refine lv_iload_n hx hb dX10_primitive_93 rfl (lv_at hl 4 rfl) ?_
              refine lv_bipush (v := (7 : Int32)) hx hb dX10_primitive_94 (by decide) ?_
              refine lv_icmp_ne (tgt := 107) hx hb dX10_primitive_96 (by decide) (fun hc => ?_) (fun hc => ?_)
              · have h := h.2 hc
                refine lv_aload_n hx hb dX10_primitive_107 rfl (lv_at hl 3 rfl) ?_
                refine lv_lload_n hx hb dX10_primitive_108 rfl (lv_at hl 1 rfl) ?_
                refine cR_l (ci := 9) (q0 := 0) (As := [.long ((gB u 42) ((0 : Int32)).toNatClampNeg)]) (rest := [.ref (G.1 0)]) E hml hP hD hS hA (t_X10_behind l D G ((gB u 42) ((0 : Int32)).toNatClampNeg) u _ h) kmX10_216 mwyX10_behind rfl rfl ⟨⟨rfl, rfl⟩, Nat.le_of_ble_eq_true rfl, Nat.le_of_ble_eq_true rfl⟩ rfl hl.1 rfl (Nat.le_of_ble_eq_true rfl) dX10_primitive_109 ⟨Nat.zero_le _, Nat.zero_le _⟩ (fun r104 u105 H locs hP hD hS h => ?_)
                refine cR_v (ci := 9) (q0 := 0) (As := [.long r104]) (rest := []) E hml hP hD hS hA (t_X10_gives l D G r104 u105 _ h) kmX10_286 mwyX10_gives rfl rfl ⟨⟨rfl, rfl⟩, Nat.le_of_ble_eq_true rfl, Nat.le_of_ble_eq_true rfl⟩ rfl hl.1 rfl (Nat.le_of_ble_eq_true rfl) dX10_primitive_112 ⟨Nat.zero_le _, Nat.zero_le _⟩ (fun u106 H locs hP hD hS h => ?_)
                refine lv_goto (tgt := 404) hx hb dX10_primitive_115 (by decide) ?_
                exact retR_v E hr hlk hP hD hS h dX10_primitive_404
              · have h := h.1 hc
                refine lv_aload_n hx hb dX10_primitive_99 rfl (lv_at hl 3 rfl) ?_
                refine lv_lload_n hx hb dX10_primitive_100 rfl (lv_at hl 1 rfl) ?_
                refine cR_l (ci := 9) (q0 := 0) (As := [.long ((gB u 42) ((0 : Int32)).toNatClampNeg)]) (rest := [.ref (G.1 0)]) E hml hP hD hS hA (t_X10_first l D G ((gB u 42) ((0 : Int32)).toNatClampNeg) u _ h) kmX10_209 mwyX10_first rfl rfl ⟨⟨rfl, rfl⟩, Nat.le_of_ble_eq_true rfl, Nat.le_of_ble_eq_true rfl⟩ rfl hl.1 rfl (Nat.le_of_ble_eq_true rfl) dX10_primitive_101 ⟨Nat.zero_le _, Nat.zero_le _⟩ (fun r107 u108 H locs hP hD hS h => ?_)
                refine lv_goto (tgt := 112) hx hb dX10_primitive_104 (by decide) ?_
                refine cR_v (ci := 9) (q0 := 0) (As := [.long r107]) (rest := []) E hml hP hD hS hA (t_X10_gives l D G r107 u108 _ h) kmX10_286 mwyX10_gives rfl rfl ⟨⟨rfl, rfl⟩, Nat.le_of_ble_eq_true rfl, Nat.le_of_ble_eq_true rfl⟩ rfl hl.1 rfl (Nat.le_of_ble_eq_true rfl) dX10_primitive_112 ⟨Nat.zero_le _, Nat.zero_le _⟩ (fun u109 H locs hP hD hS h => ?_)
                refine lv_goto (tgt := 404) hx hb dX10_primitive_115 (by decide) ?_
                exact retR_v E hr hlk hP hD hS h dX10_primitive_404
            · have h := h.1 hc
              refine lv_aload_n hx hb dX10_primitive_84 rfl (lv_at hl 3 rfl) ?_
              refine lv_iconst (v := (2 : Int32)) hx hb dX10_primitive_85 (by decide) ?_
              refine cR_v (ci := 9) (q0 := 0) (As := [.int (2 : Int32)]) (rest := []) E hml hP hD hS hA (t_X10_fails l D G (2 : Int32) u _ h) kmX10_265 mwyX10_fails rfl rfl ⟨⟨rfl, rfl⟩, Nat.le_of_ble_eq_true rfl, Nat.le_of_ble_eq_true rfl⟩ rfl hl.1 rfl (Nat.le_of_ble_eq_true rfl) dX10_primitive_86 ⟨Nat.zero_le _, Nat.zero_le _⟩ (fun u110 H locs hP hD hS h => ?_)
              refine lv_goto (tgt := 404) hx hb dX10_primitive_89 (by decide) ?_
              exact retR_v E hr hlk hP hD hS h dX10_primitive_404
          · have h := h.2 hc
            refine lv_iload_n hx hb dX10_primitive_71 rfl (lv_at hl 4 rfl) ?_
            refine lv_bipush (v := (8 : Int32)) hx hb dX10_primitive_72 (by decide) ?_
            refine lv_icmp_ne (tgt := 118) hx hb dX10_primitive_74 (by decide) (fun hc => ?_) (fun hc => ?_)
            · have h := h.2 hc
              refine lv_iload_n hx hb dX10_primitive_118 rfl (lv_at hl 4 rfl) ?_
              refine lv_bipush (v := (9 : Int32)) hx hb dX10_primitive_119 (by decide) ?_
              refine lv_icmp_ne (tgt := 161) hx hb dX10_primitive_121 (by decide) (fun hc => ?_) (fun hc => ?_)
              · have h := h.2 hc
                refine lv_iload_n hx hb dX10_primitive_161 rfl (lv_at hl 4 rfl) ?_
                refine lv_bipush (v := (10 : Int32)) hx hb dX10_primitive_162 (by decide) ?_
                refine lv_icmp_ne (tgt := 190) hx hb dX10_primitive_164 (by decide) (fun hc => ?_) (fun hc => ?_)
                · have h := h.2 hc
                  refine lv_iload_n hx hb dX10_primitive_190 rfl (lv_at hl 4 rfl) ?_
                  refine lv_bipush (v := (11 : Int32)) hx hb dX10_primitive_191 (by decide) ?_
                  refine lv_icmp_ne (tgt := 242) hx hb dX10_primitive_193 (by decide) (fun hc => ?_) (fun hc => ?_)
                  · have h := h.2 hc
                    refine lv_iload_n hx hb dX10_primitive_242 rfl (lv_at hl 4 rfl) ?_
                    refine lv_bipush (v := (12 : Int32)) hx hb dX10_primitive_243 (by decide) ?_
                    refine lv_icmp_ne (tgt := 272) hx hb dX10_primitive_245 (by decide) (fun hc => ?_) (fun hc => ?_)
                    · have h := h.2 hc
                      refine lv_iload_n hx hb dX10_primitive_272 rfl (lv_at hl 4 rfl) ?_
                      refine lv_bipush (v := (13 : Int32)) hx hb dX10_primitive_273 (by decide) ?_
                      refine lv_icmp_ne (tgt := 301) hx hb dX10_primitive_275 (by decide) (fun hc => ?_) (fun hc => ?_)
                      · have h := h.2 hc
                        refine lv_lload_n hx hb dX10_primitive_301 rfl (lv_at hl 1 rfl) ?_
                        refine c0_i (As := [.long ((gB u 42) ((0 : Int32)).toNatClampNeg)]) (rest := []) hx hb hml hown hW hP hS hA (t_X10_isNumber l ((gB u 42) ((0 : Int32)).toNatClampNeg) _ h) kmX10_281 mwyX10_isNumber ⟨⟨rfl, rfl⟩, Nat.le_of_ble_eq_true rfl, Nat.le_of_ble_eq_true rfl⟩ rfl hl.1 rfl (Nat.le_of_ble_eq_true rfl) dX10_primitive_302 ⟨Nat.zero_le _, Nat.zero_le _⟩ (fun r111 H locs hP hS h => ?_)
                        refine lv_if_eq (tgt := 316) hx hb dX10_primitive_305 (by decide) (fun hc => ?_) (fun hc => ?_)
                        · have h := h.1 hc
                          refine lv_aload_n hx hb dX10_primitive_316 rfl (lv_at hl 3 rfl) ?_
                          refine lv_iconst (v := (2 : Int32)) hx hb dX10_primitive_317 (by decide) ?_
                          refine cR_v (ci := 9) (q0 := 0) (As := [.int (2 : Int32)]) (rest := []) E hml hP hD hS hA (t_X10_fails l D G (2 : Int32) u _ h) kmX10_265 mwyX10_fails rfl rfl ⟨⟨rfl, rfl⟩, Nat.le_of_ble_eq_true rfl, Nat.le_of_ble_eq_true rfl⟩ rfl hl.1 rfl (Nat.le_of_ble_eq_true rfl) dX10_primitive_318 ⟨Nat.zero_le _, Nat.zero_le _⟩ (fun u112 H locs hP hD hS h => ?_)
                          refine lv_goto (tgt := 404) hx hb dX10_primitive_321 (by decide) ?_
                          exact retR_v E hr hlk hP hD hS h dX10_primitive_404
                        · have h := h.2 hc
                          refine lv_lload hx hb dX10_primitive_308 (lv_at hl 0 rfl) ?_
                          refine c0_i (As := [.long ((gB u 42) ((1 : Int32)).toNatClampNeg)]) (rest := []) hx hb hml hown hW hP hS hA (t_X10_isNumber l ((gB u 42) ((1 : Int32)).toNatClampNeg) _ h) kmX10_281 mwyX10_isNumber ⟨⟨rfl, rfl⟩, Nat.le_of_ble_eq_true rfl, Nat.le_of_ble_eq_true rfl⟩ rfl hl.1 rfl (Nat.le_of_ble_eq_true rfl) dX10_primitive_310 ⟨Nat.zero_le _, Nat.zero_le _⟩ (fun r113 H locs hP hS h => ?_)
                          refine lv_if_ne (tgt := 324) hx hb dX10_primitive_313 (by decide) (fun hc => ?_) (fun hc => ?_)
                          · have h := h.2 hc
                            refine lv_lload_n hx hb dX10_primitive_324 rfl (lv_at hl 1 rfl) ?_
                            refine lv_l2i (v := (((gB u 42) ((0 : Int32)).toNatClampNeg)).toInt32) hx hb dX10_primitive_325 rfl ?_
                            refine lv_istore (lv' := [(7, .int (((gB u 42) ((0 : Int32)).toNatClampNeg)).toInt32), (5, .long ((gB u 42) ((1 : Int32)).toNatClampNeg)), (3, .long ((gB u 42) ((0 : Int32)).toNatClampNeg)), (2, .int (1 : Int32)), (0, .ref (G.1 0)), (1, .int p0)]) hx hb dX10_primitive_326 hl (by decide) rfl (fun ls hl => ?_)
                            refine lv_lload hx hb dX10_primitive_328 (lv_at hl 1 rfl) ?_
                            refine lv_l2i (v := (((gB u 42) ((1 : Int32)).toNatClampNeg)).toInt32) hx hb dX10_primitive_330 rfl ?_
                            refine lv_istore (lv' := [(8, .int (((gB u 42) ((1 : Int32)).toNatClampNeg)).toInt32), (7, .int (((gB u 42) ((0 : Int32)).toNatClampNeg)).toInt32), (5, .long ((gB u 42) ((1 : Int32)).toNatClampNeg)), (3, .long ((gB u 42) ((0 : Int32)).toNatClampNeg)), (2, .int (1 : Int32)), (0, .ref (G.1 0)), (1, .int p0)]) hx hb dX10_primitive_331 hl (by decide) rfl (fun ls hl => ?_)
                            refine lv_aload_n hx hb dX10_primitive_333 rfl (lv_at hl 5 rfl) ?_
                            refine lv_iload_n hx hb dX10_primitive_334 rfl (lv_at hl 6 rfl) ?_
                            refine lv_bipush (v := (14 : Int32)) hx hb dX10_primitive_335 (by decide) ?_
                            refine lv_icmp_ne (tgt := 351) hx hb dX10_primitive_337 (by decide) (fun hc => ?_) (fun hc => ?_)
                            · have h := h.2 hc
                              refine lv_iload_n hx hb dX10_primitive_351 rfl (lv_at hl 6 rfl) ?_
                              refine lv_bipush (v := (15 : Int32)) hx hb dX10_primitive_352 (by decide) ?_
                              refine lv_icmp_ne (tgt := 368) hx hb dX10_primitive_354 (by decide) (fun hc => ?_) (fun hc => ?_)
                              · have h := h.2 hc
                                refine lv_iload_n hx hb dX10_primitive_368 rfl (lv_at hl 6 rfl) ?_
                                refine lv_bipush (v := (16 : Int32)) hx hb dX10_primitive_369 (by decide) ?_
                                refine lv_icmp_ne (tgt := 385) hx hb dX10_primitive_371 (by decide) (fun hc => ?_) (fun hc => ?_)
                                · have h := h.2 hc
                                  refine lv_iload hx hb dX10_primitive_385 (lv_at hl 1 rfl) ?_
                                  refine lv_iload hx hb dX10_primitive_387 (lv_at hl 0 rfl) ?_
                                  refine lv_icmp_ge (tgt := 398) hx hb dX10_primitive_389 (by decide) (fun hc => ?_) (fun hc => ?_)
                                  · have h := h.1 hc
                                    refine lv_ldc2 (v := (4294967296 : Int64)) hx hb hown (hW _ kcX10_199) dX10_primitive_398 ?_
                                    refine cR_v (ci := 9) (q0 := 0) (As := [.long (4294967296 : Int64)]) (rest := []) E hml hP hD hS hA (t_X10_gives l D G (4294967296 : Int64) u _ h) kmX10_286 mwyX10_gives rfl rfl ⟨⟨rfl, rfl⟩, Nat.le_of_ble_eq_true rfl, Nat.le_of_ble_eq_true rfl⟩ rfl hl.1 rfl (Nat.le_of_ble_eq_true rfl) dX10_primitive_401 ⟨Nat.zero_le _, Nat.zero_le _⟩ (fun u114 H locs hP hD hS h => ?_)
                                    exact retR_v E hr hlk hP hD hS h dX10_primitive_404
                                  · have h := h.2 hc
                                    refine lv_ldc2 (v := (4294967297 : Int64)) hx hb hown (hW _ kcX10_284) dX10_primitive_392 ?_
                                    refine lv_goto (tgt := 401) hx hb dX10_primitive_395 (by decide) ?_
                                    refine cR_v (ci := 9) (q0 := 0) (As := [.long (4294967297 : Int64)]) (rest := []) E hml hP hD hS hA (t_X10_gives l D G (4294967297 : Int64) u _ h) kmX10_286 mwyX10_gives rfl rfl ⟨⟨rfl, rfl⟩, Nat.le_of_ble_eq_true rfl, Nat.le_of_ble_eq_true rfl⟩ rfl hl.1 rfl (Nat.le_of_ble_eq_true rfl) dX10_primitive_401 ⟨Nat.zero_le _, Nat.zero_le _⟩ (fun u115 H locs hP hD hS h => ?_)
                                    exact retR_v E hr hlk hP hD hS h dX10_primitive_404
                                · have h := h.1 hc
                                  refine lv_iload hx hb dX10_primitive_374 (lv_at hl 1 rfl) ?_
                                  refine lv_iload hx hb dX10_primitive_376 (lv_at hl 0 rfl) ?_
                                  refine lv_imul hx hb dX10_primitive_378 ?_
                                  refine c0_l (As := [.int ((((gB u 42) ((0 : Int32)).toNatClampNeg)).toInt32 * (((gB u 42) ((1 : Int32)).toNatClampNeg)).toInt32)]) (rest := [.ref (G.1 0)]) hx hb hml hown hW hP hS hA (t_X10_number l ((((gB u 42) ((0 : Int32)).toNatClampNeg)).toInt32 * (((gB u 42) ((1 : Int32)).toNatClampNeg)).toInt32) _ h) kmX10_236 mwyX10_number ⟨⟨rfl, rfl⟩, Nat.le_of_ble_eq_true rfl, Nat.le_of_ble_eq_true rfl⟩ rfl hl.1 rfl (Nat.le_of_ble_eq_true rfl) dX10_primitive_379 ⟨Nat.zero_le _, Nat.zero_le _⟩ (fun r116 H locs hP hS h => ?_)
                                  refine lv_goto (tgt := 401) hx hb dX10_primitive_382 (by decide) ?_
                                  refine cR_v (ci := 9) (q0 := 0) (As := [.long r116]) (rest := []) E hml hP hD hS hA (t_X10_gives l D G r116 u _ h) kmX10_286 mwyX10_gives rfl rfl ⟨⟨rfl, rfl⟩, Nat.le_of_ble_eq_true rfl, Nat.le_of_ble_eq_true rfl⟩ rfl hl.1 rfl (Nat.le_of_ble_eq_true rfl) dX10_primitive_401 ⟨Nat.zero_le _, Nat.zero_le _⟩ (fun u117 H locs hP hD hS h => ?_)
                                  exact retR_v E hr hlk hP hD hS h dX10_primitive_404
                              · have h := h.1 hc
                                refine lv_iload hx hb dX10_primitive_357 (lv_at hl 1 rfl) ?_
                                refine lv_iload hx hb dX10_primitive_359 (lv_at hl 0 rfl) ?_
                                refine lv_isub hx hb dX10_primitive_361 ?_
                                refine c0_l (As := [.int ((((gB u 42) ((0 : Int32)).toNatClampNeg)).toInt32 - (((gB u 42) ((1 : Int32)).toNatClampNeg)).toInt32)]) (rest := [.ref (G.1 0)]) hx hb hml hown hW hP hS hA (t_X10_number l ((((gB u 42) ((0 : Int32)).toNatClampNeg)).toInt32 - (((gB u 42) ((1 : Int32)).toNatClampNeg)).toInt32) _ h) kmX10_236 mwyX10_number ⟨⟨rfl, rfl⟩, Nat.le_of_ble_eq_true rfl, Nat.le_of_ble_eq_true rfl⟩ rfl hl.1 rfl (Nat.le_of_ble_eq_true rfl) dX10_primitive_362 ⟨Nat.zero_le _, Nat.zero_le _⟩ (fun r118 H locs hP hS h => ?_)
                                refine lv_goto (tgt := 401) hx hb dX10_primitive_365 (by decide) ?_
                                refine cR_v (ci := 9) (q0 := 0) (As := [.long r118]) (rest := []) E hml hP hD hS hA (t_X10_gives l D G r118 u _ h) kmX10_286 mwyX10_gives rfl rfl ⟨⟨rfl, rfl⟩, Nat.le_of_ble_eq_true rfl, Nat.le_of_ble_eq_true rfl⟩ rfl hl.1 rfl (Nat.le_of_ble_eq_true rfl) dX10_primitive_401 ⟨Nat.zero_le _, Nat.zero_le _⟩ (fun u119 H locs hP hD hS h => ?_)
                                exact retR_v E hr hlk hP hD hS h dX10_primitive_404
                            · have h := h.1 hc
                              refine lv_iload hx hb dX10_primitive_340 (lv_at hl 1 rfl) ?_
                              refine lv_iload hx hb dX10_primitive_342 (lv_at hl 0 rfl) ?_
                              refine lv_iadd hx hb dX10_primitive_344 ?_
                              refine c0_l (As := [.int ((((gB u 42) ((0 : Int32)).toNatClampNeg)).toInt32 + (((gB u 42) ((1 : Int32)).toNatClampNeg)).toInt32)]) (rest := [.ref (G.1 0)]) hx hb hml hown hW hP hS hA (t_X10_number l ((((gB u 42) ((0 : Int32)).toNatClampNeg)).toInt32 + (((gB u 42) ((1 : Int32)).toNatClampNeg)).toInt32) _ h) kmX10_236 mwyX10_number ⟨⟨rfl, rfl⟩, Nat.le_of_ble_eq_true rfl, Nat.le_of_ble_eq_true rfl⟩ rfl hl.1 rfl (Nat.le_of_ble_eq_true rfl) dX10_primitive_345 ⟨Nat.zero_le _, Nat.zero_le _⟩ (fun r120 H locs hP hS h => ?_)
                              refine lv_goto (tgt := 401) hx hb dX10_primitive_348 (by decide) ?_
                              refine cR_v (ci := 9) (q0 := 0) (As := [.long r120]) (rest := []) E hml hP hD hS hA (t_X10_gives l D G r120 u _ h) kmX10_286 mwyX10_gives rfl rfl ⟨⟨rfl, rfl⟩, Nat.le_of_ble_eq_true rfl, Nat.le_of_ble_eq_true rfl⟩ rfl hl.1 rfl (Nat.le_of_ble_eq_true rfl) dX10_primitive_401 ⟨Nat.zero_le _, Nat.zero_le _⟩ (fun u121 H locs hP hD hS h => ?_)
                              exact retR_v E hr hlk hP hD hS h dX10_primitive_404
                          · have h := h.1 hc
                            refine lv_aload_n hx hb dX10_primitive_316 rfl (lv_at hl 3 rfl) ?_
                            refine lv_iconst (v := (2 : Int32)) hx hb dX10_primitive_317 (by decide) ?_
                            refine cR_v (ci := 9) (q0 := 0) (As := [.int (2 : Int32)]) (rest := []) E hml hP hD hS hA (t_X10_fails l D G (2 : Int32) u _ h) kmX10_265 mwyX10_fails rfl rfl ⟨⟨rfl, rfl⟩, Nat.le_of_ble_eq_true rfl, Nat.le_of_ble_eq_true rfl⟩ rfl hl.1 rfl (Nat.le_of_ble_eq_true rfl) dX10_primitive_318 ⟨Nat.zero_le _, Nat.zero_le _⟩ (fun u122 H locs hP hD hS h => ?_)
                            refine lv_goto (tgt := 404) hx hb dX10_primitive_321 (by decide) ?_
                            exact retR_v E hr hlk hP hD hS h dX10_primitive_404
                      · have h := h.1 hc
                        refine lv_aload_n hx hb dX10_primitive_278 rfl (lv_at hl 3 rfl) ?_
                        refine lv_lload_n hx hb dX10_primitive_279 rfl (lv_at hl 1 rfl) ?_
                        refine c0_i (As := [.long ((gB u 42) ((0 : Int32)).toNatClampNeg)]) (rest := [.ref (G.1 0)]) hx hb hml hown hW hP hS hA (t_X10_isNumber l ((gB u 42) ((0 : Int32)).toNatClampNeg) _ h) kmX10_281 mwyX10_isNumber ⟨⟨rfl, rfl⟩, Nat.le_of_ble_eq_true rfl, Nat.le_of_ble_eq_true rfl⟩ rfl hl.1 rfl (Nat.le_of_ble_eq_true rfl) dX10_primitive_280 ⟨Nat.zero_le _, Nat.zero_le _⟩ (fun r123 H locs hP hS h => ?_)
                        refine lv_if_eq (tgt := 292) hx hb dX10_primitive_283 (by decide) (fun hc => ?_) (fun hc => ?_)
                        · have h := h.1 hc
                          refine lv_ldc2 (v := (4294967296 : Int64)) hx hb hown (hW _ kcX10_199) dX10_primitive_292 ?_
                          refine cR_v (ci := 9) (q0 := 0) (As := [.long (4294967296 : Int64)]) (rest := []) E hml hP hD hS hA (t_X10_gives l D G (4294967296 : Int64) u _ h) kmX10_286 mwyX10_gives rfl rfl ⟨⟨rfl, rfl⟩, Nat.le_of_ble_eq_true rfl, Nat.le_of_ble_eq_true rfl⟩ rfl hl.1 rfl (Nat.le_of_ble_eq_true rfl) dX10_primitive_295 ⟨Nat.zero_le _, Nat.zero_le _⟩ (fun u124 H locs hP hD hS h => ?_)
                          refine lv_goto (tgt := 404) hx hb dX10_primitive_298 (by decide) ?_
                          exact retR_v E hr hlk hP hD hS h dX10_primitive_404
                        · have h := h.2 hc
                          refine lv_ldc2 (v := (4294967297 : Int64)) hx hb hown (hW _ kcX10_284) dX10_primitive_286 ?_
                          refine lv_goto (tgt := 295) hx hb dX10_primitive_289 (by decide) ?_
                          refine cR_v (ci := 9) (q0 := 0) (As := [.long (4294967297 : Int64)]) (rest := []) E hml hP hD hS hA (t_X10_gives l D G (4294967297 : Int64) u _ h) kmX10_286 mwyX10_gives rfl rfl ⟨⟨rfl, rfl⟩, Nat.le_of_ble_eq_true rfl, Nat.le_of_ble_eq_true rfl⟩ rfl hl.1 rfl (Nat.le_of_ble_eq_true rfl) dX10_primitive_295 ⟨Nat.zero_le _, Nat.zero_le _⟩ (fun u125 H locs hP hD hS h => ?_)
                          refine lv_goto (tgt := 404) hx hb dX10_primitive_298 (by decide) ?_
                          exact retR_v E hr hlk hP hD hS h dX10_primitive_404
                    · have h := h.1 hc
                      refine lv_aload_n hx hb dX10_primitive_248 rfl (lv_at hl 3 rfl) ?_
                      refine lv_lload_n hx hb dX10_primitive_249 rfl (lv_at hl 1 rfl) ?_
                      refine lv_ldc2 (v := (4294967296 : Int64)) hx hb hown (hW _ kcX10_199) dX10_primitive_250 ?_
                      refine lq_ne (tgt := 263) hx hb dX10_primitive_253 dX10_primitive_254 (by decide) (fun hc => ?_) (fun hc => ?_)
                      · have h := h.2 hc
                        refine lv_ldc2 (v := (4294967296 : Int64)) hx hb hown (hW _ kcX10_199) dX10_primitive_263 ?_
                        refine cR_v (ci := 9) (q0 := 0) (As := [.long (4294967296 : Int64)]) (rest := []) E hml hP hD hS hA (t_X10_gives l D G (4294967296 : Int64) u _ h) kmX10_286 mwyX10_gives rfl rfl ⟨⟨rfl, rfl⟩, Nat.le_of_ble_eq_true rfl, Nat.le_of_ble_eq_true rfl⟩ rfl hl.1 rfl (Nat.le_of_ble_eq_true rfl) dX10_primitive_266 ⟨Nat.zero_le _, Nat.zero_le _⟩ (fun u126 H locs hP hD hS h => ?_)
                        refine lv_goto (tgt := 404) hx hb dX10_primitive_269 (by decide) ?_
                        exact retR_v E hr hlk hP hD hS h dX10_primitive_404
                      · have h := h.1 hc
                        refine lv_ldc2 (v := (4294967297 : Int64)) hx hb hown (hW _ kcX10_284) dX10_primitive_257 ?_
                        refine lv_goto (tgt := 266) hx hb dX10_primitive_260 (by decide) ?_
                        refine cR_v (ci := 9) (q0 := 0) (As := [.long (4294967297 : Int64)]) (rest := []) E hml hP hD hS hA (t_X10_gives l D G (4294967297 : Int64) u _ h) kmX10_286 mwyX10_gives rfl rfl ⟨⟨rfl, rfl⟩, Nat.le_of_ble_eq_true rfl, Nat.le_of_ble_eq_true rfl⟩ rfl hl.1 rfl (Nat.le_of_ble_eq_true rfl) dX10_primitive_266 ⟨Nat.zero_le _, Nat.zero_le _⟩ (fun u127 H locs hP hD hS h => ?_)
                        refine lv_goto (tgt := 404) hx hb dX10_primitive_269 (by decide) ?_
                        exact retR_v E hr hlk hP hD hS h dX10_primitive_404
                  · have h := h.1 hc
                    refine lv_lload_n hx hb dX10_primitive_196 rfl (lv_at hl 1 rfl) ?_
                    refine c0_i (As := [.long ((gB u 42) ((0 : Int32)).toNatClampNeg)]) (rest := []) hx hb hml hown hW hP hS hA (t_X10_isPair l ((gB u 42) ((0 : Int32)).toNatClampNeg) _ h) kmX10_205 mwyX10_isPair ⟨⟨rfl, rfl⟩, Nat.le_of_ble_eq_true rfl, Nat.le_of_ble_eq_true rfl⟩ rfl hl.1 rfl (Nat.le_of_ble_eq_true rfl) dX10_primitive_197 ⟨Nat.zero_le _, Nat.zero_le _⟩ (fun r128 H locs hP hS h => ?_)
                    refine lv_if_ne (tgt := 211) hx hb dX10_primitive_200 (by decide) (fun hc => ?_) (fun hc => ?_)
                    · have h := h.2 hc
                      refine lv_aload_n hx hb dX10_primitive_211 rfl (lv_at hl 3 rfl) ?_
                      refine lv_iconst (v := (2 : Int32)) hx hb dX10_primitive_212 (by decide) ?_
                      refine cR_v (ci := 9) (q0 := 0) (As := [.int (2 : Int32)]) (rest := []) E hml hP hD hS hA (t_X10_fails l D G (2 : Int32) u _ h) kmX10_265 mwyX10_fails rfl rfl ⟨⟨rfl, rfl⟩, Nat.le_of_ble_eq_true rfl, Nat.le_of_ble_eq_true rfl⟩ rfl hl.1 rfl (Nat.le_of_ble_eq_true rfl) dX10_primitive_213 ⟨Nat.zero_le _, Nat.zero_le _⟩ (fun u129 H locs hP hD hS h => ?_)
                      refine lv_goto (tgt := 404) hx hb dX10_primitive_216 (by decide) ?_
                      exact retR_v E hr hlk hP hD hS h dX10_primitive_404
                    · have h := h.1 hc
                      refine lv_lload hx hb dX10_primitive_203 (lv_at hl 0 rfl) ?_
                      refine c0_i (As := [.long ((gB u 42) ((1 : Int32)).toNatClampNeg)]) (rest := []) hx hb hml hown hW hP hS hA (t_X10_isPair l ((gB u 42) ((1 : Int32)).toNatClampNeg) _ h) kmX10_205 mwyX10_isPair ⟨⟨rfl, rfl⟩, Nat.le_of_ble_eq_true rfl, Nat.le_of_ble_eq_true rfl⟩ rfl hl.1 rfl (Nat.le_of_ble_eq_true rfl) dX10_primitive_205 ⟨Nat.zero_le _, Nat.zero_le _⟩ (fun r130 H locs hP hS h => ?_)
                      refine lv_if_eq (tgt := 219) hx hb dX10_primitive_208 (by decide) (fun hc => ?_) (fun hc => ?_)
                      · have h := h.1 hc
                        refine lv_aload_n hx hb dX10_primitive_219 rfl (lv_at hl 3 rfl) ?_
                        refine lv_lload_n hx hb dX10_primitive_220 rfl (lv_at hl 1 rfl) ?_
                        refine lv_lload hx hb dX10_primitive_221 (lv_at hl 0 rfl) ?_
                        refine lq_ne (tgt := 233) hx hb dX10_primitive_223 dX10_primitive_224 (by decide) (fun hc => ?_) (fun hc => ?_)
                        · have h := h.2 hc
                          refine lv_ldc2 (v := (4294967296 : Int64)) hx hb hown (hW _ kcX10_199) dX10_primitive_233 ?_
                          refine cR_v (ci := 9) (q0 := 0) (As := [.long (4294967296 : Int64)]) (rest := []) E hml hP hD hS hA (t_X10_gives l D G (4294967296 : Int64) u _ h) kmX10_286 mwyX10_gives rfl rfl ⟨⟨rfl, rfl⟩, Nat.le_of_ble_eq_true rfl, Nat.le_of_ble_eq_true rfl⟩ rfl hl.1 rfl (Nat.le_of_ble_eq_true rfl) dX10_primitive_236 ⟨Nat.zero_le _, Nat.zero_le _⟩ (fun u131 H locs hP hD hS h => ?_)
                          refine lv_goto (tgt := 404) hx hb dX10_primitive_239 (by decide) ?_
                          exact retR_v E hr hlk hP hD hS h dX10_primitive_404
                        · have h := h.1 hc
                          refine lv_ldc2 (v := (4294967297 : Int64)) hx hb hown (hW _ kcX10_284) dX10_primitive_227 ?_
                          refine lv_goto (tgt := 236) hx hb dX10_primitive_230 (by decide) ?_
                          refine cR_v (ci := 9) (q0 := 0) (As := [.long (4294967297 : Int64)]) (rest := []) E hml hP hD hS hA (t_X10_gives l D G (4294967297 : Int64) u _ h) kmX10_286 mwyX10_gives rfl rfl ⟨⟨rfl, rfl⟩, Nat.le_of_ble_eq_true rfl, Nat.le_of_ble_eq_true rfl⟩ rfl hl.1 rfl (Nat.le_of_ble_eq_true rfl) dX10_primitive_236 ⟨Nat.zero_le _, Nat.zero_le _⟩ (fun u132 H locs hP hD hS h => ?_)
                          refine lv_goto (tgt := 404) hx hb dX10_primitive_239 (by decide) ?_
                          exact retR_v E hr hlk hP hD hS h dX10_primitive_404
                      · have h := h.2 hc
                        refine lv_aload_n hx hb dX10_primitive_211 rfl (lv_at hl 3 rfl) ?_
                        refine lv_iconst (v := (2 : Int32)) hx hb dX10_primitive_212 (by decide) ?_
                        refine cR_v (ci := 9) (q0 := 0) (As := [.int (2 : Int32)]) (rest := []) E hml hP hD hS hA (t_X10_fails l D G (2 : Int32) u _ h) kmX10_265 mwyX10_fails rfl rfl ⟨⟨rfl, rfl⟩, Nat.le_of_ble_eq_true rfl, Nat.le_of_ble_eq_true rfl⟩ rfl hl.1 rfl (Nat.le_of_ble_eq_true rfl) dX10_primitive_213 ⟨Nat.zero_le _, Nat.zero_le _⟩ (fun u133 H locs hP hD hS h => ?_)
                        refine lv_goto (tgt := 404) hx hb dX10_primitive_216 (by decide) ?_
                        exact retR_v E hr hlk hP hD hS h dX10_primitive_404
                · have h := h.1 hc
                  refine lv_aload_n hx hb dX10_primitive_167 rfl (lv_at hl 3 rfl) ?_
                  refine lv_lload_n hx hb dX10_primitive_168 rfl (lv_at hl 1 rfl) ?_
                  refine c0_i (As := [.long ((gB u 42) ((0 : Int32)).toNatClampNeg)]) (rest := [.ref (G.1 0)]) hx hb hml hown hW hP hS hA (t_X10_isPair l ((gB u 42) ((0 : Int32)).toNatClampNeg) _ h) kmX10_205 mwyX10_isPair ⟨⟨rfl, rfl⟩, Nat.le_of_ble_eq_true rfl, Nat.le_of_ble_eq_true rfl⟩ rfl hl.1 rfl (Nat.le_of_ble_eq_true rfl) dX10_primitive_169 ⟨Nat.zero_le _, Nat.zero_le _⟩ (fun r134 H locs hP hS h => ?_)
                  refine lv_if_eq (tgt := 181) hx hb dX10_primitive_172 (by decide) (fun hc => ?_) (fun hc => ?_)
                  · have h := h.1 hc
                    refine lv_ldc2 (v := (4294967297 : Int64)) hx hb hown (hW _ kcX10_284) dX10_primitive_181 ?_
                    refine cR_v (ci := 9) (q0 := 0) (As := [.long (4294967297 : Int64)]) (rest := []) E hml hP hD hS hA (t_X10_gives l D G (4294967297 : Int64) u _ h) kmX10_286 mwyX10_gives rfl rfl ⟨⟨rfl, rfl⟩, Nat.le_of_ble_eq_true rfl, Nat.le_of_ble_eq_true rfl⟩ rfl hl.1 rfl (Nat.le_of_ble_eq_true rfl) dX10_primitive_184 ⟨Nat.zero_le _, Nat.zero_le _⟩ (fun u135 H locs hP hD hS h => ?_)
                    refine lv_goto (tgt := 404) hx hb dX10_primitive_187 (by decide) ?_
                    exact retR_v E hr hlk hP hD hS h dX10_primitive_404
                  · have h := h.2 hc
                    refine lv_ldc2 (v := (4294967296 : Int64)) hx hb hown (hW _ kcX10_199) dX10_primitive_175 ?_
                    refine lv_goto (tgt := 184) hx hb dX10_primitive_178 (by decide) ?_
                    refine cR_v (ci := 9) (q0 := 0) (As := [.long (4294967296 : Int64)]) (rest := []) E hml hP hD hS hA (t_X10_gives l D G (4294967296 : Int64) u _ h) kmX10_286 mwyX10_gives rfl rfl ⟨⟨rfl, rfl⟩, Nat.le_of_ble_eq_true rfl, Nat.le_of_ble_eq_true rfl⟩ rfl hl.1 rfl (Nat.le_of_ble_eq_true rfl) dX10_primitive_184 ⟨Nat.zero_le _, Nat.zero_le _⟩ (fun u136 H locs hP hD hS h => ?_)
                    refine lv_goto (tgt := 404) hx hb dX10_primitive_187 (by decide) ?_
                    exact retR_v E hr hlk hP hD hS h dX10_primitive_404
              · have h := h.1 hc
                refine lv_aload_n hx hb dX10_primitive_124 rfl (lv_at hl 3 rfl) ?_
                refine cR_v (ci := 9) (q0 := 0) (As := []) (rest := []) E hml hP hD hS hA (t_X10_holdWaiting l D G  u _ h) kmX10_304 mwyX10_holdWaiting rfl rfl ⟨⟨rfl, rfl⟩, Nat.le_of_ble_eq_true rfl, Nat.le_of_ble_eq_true rfl⟩ rfl hl.1 rfl (Nat.le_of_ble_eq_true rfl) dX10_primitive_125 ⟨Nat.zero_le _, Nat.zero_le _⟩ (fun u137 H locs hP hD hS h => ?_)
                refine lv_aload_n hx hb dX10_primitive_128 rfl (lv_at hl 3 rfl) ?_
                refine lv_lload_n hx hb dX10_primitive_129 rfl (lv_at hl 1 rfl) ?_
                refine cR_v (ci := 9) (q0 := 0) (As := [.long ((gB u 42) ((0 : Int32)).toNatClampNeg)]) (rest := []) E hml hP hD hS hA (t_X10_hold l D G ((gB u 42) ((0 : Int32)).toNatClampNeg) u137 _ h) kmX10_213 mwyX10_hold rfl rfl ⟨⟨rfl, rfl⟩, Nat.le_of_ble_eq_true rfl, Nat.le_of_ble_eq_true rfl⟩ rfl hl.1 rfl (Nat.le_of_ble_eq_true rfl) dX10_primitive_130 ⟨Nat.zero_le _, Nat.zero_le _⟩ (fun u138 H locs hP hD hS h => ?_)
                refine lv_aload_n hx hb dX10_primitive_133 rfl (lv_at hl 3 rfl) ?_
                refine lv_lload hx hb dX10_primitive_134 (lv_at hl 0 rfl) ?_
                refine cR_v (ci := 9) (q0 := 0) (As := [.long ((gB u 42) ((1 : Int32)).toNatClampNeg)]) (rest := []) E hml hP hD hS hA (t_X10_hold l D G ((gB u 42) ((1 : Int32)).toNatClampNeg) u138 _ h) kmX10_213 mwyX10_hold rfl rfl ⟨⟨rfl, rfl⟩, Nat.le_of_ble_eq_true rfl, Nat.le_of_ble_eq_true rfl⟩ rfl hl.1 rfl (Nat.le_of_ble_eq_true rfl) dX10_primitive_136 ⟨Nat.zero_le _, Nat.zero_le _⟩ (fun u139 H locs hP hD hS h => ?_)
                refine lv_aload_n hx hb dX10_primitive_139 rfl (lv_at hl 3 rfl) ?_
                refine lv_iconst (v := (1 : Int32)) hx hb dX10_primitive_140 (by decide) ?_
                refine cR_i (ci := 9) (q0 := 0) (As := [.int (1 : Int32)]) (rest := []) E hml hP hD hS hA (t_X10_room l D G (1 : Int32) u139 _ h) kmX10_307 mwyX10_room rfl rfl ⟨⟨rfl, rfl⟩, Nat.le_of_ble_eq_true rfl, Nat.le_of_ble_eq_true rfl⟩ rfl hl.1 rfl (Nat.le_of_ble_eq_true rfl) dX10_primitive_141 ⟨Nat.zero_le _, Nat.zero_le _⟩ (fun r140 u141 H locs hP hD hS h => ?_)
                refine lv_if_eq (tgt := 404) hx hb dX10_primitive_144 (by decide) (fun hc => ?_) (fun hc => ?_)
                · have h := h.1 hc
                  exact retR_v E hr hlk hP hD hS h dX10_primitive_404
                · have h := h.2 hc
                  refine lv_aload_n hx hb dX10_primitive_147 rfl (lv_at hl 3 rfl) ?_
                  refine lv_aload_n hx hb dX10_primitive_148 rfl (lv_at hl 3 rfl) ?_
                  refine lv_lload_n hx hb dX10_primitive_149 rfl (lv_at hl 1 rfl) ?_
                  refine lv_lload hx hb dX10_primitive_150 (lv_at hl 0 rfl) ?_
                  refine cR_l (ci := 9) (q0 := 0) (As := [.long ((gB u 42) ((0 : Int32)).toNatClampNeg), .long ((gB u 42) ((1 : Int32)).toNatClampNeg)]) (rest := [.ref (G.1 0)]) E hml hP hD hS hA (t_X10_pair l D G ((gB u 42) ((0 : Int32)).toNatClampNeg) ((gB u 42) ((1 : Int32)).toNatClampNeg) u141 _ h) kmX10_244 mwyX10_pair rfl rfl ⟨⟨rfl, rfl⟩, Nat.le_of_ble_eq_true rfl, Nat.le_of_ble_eq_true rfl⟩ rfl hl.1 rfl (Nat.le_of_ble_eq_true rfl) dX10_primitive_152 ⟨Nat.zero_le _, Nat.zero_le _⟩ (fun r142 u143 H locs hP hD hS h => ?_)
                  refine cR_v (ci := 9) (q0 := 0) (As := [.long r142]) (rest := []) E hml hP hD hS hA (t_X10_gives l D G r142 u143 _ h) kmX10_286 mwyX10_gives rfl rfl ⟨⟨rfl, rfl⟩, Nat.le_of_ble_eq_true rfl, Nat.le_of_ble_eq_true rfl⟩ rfl hl.1 rfl (Nat.le_of_ble_eq_true rfl) dX10_primitive_155 ⟨Nat.zero_le _, Nat.zero_le _⟩ (fun u144 H locs hP hD hS h => ?_)
                  refine lv_goto (tgt := 404) hx hb dX10_primitive_158 (by decide) ?_
                  exact retR_v E hr hlk hP hD hS h dX10_primitive_404
            · have h := h.1 hc
              refine lv_lload_n hx hb dX10_primitive_77 rfl (lv_at hl 1 rfl) ?_
              refine c0_i (As := [.long ((gB u 42) ((0 : Int32)).toNatClampNeg)]) (rest := []) hx hb hml hown hW hP hS hA (t_X10_isPair l ((gB u 42) ((0 : Int32)).toNatClampNeg) _ h) kmX10_205 mwyX10_isPair ⟨⟨rfl, rfl⟩, Nat.le_of_ble_eq_true rfl, Nat.le_of_ble_eq_true rfl⟩ rfl hl.1 rfl (Nat.le_of_ble_eq_true rfl) dX10_primitive_78 ⟨Nat.zero_le _, Nat.zero_le _⟩ (fun r145 H locs hP hS h => ?_)
              refine lv_if_ne (tgt := 92) hx hb dX10_primitive_81 (by decide) (fun hc => ?_) (fun hc => ?_)
              · have h := h.2 hc
                refine lv_aload_n hx hb dX10_primitive_92 rfl (lv_at hl 3 rfl) ?_
                refine lv_iload_n hx hb dX10_primitive_93 rfl (lv_at hl 4 rfl) ?_
                refine lv_bipush (v := (7 : Int32)) hx hb dX10_primitive_94 (by decide) ?_
                refine lv_icmp_ne (tgt := 107) hx hb dX10_primitive_96 (by decide) (fun hc => ?_) (fun hc => ?_)
                · have h := h.2 hc
                  refine lv_aload_n hx hb dX10_primitive_107 rfl (lv_at hl 3 rfl) ?_
                  refine lv_lload_n hx hb dX10_primitive_108 rfl (lv_at hl 1 rfl) ?_
                  refine cR_l (ci := 9) (q0 := 0) (As := [.long ((gB u 42) ((0 : Int32)).toNatClampNeg)]) (rest := [.ref (G.1 0)]) E hml hP hD hS hA (t_X10_behind l D G ((gB u 42) ((0 : Int32)).toNatClampNeg) u _ h) kmX10_216 mwyX10_behind rfl rfl ⟨⟨rfl, rfl⟩, Nat.le_of_ble_eq_true rfl, Nat.le_of_ble_eq_true rfl⟩ rfl hl.1 rfl (Nat.le_of_ble_eq_true rfl) dX10_primitive_109 ⟨Nat.zero_le _, Nat.zero_le _⟩ (fun r146 u147 H locs hP hD hS h => ?_)
                  refine cR_v (ci := 9) (q0 := 0) (As := [.long r146]) (rest := []) E hml hP hD hS hA (t_X10_gives l D G r146 u147 _ h) kmX10_286 mwyX10_gives rfl rfl ⟨⟨rfl, rfl⟩, Nat.le_of_ble_eq_true rfl, Nat.le_of_ble_eq_true rfl⟩ rfl hl.1 rfl (Nat.le_of_ble_eq_true rfl) dX10_primitive_112 ⟨Nat.zero_le _, Nat.zero_le _⟩ (fun u148 H locs hP hD hS h => ?_)
                  refine lv_goto (tgt := 404) hx hb dX10_primitive_115 (by decide) ?_
                  exact retR_v E hr hlk hP hD hS h dX10_primitive_404
                · have h := h.1 hc
                  refine lv_aload_n hx hb dX10_primitive_99 rfl (lv_at hl 3 rfl) ?_
                  refine lv_lload_n hx hb dX10_primitive_100 rfl (lv_at hl 1 rfl) ?_
                  refine cR_l (ci := 9) (q0 := 0) (As := [.long ((gB u 42) ((0 : Int32)).toNatClampNeg)]) (rest := [.ref (G.1 0)]) E hml hP hD hS hA (t_X10_first l D G ((gB u 42) ((0 : Int32)).toNatClampNeg) u _ h) kmX10_209 mwyX10_first rfl rfl ⟨⟨rfl, rfl⟩, Nat.le_of_ble_eq_true rfl, Nat.le_of_ble_eq_true rfl⟩ rfl hl.1 rfl (Nat.le_of_ble_eq_true rfl) dX10_primitive_101 ⟨Nat.zero_le _, Nat.zero_le _⟩ (fun r149 u150 H locs hP hD hS h => ?_)
                  refine lv_goto (tgt := 112) hx hb dX10_primitive_104 (by decide) ?_
                  refine cR_v (ci := 9) (q0 := 0) (As := [.long r149]) (rest := []) E hml hP hD hS hA (t_X10_gives l D G r149 u150 _ h) kmX10_286 mwyX10_gives rfl rfl ⟨⟨rfl, rfl⟩, Nat.le_of_ble_eq_true rfl, Nat.le_of_ble_eq_true rfl⟩ rfl hl.1 rfl (Nat.le_of_ble_eq_true rfl) dX10_primitive_112 ⟨Nat.zero_le _, Nat.zero_le _⟩ (fun u151 H locs hP hD hS h => ?_)
                  refine lv_goto (tgt := 404) hx hb dX10_primitive_115 (by decide) ?_
                  exact retR_v E hr hlk hP hD hS h dX10_primitive_404
              · have h := h.1 hc
                refine lv_aload_n hx hb dX10_primitive_84 rfl (lv_at hl 3 rfl) ?_
                refine lv_iconst (v := (2 : Int32)) hx hb dX10_primitive_85 (by decide) ?_
                refine cR_v (ci := 9) (q0 := 0) (As := [.int (2 : Int32)]) (rest := []) E hml hP hD hS hA (t_X10_fails l D G (2 : Int32) u _ h) kmX10_265 mwyX10_fails rfl rfl ⟨⟨rfl, rfl⟩, Nat.le_of_ble_eq_true rfl, Nat.le_of_ble_eq_true rfl⟩ rfl hl.1 rfl (Nat.le_of_ble_eq_true rfl) dX10_primitive_86 ⟨Nat.zero_le _, Nat.zero_le _⟩ (fun u152 H locs hP hD hS h => ?_)
                refine lv_goto (tgt := 404) hx hb dX10_primitive_89 (by decide) ?_
                exact retR_v E hr hlk hP hD hS h dX10_primitive_404
        · have h := h.2 hc
          refine lv_aload_n hx hb dX10_primitive_44 rfl (lv_at hl 1 rfl) ?_
          refine lv_iconst (v := (3 : Int32)) hx hb dX10_primitive_45 (by decide) ?_
          refine cR_v (ci := 9) (q0 := 0) (As := [.int (3 : Int32)]) (rest := []) E hml hP hD hS hA (t_X10_fails l D G (3 : Int32) u _ h) kmX10_265 mwyX10_fails rfl rfl ⟨⟨rfl, rfl⟩, Nat.le_of_ble_eq_true rfl, Nat.le_of_ble_eq_true rfl⟩ rfl hl.1 rfl (Nat.le_of_ble_eq_true rfl) dX10_primitive_46 ⟨Nat.zero_le _, Nat.zero_le _⟩ (fun u153 H locs hP hD hS h => ?_)
          exact retR_v E hr hlk hP hD hS h dX10_primitive_49
      · have h := h.2 hc
        refine lv_iload_n hx hb dX10_primitive_18 rfl (lv_at hl 1 rfl) ?_
        refine lv_bipush (v := (12 : Int32)) hx hb dX10_primitive_19 (by decide) ?_
        refine lv_icmp_eq (tgt := 30) hx hb dX10_primitive_21 (by decide) (fun hc => ?_) (fun hc => ?_)
        · have h := h.1 hc
          refine lv_iconst (v := (1 : Int32)) hx hb dX10_primitive_30 (by decide) ?_
          refine lv_goto (tgt := 35) hx hb dX10_primitive_31 (by decide) ?_
          refine lv_istore_n (lv' := [(2, .int (1 : Int32)), (0, .ref (G.1 0)), (1, .int p0)]) hx hb dX10_primitive_35 rfl hl (by decide) rfl (fun ls hl => ?_)
          refine lv_aload_n hx hb dX10_primitive_36 rfl (lv_at hl 1 rfl) ?_
          refine gR_43 E hP kfX10_144 (v := (gI u 43)) rfl dX10_primitive_37 ?_
          refine lv_iload_n hx hb dX10_primitive_40 rfl (lv_at hl 0 rfl) ?_
          refine lv_icmp_eq (tgt := 50) hx hb dX10_primitive_41 (by decide) (fun hc => ?_) (fun hc => ?_)
          · have h := h.1 hc
            refine lv_aload_n hx hb dX10_primitive_50 rfl (lv_at hl 1 rfl) ?_
            refine gR_42 E hP kfX10_141 dX10_primitive_51 ?_
            refine lv_iconst (v := (0 : Int32)) hx hb dX10_primitive_54 (by decide) ?_
            refine xR_42 E hP (by unfold vp_in; decide) (v := ((gB u 42) ((0 : Int32)).toNatClampNeg)) rfl dX10_primitive_55 ?_
            refine lv_lstore_n (lv' := [(3, .long ((gB u 42) ((0 : Int32)).toNatClampNeg)), (2, .int (1 : Int32)), (0, .ref (G.1 0)), (1, .int p0)]) hx hb dX10_primitive_56 rfl hl (by decide) rfl (fun ls hl => ?_)
            refine lv_aload_n hx hb dX10_primitive_57 rfl (lv_at hl 2 rfl) ?_
            refine gR_42 E hP kfX10_141 dX10_primitive_58 ?_
            refine lv_iconst (v := (1 : Int32)) hx hb dX10_primitive_61 (by decide) ?_
            refine xR_42 E hP (by unfold vp_in; decide) (v := ((gB u 42) ((1 : Int32)).toNatClampNeg)) rfl dX10_primitive_62 ?_
            refine lv_lstore (lv' := [(5, .long ((gB u 42) ((1 : Int32)).toNatClampNeg)), (3, .long ((gB u 42) ((0 : Int32)).toNatClampNeg)), (2, .int (1 : Int32)), (0, .ref (G.1 0)), (1, .int p0)]) hx hb dX10_primitive_63 hl (by decide) rfl (fun ls hl => ?_)
            refine lv_iload_n hx hb dX10_primitive_65 rfl (lv_at hl 4 rfl) ?_
            refine lv_bipush (v := (7 : Int32)) hx hb dX10_primitive_66 (by decide) ?_
            refine lv_icmp_eq (tgt := 77) hx hb dX10_primitive_68 (by decide) (fun hc => ?_) (fun hc => ?_)
            · have h := h.1 hc
              refine lv_lload_n hx hb dX10_primitive_77 rfl (lv_at hl 1 rfl) ?_
              refine c0_i (As := [.long ((gB u 42) ((0 : Int32)).toNatClampNeg)]) (rest := []) hx hb hml hown hW hP hS hA (t_X10_isPair l ((gB u 42) ((0 : Int32)).toNatClampNeg) _ h) kmX10_205 mwyX10_isPair ⟨⟨rfl, rfl⟩, Nat.le_of_ble_eq_true rfl, Nat.le_of_ble_eq_true rfl⟩ rfl hl.1 rfl (Nat.le_of_ble_eq_true rfl) dX10_primitive_78 ⟨Nat.zero_le _, Nat.zero_le _⟩ (fun r154 H locs hP hS h => ?_)
              refine lv_if_ne (tgt := 92) hx hb dX10_primitive_81 (by decide) (fun hc => ?_) (fun hc => ?_)
              · have h := h.2 hc
                refine lv_aload_n hx hb dX10_primitive_92 rfl (lv_at hl 3 rfl) ?_
                refine lv_iload_n hx hb dX10_primitive_93 rfl (lv_at hl 4 rfl) ?_
                refine lv_bipush (v := (7 : Int32)) hx hb dX10_primitive_94 (by decide) ?_
                refine lv_icmp_ne (tgt := 107) hx hb dX10_primitive_96 (by decide) (fun hc => ?_) (fun hc => ?_)
                · have h := h.2 hc
                  refine lv_aload_n hx hb dX10_primitive_107 rfl (lv_at hl 3 rfl) ?_
                  refine lv_lload_n hx hb dX10_primitive_108 rfl (lv_at hl 1 rfl) ?_
                  refine cR_l (ci := 9) (q0 := 0) (As := [.long ((gB u 42) ((0 : Int32)).toNatClampNeg)]) (rest := [.ref (G.1 0)]) E hml hP hD hS hA (t_X10_behind l D G ((gB u 42) ((0 : Int32)).toNatClampNeg) u _ h) kmX10_216 mwyX10_behind rfl rfl ⟨⟨rfl, rfl⟩, Nat.le_of_ble_eq_true rfl, Nat.le_of_ble_eq_true rfl⟩ rfl hl.1 rfl (Nat.le_of_ble_eq_true rfl) dX10_primitive_109 ⟨Nat.zero_le _, Nat.zero_le _⟩ (fun r155 u156 H locs hP hD hS h => ?_)
                  refine cR_v (ci := 9) (q0 := 0) (As := [.long r155]) (rest := []) E hml hP hD hS hA (t_X10_gives l D G r155 u156 _ h) kmX10_286 mwyX10_gives rfl rfl ⟨⟨rfl, rfl⟩, Nat.le_of_ble_eq_true rfl, Nat.le_of_ble_eq_true rfl⟩ rfl hl.1 rfl (Nat.le_of_ble_eq_true rfl) dX10_primitive_112 ⟨Nat.zero_le _, Nat.zero_le _⟩ (fun u157 H locs hP hD hS h => ?_)
                  refine lv_goto (tgt := 404) hx hb dX10_primitive_115 (by decide) ?_
                  exact retR_v E hr hlk hP hD hS h dX10_primitive_404
                · have h := h.1 hc
                  refine lv_aload_n hx hb dX10_primitive_99 rfl (lv_at hl 3 rfl) ?_
                  refine lv_lload_n hx hb dX10_primitive_100 rfl (lv_at hl 1 rfl) ?_
                  refine cR_l (ci := 9) (q0 := 0) (As := [.long ((gB u 42) ((0 : Int32)).toNatClampNeg)]) (rest := [.ref (G.1 0)]) E hml hP hD hS hA (t_X10_first l D G ((gB u 42) ((0 : Int32)).toNatClampNeg) u _ h) kmX10_209 mwyX10_first rfl rfl ⟨⟨rfl, rfl⟩, Nat.le_of_ble_eq_true rfl, Nat.le_of_ble_eq_true rfl⟩ rfl hl.1 rfl (Nat.le_of_ble_eq_true rfl) dX10_primitive_101 ⟨Nat.zero_le _, Nat.zero_le _⟩ (fun r158 u159 H locs hP hD hS h => ?_)
                  refine lv_goto (tgt := 112) hx hb dX10_primitive_104 (by decide) ?_
                  refine cR_v (ci := 9) (q0 := 0) (As := [.long r158]) (rest := []) E hml hP hD hS hA (t_X10_gives l D G r158 u159 _ h) kmX10_286 mwyX10_gives rfl rfl ⟨⟨rfl, rfl⟩, Nat.le_of_ble_eq_true rfl, Nat.le_of_ble_eq_true rfl⟩ rfl hl.1 rfl (Nat.le_of_ble_eq_true rfl) dX10_primitive_112 ⟨Nat.zero_le _, Nat.zero_le _⟩ (fun u160 H locs hP hD hS h => ?_)
                  refine lv_goto (tgt := 404) hx hb dX10_primitive_115 (by decide) ?_
                  exact retR_v E hr hlk hP hD hS h dX10_primitive_404
              · have h := h.1 hc
                refine lv_aload_n hx hb dX10_primitive_84 rfl (lv_at hl 3 rfl) ?_
                refine lv_iconst (v := (2 : Int32)) hx hb dX10_primitive_85 (by decide) ?_
                refine cR_v (ci := 9) (q0 := 0) (As := [.int (2 : Int32)]) (rest := []) E hml hP hD hS hA (t_X10_fails l D G (2 : Int32) u _ h) kmX10_265 mwyX10_fails rfl rfl ⟨⟨rfl, rfl⟩, Nat.le_of_ble_eq_true rfl, Nat.le_of_ble_eq_true rfl⟩ rfl hl.1 rfl (Nat.le_of_ble_eq_true rfl) dX10_primitive_86 ⟨Nat.zero_le _, Nat.zero_le _⟩ (fun u161 H locs hP hD hS h => ?_)
                refine lv_goto (tgt := 404) hx hb dX10_primitive_89 (by decide) ?_
                exact retR_v E hr hlk hP hD hS h dX10_primitive_404
            · have h := h.2 hc
              refine lv_iload_n hx hb dX10_primitive_71 rfl (lv_at hl 4 rfl) ?_
              refine lv_bipush (v := (8 : Int32)) hx hb dX10_primitive_72 (by decide) ?_
              refine lv_icmp_ne (tgt := 118) hx hb dX10_primitive_74 (by decide) (fun hc => ?_) (fun hc => ?_)
              · have h := h.2 hc
                refine lv_iload_n hx hb dX10_primitive_118 rfl (lv_at hl 4 rfl) ?_
                refine lv_bipush (v := (9 : Int32)) hx hb dX10_primitive_119 (by decide) ?_
                refine lv_icmp_ne (tgt := 161) hx hb dX10_primitive_121 (by decide) (fun hc => ?_) (fun hc => ?_)
                · have h := h.2 hc
                  refine lv_iload_n hx hb dX10_primitive_161 rfl (lv_at hl 4 rfl) ?_
                  refine lv_bipush (v := (10 : Int32)) hx hb dX10_primitive_162 (by decide) ?_
                  refine lv_icmp_ne (tgt := 190) hx hb dX10_primitive_164 (by decide) (fun hc => ?_) (fun hc => ?_)
                  · have h := h.2 hc
                    refine lv_iload_n hx hb dX10_primitive_190 rfl (lv_at hl 4 rfl) ?_
                    refine lv_bipush (v := (11 : Int32)) hx hb dX10_primitive_191 (by decide) ?_
                    refine lv_icmp_ne (tgt := 242) hx hb dX10_primitive_193 (by decide) (fun hc => ?_) (fun hc => ?_)
                    · have h := h.2 hc
                      refine lv_iload_n hx hb dX10_primitive_242 rfl (lv_at hl 4 rfl) ?_
                      refine lv_bipush (v := (12 : Int32)) hx hb dX10_primitive_243 (by decide) ?_
                      refine lv_icmp_ne (tgt := 272) hx hb dX10_primitive_245 (by decide) (fun hc => ?_) (fun hc => ?_)
                      · have h := h.2 hc
                        refine lv_iload_n hx hb dX10_primitive_272 rfl (lv_at hl 4 rfl) ?_
                        refine lv_bipush (v := (13 : Int32)) hx hb dX10_primitive_273 (by decide) ?_
                        refine lv_icmp_ne (tgt := 301) hx hb dX10_primitive_275 (by decide) (fun hc => ?_) (fun hc => ?_)
                        · have h := h.2 hc
                          refine lv_lload_n hx hb dX10_primitive_301 rfl (lv_at hl 1 rfl) ?_
                          refine c0_i (As := [.long ((gB u 42) ((0 : Int32)).toNatClampNeg)]) (rest := []) hx hb hml hown hW hP hS hA (t_X10_isNumber l ((gB u 42) ((0 : Int32)).toNatClampNeg) _ h) kmX10_281 mwyX10_isNumber ⟨⟨rfl, rfl⟩, Nat.le_of_ble_eq_true rfl, Nat.le_of_ble_eq_true rfl⟩ rfl hl.1 rfl (Nat.le_of_ble_eq_true rfl) dX10_primitive_302 ⟨Nat.zero_le _, Nat.zero_le _⟩ (fun r162 H locs hP hS h => ?_)
                          refine lv_if_eq (tgt := 316) hx hb dX10_primitive_305 (by decide) (fun hc => ?_) (fun hc => ?_)
                          · have h := h.1 hc
                            refine lv_aload_n hx hb dX10_primitive_316 rfl (lv_at hl 3 rfl) ?_
                            refine lv_iconst (v := (2 : Int32)) hx hb dX10_primitive_317 (by decide) ?_
                            refine cR_v (ci := 9) (q0 := 0) (As := [.int (2 : Int32)]) (rest := []) E hml hP hD hS hA (t_X10_fails l D G (2 : Int32) u _ h) kmX10_265 mwyX10_fails rfl rfl ⟨⟨rfl, rfl⟩, Nat.le_of_ble_eq_true rfl, Nat.le_of_ble_eq_true rfl⟩ rfl hl.1 rfl (Nat.le_of_ble_eq_true rfl) dX10_primitive_318 ⟨Nat.zero_le _, Nat.zero_le _⟩ (fun u163 H locs hP hD hS h => ?_)
                            refine lv_goto (tgt := 404) hx hb dX10_primitive_321 (by decide) ?_
                            exact retR_v E hr hlk hP hD hS h dX10_primitive_404
                          · have h := h.2 hc
                            refine lv_lload hx hb dX10_primitive_308 (lv_at hl 0 rfl) ?_
                            refine c0_i (As := [.long ((gB u 42) ((1 : Int32)).toNatClampNeg)]) (rest := []) hx hb hml hown hW hP hS hA (t_X10_isNumber l ((gB u 42) ((1 : Int32)).toNatClampNeg) _ h) kmX10_281 mwyX10_isNumber ⟨⟨rfl, rfl⟩, Nat.le_of_ble_eq_true rfl, Nat.le_of_ble_eq_true rfl⟩ rfl hl.1 rfl (Nat.le_of_ble_eq_true rfl) dX10_primitive_310 ⟨Nat.zero_le _, Nat.zero_le _⟩ (fun r164 H locs hP hS h => ?_)
                            refine lv_if_ne (tgt := 324) hx hb dX10_primitive_313 (by decide) (fun hc => ?_) (fun hc => ?_)
                            · have h := h.2 hc
                              refine lv_lload_n hx hb dX10_primitive_324 rfl (lv_at hl 1 rfl) ?_
                              refine lv_l2i (v := (((gB u 42) ((0 : Int32)).toNatClampNeg)).toInt32) hx hb dX10_primitive_325 rfl ?_
                              refine lv_istore (lv' := [(7, .int (((gB u 42) ((0 : Int32)).toNatClampNeg)).toInt32), (5, .long ((gB u 42) ((1 : Int32)).toNatClampNeg)), (3, .long ((gB u 42) ((0 : Int32)).toNatClampNeg)), (2, .int (1 : Int32)), (0, .ref (G.1 0)), (1, .int p0)]) hx hb dX10_primitive_326 hl (by decide) rfl (fun ls hl => ?_)
                              refine lv_lload hx hb dX10_primitive_328 (lv_at hl 1 rfl) ?_
                              refine lv_l2i (v := (((gB u 42) ((1 : Int32)).toNatClampNeg)).toInt32) hx hb dX10_primitive_330 rfl ?_
                              refine lv_istore (lv' := [(8, .int (((gB u 42) ((1 : Int32)).toNatClampNeg)).toInt32), (7, .int (((gB u 42) ((0 : Int32)).toNatClampNeg)).toInt32), (5, .long ((gB u 42) ((1 : Int32)).toNatClampNeg)), (3, .long ((gB u 42) ((0 : Int32)).toNatClampNeg)), (2, .int (1 : Int32)), (0, .ref (G.1 0)), (1, .int p0)]) hx hb dX10_primitive_331 hl (by decide) rfl (fun ls hl => ?_)
                              refine lv_aload_n hx hb dX10_primitive_333 rfl (lv_at hl 5 rfl) ?_
                              refine lv_iload_n hx hb dX10_primitive_334 rfl (lv_at hl 6 rfl) ?_
                              refine lv_bipush (v := (14 : Int32)) hx hb dX10_primitive_335 (by decide) ?_
                              refine lv_icmp_ne (tgt := 351) hx hb dX10_primitive_337 (by decide) (fun hc => ?_) (fun hc => ?_)
                              · have h := h.2 hc
                                refine lv_iload_n hx hb dX10_primitive_351 rfl (lv_at hl 6 rfl) ?_
                                refine lv_bipush (v := (15 : Int32)) hx hb dX10_primitive_352 (by decide) ?_
                                refine lv_icmp_ne (tgt := 368) hx hb dX10_primitive_354 (by decide) (fun hc => ?_) (fun hc => ?_)
                                · have h := h.2 hc
                                  refine lv_iload_n hx hb dX10_primitive_368 rfl (lv_at hl 6 rfl) ?_
                                  refine lv_bipush (v := (16 : Int32)) hx hb dX10_primitive_369 (by decide) ?_
                                  refine lv_icmp_ne (tgt := 385) hx hb dX10_primitive_371 (by decide) (fun hc => ?_) (fun hc => ?_)
                                  · have h := h.2 hc
                                    refine lv_iload hx hb dX10_primitive_385 (lv_at hl 1 rfl) ?_
                                    refine lv_iload hx hb dX10_primitive_387 (lv_at hl 0 rfl) ?_
                                    refine lv_icmp_ge (tgt := 398) hx hb dX10_primitive_389 (by decide) (fun hc => ?_) (fun hc => ?_)
                                    · have h := h.1 hc
                                      refine lv_ldc2 (v := (4294967296 : Int64)) hx hb hown (hW _ kcX10_199) dX10_primitive_398 ?_
                                      refine cR_v (ci := 9) (q0 := 0) (As := [.long (4294967296 : Int64)]) (rest := []) E hml hP hD hS hA (t_X10_gives l D G (4294967296 : Int64) u _ h) kmX10_286 mwyX10_gives rfl rfl ⟨⟨rfl, rfl⟩, Nat.le_of_ble_eq_true rfl, Nat.le_of_ble_eq_true rfl⟩ rfl hl.1 rfl (Nat.le_of_ble_eq_true rfl) dX10_primitive_401 ⟨Nat.zero_le _, Nat.zero_le _⟩ (fun u165 H locs hP hD hS h => ?_)
                                      exact retR_v E hr hlk hP hD hS h dX10_primitive_404
                                    · have h := h.2 hc
                                      refine lv_ldc2 (v := (4294967297 : Int64)) hx hb hown (hW _ kcX10_284) dX10_primitive_392 ?_
                                      refine lv_goto (tgt := 401) hx hb dX10_primitive_395 (by decide) ?_
                                      refine cR_v (ci := 9) (q0 := 0) (As := [.long (4294967297 : Int64)]) (rest := []) E hml hP hD hS hA (t_X10_gives l D G (4294967297 : Int64) u _ h) kmX10_286 mwyX10_gives rfl rfl ⟨⟨rfl, rfl⟩, Nat.le_of_ble_eq_true rfl, Nat.le_of_ble_eq_true rfl⟩ rfl hl.1 rfl (Nat.le_of_ble_eq_true rfl) dX10_primitive_401 ⟨Nat.zero_le _, Nat.zero_le _⟩ (fun u166 H locs hP hD hS h => ?_)
                                      exact retR_v E hr hlk hP hD hS h dX10_primitive_404
                                  · have h := h.1 hc
                                    refine lv_iload hx hb dX10_primitive_374 (lv_at hl 1 rfl) ?_
                                    refine lv_iload hx hb dX10_primitive_376 (lv_at hl 0 rfl) ?_
                                    refine lv_imul hx hb dX10_primitive_378 ?_
                                    refine c0_l (As := [.int ((((gB u 42) ((0 : Int32)).toNatClampNeg)).toInt32 * (((gB u 42) ((1 : Int32)).toNatClampNeg)).toInt32)]) (rest := [.ref (G.1 0)]) hx hb hml hown hW hP hS hA (t_X10_number l ((((gB u 42) ((0 : Int32)).toNatClampNeg)).toInt32 * (((gB u 42) ((1 : Int32)).toNatClampNeg)).toInt32) _ h) kmX10_236 mwyX10_number ⟨⟨rfl, rfl⟩, Nat.le_of_ble_eq_true rfl, Nat.le_of_ble_eq_true rfl⟩ rfl hl.1 rfl (Nat.le_of_ble_eq_true rfl) dX10_primitive_379 ⟨Nat.zero_le _, Nat.zero_le _⟩ (fun r167 H locs hP hS h => ?_)
                                    refine lv_goto (tgt := 401) hx hb dX10_primitive_382 (by decide) ?_
                                    refine cR_v (ci := 9) (q0 := 0) (As := [.long r167]) (rest := []) E hml hP hD hS hA (t_X10_gives l D G r167 u _ h) kmX10_286 mwyX10_gives rfl rfl ⟨⟨rfl, rfl⟩, Nat.le_of_ble_eq_true rfl, Nat.le_of_ble_eq_true rfl⟩ rfl hl.1 rfl (Nat.le_of_ble_eq_true rfl) dX10_primitive_401 ⟨Nat.zero_le _, Nat.zero_le _⟩ (fun u168 H locs hP hD hS h => ?_)
                                    exact retR_v E hr hlk hP hD hS h dX10_primitive_404
                                · have h := h.1 hc
                                  refine lv_iload hx hb dX10_primitive_357 (lv_at hl 1 rfl) ?_
                                  refine lv_iload hx hb dX10_primitive_359 (lv_at hl 0 rfl) ?_
                                  refine lv_isub hx hb dX10_primitive_361 ?_
                                  refine c0_l (As := [.int ((((gB u 42) ((0 : Int32)).toNatClampNeg)).toInt32 - (((gB u 42) ((1 : Int32)).toNatClampNeg)).toInt32)]) (rest := [.ref (G.1 0)]) hx hb hml hown hW hP hS hA (t_X10_number l ((((gB u 42) ((0 : Int32)).toNatClampNeg)).toInt32 - (((gB u 42) ((1 : Int32)).toNatClampNeg)).toInt32) _ h) kmX10_236 mwyX10_number ⟨⟨rfl, rfl⟩, Nat.le_of_ble_eq_true rfl, Nat.le_of_ble_eq_true rfl⟩ rfl hl.1 rfl (Nat.le_of_ble_eq_true rfl) dX10_primitive_362 ⟨Nat.zero_le _, Nat.zero_le _⟩ (fun r169 H locs hP hS h => ?_)
                                  refine lv_goto (tgt := 401) hx hb dX10_primitive_365 (by decide) ?_
                                  refine cR_v (ci := 9) (q0 := 0) (As := [.long r169]) (rest := []) E hml hP hD hS hA (t_X10_gives l D G r169 u _ h) kmX10_286 mwyX10_gives rfl rfl ⟨⟨rfl, rfl⟩, Nat.le_of_ble_eq_true rfl, Nat.le_of_ble_eq_true rfl⟩ rfl hl.1 rfl (Nat.le_of_ble_eq_true rfl) dX10_primitive_401 ⟨Nat.zero_le _, Nat.zero_le _⟩ (fun u170 H locs hP hD hS h => ?_)
                                  exact retR_v E hr hlk hP hD hS h dX10_primitive_404
                              · have h := h.1 hc
                                refine lv_iload hx hb dX10_primitive_340 (lv_at hl 1 rfl) ?_
                                refine lv_iload hx hb dX10_primitive_342 (lv_at hl 0 rfl) ?_
                                refine lv_iadd hx hb dX10_primitive_344 ?_
                                refine c0_l (As := [.int ((((gB u 42) ((0 : Int32)).toNatClampNeg)).toInt32 + (((gB u 42) ((1 : Int32)).toNatClampNeg)).toInt32)]) (rest := [.ref (G.1 0)]) hx hb hml hown hW hP hS hA (t_X10_number l ((((gB u 42) ((0 : Int32)).toNatClampNeg)).toInt32 + (((gB u 42) ((1 : Int32)).toNatClampNeg)).toInt32) _ h) kmX10_236 mwyX10_number ⟨⟨rfl, rfl⟩, Nat.le_of_ble_eq_true rfl, Nat.le_of_ble_eq_true rfl⟩ rfl hl.1 rfl (Nat.le_of_ble_eq_true rfl) dX10_primitive_345 ⟨Nat.zero_le _, Nat.zero_le _⟩ (fun r171 H locs hP hS h => ?_)
                                refine lv_goto (tgt := 401) hx hb dX10_primitive_348 (by decide) ?_
                                refine cR_v (ci := 9) (q0 := 0) (As := [.long r171]) (rest := []) E hml hP hD hS hA (t_X10_gives l D G r171 u _ h) kmX10_286 mwyX10_gives rfl rfl ⟨⟨rfl, rfl⟩, Nat.le_of_ble_eq_true rfl, Nat.le_of_ble_eq_true rfl⟩ rfl hl.1 rfl (Nat.le_of_ble_eq_true rfl) dX10_primitive_401 ⟨Nat.zero_le _, Nat.zero_le _⟩ (fun u172 H locs hP hD hS h => ?_)
                                exact retR_v E hr hlk hP hD hS h dX10_primitive_404
                            · have h := h.1 hc
                              refine lv_aload_n hx hb dX10_primitive_316 rfl (lv_at hl 3 rfl) ?_
                              refine lv_iconst (v := (2 : Int32)) hx hb dX10_primitive_317 (by decide) ?_
                              refine cR_v (ci := 9) (q0 := 0) (As := [.int (2 : Int32)]) (rest := []) E hml hP hD hS hA (t_X10_fails l D G (2 : Int32) u _ h) kmX10_265 mwyX10_fails rfl rfl ⟨⟨rfl, rfl⟩, Nat.le_of_ble_eq_true rfl, Nat.le_of_ble_eq_true rfl⟩ rfl hl.1 rfl (Nat.le_of_ble_eq_true rfl) dX10_primitive_318 ⟨Nat.zero_le _, Nat.zero_le _⟩ (fun u173 H locs hP hD hS h => ?_)
                              refine lv_goto (tgt := 404) hx hb dX10_primitive_321 (by decide) ?_
                              exact retR_v E hr hlk hP hD hS h dX10_primitive_404
                        · have h := h.1 hc
                          refine lv_aload_n hx hb dX10_primitive_278 rfl (lv_at hl 3 rfl) ?_
                          refine lv_lload_n hx hb dX10_primitive_279 rfl (lv_at hl 1 rfl) ?_
                          refine c0_i (As := [.long ((gB u 42) ((0 : Int32)).toNatClampNeg)]) (rest := [.ref (G.1 0)]) hx hb hml hown hW hP hS hA (t_X10_isNumber l ((gB u 42) ((0 : Int32)).toNatClampNeg) _ h) kmX10_281 mwyX10_isNumber ⟨⟨rfl, rfl⟩, Nat.le_of_ble_eq_true rfl, Nat.le_of_ble_eq_true rfl⟩ rfl hl.1 rfl (Nat.le_of_ble_eq_true rfl) dX10_primitive_280 ⟨Nat.zero_le _, Nat.zero_le _⟩ (fun r174 H locs hP hS h => ?_)
                          refine lv_if_eq (tgt := 292) hx hb dX10_primitive_283 (by decide) (fun hc => ?_) (fun hc => ?_)
                          · have h := h.1 hc
                            refine lv_ldc2 (v := (4294967296 : Int64)) hx hb hown (hW _ kcX10_199) dX10_primitive_292 ?_
                            refine cR_v (ci := 9) (q0 := 0) (As := [.long (4294967296 : Int64)]) (rest := []) E hml hP hD hS hA (t_X10_gives l D G (4294967296 : Int64) u _ h) kmX10_286 mwyX10_gives rfl rfl ⟨⟨rfl, rfl⟩, Nat.le_of_ble_eq_true rfl, Nat.le_of_ble_eq_true rfl⟩ rfl hl.1 rfl (Nat.le_of_ble_eq_true rfl) dX10_primitive_295 ⟨Nat.zero_le _, Nat.zero_le _⟩ (fun u175 H locs hP hD hS h => ?_)
                            refine lv_goto (tgt := 404) hx hb dX10_primitive_298 (by decide) ?_
                            exact retR_v E hr hlk hP hD hS h dX10_primitive_404
                          · have h := h.2 hc
                            refine lv_ldc2 (v := (4294967297 : Int64)) hx hb hown (hW _ kcX10_284) dX10_primitive_286 ?_
                            refine lv_goto (tgt := 295) hx hb dX10_primitive_289 (by decide) ?_
                            refine cR_v (ci := 9) (q0 := 0) (As := [.long (4294967297 : Int64)]) (rest := []) E hml hP hD hS hA (t_X10_gives l D G (4294967297 : Int64) u _ h) kmX10_286 mwyX10_gives rfl rfl ⟨⟨rfl, rfl⟩, Nat.le_of_ble_eq_true rfl, Nat.le_of_ble_eq_true rfl⟩ rfl hl.1 rfl (Nat.le_of_ble_eq_true rfl) dX10_primitive_295 ⟨Nat.zero_le _, Nat.zero_le _⟩ (fun u176 H locs hP hD hS h => ?_)
                            refine lv_goto (tgt := 404) hx hb dX10_primitive_298 (by decide) ?_
                            exact retR_v E hr hlk hP hD hS h dX10_primitive_404
                      · have h := h.1 hc
                        refine lv_aload_n hx hb dX10_primitive_248 rfl (lv_at hl 3 rfl) ?_
                        refine lv_lload_n hx hb dX10_primitive_249 rfl (lv_at hl 1 rfl) ?_
                        refine lv_ldc2 (v := (4294967296 : Int64)) hx hb hown (hW _ kcX10_199) dX10_primitive_250 ?_
                        refine lq_ne (tgt := 263) hx hb dX10_primitive_253 dX10_primitive_254 (by decide) (fun hc => ?_) (fun hc => ?_)
                        · have h := h.2 hc
                          refine lv_ldc2 (v := (4294967296 : Int64)) hx hb hown (hW _ kcX10_199) dX10_primitive_263 ?_
                          refine cR_v (ci := 9) (q0 := 0) (As := [.long (4294967296 : Int64)]) (rest := []) E hml hP hD hS hA (t_X10_gives l D G (4294967296 : Int64) u _ h) kmX10_286 mwyX10_gives rfl rfl ⟨⟨rfl, rfl⟩, Nat.le_of_ble_eq_true rfl, Nat.le_of_ble_eq_true rfl⟩ rfl hl.1 rfl (Nat.le_of_ble_eq_true rfl) dX10_primitive_266 ⟨Nat.zero_le _, Nat.zero_le _⟩ (fun u177 H locs hP hD hS h => ?_)
                          refine lv_goto (tgt := 404) hx hb dX10_primitive_269 (by decide) ?_
                          exact retR_v E hr hlk hP hD hS h dX10_primitive_404
                        · have h := h.1 hc
                          refine lv_ldc2 (v := (4294967297 : Int64)) hx hb hown (hW _ kcX10_284) dX10_primitive_257 ?_
                          refine lv_goto (tgt := 266) hx hb dX10_primitive_260 (by decide) ?_
                          refine cR_v (ci := 9) (q0 := 0) (As := [.long (4294967297 : Int64)]) (rest := []) E hml hP hD hS hA (t_X10_gives l D G (4294967297 : Int64) u _ h) kmX10_286 mwyX10_gives rfl rfl ⟨⟨rfl, rfl⟩, Nat.le_of_ble_eq_true rfl, Nat.le_of_ble_eq_true rfl⟩ rfl hl.1 rfl (Nat.le_of_ble_eq_true rfl) dX10_primitive_266 ⟨Nat.zero_le _, Nat.zero_le _⟩ (fun u178 H locs hP hD hS h => ?_)
                          refine lv_goto (tgt := 404) hx hb dX10_primitive_269 (by decide) ?_
                          exact retR_v E hr hlk hP hD hS h dX10_primitive_404
                    · have h := h.1 hc
                      refine lv_lload_n hx hb dX10_primitive_196 rfl (lv_at hl 1 rfl) ?_
                      refine c0_i (As := [.long ((gB u 42) ((0 : Int32)).toNatClampNeg)]) (rest := []) hx hb hml hown hW hP hS hA (t_X10_isPair l ((gB u 42) ((0 : Int32)).toNatClampNeg) _ h) kmX10_205 mwyX10_isPair ⟨⟨rfl, rfl⟩, Nat.le_of_ble_eq_true rfl, Nat.le_of_ble_eq_true rfl⟩ rfl hl.1 rfl (Nat.le_of_ble_eq_true rfl) dX10_primitive_197 ⟨Nat.zero_le _, Nat.zero_le _⟩ (fun r179 H locs hP hS h => ?_)
                      refine lv_if_ne (tgt := 211) hx hb dX10_primitive_200 (by decide) (fun hc => ?_) (fun hc => ?_)
                      · have h := h.2 hc
                        refine lv_aload_n hx hb dX10_primitive_211 rfl (lv_at hl 3 rfl) ?_
                        refine lv_iconst (v := (2 : Int32)) hx hb dX10_primitive_212 (by decide) ?_
                        refine cR_v (ci := 9) (q0 := 0) (As := [.int (2 : Int32)]) (rest := []) E hml hP hD hS hA (t_X10_fails l D G (2 : Int32) u _ h) kmX10_265 mwyX10_fails rfl rfl ⟨⟨rfl, rfl⟩, Nat.le_of_ble_eq_true rfl, Nat.le_of_ble_eq_true rfl⟩ rfl hl.1 rfl (Nat.le_of_ble_eq_true rfl) dX10_primitive_213 ⟨Nat.zero_le _, Nat.zero_le _⟩ (fun u180 H locs hP hD hS h => ?_)
                        refine lv_goto (tgt := 404) hx hb dX10_primitive_216 (by decide) ?_
                        exact retR_v E hr hlk hP hD hS h dX10_primitive_404
                      · have h := h.1 hc
                        refine lv_lload hx hb dX10_primitive_203 (lv_at hl 0 rfl) ?_
                        refine c0_i (As := [.long ((gB u 42) ((1 : Int32)).toNatClampNeg)]) (rest := []) hx hb hml hown hW hP hS hA (t_X10_isPair l ((gB u 42) ((1 : Int32)).toNatClampNeg) _ h) kmX10_205 mwyX10_isPair ⟨⟨rfl, rfl⟩, Nat.le_of_ble_eq_true rfl, Nat.le_of_ble_eq_true rfl⟩ rfl hl.1 rfl (Nat.le_of_ble_eq_true rfl) dX10_primitive_205 ⟨Nat.zero_le _, Nat.zero_le _⟩ (fun r181 H locs hP hS h => ?_)
                        refine lv_if_eq (tgt := 219) hx hb dX10_primitive_208 (by decide) (fun hc => ?_) (fun hc => ?_)
                        · have h := h.1 hc
                          refine lv_aload_n hx hb dX10_primitive_219 rfl (lv_at hl 3 rfl) ?_
                          refine lv_lload_n hx hb dX10_primitive_220 rfl (lv_at hl 1 rfl) ?_
                          refine lv_lload hx hb dX10_primitive_221 (lv_at hl 0 rfl) ?_
                          refine lq_ne (tgt := 233) hx hb dX10_primitive_223 dX10_primitive_224 (by decide) (fun hc => ?_) (fun hc => ?_)
                          · have h := h.2 hc
                            refine lv_ldc2 (v := (4294967296 : Int64)) hx hb hown (hW _ kcX10_199) dX10_primitive_233 ?_
                            refine cR_v (ci := 9) (q0 := 0) (As := [.long (4294967296 : Int64)]) (rest := []) E hml hP hD hS hA (t_X10_gives l D G (4294967296 : Int64) u _ h) kmX10_286 mwyX10_gives rfl rfl ⟨⟨rfl, rfl⟩, Nat.le_of_ble_eq_true rfl, Nat.le_of_ble_eq_true rfl⟩ rfl hl.1 rfl (Nat.le_of_ble_eq_true rfl) dX10_primitive_236 ⟨Nat.zero_le _, Nat.zero_le _⟩ (fun u182 H locs hP hD hS h => ?_)
                            refine lv_goto (tgt := 404) hx hb dX10_primitive_239 (by decide) ?_
                            exact retR_v E hr hlk hP hD hS h dX10_primitive_404
                          · have h := h.1 hc
                            refine lv_ldc2 (v := (4294967297 : Int64)) hx hb hown (hW _ kcX10_284) dX10_primitive_227 ?_
                            refine lv_goto (tgt := 236) hx hb dX10_primitive_230 (by decide) ?_
                            refine cR_v (ci := 9) (q0 := 0) (As := [.long (4294967297 : Int64)]) (rest := []) E hml hP hD hS hA (t_X10_gives l D G (4294967297 : Int64) u _ h) kmX10_286 mwyX10_gives rfl rfl ⟨⟨rfl, rfl⟩, Nat.le_of_ble_eq_true rfl, Nat.le_of_ble_eq_true rfl⟩ rfl hl.1 rfl (Nat.le_of_ble_eq_true rfl) dX10_primitive_236 ⟨Nat.zero_le _, Nat.zero_le _⟩ (fun u183 H locs hP hD hS h => ?_)
                            refine lv_goto (tgt := 404) hx hb dX10_primitive_239 (by decide) ?_
                            exact retR_v E hr hlk hP hD hS h dX10_primitive_404
                        · have h := h.2 hc
                          refine lv_aload_n hx hb dX10_primitive_211 rfl (lv_at hl 3 rfl) ?_
                          refine lv_iconst (v := (2 : Int32)) hx hb dX10_primitive_212 (by decide) ?_
                          refine cR_v (ci := 9) (q0 := 0) (As := [.int (2 : Int32)]) (rest := []) E hml hP hD hS hA (t_X10_fails l D G (2 : Int32) u _ h) kmX10_265 mwyX10_fails rfl rfl ⟨⟨rfl, rfl⟩, Nat.le_of_ble_eq_true rfl, Nat.le_of_ble_eq_true rfl⟩ rfl hl.1 rfl (Nat.le_of_ble_eq_true rfl) dX10_primitive_213 ⟨Nat.zero_le _, Nat.zero_le _⟩ (fun u184 H locs hP hD hS h => ?_)
                          refine lv_goto (tgt := 404) hx hb dX10_primitive_216 (by decide) ?_
                          exact retR_v E hr hlk hP hD hS h dX10_primitive_404
                  · have h := h.1 hc
                    refine lv_aload_n hx hb dX10_primitive_167 rfl (lv_at hl 3 rfl) ?_
                    refine lv_lload_n hx hb dX10_primitive_168 rfl (lv_at hl 1 rfl) ?_
                    refine c0_i (As := [.long ((gB u 42) ((0 : Int32)).toNatClampNeg)]) (rest := [.ref (G.1 0)]) hx hb hml hown hW hP hS hA (t_X10_isPair l ((gB u 42) ((0 : Int32)).toNatClampNeg) _ h) kmX10_205 mwyX10_isPair ⟨⟨rfl, rfl⟩, Nat.le_of_ble_eq_true rfl, Nat.le_of_ble_eq_true rfl⟩ rfl hl.1 rfl (Nat.le_of_ble_eq_true rfl) dX10_primitive_169 ⟨Nat.zero_le _, Nat.zero_le _⟩ (fun r185 H locs hP hS h => ?_)
                    refine lv_if_eq (tgt := 181) hx hb dX10_primitive_172 (by decide) (fun hc => ?_) (fun hc => ?_)
                    · have h := h.1 hc
                      refine lv_ldc2 (v := (4294967297 : Int64)) hx hb hown (hW _ kcX10_284) dX10_primitive_181 ?_
                      refine cR_v (ci := 9) (q0 := 0) (As := [.long (4294967297 : Int64)]) (rest := []) E hml hP hD hS hA (t_X10_gives l D G (4294967297 : Int64) u _ h) kmX10_286 mwyX10_gives rfl rfl ⟨⟨rfl, rfl⟩, Nat.le_of_ble_eq_true rfl, Nat.le_of_ble_eq_true rfl⟩ rfl hl.1 rfl (Nat.le_of_ble_eq_true rfl) dX10_primitive_184 ⟨Nat.zero_le _, Nat.zero_le _⟩ (fun u186 H locs hP hD hS h => ?_)
                      refine lv_goto (tgt := 404) hx hb dX10_primitive_187 (by decide) ?_
                      exact retR_v E hr hlk hP hD hS h dX10_primitive_404
                    · have h := h.2 hc
                      refine lv_ldc2 (v := (4294967296 : Int64)) hx hb hown (hW _ kcX10_199) dX10_primitive_175 ?_
                      refine lv_goto (tgt := 184) hx hb dX10_primitive_178 (by decide) ?_
                      refine cR_v (ci := 9) (q0 := 0) (As := [.long (4294967296 : Int64)]) (rest := []) E hml hP hD hS hA (t_X10_gives l D G (4294967296 : Int64) u _ h) kmX10_286 mwyX10_gives rfl rfl ⟨⟨rfl, rfl⟩, Nat.le_of_ble_eq_true rfl, Nat.le_of_ble_eq_true rfl⟩ rfl hl.1 rfl (Nat.le_of_ble_eq_true rfl) dX10_primitive_184 ⟨Nat.zero_le _, Nat.zero_le _⟩ (fun u187 H locs hP hD hS h => ?_)
                      refine lv_goto (tgt := 404) hx hb dX10_primitive_187 (by decide) ?_
                      exact retR_v E hr hlk hP hD hS h dX10_primitive_404
                · have h := h.1 hc
                  refine lv_aload_n hx hb dX10_primitive_124 rfl (lv_at hl 3 rfl) ?_
                  refine cR_v (ci := 9) (q0 := 0) (As := []) (rest := []) E hml hP hD hS hA (t_X10_holdWaiting l D G  u _ h) kmX10_304 mwyX10_holdWaiting rfl rfl ⟨⟨rfl, rfl⟩, Nat.le_of_ble_eq_true rfl, Nat.le_of_ble_eq_true rfl⟩ rfl hl.1 rfl (Nat.le_of_ble_eq_true rfl) dX10_primitive_125 ⟨Nat.zero_le _, Nat.zero_le _⟩ (fun u188 H locs hP hD hS h => ?_)
                  refine lv_aload_n hx hb dX10_primitive_128 rfl (lv_at hl 3 rfl) ?_
                  refine lv_lload_n hx hb dX10_primitive_129 rfl (lv_at hl 1 rfl) ?_
                  refine cR_v (ci := 9) (q0 := 0) (As := [.long ((gB u 42) ((0 : Int32)).toNatClampNeg)]) (rest := []) E hml hP hD hS hA (t_X10_hold l D G ((gB u 42) ((0 : Int32)).toNatClampNeg) u188 _ h) kmX10_213 mwyX10_hold rfl rfl ⟨⟨rfl, rfl⟩, Nat.le_of_ble_eq_true rfl, Nat.le_of_ble_eq_true rfl⟩ rfl hl.1 rfl (Nat.le_of_ble_eq_true rfl) dX10_primitive_130 ⟨Nat.zero_le _, Nat.zero_le _⟩ (fun u189 H locs hP hD hS h => ?_)
                  refine lv_aload_n hx hb dX10_primitive_133 rfl (lv_at hl 3 rfl) ?_
                  refine lv_lload hx hb dX10_primitive_134 (lv_at hl 0 rfl) ?_
                  refine cR_v (ci := 9) (q0 := 0) (As := [.long ((gB u 42) ((1 : Int32)).toNatClampNeg)]) (rest := []) E hml hP hD hS hA (t_X10_hold l D G ((gB u 42) ((1 : Int32)).toNatClampNeg) u189 _ h) kmX10_213 mwyX10_hold rfl rfl ⟨⟨rfl, rfl⟩, Nat.le_of_ble_eq_true rfl, Nat.le_of_ble_eq_true rfl⟩ rfl hl.1 rfl (Nat.le_of_ble_eq_true rfl) dX10_primitive_136 ⟨Nat.zero_le _, Nat.zero_le _⟩ (fun u190 H locs hP hD hS h => ?_)
                  refine lv_aload_n hx hb dX10_primitive_139 rfl (lv_at hl 3 rfl) ?_
                  refine lv_iconst (v := (1 : Int32)) hx hb dX10_primitive_140 (by decide) ?_
                  refine cR_i (ci := 9) (q0 := 0) (As := [.int (1 : Int32)]) (rest := []) E hml hP hD hS hA (t_X10_room l D G (1 : Int32) u190 _ h) kmX10_307 mwyX10_room rfl rfl ⟨⟨rfl, rfl⟩, Nat.le_of_ble_eq_true rfl, Nat.le_of_ble_eq_true rfl⟩ rfl hl.1 rfl (Nat.le_of_ble_eq_true rfl) dX10_primitive_141 ⟨Nat.zero_le _, Nat.zero_le _⟩ (fun r191 u192 H locs hP hD hS h => ?_)
                  refine lv_if_eq (tgt := 404) hx hb dX10_primitive_144 (by decide) (fun hc => ?_) (fun hc => ?_)
                  · have h := h.1 hc
                    exact retR_v E hr hlk hP hD hS h dX10_primitive_404
                  · have h := h.2 hc
                    refine lv_aload_n hx hb dX10_primitive_147 rfl (lv_at hl 3 rfl) ?_
                    refine lv_aload_n hx hb dX10_primitive_148 rfl (lv_at hl 3 rfl) ?_
                    refine lv_lload_n hx hb dX10_primitive_149 rfl (lv_at hl 1 rfl) ?_
                    refine lv_lload hx hb dX10_primitive_150 (lv_at hl 0 rfl) ?_
                    refine cR_l (ci := 9) (q0 := 0) (As := [.long ((gB u 42) ((0 : Int32)).toNatClampNeg), .long ((gB u 42) ((1 : Int32)).toNatClampNeg)]) (rest := [.ref (G.1 0)]) E hml hP hD hS hA (t_X10_pair l D G ((gB u 42) ((0 : Int32)).toNatClampNeg) ((gB u 42) ((1 : Int32)).toNatClampNeg) u192 _ h) kmX10_244 mwyX10_pair rfl rfl ⟨⟨rfl, rfl⟩, Nat.le_of_ble_eq_true rfl, Nat.le_of_ble_eq_true rfl⟩ rfl hl.1 rfl (Nat.le_of_ble_eq_true rfl) dX10_primitive_152 ⟨Nat.zero_le _, Nat.zero_le _⟩ (fun r193 u194 H locs hP hD hS h => ?_)
                    refine cR_v (ci := 9) (q0 := 0) (As := [.long r193]) (rest := []) E hml hP hD hS hA (t_X10_gives l D G r193 u194 _ h) kmX10_286 mwyX10_gives rfl rfl ⟨⟨rfl, rfl⟩, Nat.le_of_ble_eq_true rfl, Nat.le_of_ble_eq_true rfl⟩ rfl hl.1 rfl (Nat.le_of_ble_eq_true rfl) dX10_primitive_155 ⟨Nat.zero_le _, Nat.zero_le _⟩ (fun u195 H locs hP hD hS h => ?_)
                    refine lv_goto (tgt := 404) hx hb dX10_primitive_158 (by decide) ?_
                    exact retR_v E hr hlk hP hD hS h dX10_primitive_404
              · have h := h.1 hc
                refine lv_lload_n hx hb dX10_primitive_77 rfl (lv_at hl 1 rfl) ?_
                refine c0_i (As := [.long ((gB u 42) ((0 : Int32)).toNatClampNeg)]) (rest := []) hx hb hml hown hW hP hS hA (t_X10_isPair l ((gB u 42) ((0 : Int32)).toNatClampNeg) _ h) kmX10_205 mwyX10_isPair ⟨⟨rfl, rfl⟩, Nat.le_of_ble_eq_true rfl, Nat.le_of_ble_eq_true rfl⟩ rfl hl.1 rfl (Nat.le_of_ble_eq_true rfl) dX10_primitive_78 ⟨Nat.zero_le _, Nat.zero_le _⟩ (fun r196 H locs hP hS h => ?_)
                refine lv_if_ne (tgt := 92) hx hb dX10_primitive_81 (by decide) (fun hc => ?_) (fun hc => ?_)
                · have h := h.2 hc
                  refine lv_aload_n hx hb dX10_primitive_92 rfl (lv_at hl 3 rfl) ?_
                  refine lv_iload_n hx hb dX10_primitive_93 rfl (lv_at hl 4 rfl) ?_
                  refine lv_bipush (v := (7 : Int32)) hx hb dX10_primitive_94 (by decide) ?_
                  refine lv_icmp_ne (tgt := 107) hx hb dX10_primitive_96 (by decide) (fun hc => ?_) (fun hc => ?_)
                  · have h := h.2 hc
                    refine lv_aload_n hx hb dX10_primitive_107 rfl (lv_at hl 3 rfl) ?_
                    refine lv_lload_n hx hb dX10_primitive_108 rfl (lv_at hl 1 rfl) ?_
                    refine cR_l (ci := 9) (q0 := 0) (As := [.long ((gB u 42) ((0 : Int32)).toNatClampNeg)]) (rest := [.ref (G.1 0)]) E hml hP hD hS hA (t_X10_behind l D G ((gB u 42) ((0 : Int32)).toNatClampNeg) u _ h) kmX10_216 mwyX10_behind rfl rfl ⟨⟨rfl, rfl⟩, Nat.le_of_ble_eq_true rfl, Nat.le_of_ble_eq_true rfl⟩ rfl hl.1 rfl (Nat.le_of_ble_eq_true rfl) dX10_primitive_109 ⟨Nat.zero_le _, Nat.zero_le _⟩ (fun r197 u198 H locs hP hD hS h => ?_)
                    refine cR_v (ci := 9) (q0 := 0) (As := [.long r197]) (rest := []) E hml hP hD hS hA (t_X10_gives l D G r197 u198 _ h) kmX10_286 mwyX10_gives rfl rfl ⟨⟨rfl, rfl⟩, Nat.le_of_ble_eq_true rfl, Nat.le_of_ble_eq_true rfl⟩ rfl hl.1 rfl (Nat.le_of_ble_eq_true rfl) dX10_primitive_112 ⟨Nat.zero_le _, Nat.zero_le _⟩ (fun u199 H locs hP hD hS h => ?_)
                    refine lv_goto (tgt := 404) hx hb dX10_primitive_115 (by decide) ?_
                    exact retR_v E hr hlk hP hD hS h dX10_primitive_404
                  · have h := h.1 hc
                    refine lv_aload_n hx hb dX10_primitive_99 rfl (lv_at hl 3 rfl) ?_
                    refine lv_lload_n hx hb dX10_primitive_100 rfl (lv_at hl 1 rfl) ?_
                    refine cR_l (ci := 9) (q0 := 0) (As := [.long ((gB u 42) ((0 : Int32)).toNatClampNeg)]) (rest := [.ref (G.1 0)]) E hml hP hD hS hA (t_X10_first l D G ((gB u 42) ((0 : Int32)).toNatClampNeg) u _ h) kmX10_209 mwyX10_first rfl rfl ⟨⟨rfl, rfl⟩, Nat.le_of_ble_eq_true rfl, Nat.le_of_ble_eq_true rfl⟩ rfl hl.1 rfl (Nat.le_of_ble_eq_true rfl) dX10_primitive_101 ⟨Nat.zero_le _, Nat.zero_le _⟩ (fun r200 u201 H locs hP hD hS h => ?_)
                    refine lv_goto (tgt := 112) hx hb dX10_primitive_104 (by decide) ?_
                    refine cR_v (ci := 9) (q0 := 0) (As := [.long r200]) (rest := []) E hml hP hD hS hA (t_X10_gives l D G r200 u201 _ h) kmX10_286 mwyX10_gives rfl rfl ⟨⟨rfl, rfl⟩, Nat.le_of_ble_eq_true rfl, Nat.le_of_ble_eq_true rfl⟩ rfl hl.1 rfl (Nat.le_of_ble_eq_true rfl) dX10_primitive_112 ⟨Nat.zero_le _, Nat.zero_le _⟩ (fun u202 H locs hP hD hS h => ?_)
                    refine lv_goto (tgt := 404) hx hb dX10_primitive_115 (by decide) ?_
                    exact retR_v E hr hlk hP hD hS h dX10_primitive_404
                · have h := h.1 hc
                  refine lv_aload_n hx hb dX10_primitive_84 rfl (lv_at hl 3 rfl) ?_
                  refine lv_iconst (v := (2 : Int32)) hx hb dX10_primitive_85 (by decide) ?_
                  refine cR_v (ci := 9) (q0 := 0) (As := [.int (2 : Int32)]) (rest := []) E hml hP hD hS hA (t_X10_fails l D G (2 : Int32) u _ h) kmX10_265 mwyX10_fails rfl rfl ⟨⟨rfl, rfl⟩, Nat.le_of_ble_eq_true rfl, Nat.le_of_ble_eq_true rfl⟩ rfl hl.1 rfl (Nat.le_of_ble_eq_true rfl) dX10_primitive_86 ⟨Nat.zero_le _, Nat.zero_le _⟩ (fun u203 H locs hP hD hS h => ?_)
                  refine lv_goto (tgt := 404) hx hb dX10_primitive_89 (by decide) ?_
                  exact retR_v E hr hlk hP hD hS h dX10_primitive_404
          · have h := h.2 hc
            refine lv_aload_n hx hb dX10_primitive_44 rfl (lv_at hl 1 rfl) ?_
            refine lv_iconst (v := (3 : Int32)) hx hb dX10_primitive_45 (by decide) ?_
            refine cR_v (ci := 9) (q0 := 0) (As := [.int (3 : Int32)]) (rest := []) E hml hP hD hS hA (t_X10_fails l D G (3 : Int32) u _ h) kmX10_265 mwyX10_fails rfl rfl ⟨⟨rfl, rfl⟩, Nat.le_of_ble_eq_true rfl, Nat.le_of_ble_eq_true rfl⟩ rfl hl.1 rfl (Nat.le_of_ble_eq_true rfl) dX10_primitive_46 ⟨Nat.zero_le _, Nat.zero_le _⟩ (fun u204 H locs hP hD hS h => ?_)
            exact retR_v E hr hlk hP hD hS h dX10_primitive_49
        · have h := h.2 hc
          refine lv_iload_n hx hb dX10_primitive_24 rfl (lv_at hl 1 rfl) ?_
          refine lv_bipush (v := (13 : Int32)) hx hb dX10_primitive_25 (by decide) ?_
          refine lv_icmp_ne (tgt := 34) hx hb dX10_primitive_27 (by decide) (fun hc => ?_) (fun hc => ?_)
          · have h := h.2 hc
            refine lv_iconst (v := (2 : Int32)) hx hb dX10_primitive_34 (by decide) ?_
            refine lv_istore_n (lv' := [(2, .int (2 : Int32)), (0, .ref (G.1 0)), (1, .int p0)]) hx hb dX10_primitive_35 rfl hl (by decide) rfl (fun ls hl => ?_)
            refine lv_aload_n hx hb dX10_primitive_36 rfl (lv_at hl 1 rfl) ?_
            refine gR_43 E hP kfX10_144 (v := (gI u 43)) rfl dX10_primitive_37 ?_
            refine lv_iload_n hx hb dX10_primitive_40 rfl (lv_at hl 0 rfl) ?_
            refine lv_icmp_eq (tgt := 50) hx hb dX10_primitive_41 (by decide) (fun hc => ?_) (fun hc => ?_)
            · have h := h.1 hc
              refine lv_aload_n hx hb dX10_primitive_50 rfl (lv_at hl 1 rfl) ?_
              refine gR_42 E hP kfX10_141 dX10_primitive_51 ?_
              refine lv_iconst (v := (0 : Int32)) hx hb dX10_primitive_54 (by decide) ?_
              refine xR_42 E hP (by unfold vp_in; decide) (v := ((gB u 42) ((0 : Int32)).toNatClampNeg)) rfl dX10_primitive_55 ?_
              refine lv_lstore_n (lv' := [(3, .long ((gB u 42) ((0 : Int32)).toNatClampNeg)), (2, .int (2 : Int32)), (0, .ref (G.1 0)), (1, .int p0)]) hx hb dX10_primitive_56 rfl hl (by decide) rfl (fun ls hl => ?_)
              refine lv_aload_n hx hb dX10_primitive_57 rfl (lv_at hl 2 rfl) ?_
              refine gR_42 E hP kfX10_141 dX10_primitive_58 ?_
              refine lv_iconst (v := (1 : Int32)) hx hb dX10_primitive_61 (by decide) ?_
              refine xR_42 E hP (by unfold vp_in; decide) (v := ((gB u 42) ((1 : Int32)).toNatClampNeg)) rfl dX10_primitive_62 ?_
              refine lv_lstore (lv' := [(5, .long ((gB u 42) ((1 : Int32)).toNatClampNeg)), (3, .long ((gB u 42) ((0 : Int32)).toNatClampNeg)), (2, .int (2 : Int32)), (0, .ref (G.1 0)), (1, .int p0)]) hx hb dX10_primitive_63 hl (by decide) rfl (fun ls hl => ?_)
              refine lv_iload_n hx hb dX10_primitive_65 rfl (lv_at hl 4 rfl) ?_
              refine lv_bipush (v := (7 : Int32)) hx hb dX10_primitive_66 (by decide) ?_
              refine lv_icmp_eq (tgt := 77) hx hb dX10_primitive_68 (by decide) (fun hc => ?_) (fun hc => ?_)
              · have h := h.1 hc
                refine lv_lload_n hx hb dX10_primitive_77 rfl (lv_at hl 1 rfl) ?_
                refine c0_i (As := [.long ((gB u 42) ((0 : Int32)).toNatClampNeg)]) (rest := []) hx hb hml hown hW hP hS hA (t_X10_isPair l ((gB u 42) ((0 : Int32)).toNatClampNeg) _ h) kmX10_205 mwyX10_isPair ⟨⟨rfl, rfl⟩, Nat.le_of_ble_eq_true rfl, Nat.le_of_ble_eq_true rfl⟩ rfl hl.1 rfl (Nat.le_of_ble_eq_true rfl) dX10_primitive_78 ⟨Nat.zero_le _, Nat.zero_le _⟩ (fun r205 H locs hP hS h => ?_)
                refine lv_if_ne (tgt := 92) hx hb dX10_primitive_81 (by decide) (fun hc => ?_) (fun hc => ?_)
                · have h := h.2 hc
                  refine lv_aload_n hx hb dX10_primitive_92 rfl (lv_at hl 3 rfl) ?_
                  refine lv_iload_n hx hb dX10_primitive_93 rfl (lv_at hl 4 rfl) ?_
                  refine lv_bipush (v := (7 : Int32)) hx hb dX10_primitive_94 (by decide) ?_
                  refine lv_icmp_ne (tgt := 107) hx hb dX10_primitive_96 (by decide) (fun hc => ?_) (fun hc => ?_)
                  · have h := h.2 hc
                    refine lv_aload_n hx hb dX10_primitive_107 rfl (lv_at hl 3 rfl) ?_
                    refine lv_lload_n hx hb dX10_primitive_108 rfl (lv_at hl 1 rfl) ?_
                    refine cR_l (ci := 9) (q0 := 0) (As := [.long ((gB u 42) ((0 : Int32)).toNatClampNeg)]) (rest := [.ref (G.1 0)]) E hml hP hD hS hA (t_X10_behind l D G ((gB u 42) ((0 : Int32)).toNatClampNeg) u _ h) kmX10_216 mwyX10_behind rfl rfl ⟨⟨rfl, rfl⟩, Nat.le_of_ble_eq_true rfl, Nat.le_of_ble_eq_true rfl⟩ rfl hl.1 rfl (Nat.le_of_ble_eq_true rfl) dX10_primitive_109 ⟨Nat.zero_le _, Nat.zero_le _⟩ (fun r206 u207 H locs hP hD hS h => ?_)
                    refine cR_v (ci := 9) (q0 := 0) (As := [.long r206]) (rest := []) E hml hP hD hS hA (t_X10_gives l D G r206 u207 _ h) kmX10_286 mwyX10_gives rfl rfl ⟨⟨rfl, rfl⟩, Nat.le_of_ble_eq_true rfl, Nat.le_of_ble_eq_true rfl⟩ rfl hl.1 rfl (Nat.le_of_ble_eq_true rfl) dX10_primitive_112 ⟨Nat.zero_le _, Nat.zero_le _⟩ (fun u208 H locs hP hD hS h => ?_)
                    refine lv_goto (tgt := 404) hx hb dX10_primitive_115 (by decide) ?_
                    exact retR_v E hr hlk hP hD hS h dX10_primitive_404
                  · have h := h.1 hc
                    refine lv_aload_n hx hb dX10_primitive_99 rfl (lv_at hl 3 rfl) ?_
                    refine lv_lload_n hx hb dX10_primitive_100 rfl (lv_at hl 1 rfl) ?_
                    refine cR_l (ci := 9) (q0 := 0) (As := [.long ((gB u 42) ((0 : Int32)).toNatClampNeg)]) (rest := [.ref (G.1 0)]) E hml hP hD hS hA (t_X10_first l D G ((gB u 42) ((0 : Int32)).toNatClampNeg) u _ h) kmX10_209 mwyX10_first rfl rfl ⟨⟨rfl, rfl⟩, Nat.le_of_ble_eq_true rfl, Nat.le_of_ble_eq_true rfl⟩ rfl hl.1 rfl (Nat.le_of_ble_eq_true rfl) dX10_primitive_101 ⟨Nat.zero_le _, Nat.zero_le _⟩ (fun r209 u210 H locs hP hD hS h => ?_)
                    refine lv_goto (tgt := 112) hx hb dX10_primitive_104 (by decide) ?_
                    refine cR_v (ci := 9) (q0 := 0) (As := [.long r209]) (rest := []) E hml hP hD hS hA (t_X10_gives l D G r209 u210 _ h) kmX10_286 mwyX10_gives rfl rfl ⟨⟨rfl, rfl⟩, Nat.le_of_ble_eq_true rfl, Nat.le_of_ble_eq_true rfl⟩ rfl hl.1 rfl (Nat.le_of_ble_eq_true rfl) dX10_primitive_112 ⟨Nat.zero_le _, Nat.zero_le _⟩ (fun u211 H locs hP hD hS h => ?_)
                    refine lv_goto (tgt := 404) hx hb dX10_primitive_115 (by decide) ?_
                    exact retR_v E hr hlk hP hD hS h dX10_primitive_404
                · have h := h.1 hc
                  refine lv_aload_n hx hb dX10_primitive_84 rfl (lv_at hl 3 rfl) ?_
                  refine lv_iconst (v := (2 : Int32)) hx hb dX10_primitive_85 (by decide) ?_
                  refine cR_v (ci := 9) (q0 := 0) (As := [.int (2 : Int32)]) (rest := []) E hml hP hD hS hA (t_X10_fails l D G (2 : Int32) u _ h) kmX10_265 mwyX10_fails rfl rfl ⟨⟨rfl, rfl⟩, Nat.le_of_ble_eq_true rfl, Nat.le_of_ble_eq_true rfl⟩ rfl hl.1 rfl (Nat.le_of_ble_eq_true rfl) dX10_primitive_86 ⟨Nat.zero_le _, Nat.zero_le _⟩ (fun u212 H locs hP hD hS h => ?_)
                  refine lv_goto (tgt := 404) hx hb dX10_primitive_89 (by decide) ?_
                  exact retR_v E hr hlk hP hD hS h dX10_primitive_404
              · have h := h.2 hc
                refine lv_iload_n hx hb dX10_primitive_71 rfl (lv_at hl 4 rfl) ?_
                refine lv_bipush (v := (8 : Int32)) hx hb dX10_primitive_72 (by decide) ?_
                refine lv_icmp_ne (tgt := 118) hx hb dX10_primitive_74 (by decide) (fun hc => ?_) (fun hc => ?_)
                · have h := h.2 hc
                  refine lv_iload_n hx hb dX10_primitive_118 rfl (lv_at hl 4 rfl) ?_
                  refine lv_bipush (v := (9 : Int32)) hx hb dX10_primitive_119 (by decide) ?_
                  refine lv_icmp_ne (tgt := 161) hx hb dX10_primitive_121 (by decide) (fun hc => ?_) (fun hc => ?_)
                  · have h := h.2 hc
                    refine lv_iload_n hx hb dX10_primitive_161 rfl (lv_at hl 4 rfl) ?_
                    refine lv_bipush (v := (10 : Int32)) hx hb dX10_primitive_162 (by decide) ?_
                    refine lv_icmp_ne (tgt := 190) hx hb dX10_primitive_164 (by decide) (fun hc => ?_) (fun hc => ?_)
                    · have h := h.2 hc
                      refine lv_iload_n hx hb dX10_primitive_190 rfl (lv_at hl 4 rfl) ?_
                      refine lv_bipush (v := (11 : Int32)) hx hb dX10_primitive_191 (by decide) ?_
                      refine lv_icmp_ne (tgt := 242) hx hb dX10_primitive_193 (by decide) (fun hc => ?_) (fun hc => ?_)
                      · have h := h.2 hc
                        refine lv_iload_n hx hb dX10_primitive_242 rfl (lv_at hl 4 rfl) ?_
                        refine lv_bipush (v := (12 : Int32)) hx hb dX10_primitive_243 (by decide) ?_
                        refine lv_icmp_ne (tgt := 272) hx hb dX10_primitive_245 (by decide) (fun hc => ?_) (fun hc => ?_)
                        · have h := h.2 hc
                          refine lv_iload_n hx hb dX10_primitive_272 rfl (lv_at hl 4 rfl) ?_
                          refine lv_bipush (v := (13 : Int32)) hx hb dX10_primitive_273 (by decide) ?_
                          refine lv_icmp_ne (tgt := 301) hx hb dX10_primitive_275 (by decide) (fun hc => ?_) (fun hc => ?_)
                          · have h := h.2 hc
                            refine lv_lload_n hx hb dX10_primitive_301 rfl (lv_at hl 1 rfl) ?_
                            refine c0_i (As := [.long ((gB u 42) ((0 : Int32)).toNatClampNeg)]) (rest := []) hx hb hml hown hW hP hS hA (t_X10_isNumber l ((gB u 42) ((0 : Int32)).toNatClampNeg) _ h) kmX10_281 mwyX10_isNumber ⟨⟨rfl, rfl⟩, Nat.le_of_ble_eq_true rfl, Nat.le_of_ble_eq_true rfl⟩ rfl hl.1 rfl (Nat.le_of_ble_eq_true rfl) dX10_primitive_302 ⟨Nat.zero_le _, Nat.zero_le _⟩ (fun r213 H locs hP hS h => ?_)
                            refine lv_if_eq (tgt := 316) hx hb dX10_primitive_305 (by decide) (fun hc => ?_) (fun hc => ?_)
                            · have h := h.1 hc
                              refine lv_aload_n hx hb dX10_primitive_316 rfl (lv_at hl 3 rfl) ?_
                              refine lv_iconst (v := (2 : Int32)) hx hb dX10_primitive_317 (by decide) ?_
                              refine cR_v (ci := 9) (q0 := 0) (As := [.int (2 : Int32)]) (rest := []) E hml hP hD hS hA (t_X10_fails l D G (2 : Int32) u _ h) kmX10_265 mwyX10_fails rfl rfl ⟨⟨rfl, rfl⟩, Nat.le_of_ble_eq_true rfl, Nat.le_of_ble_eq_true rfl⟩ rfl hl.1 rfl (Nat.le_of_ble_eq_true rfl) dX10_primitive_318 ⟨Nat.zero_le _, Nat.zero_le _⟩ (fun u214 H locs hP hD hS h => ?_)
                              refine lv_goto (tgt := 404) hx hb dX10_primitive_321 (by decide) ?_
                              exact retR_v E hr hlk hP hD hS h dX10_primitive_404
                            · have h := h.2 hc
                              refine lv_lload hx hb dX10_primitive_308 (lv_at hl 0 rfl) ?_
                              refine c0_i (As := [.long ((gB u 42) ((1 : Int32)).toNatClampNeg)]) (rest := []) hx hb hml hown hW hP hS hA (t_X10_isNumber l ((gB u 42) ((1 : Int32)).toNatClampNeg) _ h) kmX10_281 mwyX10_isNumber ⟨⟨rfl, rfl⟩, Nat.le_of_ble_eq_true rfl, Nat.le_of_ble_eq_true rfl⟩ rfl hl.1 rfl (Nat.le_of_ble_eq_true rfl) dX10_primitive_310 ⟨Nat.zero_le _, Nat.zero_le _⟩ (fun r215 H locs hP hS h => ?_)
                              refine lv_if_ne (tgt := 324) hx hb dX10_primitive_313 (by decide) (fun hc => ?_) (fun hc => ?_)
                              · have h := h.2 hc
                                refine lv_lload_n hx hb dX10_primitive_324 rfl (lv_at hl 1 rfl) ?_
                                refine lv_l2i (v := (((gB u 42) ((0 : Int32)).toNatClampNeg)).toInt32) hx hb dX10_primitive_325 rfl ?_
                                refine lv_istore (lv' := [(7, .int (((gB u 42) ((0 : Int32)).toNatClampNeg)).toInt32), (5, .long ((gB u 42) ((1 : Int32)).toNatClampNeg)), (3, .long ((gB u 42) ((0 : Int32)).toNatClampNeg)), (2, .int (2 : Int32)), (0, .ref (G.1 0)), (1, .int p0)]) hx hb dX10_primitive_326 hl (by decide) rfl (fun ls hl => ?_)
                                refine lv_lload hx hb dX10_primitive_328 (lv_at hl 1 rfl) ?_
                                refine lv_l2i (v := (((gB u 42) ((1 : Int32)).toNatClampNeg)).toInt32) hx hb dX10_primitive_330 rfl ?_
                                refine lv_istore (lv' := [(8, .int (((gB u 42) ((1 : Int32)).toNatClampNeg)).toInt32), (7, .int (((gB u 42) ((0 : Int32)).toNatClampNeg)).toInt32), (5, .long ((gB u 42) ((1 : Int32)).toNatClampNeg)), (3, .long ((gB u 42) ((0 : Int32)).toNatClampNeg)), (2, .int (2 : Int32)), (0, .ref (G.1 0)), (1, .int p0)]) hx hb dX10_primitive_331 hl (by decide) rfl (fun ls hl => ?_)
                                refine lv_aload_n hx hb dX10_primitive_333 rfl (lv_at hl 5 rfl) ?_
                                refine lv_iload_n hx hb dX10_primitive_334 rfl (lv_at hl 6 rfl) ?_
                                refine lv_bipush (v := (14 : Int32)) hx hb dX10_primitive_335 (by decide) ?_
                                refine lv_icmp_ne (tgt := 351) hx hb dX10_primitive_337 (by decide) (fun hc => ?_) (fun hc => ?_)
                                · have h := h.2 hc
                                  refine lv_iload_n hx hb dX10_primitive_351 rfl (lv_at hl 6 rfl) ?_
                                  refine lv_bipush (v := (15 : Int32)) hx hb dX10_primitive_352 (by decide) ?_
                                  refine lv_icmp_ne (tgt := 368) hx hb dX10_primitive_354 (by decide) (fun hc => ?_) (fun hc => ?_)
                                  · have h := h.2 hc
                                    refine lv_iload_n hx hb dX10_primitive_368 rfl (lv_at hl 6 rfl) ?_
                                    refine lv_bipush (v := (16 : Int32)) hx hb dX10_primitive_369 (by decide) ?_
                                    refine lv_icmp_ne (tgt := 385) hx hb dX10_primitive_371 (by decide) (fun hc => ?_) (fun hc => ?_)
                                    · have h := h.2 hc
                                      refine lv_iload hx hb dX10_primitive_385 (lv_at hl 1 rfl) ?_
                                      refine lv_iload hx hb dX10_primitive_387 (lv_at hl 0 rfl) ?_
                                      refine lv_icmp_ge (tgt := 398) hx hb dX10_primitive_389 (by decide) (fun hc => ?_) (fun hc => ?_)
                                      · have h := h.1 hc
                                        refine lv_ldc2 (v := (4294967296 : Int64)) hx hb hown (hW _ kcX10_199) dX10_primitive_398 ?_
                                        refine cR_v (ci := 9) (q0 := 0) (As := [.long (4294967296 : Int64)]) (rest := []) E hml hP hD hS hA (t_X10_gives l D G (4294967296 : Int64) u _ h) kmX10_286 mwyX10_gives rfl rfl ⟨⟨rfl, rfl⟩, Nat.le_of_ble_eq_true rfl, Nat.le_of_ble_eq_true rfl⟩ rfl hl.1 rfl (Nat.le_of_ble_eq_true rfl) dX10_primitive_401 ⟨Nat.zero_le _, Nat.zero_le _⟩ (fun u216 H locs hP hD hS h => ?_)
                                        exact retR_v E hr hlk hP hD hS h dX10_primitive_404
                                      · have h := h.2 hc
                                        refine lv_ldc2 (v := (4294967297 : Int64)) hx hb hown (hW _ kcX10_284) dX10_primitive_392 ?_
                                        refine lv_goto (tgt := 401) hx hb dX10_primitive_395 (by decide) ?_
                                        refine cR_v (ci := 9) (q0 := 0) (As := [.long (4294967297 : Int64)]) (rest := []) E hml hP hD hS hA (t_X10_gives l D G (4294967297 : Int64) u _ h) kmX10_286 mwyX10_gives rfl rfl ⟨⟨rfl, rfl⟩, Nat.le_of_ble_eq_true rfl, Nat.le_of_ble_eq_true rfl⟩ rfl hl.1 rfl (Nat.le_of_ble_eq_true rfl) dX10_primitive_401 ⟨Nat.zero_le _, Nat.zero_le _⟩ (fun u217 H locs hP hD hS h => ?_)
                                        exact retR_v E hr hlk hP hD hS h dX10_primitive_404
                                    · have h := h.1 hc
                                      refine lv_iload hx hb dX10_primitive_374 (lv_at hl 1 rfl) ?_
                                      refine lv_iload hx hb dX10_primitive_376 (lv_at hl 0 rfl) ?_
                                      refine lv_imul hx hb dX10_primitive_378 ?_
                                      refine c0_l (As := [.int ((((gB u 42) ((0 : Int32)).toNatClampNeg)).toInt32 * (((gB u 42) ((1 : Int32)).toNatClampNeg)).toInt32)]) (rest := [.ref (G.1 0)]) hx hb hml hown hW hP hS hA (t_X10_number l ((((gB u 42) ((0 : Int32)).toNatClampNeg)).toInt32 * (((gB u 42) ((1 : Int32)).toNatClampNeg)).toInt32) _ h) kmX10_236 mwyX10_number ⟨⟨rfl, rfl⟩, Nat.le_of_ble_eq_true rfl, Nat.le_of_ble_eq_true rfl⟩ rfl hl.1 rfl (Nat.le_of_ble_eq_true rfl) dX10_primitive_379 ⟨Nat.zero_le _, Nat.zero_le _⟩ (fun r218 H locs hP hS h => ?_)
                                      refine lv_goto (tgt := 401) hx hb dX10_primitive_382 (by decide) ?_
                                      refine cR_v (ci := 9) (q0 := 0) (As := [.long r218]) (rest := []) E hml hP hD hS hA (t_X10_gives l D G r218 u _ h) kmX10_286 mwyX10_gives rfl rfl ⟨⟨rfl, rfl⟩, Nat.le_of_ble_eq_true rfl, Nat.le_of_ble_eq_true rfl⟩ rfl hl.1 rfl (Nat.le_of_ble_eq_true rfl) dX10_primitive_401 ⟨Nat.zero_le _, Nat.zero_le _⟩ (fun u219 H locs hP hD hS h => ?_)
                                      exact retR_v E hr hlk hP hD hS h dX10_primitive_404
                                  · have h := h.1 hc
                                    refine lv_iload hx hb dX10_primitive_357 (lv_at hl 1 rfl) ?_
                                    refine lv_iload hx hb dX10_primitive_359 (lv_at hl 0 rfl) ?_
                                    refine lv_isub hx hb dX10_primitive_361 ?_
                                    refine c0_l (As := [.int ((((gB u 42) ((0 : Int32)).toNatClampNeg)).toInt32 - (((gB u 42) ((1 : Int32)).toNatClampNeg)).toInt32)]) (rest := [.ref (G.1 0)]) hx hb hml hown hW hP hS hA (t_X10_number l ((((gB u 42) ((0 : Int32)).toNatClampNeg)).toInt32 - (((gB u 42) ((1 : Int32)).toNatClampNeg)).toInt32) _ h) kmX10_236 mwyX10_number ⟨⟨rfl, rfl⟩, Nat.le_of_ble_eq_true rfl, Nat.le_of_ble_eq_true rfl⟩ rfl hl.1 rfl (Nat.le_of_ble_eq_true rfl) dX10_primitive_362 ⟨Nat.zero_le _, Nat.zero_le _⟩ (fun r220 H locs hP hS h => ?_)
                                    refine lv_goto (tgt := 401) hx hb dX10_primitive_365 (by decide) ?_
                                    refine cR_v (ci := 9) (q0 := 0) (As := [.long r220]) (rest := []) E hml hP hD hS hA (t_X10_gives l D G r220 u _ h) kmX10_286 mwyX10_gives rfl rfl ⟨⟨rfl, rfl⟩, Nat.le_of_ble_eq_true rfl, Nat.le_of_ble_eq_true rfl⟩ rfl hl.1 rfl (Nat.le_of_ble_eq_true rfl) dX10_primitive_401 ⟨Nat.zero_le _, Nat.zero_le _⟩ (fun u221 H locs hP hD hS h => ?_)
                                    exact retR_v E hr hlk hP hD hS h dX10_primitive_404
                                · have h := h.1 hc
                                  refine lv_iload hx hb dX10_primitive_340 (lv_at hl 1 rfl) ?_
                                  refine lv_iload hx hb dX10_primitive_342 (lv_at hl 0 rfl) ?_
                                  refine lv_iadd hx hb dX10_primitive_344 ?_
                                  refine c0_l (As := [.int ((((gB u 42) ((0 : Int32)).toNatClampNeg)).toInt32 + (((gB u 42) ((1 : Int32)).toNatClampNeg)).toInt32)]) (rest := [.ref (G.1 0)]) hx hb hml hown hW hP hS hA (t_X10_number l ((((gB u 42) ((0 : Int32)).toNatClampNeg)).toInt32 + (((gB u 42) ((1 : Int32)).toNatClampNeg)).toInt32) _ h) kmX10_236 mwyX10_number ⟨⟨rfl, rfl⟩, Nat.le_of_ble_eq_true rfl, Nat.le_of_ble_eq_true rfl⟩ rfl hl.1 rfl (Nat.le_of_ble_eq_true rfl) dX10_primitive_345 ⟨Nat.zero_le _, Nat.zero_le _⟩ (fun r222 H locs hP hS h => ?_)
                                  refine lv_goto (tgt := 401) hx hb dX10_primitive_348 (by decide) ?_
                                  refine cR_v (ci := 9) (q0 := 0) (As := [.long r222]) (rest := []) E hml hP hD hS hA (t_X10_gives l D G r222 u _ h) kmX10_286 mwyX10_gives rfl rfl ⟨⟨rfl, rfl⟩, Nat.le_of_ble_eq_true rfl, Nat.le_of_ble_eq_true rfl⟩ rfl hl.1 rfl (Nat.le_of_ble_eq_true rfl) dX10_primitive_401 ⟨Nat.zero_le _, Nat.zero_le _⟩ (fun u223 H locs hP hD hS h => ?_)
                                  exact retR_v E hr hlk hP hD hS h dX10_primitive_404
                              · have h := h.1 hc
                                refine lv_aload_n hx hb dX10_primitive_316 rfl (lv_at hl 3 rfl) ?_
                                refine lv_iconst (v := (2 : Int32)) hx hb dX10_primitive_317 (by decide) ?_
                                refine cR_v (ci := 9) (q0 := 0) (As := [.int (2 : Int32)]) (rest := []) E hml hP hD hS hA (t_X10_fails l D G (2 : Int32) u _ h) kmX10_265 mwyX10_fails rfl rfl ⟨⟨rfl, rfl⟩, Nat.le_of_ble_eq_true rfl, Nat.le_of_ble_eq_true rfl⟩ rfl hl.1 rfl (Nat.le_of_ble_eq_true rfl) dX10_primitive_318 ⟨Nat.zero_le _, Nat.zero_le _⟩ (fun u224 H locs hP hD hS h => ?_)
                                refine lv_goto (tgt := 404) hx hb dX10_primitive_321 (by decide) ?_
                                exact retR_v E hr hlk hP hD hS h dX10_primitive_404
                          · have h := h.1 hc
                            refine lv_aload_n hx hb dX10_primitive_278 rfl (lv_at hl 3 rfl) ?_
                            refine lv_lload_n hx hb dX10_primitive_279 rfl (lv_at hl 1 rfl) ?_
                            refine c0_i (As := [.long ((gB u 42) ((0 : Int32)).toNatClampNeg)]) (rest := [.ref (G.1 0)]) hx hb hml hown hW hP hS hA (t_X10_isNumber l ((gB u 42) ((0 : Int32)).toNatClampNeg) _ h) kmX10_281 mwyX10_isNumber ⟨⟨rfl, rfl⟩, Nat.le_of_ble_eq_true rfl, Nat.le_of_ble_eq_true rfl⟩ rfl hl.1 rfl (Nat.le_of_ble_eq_true rfl) dX10_primitive_280 ⟨Nat.zero_le _, Nat.zero_le _⟩ (fun r225 H locs hP hS h => ?_)
                            refine lv_if_eq (tgt := 292) hx hb dX10_primitive_283 (by decide) (fun hc => ?_) (fun hc => ?_)
                            · have h := h.1 hc
                              refine lv_ldc2 (v := (4294967296 : Int64)) hx hb hown (hW _ kcX10_199) dX10_primitive_292 ?_
                              refine cR_v (ci := 9) (q0 := 0) (As := [.long (4294967296 : Int64)]) (rest := []) E hml hP hD hS hA (t_X10_gives l D G (4294967296 : Int64) u _ h) kmX10_286 mwyX10_gives rfl rfl ⟨⟨rfl, rfl⟩, Nat.le_of_ble_eq_true rfl, Nat.le_of_ble_eq_true rfl⟩ rfl hl.1 rfl (Nat.le_of_ble_eq_true rfl) dX10_primitive_295 ⟨Nat.zero_le _, Nat.zero_le _⟩ (fun u226 H locs hP hD hS h => ?_)
                              refine lv_goto (tgt := 404) hx hb dX10_primitive_298 (by decide) ?_
                              exact retR_v E hr hlk hP hD hS h dX10_primitive_404
                            · have h := h.2 hc
                              refine lv_ldc2 (v := (4294967297 : Int64)) hx hb hown (hW _ kcX10_284) dX10_primitive_286 ?_
                              refine lv_goto (tgt := 295) hx hb dX10_primitive_289 (by decide) ?_
                              refine cR_v (ci := 9) (q0 := 0) (As := [.long (4294967297 : Int64)]) (rest := []) E hml hP hD hS hA (t_X10_gives l D G (4294967297 : Int64) u _ h) kmX10_286 mwyX10_gives rfl rfl ⟨⟨rfl, rfl⟩, Nat.le_of_ble_eq_true rfl, Nat.le_of_ble_eq_true rfl⟩ rfl hl.1 rfl (Nat.le_of_ble_eq_true rfl) dX10_primitive_295 ⟨Nat.zero_le _, Nat.zero_le _⟩ (fun u227 H locs hP hD hS h => ?_)
                              refine lv_goto (tgt := 404) hx hb dX10_primitive_298 (by decide) ?_
                              exact retR_v E hr hlk hP hD hS h dX10_primitive_404
                        · have h := h.1 hc
                          refine lv_aload_n hx hb dX10_primitive_248 rfl (lv_at hl 3 rfl) ?_
                          refine lv_lload_n hx hb dX10_primitive_249 rfl (lv_at hl 1 rfl) ?_
                          refine lv_ldc2 (v := (4294967296 : Int64)) hx hb hown (hW _ kcX10_199) dX10_primitive_250 ?_
                          refine lq_ne (tgt := 263) hx hb dX10_primitive_253 dX10_primitive_254 (by decide) (fun hc => ?_) (fun hc => ?_)
                          · have h := h.2 hc
                            refine lv_ldc2 (v := (4294967296 : Int64)) hx hb hown (hW _ kcX10_199) dX10_primitive_263 ?_
                            refine cR_v (ci := 9) (q0 := 0) (As := [.long (4294967296 : Int64)]) (rest := []) E hml hP hD hS hA (t_X10_gives l D G (4294967296 : Int64) u _ h) kmX10_286 mwyX10_gives rfl rfl ⟨⟨rfl, rfl⟩, Nat.le_of_ble_eq_true rfl, Nat.le_of_ble_eq_true rfl⟩ rfl hl.1 rfl (Nat.le_of_ble_eq_true rfl) dX10_primitive_266 ⟨Nat.zero_le _, Nat.zero_le _⟩ (fun u228 H locs hP hD hS h => ?_)
                            refine lv_goto (tgt := 404) hx hb dX10_primitive_269 (by decide) ?_
                            exact retR_v E hr hlk hP hD hS h dX10_primitive_404
                          · have h := h.1 hc
                            refine lv_ldc2 (v := (4294967297 : Int64)) hx hb hown (hW _ kcX10_284) dX10_primitive_257 ?_
                            refine lv_goto (tgt := 266) hx hb dX10_primitive_260 (by decide) ?_
                            refine cR_v (ci := 9) (q0 := 0) (As := [.long (4294967297 : Int64)]) (rest := []) E hml hP hD hS hA (t_X10_gives l D G (4294967297 : Int64) u _ h) kmX10_286 mwyX10_gives rfl rfl ⟨⟨rfl, rfl⟩, Nat.le_of_ble_eq_true rfl, Nat.le_of_ble_eq_true rfl⟩ rfl hl.1 rfl (Nat.le_of_ble_eq_true rfl) dX10_primitive_266 ⟨Nat.zero_le _, Nat.zero_le _⟩ (fun u229 H locs hP hD hS h => ?_)
                            refine lv_goto (tgt := 404) hx hb dX10_primitive_269 (by decide) ?_
                            exact retR_v E hr hlk hP hD hS h dX10_primitive_404
                      · have h := h.1 hc
                        refine lv_lload_n hx hb dX10_primitive_196 rfl (lv_at hl 1 rfl) ?_
                        refine c0_i (As := [.long ((gB u 42) ((0 : Int32)).toNatClampNeg)]) (rest := []) hx hb hml hown hW hP hS hA (t_X10_isPair l ((gB u 42) ((0 : Int32)).toNatClampNeg) _ h) kmX10_205 mwyX10_isPair ⟨⟨rfl, rfl⟩, Nat.le_of_ble_eq_true rfl, Nat.le_of_ble_eq_true rfl⟩ rfl hl.1 rfl (Nat.le_of_ble_eq_true rfl) dX10_primitive_197 ⟨Nat.zero_le _, Nat.zero_le _⟩ (fun r230 H locs hP hS h => ?_)
                        refine lv_if_ne (tgt := 211) hx hb dX10_primitive_200 (by decide) (fun hc => ?_) (fun hc => ?_)
                        · have h := h.2 hc
                          refine lv_aload_n hx hb dX10_primitive_211 rfl (lv_at hl 3 rfl) ?_
                          refine lv_iconst (v := (2 : Int32)) hx hb dX10_primitive_212 (by decide) ?_
                          refine cR_v (ci := 9) (q0 := 0) (As := [.int (2 : Int32)]) (rest := []) E hml hP hD hS hA (t_X10_fails l D G (2 : Int32) u _ h) kmX10_265 mwyX10_fails rfl rfl ⟨⟨rfl, rfl⟩, Nat.le_of_ble_eq_true rfl, Nat.le_of_ble_eq_true rfl⟩ rfl hl.1 rfl (Nat.le_of_ble_eq_true rfl) dX10_primitive_213 ⟨Nat.zero_le _, Nat.zero_le _⟩ (fun u231 H locs hP hD hS h => ?_)
                          refine lv_goto (tgt := 404) hx hb dX10_primitive_216 (by decide) ?_
                          exact retR_v E hr hlk hP hD hS h dX10_primitive_404
                        · have h := h.1 hc
                          refine lv_lload hx hb dX10_primitive_203 (lv_at hl 0 rfl) ?_
                          refine c0_i (As := [.long ((gB u 42) ((1 : Int32)).toNatClampNeg)]) (rest := []) hx hb hml hown hW hP hS hA (t_X10_isPair l ((gB u 42) ((1 : Int32)).toNatClampNeg) _ h) kmX10_205 mwyX10_isPair ⟨⟨rfl, rfl⟩, Nat.le_of_ble_eq_true rfl, Nat.le_of_ble_eq_true rfl⟩ rfl hl.1 rfl (Nat.le_of_ble_eq_true rfl) dX10_primitive_205 ⟨Nat.zero_le _, Nat.zero_le _⟩ (fun r232 H locs hP hS h => ?_)
                          refine lv_if_eq (tgt := 219) hx hb dX10_primitive_208 (by decide) (fun hc => ?_) (fun hc => ?_)
                          · have h := h.1 hc
                            refine lv_aload_n hx hb dX10_primitive_219 rfl (lv_at hl 3 rfl) ?_
                            refine lv_lload_n hx hb dX10_primitive_220 rfl (lv_at hl 1 rfl) ?_
                            refine lv_lload hx hb dX10_primitive_221 (lv_at hl 0 rfl) ?_
                            refine lq_ne (tgt := 233) hx hb dX10_primitive_223 dX10_primitive_224 (by decide) (fun hc => ?_) (fun hc => ?_)
                            · have h := h.2 hc
                              refine lv_ldc2 (v := (4294967296 : Int64)) hx hb hown (hW _ kcX10_199) dX10_primitive_233 ?_
                              refine cR_v (ci := 9) (q0 := 0) (As := [.long (4294967296 : Int64)]) (rest := []) E hml hP hD hS hA (t_X10_gives l D G (4294967296 : Int64) u _ h) kmX10_286 mwyX10_gives rfl rfl ⟨⟨rfl, rfl⟩, Nat.le_of_ble_eq_true rfl, Nat.le_of_ble_eq_true rfl⟩ rfl hl.1 rfl (Nat.le_of_ble_eq_true rfl) dX10_primitive_236 ⟨Nat.zero_le _, Nat.zero_le _⟩ (fun u233 H locs hP hD hS h => ?_)
                              refine lv_goto (tgt := 404) hx hb dX10_primitive_239 (by decide) ?_
                              exact retR_v E hr hlk hP hD hS h dX10_primitive_404
                            · have h := h.1 hc
                              refine lv_ldc2 (v := (4294967297 : Int64)) hx hb hown (hW _ kcX10_284) dX10_primitive_227 ?_
                              refine lv_goto (tgt := 236) hx hb dX10_primitive_230 (by decide) ?_
                              refine cR_v (ci := 9) (q0 := 0) (As := [.long (4294967297 : Int64)]) (rest := []) E hml hP hD hS hA (t_X10_gives l D G (4294967297 : Int64) u _ h) kmX10_286 mwyX10_gives rfl rfl ⟨⟨rfl, rfl⟩, Nat.le_of_ble_eq_true rfl, Nat.le_of_ble_eq_true rfl⟩ rfl hl.1 rfl (Nat.le_of_ble_eq_true rfl) dX10_primitive_236 ⟨Nat.zero_le _, Nat.zero_le _⟩ (fun u234 H locs hP hD hS h => ?_)
                              refine lv_goto (tgt := 404) hx hb dX10_primitive_239 (by decide) ?_
                              exact retR_v E hr hlk hP hD hS h dX10_primitive_404
                          · have h := h.2 hc
                            refine lv_aload_n hx hb dX10_primitive_211 rfl (lv_at hl 3 rfl) ?_
                            refine lv_iconst (v := (2 : Int32)) hx hb dX10_primitive_212 (by decide) ?_
                            refine cR_v (ci := 9) (q0 := 0) (As := [.int (2 : Int32)]) (rest := []) E hml hP hD hS hA (t_X10_fails l D G (2 : Int32) u _ h) kmX10_265 mwyX10_fails rfl rfl ⟨⟨rfl, rfl⟩, Nat.le_of_ble_eq_true rfl, Nat.le_of_ble_eq_true rfl⟩ rfl hl.1 rfl (Nat.le_of_ble_eq_true rfl) dX10_primitive_213 ⟨Nat.zero_le _, Nat.zero_le _⟩ (fun u235 H locs hP hD hS h => ?_)
                            refine lv_goto (tgt := 404) hx hb dX10_primitive_216 (by decide) ?_
                            exact retR_v E hr hlk hP hD hS h dX10_primitive_404
                    · have h := h.1 hc
                      refine lv_aload_n hx hb dX10_primitive_167 rfl (lv_at hl 3 rfl) ?_
                      refine lv_lload_n hx hb dX10_primitive_168 rfl (lv_at hl 1 rfl) ?_
                      refine c0_i (As := [.long ((gB u 42) ((0 : Int32)).toNatClampNeg)]) (rest := [.ref (G.1 0)]) hx hb hml hown hW hP hS hA (t_X10_isPair l ((gB u 42) ((0 : Int32)).toNatClampNeg) _ h) kmX10_205 mwyX10_isPair ⟨⟨rfl, rfl⟩, Nat.le_of_ble_eq_true rfl, Nat.le_of_ble_eq_true rfl⟩ rfl hl.1 rfl (Nat.le_of_ble_eq_true rfl) dX10_primitive_169 ⟨Nat.zero_le _, Nat.zero_le _⟩ (fun r236 H locs hP hS h => ?_)
                      refine lv_if_eq (tgt := 181) hx hb dX10_primitive_172 (by decide) (fun hc => ?_) (fun hc => ?_)
                      · have h := h.1 hc
                        refine lv_ldc2 (v := (4294967297 : Int64)) hx hb hown (hW _ kcX10_284) dX10_primitive_181 ?_
                        refine cR_v (ci := 9) (q0 := 0) (As := [.long (4294967297 : Int64)]) (rest := []) E hml hP hD hS hA (t_X10_gives l D G (4294967297 : Int64) u _ h) kmX10_286 mwyX10_gives rfl rfl ⟨⟨rfl, rfl⟩, Nat.le_of_ble_eq_true rfl, Nat.le_of_ble_eq_true rfl⟩ rfl hl.1 rfl (Nat.le_of_ble_eq_true rfl) dX10_primitive_184 ⟨Nat.zero_le _, Nat.zero_le _⟩ (fun u237 H locs hP hD hS h => ?_)
                        refine lv_goto (tgt := 404) hx hb dX10_primitive_187 (by decide) ?_
                        exact retR_v E hr hlk hP hD hS h dX10_primitive_404
                      · have h := h.2 hc
                        refine lv_ldc2 (v := (4294967296 : Int64)) hx hb hown (hW _ kcX10_199) dX10_primitive_175 ?_
                        refine lv_goto (tgt := 184) hx hb dX10_primitive_178 (by decide) ?_
                        refine cR_v (ci := 9) (q0 := 0) (As := [.long (4294967296 : Int64)]) (rest := []) E hml hP hD hS hA (t_X10_gives l D G (4294967296 : Int64) u _ h) kmX10_286 mwyX10_gives rfl rfl ⟨⟨rfl, rfl⟩, Nat.le_of_ble_eq_true rfl, Nat.le_of_ble_eq_true rfl⟩ rfl hl.1 rfl (Nat.le_of_ble_eq_true rfl) dX10_primitive_184 ⟨Nat.zero_le _, Nat.zero_le _⟩ (fun u238 H locs hP hD hS h => ?_)
                        refine lv_goto (tgt := 404) hx hb dX10_primitive_187 (by decide) ?_
                        exact retR_v E hr hlk hP hD hS h dX10_primitive_404
                  · have h := h.1 hc
                    refine lv_aload_n hx hb dX10_primitive_124 rfl (lv_at hl 3 rfl) ?_
                    refine cR_v (ci := 9) (q0 := 0) (As := []) (rest := []) E hml hP hD hS hA (t_X10_holdWaiting l D G  u _ h) kmX10_304 mwyX10_holdWaiting rfl rfl ⟨⟨rfl, rfl⟩, Nat.le_of_ble_eq_true rfl, Nat.le_of_ble_eq_true rfl⟩ rfl hl.1 rfl (Nat.le_of_ble_eq_true rfl) dX10_primitive_125 ⟨Nat.zero_le _, Nat.zero_le _⟩ (fun u239 H locs hP hD hS h => ?_)
                    refine lv_aload_n hx hb dX10_primitive_128 rfl (lv_at hl 3 rfl) ?_
                    refine lv_lload_n hx hb dX10_primitive_129 rfl (lv_at hl 1 rfl) ?_
                    refine cR_v (ci := 9) (q0 := 0) (As := [.long ((gB u 42) ((0 : Int32)).toNatClampNeg)]) (rest := []) E hml hP hD hS hA (t_X10_hold l D G ((gB u 42) ((0 : Int32)).toNatClampNeg) u239 _ h) kmX10_213 mwyX10_hold rfl rfl ⟨⟨rfl, rfl⟩, Nat.le_of_ble_eq_true rfl, Nat.le_of_ble_eq_true rfl⟩ rfl hl.1 rfl (Nat.le_of_ble_eq_true rfl) dX10_primitive_130 ⟨Nat.zero_le _, Nat.zero_le _⟩ (fun u240 H locs hP hD hS h => ?_)
                    refine lv_aload_n hx hb dX10_primitive_133 rfl (lv_at hl 3 rfl) ?_
                    refine lv_lload hx hb dX10_primitive_134 (lv_at hl 0 rfl) ?_
                    refine cR_v (ci := 9) (q0 := 0) (As := [.long ((gB u 42) ((1 : Int32)).toNatClampNeg)]) (rest := []) E hml hP hD hS hA (t_X10_hold l D G ((gB u 42) ((1 : Int32)).toNatClampNeg) u240 _ h) kmX10_213 mwyX10_hold rfl rfl ⟨⟨rfl, rfl⟩, Nat.le_of_ble_eq_true rfl, Nat.le_of_ble_eq_true rfl⟩ rfl hl.1 rfl (Nat.le_of_ble_eq_true rfl) dX10_primitive_136 ⟨Nat.zero_le _, Nat.zero_le _⟩ (fun u241 H locs hP hD hS h => ?_)
                    refine lv_aload_n hx hb dX10_primitive_139 rfl (lv_at hl 3 rfl) ?_
                    refine lv_iconst (v := (1 : Int32)) hx hb dX10_primitive_140 (by decide) ?_
                    refine cR_i (ci := 9) (q0 := 0) (As := [.int (1 : Int32)]) (rest := []) E hml hP hD hS hA (t_X10_room l D G (1 : Int32) u241 _ h) kmX10_307 mwyX10_room rfl rfl ⟨⟨rfl, rfl⟩, Nat.le_of_ble_eq_true rfl, Nat.le_of_ble_eq_true rfl⟩ rfl hl.1 rfl (Nat.le_of_ble_eq_true rfl) dX10_primitive_141 ⟨Nat.zero_le _, Nat.zero_le _⟩ (fun r242 u243 H locs hP hD hS h => ?_)
                    refine lv_if_eq (tgt := 404) hx hb dX10_primitive_144 (by decide) (fun hc => ?_) (fun hc => ?_)
                    · have h := h.1 hc
                      exact retR_v E hr hlk hP hD hS h dX10_primitive_404
                    · have h := h.2 hc
                      refine lv_aload_n hx hb dX10_primitive_147 rfl (lv_at hl 3 rfl) ?_
                      refine lv_aload_n hx hb dX10_primitive_148 rfl (lv_at hl 3 rfl) ?_
                      refine lv_lload_n hx hb dX10_primitive_149 rfl (lv_at hl 1 rfl) ?_
                      refine lv_lload hx hb dX10_primitive_150 (lv_at hl 0 rfl) ?_
                      refine cR_l (ci := 9) (q0 := 0) (As := [.long ((gB u 42) ((0 : Int32)).toNatClampNeg), .long ((gB u 42) ((1 : Int32)).toNatClampNeg)]) (rest := [.ref (G.1 0)]) E hml hP hD hS hA (t_X10_pair l D G ((gB u 42) ((0 : Int32)).toNatClampNeg) ((gB u 42) ((1 : Int32)).toNatClampNeg) u243 _ h) kmX10_244 mwyX10_pair rfl rfl ⟨⟨rfl, rfl⟩, Nat.le_of_ble_eq_true rfl, Nat.le_of_ble_eq_true rfl⟩ rfl hl.1 rfl (Nat.le_of_ble_eq_true rfl) dX10_primitive_152 ⟨Nat.zero_le _, Nat.zero_le _⟩ (fun r244 u245 H locs hP hD hS h => ?_)
                      refine cR_v (ci := 9) (q0 := 0) (As := [.long r244]) (rest := []) E hml hP hD hS hA (t_X10_gives l D G r244 u245 _ h) kmX10_286 mwyX10_gives rfl rfl ⟨⟨rfl, rfl⟩, Nat.le_of_ble_eq_true rfl, Nat.le_of_ble_eq_true rfl⟩ rfl hl.1 rfl (Nat.le_of_ble_eq_true rfl) dX10_primitive_155 ⟨Nat.zero_le _, Nat.zero_le _⟩ (fun u246 H locs hP hD hS h => ?_)
                      refine lv_goto (tgt := 404) hx hb dX10_primitive_158 (by decide) ?_
                      exact retR_v E hr hlk hP hD hS h dX10_primitive_404
                · have h := h.1 hc
                  refine lv_lload_n hx hb dX10_primitive_77 rfl (lv_at hl 1 rfl) ?_
                  refine c0_i (As := [.long ((gB u 42) ((0 : Int32)).toNatClampNeg)]) (rest := []) hx hb hml hown hW hP hS hA (t_X10_isPair l ((gB u 42) ((0 : Int32)).toNatClampNeg) _ h) kmX10_205 mwyX10_isPair ⟨⟨rfl, rfl⟩, Nat.le_of_ble_eq_true rfl, Nat.le_of_ble_eq_true rfl⟩ rfl hl.1 rfl (Nat.le_of_ble_eq_true rfl) dX10_primitive_78 ⟨Nat.zero_le _, Nat.zero_le _⟩ (fun r247 H locs hP hS h => ?_)
                  refine lv_if_ne (tgt := 92) hx hb dX10_primitive_81 (by decide) (fun hc => ?_) (fun hc => ?_)
                  · have h := h.2 hc
                    refine lv_aload_n hx hb dX10_primitive_92 rfl (lv_at hl 3 rfl) ?_
                    refine lv_iload_n hx hb dX10_primitive_93 rfl (lv_at hl 4 rfl) ?_
                    refine lv_bipush (v := (7 : Int32)) hx hb dX10_primitive_94 (by decide) ?_
                    refine lv_icmp_ne (tgt := 107) hx hb dX10_primitive_96 (by decide) (fun hc => ?_) (fun hc => ?_)
                    · have h := h.2 hc
                      refine lv_aload_n hx hb dX10_primitive_107 rfl (lv_at hl 3 rfl) ?_
                      refine lv_lload_n hx hb dX10_primitive_108 rfl (lv_at hl 1 rfl) ?_
                      refine cR_l (ci := 9) (q0 := 0) (As := [.long ((gB u 42) ((0 : Int32)).toNatClampNeg)]) (rest := [.ref (G.1 0)]) E hml hP hD hS hA (t_X10_behind l D G ((gB u 42) ((0 : Int32)).toNatClampNeg) u _ h) kmX10_216 mwyX10_behind rfl rfl ⟨⟨rfl, rfl⟩, Nat.le_of_ble_eq_true rfl, Nat.le_of_ble_eq_true rfl⟩ rfl hl.1 rfl (Nat.le_of_ble_eq_true rfl) dX10_primitive_109 ⟨Nat.zero_le _, Nat.zero_le _⟩ (fun r248 u249 H locs hP hD hS h => ?_)
                      refine cR_v (ci := 9) (q0 := 0) (As := [.long r248]) (rest := []) E hml hP hD hS hA (t_X10_gives l D G r248 u249 _ h) kmX10_286 mwyX10_gives rfl rfl ⟨⟨rfl, rfl⟩, Nat.le_of_ble_eq_true rfl, Nat.le_of_ble_eq_true rfl⟩ rfl hl.1 rfl (Nat.le_of_ble_eq_true rfl) dX10_primitive_112 ⟨Nat.zero_le _, Nat.zero_le _⟩ (fun u250 H locs hP hD hS h => ?_)
                      refine lv_goto (tgt := 404) hx hb dX10_primitive_115 (by decide) ?_
                      exact retR_v E hr hlk hP hD hS h dX10_primitive_404
                    · have h := h.1 hc
                      refine lv_aload_n hx hb dX10_primitive_99 rfl (lv_at hl 3 rfl) ?_
                      refine lv_lload_n hx hb dX10_primitive_100 rfl (lv_at hl 1 rfl) ?_
                      refine cR_l (ci := 9) (q0 := 0) (As := [.long ((gB u 42) ((0 : Int32)).toNatClampNeg)]) (rest := [.ref (G.1 0)]) E hml hP hD hS hA (t_X10_first l D G ((gB u 42) ((0 : Int32)).toNatClampNeg) u _ h) kmX10_209 mwyX10_first rfl rfl ⟨⟨rfl, rfl⟩, Nat.le_of_ble_eq_true rfl, Nat.le_of_ble_eq_true rfl⟩ rfl hl.1 rfl (Nat.le_of_ble_eq_true rfl) dX10_primitive_101 ⟨Nat.zero_le _, Nat.zero_le _⟩ (fun r251 u252 H locs hP hD hS h => ?_)
                      refine lv_goto (tgt := 112) hx hb dX10_primitive_104 (by decide) ?_
                      refine cR_v (ci := 9) (q0 := 0) (As := [.long r251]) (rest := []) E hml hP hD hS hA (t_X10_gives l D G r251 u252 _ h) kmX10_286 mwyX10_gives rfl rfl ⟨⟨rfl, rfl⟩, Nat.le_of_ble_eq_true rfl, Nat.le_of_ble_eq_true rfl⟩ rfl hl.1 rfl (Nat.le_of_ble_eq_true rfl) dX10_primitive_112 ⟨Nat.zero_le _, Nat.zero_le _⟩ (fun u253 H locs hP hD hS h => ?_)
                      refine lv_goto (tgt := 404) hx hb dX10_primitive_115 (by decide) ?_
                      exact retR_v E hr hlk hP hD hS h dX10_primitive_404
                  · have h := h.1 hc
                    refine lv_aload_n hx hb dX10_primitive_84 rfl (lv_at hl 3 rfl) ?_
                    refine lv_iconst (v := (2 : Int32)) hx hb dX10_primitive_85 (by decide) ?_
                    refine cR_v (ci := 9) (q0 := 0) (As := [.int (2 : Int32)]) (rest := []) E hml hP hD hS hA (t_X10_fails l D G (2 : Int32) u _ h) kmX10_265 mwyX10_fails rfl rfl ⟨⟨rfl, rfl⟩, Nat.le_of_ble_eq_true rfl, Nat.le_of_ble_eq_true rfl⟩ rfl hl.1 rfl (Nat.le_of_ble_eq_true rfl) dX10_primitive_86 ⟨Nat.zero_le _, Nat.zero_le _⟩ (fun u254 H locs hP hD hS h => ?_)
                    refine lv_goto (tgt := 404) hx hb dX10_primitive_89 (by decide) ?_
                    exact retR_v E hr hlk hP hD hS h dX10_primitive_404
            · have h := h.2 hc
              refine lv_aload_n hx hb dX10_primitive_44 rfl (lv_at hl 1 rfl) ?_
              refine lv_iconst (v := (3 : Int32)) hx hb dX10_primitive_45 (by decide) ?_
              refine cR_v (ci := 9) (q0 := 0) (As := [.int (3 : Int32)]) (rest := []) E hml hP hD hS hA (t_X10_fails l D G (3 : Int32) u _ h) kmX10_265 mwyX10_fails rfl rfl ⟨⟨rfl, rfl⟩, Nat.le_of_ble_eq_true rfl, Nat.le_of_ble_eq_true rfl⟩ rfl hl.1 rfl (Nat.le_of_ble_eq_true rfl) dX10_primitive_46 ⟨Nat.zero_le _, Nat.zero_le _⟩ (fun u255 H locs hP hD hS h => ?_)
              exact retR_v E hr hlk hP hD hS h dX10_primitive_49
          · have h := h.1 hc
            refine lv_iconst (v := (1 : Int32)) hx hb dX10_primitive_30 (by decide) ?_
            refine lv_goto (tgt := 35) hx hb dX10_primitive_31 (by decide) ?_
            refine lv_istore_n (lv' := [(2, .int (1 : Int32)), (0, .ref (G.1 0)), (1, .int p0)]) hx hb dX10_primitive_35 rfl hl (by decide) rfl (fun ls hl => ?_)
            refine lv_aload_n hx hb dX10_primitive_36 rfl (lv_at hl 1 rfl) ?_
            refine gR_43 E hP kfX10_144 (v := (gI u 43)) rfl dX10_primitive_37 ?_
            refine lv_iload_n hx hb dX10_primitive_40 rfl (lv_at hl 0 rfl) ?_
            refine lv_icmp_eq (tgt := 50) hx hb dX10_primitive_41 (by decide) (fun hc => ?_) (fun hc => ?_)
            · have h := h.1 hc
              refine lv_aload_n hx hb dX10_primitive_50 rfl (lv_at hl 1 rfl) ?_
              refine gR_42 E hP kfX10_141 dX10_primitive_51 ?_
              refine lv_iconst (v := (0 : Int32)) hx hb dX10_primitive_54 (by decide) ?_
              refine xR_42 E hP (by unfold vp_in; decide) (v := ((gB u 42) ((0 : Int32)).toNatClampNeg)) rfl dX10_primitive_55 ?_
              refine lv_lstore_n (lv' := [(3, .long ((gB u 42) ((0 : Int32)).toNatClampNeg)), (2, .int (1 : Int32)), (0, .ref (G.1 0)), (1, .int p0)]) hx hb dX10_primitive_56 rfl hl (by decide) rfl (fun ls hl => ?_)
              refine lv_aload_n hx hb dX10_primitive_57 rfl (lv_at hl 2 rfl) ?_
              refine gR_42 E hP kfX10_141 dX10_primitive_58 ?_
              refine lv_iconst (v := (1 : Int32)) hx hb dX10_primitive_61 (by decide) ?_
              refine xR_42 E hP (by unfold vp_in; decide) (v := ((gB u 42) ((1 : Int32)).toNatClampNeg)) rfl dX10_primitive_62 ?_
              refine lv_lstore (lv' := [(5, .long ((gB u 42) ((1 : Int32)).toNatClampNeg)), (3, .long ((gB u 42) ((0 : Int32)).toNatClampNeg)), (2, .int (1 : Int32)), (0, .ref (G.1 0)), (1, .int p0)]) hx hb dX10_primitive_63 hl (by decide) rfl (fun ls hl => ?_)
              refine lv_iload_n hx hb dX10_primitive_65 rfl (lv_at hl 4 rfl) ?_
              refine lv_bipush (v := (7 : Int32)) hx hb dX10_primitive_66 (by decide) ?_
              refine lv_icmp_eq (tgt := 77) hx hb dX10_primitive_68 (by decide) (fun hc => ?_) (fun hc => ?_)
              · have h := h.1 hc
                refine lv_lload_n hx hb dX10_primitive_77 rfl (lv_at hl 1 rfl) ?_
                refine c0_i (As := [.long ((gB u 42) ((0 : Int32)).toNatClampNeg)]) (rest := []) hx hb hml hown hW hP hS hA (t_X10_isPair l ((gB u 42) ((0 : Int32)).toNatClampNeg) _ h) kmX10_205 mwyX10_isPair ⟨⟨rfl, rfl⟩, Nat.le_of_ble_eq_true rfl, Nat.le_of_ble_eq_true rfl⟩ rfl hl.1 rfl (Nat.le_of_ble_eq_true rfl) dX10_primitive_78 ⟨Nat.zero_le _, Nat.zero_le _⟩ (fun r256 H locs hP hS h => ?_)
                refine lv_if_ne (tgt := 92) hx hb dX10_primitive_81 (by decide) (fun hc => ?_) (fun hc => ?_)
                · have h := h.2 hc
                  refine lv_aload_n hx hb dX10_primitive_92 rfl (lv_at hl 3 rfl) ?_
                  refine lv_iload_n hx hb dX10_primitive_93 rfl (lv_at hl 4 rfl) ?_
                  refine lv_bipush (v := (7 : Int32)) hx hb dX10_primitive_94 (by decide) ?_
                  refine lv_icmp_ne (tgt := 107) hx hb dX10_primitive_96 (by decide) (fun hc => ?_) (fun hc => ?_)
                  · have h := h.2 hc
                    refine lv_aload_n hx hb dX10_primitive_107 rfl (lv_at hl 3 rfl) ?_
                    refine lv_lload_n hx hb dX10_primitive_108 rfl (lv_at hl 1 rfl) ?_
                    refine cR_l (ci := 9) (q0 := 0) (As := [.long ((gB u 42) ((0 : Int32)).toNatClampNeg)]) (rest := [.ref (G.1 0)]) E hml hP hD hS hA (t_X10_behind l D G ((gB u 42) ((0 : Int32)).toNatClampNeg) u _ h) kmX10_216 mwyX10_behind rfl rfl ⟨⟨rfl, rfl⟩, Nat.le_of_ble_eq_true rfl, Nat.le_of_ble_eq_true rfl⟩ rfl hl.1 rfl (Nat.le_of_ble_eq_true rfl) dX10_primitive_109 ⟨Nat.zero_le _, Nat.zero_le _⟩ (fun r257 u258 H locs hP hD hS h => ?_)
                    refine cR_v (ci := 9) (q0 := 0) (As := [.long r257]) (rest := []) E hml hP hD hS hA (t_X10_gives l D G r257 u258 _ h) kmX10_286 mwyX10_gives rfl rfl ⟨⟨rfl, rfl⟩, Nat.le_of_ble_eq_true rfl, Nat.le_of_ble_eq_true rfl⟩ rfl hl.1 rfl (Nat.le_of_ble_eq_true rfl) dX10_primitive_112 ⟨Nat.zero_le _, Nat.zero_le _⟩ (fun u259 H locs hP hD hS h => ?_)
                    refine lv_goto (tgt := 404) hx hb dX10_primitive_115 (by decide) ?_
                    exact retR_v E hr hlk hP hD hS h dX10_primitive_404
                  · have h := h.1 hc
                    refine lv_aload_n hx hb dX10_primitive_99 rfl (lv_at hl 3 rfl) ?_
                    refine lv_lload_n hx hb dX10_primitive_100 rfl (lv_at hl 1 rfl) ?_
                    refine cR_l (ci := 9) (q0 := 0) (As := [.long ((gB u 42) ((0 : Int32)).toNatClampNeg)]) (rest := [.ref (G.1 0)]) E hml hP hD hS hA (t_X10_first l D G ((gB u 42) ((0 : Int32)).toNatClampNeg) u _ h) kmX10_209 mwyX10_first rfl rfl ⟨⟨rfl, rfl⟩, Nat.le_of_ble_eq_true rfl, Nat.le_of_ble_eq_true rfl⟩ rfl hl.1 rfl (Nat.le_of_ble_eq_true rfl) dX10_primitive_101 ⟨Nat.zero_le _, Nat.zero_le _⟩ (fun r260 u261 H locs hP hD hS h => ?_)
                    refine lv_goto (tgt := 112) hx hb dX10_primitive_104 (by decide) ?_
                    refine cR_v (ci := 9) (q0 := 0) (As := [.long r260]) (rest := []) E hml hP hD hS hA (t_X10_gives l D G r260 u261 _ h) kmX10_286 mwyX10_gives rfl rfl ⟨⟨rfl, rfl⟩, Nat.le_of_ble_eq_true rfl, Nat.le_of_ble_eq_true rfl⟩ rfl hl.1 rfl (Nat.le_of_ble_eq_true rfl) dX10_primitive_112 ⟨Nat.zero_le _, Nat.zero_le _⟩ (fun u262 H locs hP hD hS h => ?_)
                    refine lv_goto (tgt := 404) hx hb dX10_primitive_115 (by decide) ?_
                    exact retR_v E hr hlk hP hD hS h dX10_primitive_404
                · have h := h.1 hc
                  refine lv_aload_n hx hb dX10_primitive_84 rfl (lv_at hl 3 rfl) ?_
                  refine lv_iconst (v := (2 : Int32)) hx hb dX10_primitive_85 (by decide) ?_
                  refine cR_v (ci := 9) (q0 := 0) (As := [.int (2 : Int32)]) (rest := []) E hml hP hD hS hA (t_X10_fails l D G (2 : Int32) u _ h) kmX10_265 mwyX10_fails rfl rfl ⟨⟨rfl, rfl⟩, Nat.le_of_ble_eq_true rfl, Nat.le_of_ble_eq_true rfl⟩ rfl hl.1 rfl (Nat.le_of_ble_eq_true rfl) dX10_primitive_86 ⟨Nat.zero_le _, Nat.zero_le _⟩ (fun u263 H locs hP hD hS h => ?_)
                  refine lv_goto (tgt := 404) hx hb dX10_primitive_89 (by decide) ?_
                  exact retR_v E hr hlk hP hD hS h dX10_primitive_404
              · have h := h.2 hc
                refine lv_iload_n hx hb dX10_primitive_71 rfl (lv_at hl 4 rfl) ?_
                refine lv_bipush (v := (8 : Int32)) hx hb dX10_primitive_72 (by decide) ?_
                refine lv_icmp_ne (tgt := 118) hx hb dX10_primitive_74 (by decide) (fun hc => ?_) (fun hc => ?_)
                · have h := h.2 hc
                  refine lv_iload_n hx hb dX10_primitive_118 rfl (lv_at hl 4 rfl) ?_
                  refine lv_bipush (v := (9 : Int32)) hx hb dX10_primitive_119 (by decide) ?_
                  refine lv_icmp_ne (tgt := 161) hx hb dX10_primitive_121 (by decide) (fun hc => ?_) (fun hc => ?_)
                  · have h := h.2 hc
                    refine lv_iload_n hx hb dX10_primitive_161 rfl (lv_at hl 4 rfl) ?_
                    refine lv_bipush (v := (10 : Int32)) hx hb dX10_primitive_162 (by decide) ?_
                    refine lv_icmp_ne (tgt := 190) hx hb dX10_primitive_164 (by decide) (fun hc => ?_) (fun hc => ?_)
                    · have h := h.2 hc
                      refine lv_iload_n hx hb dX10_primitive_190 rfl (lv_at hl 4 rfl) ?_
                      refine lv_bipush (v := (11 : Int32)) hx hb dX10_primitive_191 (by decide) ?_
                      refine lv_icmp_ne (tgt := 242) hx hb dX10_primitive_193 (by decide) (fun hc => ?_) (fun hc => ?_)
                      · have h := h.2 hc
                        refine lv_iload_n hx hb dX10_primitive_242 rfl (lv_at hl 4 rfl) ?_
                        refine lv_bipush (v := (12 : Int32)) hx hb dX10_primitive_243 (by decide) ?_
                        refine lv_icmp_ne (tgt := 272) hx hb dX10_primitive_245 (by decide) (fun hc => ?_) (fun hc => ?_)
                        · have h := h.2 hc
                          refine lv_iload_n hx hb dX10_primitive_272 rfl (lv_at hl 4 rfl) ?_
                          refine lv_bipush (v := (13 : Int32)) hx hb dX10_primitive_273 (by decide) ?_
                          refine lv_icmp_ne (tgt := 301) hx hb dX10_primitive_275 (by decide) (fun hc => ?_) (fun hc => ?_)
                          · have h := h.2 hc
                            refine lv_lload_n hx hb dX10_primitive_301 rfl (lv_at hl 1 rfl) ?_
                            refine c0_i (As := [.long ((gB u 42) ((0 : Int32)).toNatClampNeg)]) (rest := []) hx hb hml hown hW hP hS hA (t_X10_isNumber l ((gB u 42) ((0 : Int32)).toNatClampNeg) _ h) kmX10_281 mwyX10_isNumber ⟨⟨rfl, rfl⟩, Nat.le_of_ble_eq_true rfl, Nat.le_of_ble_eq_true rfl⟩ rfl hl.1 rfl (Nat.le_of_ble_eq_true rfl) dX10_primitive_302 ⟨Nat.zero_le _, Nat.zero_le _⟩ (fun r264 H locs hP hS h => ?_)
                            refine lv_if_eq (tgt := 316) hx hb dX10_primitive_305 (by decide) (fun hc => ?_) (fun hc => ?_)
                            · have h := h.1 hc
                              refine lv_aload_n hx hb dX10_primitive_316 rfl (lv_at hl 3 rfl) ?_
                              refine lv_iconst (v := (2 : Int32)) hx hb dX10_primitive_317 (by decide) ?_
                              refine cR_v (ci := 9) (q0 := 0) (As := [.int (2 : Int32)]) (rest := []) E hml hP hD hS hA (t_X10_fails l D G (2 : Int32) u _ h) kmX10_265 mwyX10_fails rfl rfl ⟨⟨rfl, rfl⟩, Nat.le_of_ble_eq_true rfl, Nat.le_of_ble_eq_true rfl⟩ rfl hl.1 rfl (Nat.le_of_ble_eq_true rfl) dX10_primitive_318 ⟨Nat.zero_le _, Nat.zero_le _⟩ (fun u265 H locs hP hD hS h => ?_)
                              refine lv_goto (tgt := 404) hx hb dX10_primitive_321 (by decide) ?_
                              exact retR_v E hr hlk hP hD hS h dX10_primitive_404
                            · have h := h.2 hc
                              refine lv_lload hx hb dX10_primitive_308 (lv_at hl 0 rfl) ?_
                              refine c0_i (As := [.long ((gB u 42) ((1 : Int32)).toNatClampNeg)]) (rest := []) hx hb hml hown hW hP hS hA (t_X10_isNumber l ((gB u 42) ((1 : Int32)).toNatClampNeg) _ h) kmX10_281 mwyX10_isNumber ⟨⟨rfl, rfl⟩, Nat.le_of_ble_eq_true rfl, Nat.le_of_ble_eq_true rfl⟩ rfl hl.1 rfl (Nat.le_of_ble_eq_true rfl) dX10_primitive_310 ⟨Nat.zero_le _, Nat.zero_le _⟩ (fun r266 H locs hP hS h => ?_)
                              refine lv_if_ne (tgt := 324) hx hb dX10_primitive_313 (by decide) (fun hc => ?_) (fun hc => ?_)
                              · have h := h.2 hc
                                refine lv_lload_n hx hb dX10_primitive_324 rfl (lv_at hl 1 rfl) ?_
                                refine lv_l2i (v := (((gB u 42) ((0 : Int32)).toNatClampNeg)).toInt32) hx hb dX10_primitive_325 rfl ?_
                                refine lv_istore (lv' := [(7, .int (((gB u 42) ((0 : Int32)).toNatClampNeg)).toInt32), (5, .long ((gB u 42) ((1 : Int32)).toNatClampNeg)), (3, .long ((gB u 42) ((0 : Int32)).toNatClampNeg)), (2, .int (1 : Int32)), (0, .ref (G.1 0)), (1, .int p0)]) hx hb dX10_primitive_326 hl (by decide) rfl (fun ls hl => ?_)
                                refine lv_lload hx hb dX10_primitive_328 (lv_at hl 1 rfl) ?_
                                refine lv_l2i (v := (((gB u 42) ((1 : Int32)).toNatClampNeg)).toInt32) hx hb dX10_primitive_330 rfl ?_
                                refine lv_istore (lv' := [(8, .int (((gB u 42) ((1 : Int32)).toNatClampNeg)).toInt32), (7, .int (((gB u 42) ((0 : Int32)).toNatClampNeg)).toInt32), (5, .long ((gB u 42) ((1 : Int32)).toNatClampNeg)), (3, .long ((gB u 42) ((0 : Int32)).toNatClampNeg)), (2, .int (1 : Int32)), (0, .ref (G.1 0)), (1, .int p0)]) hx hb dX10_primitive_331 hl (by decide) rfl (fun ls hl => ?_)
                                refine lv_aload_n hx hb dX10_primitive_333 rfl (lv_at hl 5 rfl) ?_
                                refine lv_iload_n hx hb dX10_primitive_334 rfl (lv_at hl 6 rfl) ?_
                                refine lv_bipush (v := (14 : Int32)) hx hb dX10_primitive_335 (by decide) ?_
                                refine lv_icmp_ne (tgt := 351) hx hb dX10_primitive_337 (by decide) (fun hc => ?_) (fun hc => ?_)
                                · have h := h.2 hc
                                  refine lv_iload_n hx hb dX10_primitive_351 rfl (lv_at hl 6 rfl) ?_
                                  refine lv_bipush (v := (15 : Int32)) hx hb dX10_primitive_352 (by decide) ?_
                                  refine lv_icmp_ne (tgt := 368) hx hb dX10_primitive_354 (by decide) (fun hc => ?_) (fun hc => ?_)
                                  · have h := h.2 hc
                                    refine lv_iload_n hx hb dX10_primitive_368 rfl (lv_at hl 6 rfl) ?_
                                    refine lv_bipush (v := (16 : Int32)) hx hb dX10_primitive_369 (by decide) ?_
                                    refine lv_icmp_ne (tgt := 385) hx hb dX10_primitive_371 (by decide) (fun hc => ?_) (fun hc => ?_)
                                    · have h := h.2 hc
                                      refine lv_iload hx hb dX10_primitive_385 (lv_at hl 1 rfl) ?_
                                      refine lv_iload hx hb dX10_primitive_387 (lv_at hl 0 rfl) ?_
                                      refine lv_icmp_ge (tgt := 398) hx hb dX10_primitive_389 (by decide) (fun hc => ?_) (fun hc => ?_)
                                      · have h := h.1 hc
                                        refine lv_ldc2 (v := (4294967296 : Int64)) hx hb hown (hW _ kcX10_199) dX10_primitive_398 ?_
                                        refine cR_v (ci := 9) (q0 := 0) (As := [.long (4294967296 : Int64)]) (rest := []) E hml hP hD hS hA (t_X10_gives l D G (4294967296 : Int64) u _ h) kmX10_286 mwyX10_gives rfl rfl ⟨⟨rfl, rfl⟩, Nat.le_of_ble_eq_true rfl, Nat.le_of_ble_eq_true rfl⟩ rfl hl.1 rfl (Nat.le_of_ble_eq_true rfl) dX10_primitive_401 ⟨Nat.zero_le _, Nat.zero_le _⟩ (fun u267 H locs hP hD hS h => ?_)
                                        exact retR_v E hr hlk hP hD hS h dX10_primitive_404
                                      · have h := h.2 hc
                                        refine lv_ldc2 (v := (4294967297 : Int64)) hx hb hown (hW _ kcX10_284) dX10_primitive_392 ?_
                                        refine lv_goto (tgt := 401) hx hb dX10_primitive_395 (by decide) ?_
                                        refine cR_v (ci := 9) (q0 := 0) (As := [.long (4294967297 : Int64)]) (rest := []) E hml hP hD hS hA (t_X10_gives l D G (4294967297 : Int64) u _ h) kmX10_286 mwyX10_gives rfl rfl ⟨⟨rfl, rfl⟩, Nat.le_of_ble_eq_true rfl, Nat.le_of_ble_eq_true rfl⟩ rfl hl.1 rfl (Nat.le_of_ble_eq_true rfl) dX10_primitive_401 ⟨Nat.zero_le _, Nat.zero_le _⟩ (fun u268 H locs hP hD hS h => ?_)
                                        exact retR_v E hr hlk hP hD hS h dX10_primitive_404
                                    · have h := h.1 hc
                                      refine lv_iload hx hb dX10_primitive_374 (lv_at hl 1 rfl) ?_
                                      refine lv_iload hx hb dX10_primitive_376 (lv_at hl 0 rfl) ?_
                                      refine lv_imul hx hb dX10_primitive_378 ?_
                                      refine c0_l (As := [.int ((((gB u 42) ((0 : Int32)).toNatClampNeg)).toInt32 * (((gB u 42) ((1 : Int32)).toNatClampNeg)).toInt32)]) (rest := [.ref (G.1 0)]) hx hb hml hown hW hP hS hA (t_X10_number l ((((gB u 42) ((0 : Int32)).toNatClampNeg)).toInt32 * (((gB u 42) ((1 : Int32)).toNatClampNeg)).toInt32) _ h) kmX10_236 mwyX10_number ⟨⟨rfl, rfl⟩, Nat.le_of_ble_eq_true rfl, Nat.le_of_ble_eq_true rfl⟩ rfl hl.1 rfl (Nat.le_of_ble_eq_true rfl) dX10_primitive_379 ⟨Nat.zero_le _, Nat.zero_le _⟩ (fun r269 H locs hP hS h => ?_)
                                      refine lv_goto (tgt := 401) hx hb dX10_primitive_382 (by decide) ?_
                                      refine cR_v (ci := 9) (q0 := 0) (As := [.long r269]) (rest := []) E hml hP hD hS hA (t_X10_gives l D G r269 u _ h) kmX10_286 mwyX10_gives rfl rfl ⟨⟨rfl, rfl⟩, Nat.le_of_ble_eq_true rfl, Nat.le_of_ble_eq_true rfl⟩ rfl hl.1 rfl (Nat.le_of_ble_eq_true rfl) dX10_primitive_401 ⟨Nat.zero_le _, Nat.zero_le _⟩ (fun u270 H locs hP hD hS h => ?_)
                                      exact retR_v E hr hlk hP hD hS h dX10_primitive_404
                                  · have h := h.1 hc
                                    refine lv_iload hx hb dX10_primitive_357 (lv_at hl 1 rfl) ?_
                                    refine lv_iload hx hb dX10_primitive_359 (lv_at hl 0 rfl) ?_
                                    refine lv_isub hx hb dX10_primitive_361 ?_
                                    refine c0_l (As := [.int ((((gB u 42) ((0 : Int32)).toNatClampNeg)).toInt32 - (((gB u 42) ((1 : Int32)).toNatClampNeg)).toInt32)]) (rest := [.ref (G.1 0)]) hx hb hml hown hW hP hS hA (t_X10_number l ((((gB u 42) ((0 : Int32)).toNatClampNeg)).toInt32 - (((gB u 42) ((1 : Int32)).toNatClampNeg)).toInt32) _ h) kmX10_236 mwyX10_number ⟨⟨rfl, rfl⟩, Nat.le_of_ble_eq_true rfl, Nat.le_of_ble_eq_true rfl⟩ rfl hl.1 rfl (Nat.le_of_ble_eq_true rfl) dX10_primitive_362 ⟨Nat.zero_le _, Nat.zero_le _⟩ (fun r271 H locs hP hS h => ?_)
                                    refine lv_goto (tgt := 401) hx hb dX10_primitive_365 (by decide) ?_
                                    refine cR_v (ci := 9) (q0 := 0) (As := [.long r271]) (rest := []) E hml hP hD hS hA (t_X10_gives l D G r271 u _ h) kmX10_286 mwyX10_gives rfl rfl ⟨⟨rfl, rfl⟩, Nat.le_of_ble_eq_true rfl, Nat.le_of_ble_eq_true rfl⟩ rfl hl.1 rfl (Nat.le_of_ble_eq_true rfl) dX10_primitive_401 ⟨Nat.zero_le _, Nat.zero_le _⟩ (fun u272 H locs hP hD hS h => ?_)
                                    exact retR_v E hr hlk hP hD hS h dX10_primitive_404
                                · have h := h.1 hc
                                  refine lv_iload hx hb dX10_primitive_340 (lv_at hl 1 rfl) ?_
                                  refine lv_iload hx hb dX10_primitive_342 (lv_at hl 0 rfl) ?_
                                  refine lv_iadd hx hb dX10_primitive_344 ?_
                                  refine c0_l (As := [.int ((((gB u 42) ((0 : Int32)).toNatClampNeg)).toInt32 + (((gB u 42) ((1 : Int32)).toNatClampNeg)).toInt32)]) (rest := [.ref (G.1 0)]) hx hb hml hown hW hP hS hA (t_X10_number l ((((gB u 42) ((0 : Int32)).toNatClampNeg)).toInt32 + (((gB u 42) ((1 : Int32)).toNatClampNeg)).toInt32) _ h) kmX10_236 mwyX10_number ⟨⟨rfl, rfl⟩, Nat.le_of_ble_eq_true rfl, Nat.le_of_ble_eq_true rfl⟩ rfl hl.1 rfl (Nat.le_of_ble_eq_true rfl) dX10_primitive_345 ⟨Nat.zero_le _, Nat.zero_le _⟩ (fun r273 H locs hP hS h => ?_)
                                  refine lv_goto (tgt := 401) hx hb dX10_primitive_348 (by decide) ?_
                                  refine cR_v (ci := 9) (q0 := 0) (As := [.long r273]) (rest := []) E hml hP hD hS hA (t_X10_gives l D G r273 u _ h) kmX10_286 mwyX10_gives rfl rfl ⟨⟨rfl, rfl⟩, Nat.le_of_ble_eq_true rfl, Nat.le_of_ble_eq_true rfl⟩ rfl hl.1 rfl (Nat.le_of_ble_eq_true rfl) dX10_primitive_401 ⟨Nat.zero_le _, Nat.zero_le _⟩ (fun u274 H locs hP hD hS h => ?_)
                                  exact retR_v E hr hlk hP hD hS h dX10_primitive_404
                              · have h := h.1 hc
                                refine lv_aload_n hx hb dX10_primitive_316 rfl (lv_at hl 3 rfl) ?_
                                refine lv_iconst (v := (2 : Int32)) hx hb dX10_primitive_317 (by decide) ?_
                                refine cR_v (ci := 9) (q0 := 0) (As := [.int (2 : Int32)]) (rest := []) E hml hP hD hS hA (t_X10_fails l D G (2 : Int32) u _ h) kmX10_265 mwyX10_fails rfl rfl ⟨⟨rfl, rfl⟩, Nat.le_of_ble_eq_true rfl, Nat.le_of_ble_eq_true rfl⟩ rfl hl.1 rfl (Nat.le_of_ble_eq_true rfl) dX10_primitive_318 ⟨Nat.zero_le _, Nat.zero_le _⟩ (fun u275 H locs hP hD hS h => ?_)
                                refine lv_goto (tgt := 404) hx hb dX10_primitive_321 (by decide) ?_
                                exact retR_v E hr hlk hP hD hS h dX10_primitive_404
                          · have h := h.1 hc
                            refine lv_aload_n hx hb dX10_primitive_278 rfl (lv_at hl 3 rfl) ?_
                            refine lv_lload_n hx hb dX10_primitive_279 rfl (lv_at hl 1 rfl) ?_
                            refine c0_i (As := [.long ((gB u 42) ((0 : Int32)).toNatClampNeg)]) (rest := [.ref (G.1 0)]) hx hb hml hown hW hP hS hA (t_X10_isNumber l ((gB u 42) ((0 : Int32)).toNatClampNeg) _ h) kmX10_281 mwyX10_isNumber ⟨⟨rfl, rfl⟩, Nat.le_of_ble_eq_true rfl, Nat.le_of_ble_eq_true rfl⟩ rfl hl.1 rfl (Nat.le_of_ble_eq_true rfl) dX10_primitive_280 ⟨Nat.zero_le _, Nat.zero_le _⟩ (fun r276 H locs hP hS h => ?_)
                            refine lv_if_eq (tgt := 292) hx hb dX10_primitive_283 (by decide) (fun hc => ?_) (fun hc => ?_)
                            · have h := h.1 hc
                              refine lv_ldc2 (v := (4294967296 : Int64)) hx hb hown (hW _ kcX10_199) dX10_primitive_292 ?_
                              refine cR_v (ci := 9) (q0 := 0) (As := [.long (4294967296 : Int64)]) (rest := []) E hml hP hD hS hA (t_X10_gives l D G (4294967296 : Int64) u _ h) kmX10_286 mwyX10_gives rfl rfl ⟨⟨rfl, rfl⟩, Nat.le_of_ble_eq_true rfl, Nat.le_of_ble_eq_true rfl⟩ rfl hl.1 rfl (Nat.le_of_ble_eq_true rfl) dX10_primitive_295 ⟨Nat.zero_le _, Nat.zero_le _⟩ (fun u277 H locs hP hD hS h => ?_)
                              refine lv_goto (tgt := 404) hx hb dX10_primitive_298 (by decide) ?_
                              exact retR_v E hr hlk hP hD hS h dX10_primitive_404
                            · have h := h.2 hc
                              refine lv_ldc2 (v := (4294967297 : Int64)) hx hb hown (hW _ kcX10_284) dX10_primitive_286 ?_
                              refine lv_goto (tgt := 295) hx hb dX10_primitive_289 (by decide) ?_
                              refine cR_v (ci := 9) (q0 := 0) (As := [.long (4294967297 : Int64)]) (rest := []) E hml hP hD hS hA (t_X10_gives l D G (4294967297 : Int64) u _ h) kmX10_286 mwyX10_gives rfl rfl ⟨⟨rfl, rfl⟩, Nat.le_of_ble_eq_true rfl, Nat.le_of_ble_eq_true rfl⟩ rfl hl.1 rfl (Nat.le_of_ble_eq_true rfl) dX10_primitive_295 ⟨Nat.zero_le _, Nat.zero_le _⟩ (fun u278 H locs hP hD hS h => ?_)
                              refine lv_goto (tgt := 404) hx hb dX10_primitive_298 (by decide) ?_
                              exact retR_v E hr hlk hP hD hS h dX10_primitive_404
                        · have h := h.1 hc
                          refine lv_aload_n hx hb dX10_primitive_248 rfl (lv_at hl 3 rfl) ?_
                          refine lv_lload_n hx hb dX10_primitive_249 rfl (lv_at hl 1 rfl) ?_
                          refine lv_ldc2 (v := (4294967296 : Int64)) hx hb hown (hW _ kcX10_199) dX10_primitive_250 ?_
                          refine lq_ne (tgt := 263) hx hb dX10_primitive_253 dX10_primitive_254 (by decide) (fun hc => ?_) (fun hc => ?_)
                          · have h := h.2 hc
                            refine lv_ldc2 (v := (4294967296 : Int64)) hx hb hown (hW _ kcX10_199) dX10_primitive_263 ?_
                            refine cR_v (ci := 9) (q0 := 0) (As := [.long (4294967296 : Int64)]) (rest := []) E hml hP hD hS hA (t_X10_gives l D G (4294967296 : Int64) u _ h) kmX10_286 mwyX10_gives rfl rfl ⟨⟨rfl, rfl⟩, Nat.le_of_ble_eq_true rfl, Nat.le_of_ble_eq_true rfl⟩ rfl hl.1 rfl (Nat.le_of_ble_eq_true rfl) dX10_primitive_266 ⟨Nat.zero_le _, Nat.zero_le _⟩ (fun u279 H locs hP hD hS h => ?_)
                            refine lv_goto (tgt := 404) hx hb dX10_primitive_269 (by decide) ?_
                            exact retR_v E hr hlk hP hD hS h dX10_primitive_404
                          · have h := h.1 hc
                            refine lv_ldc2 (v := (4294967297 : Int64)) hx hb hown (hW _ kcX10_284) dX10_primitive_257 ?_
                            refine lv_goto (tgt := 266) hx hb dX10_primitive_260 (by decide) ?_
                            refine cR_v (ci := 9) (q0 := 0) (As := [.long (4294967297 : Int64)]) (rest := []) E hml hP hD hS hA (t_X10_gives l D G (4294967297 : Int64) u _ h) kmX10_286 mwyX10_gives rfl rfl ⟨⟨rfl, rfl⟩, Nat.le_of_ble_eq_true rfl, Nat.le_of_ble_eq_true rfl⟩ rfl hl.1 rfl (Nat.le_of_ble_eq_true rfl) dX10_primitive_266 ⟨Nat.zero_le _, Nat.zero_le _⟩ (fun u280 H locs hP hD hS h => ?_)
                            refine lv_goto (tgt := 404) hx hb dX10_primitive_269 (by decide) ?_
                            exact retR_v E hr hlk hP hD hS h dX10_primitive_404
                      · have h := h.1 hc
                        refine lv_lload_n hx hb dX10_primitive_196 rfl (lv_at hl 1 rfl) ?_
                        refine c0_i (As := [.long ((gB u 42) ((0 : Int32)).toNatClampNeg)]) (rest := []) hx hb hml hown hW hP hS hA (t_X10_isPair l ((gB u 42) ((0 : Int32)).toNatClampNeg) _ h) kmX10_205 mwyX10_isPair ⟨⟨rfl, rfl⟩, Nat.le_of_ble_eq_true rfl, Nat.le_of_ble_eq_true rfl⟩ rfl hl.1 rfl (Nat.le_of_ble_eq_true rfl) dX10_primitive_197 ⟨Nat.zero_le _, Nat.zero_le _⟩ (fun r281 H locs hP hS h => ?_)
                        refine lv_if_ne (tgt := 211) hx hb dX10_primitive_200 (by decide) (fun hc => ?_) (fun hc => ?_)
                        · have h := h.2 hc
                          refine lv_aload_n hx hb dX10_primitive_211 rfl (lv_at hl 3 rfl) ?_
                          refine lv_iconst (v := (2 : Int32)) hx hb dX10_primitive_212 (by decide) ?_
                          refine cR_v (ci := 9) (q0 := 0) (As := [.int (2 : Int32)]) (rest := []) E hml hP hD hS hA (t_X10_fails l D G (2 : Int32) u _ h) kmX10_265 mwyX10_fails rfl rfl ⟨⟨rfl, rfl⟩, Nat.le_of_ble_eq_true rfl, Nat.le_of_ble_eq_true rfl⟩ rfl hl.1 rfl (Nat.le_of_ble_eq_true rfl) dX10_primitive_213 ⟨Nat.zero_le _, Nat.zero_le _⟩ (fun u282 H locs hP hD hS h => ?_)
                          refine lv_goto (tgt := 404) hx hb dX10_primitive_216 (by decide) ?_
                          exact retR_v E hr hlk hP hD hS h dX10_primitive_404
                        · have h := h.1 hc
                          refine lv_lload hx hb dX10_primitive_203 (lv_at hl 0 rfl) ?_
                          refine c0_i (As := [.long ((gB u 42) ((1 : Int32)).toNatClampNeg)]) (rest := []) hx hb hml hown hW hP hS hA (t_X10_isPair l ((gB u 42) ((1 : Int32)).toNatClampNeg) _ h) kmX10_205 mwyX10_isPair ⟨⟨rfl, rfl⟩, Nat.le_of_ble_eq_true rfl, Nat.le_of_ble_eq_true rfl⟩ rfl hl.1 rfl (Nat.le_of_ble_eq_true rfl) dX10_primitive_205 ⟨Nat.zero_le _, Nat.zero_le _⟩ (fun r283 H locs hP hS h => ?_)
                          refine lv_if_eq (tgt := 219) hx hb dX10_primitive_208 (by decide) (fun hc => ?_) (fun hc => ?_)
                          · have h := h.1 hc
                            refine lv_aload_n hx hb dX10_primitive_219 rfl (lv_at hl 3 rfl) ?_
                            refine lv_lload_n hx hb dX10_primitive_220 rfl (lv_at hl 1 rfl) ?_
                            refine lv_lload hx hb dX10_primitive_221 (lv_at hl 0 rfl) ?_
                            refine lq_ne (tgt := 233) hx hb dX10_primitive_223 dX10_primitive_224 (by decide) (fun hc => ?_) (fun hc => ?_)
                            · have h := h.2 hc
                              refine lv_ldc2 (v := (4294967296 : Int64)) hx hb hown (hW _ kcX10_199) dX10_primitive_233 ?_
                              refine cR_v (ci := 9) (q0 := 0) (As := [.long (4294967296 : Int64)]) (rest := []) E hml hP hD hS hA (t_X10_gives l D G (4294967296 : Int64) u _ h) kmX10_286 mwyX10_gives rfl rfl ⟨⟨rfl, rfl⟩, Nat.le_of_ble_eq_true rfl, Nat.le_of_ble_eq_true rfl⟩ rfl hl.1 rfl (Nat.le_of_ble_eq_true rfl) dX10_primitive_236 ⟨Nat.zero_le _, Nat.zero_le _⟩ (fun u284 H locs hP hD hS h => ?_)
                              refine lv_goto (tgt := 404) hx hb dX10_primitive_239 (by decide) ?_
                              exact retR_v E hr hlk hP hD hS h dX10_primitive_404
                            · have h := h.1 hc
                              refine lv_ldc2 (v := (4294967297 : Int64)) hx hb hown (hW _ kcX10_284) dX10_primitive_227 ?_
                              refine lv_goto (tgt := 236) hx hb dX10_primitive_230 (by decide) ?_
                              refine cR_v (ci := 9) (q0 := 0) (As := [.long (4294967297 : Int64)]) (rest := []) E hml hP hD hS hA (t_X10_gives l D G (4294967297 : Int64) u _ h) kmX10_286 mwyX10_gives rfl rfl ⟨⟨rfl, rfl⟩, Nat.le_of_ble_eq_true rfl, Nat.le_of_ble_eq_true rfl⟩ rfl hl.1 rfl (Nat.le_of_ble_eq_true rfl) dX10_primitive_236 ⟨Nat.zero_le _, Nat.zero_le _⟩ (fun u285 H locs hP hD hS h => ?_)
                              refine lv_goto (tgt := 404) hx hb dX10_primitive_239 (by decide) ?_
                              exact retR_v E hr hlk hP hD hS h dX10_primitive_404
                          · have h := h.2 hc
                            refine lv_aload_n hx hb dX10_primitive_211 rfl (lv_at hl 3 rfl) ?_
                            refine lv_iconst (v := (2 : Int32)) hx hb dX10_primitive_212 (by decide) ?_
                            refine cR_v (ci := 9) (q0 := 0) (As := [.int (2 : Int32)]) (rest := []) E hml hP hD hS hA (t_X10_fails l D G (2 : Int32) u _ h) kmX10_265 mwyX10_fails rfl rfl ⟨⟨rfl, rfl⟩, Nat.le_of_ble_eq_true rfl, Nat.le_of_ble_eq_true rfl⟩ rfl hl.1 rfl (Nat.le_of_ble_eq_true rfl) dX10_primitive_213 ⟨Nat.zero_le _, Nat.zero_le _⟩ (fun u286 H locs hP hD hS h => ?_)
                            refine lv_goto (tgt := 404) hx hb dX10_primitive_216 (by decide) ?_
                            exact retR_v E hr hlk hP hD hS h dX10_primitive_404
                    · have h := h.1 hc
                      refine lv_aload_n hx hb dX10_primitive_167 rfl (lv_at hl 3 rfl) ?_
                      refine lv_lload_n hx hb dX10_primitive_168 rfl (lv_at hl 1 rfl) ?_
                      refine c0_i (As := [.long ((gB u 42) ((0 : Int32)).toNatClampNeg)]) (rest := [.ref (G.1 0)]) hx hb hml hown hW hP hS hA (t_X10_isPair l ((gB u 42) ((0 : Int32)).toNatClampNeg) _ h) kmX10_205 mwyX10_isPair ⟨⟨rfl, rfl⟩, Nat.le_of_ble_eq_true rfl, Nat.le_of_ble_eq_true rfl⟩ rfl hl.1 rfl (Nat.le_of_ble_eq_true rfl) dX10_primitive_169 ⟨Nat.zero_le _, Nat.zero_le _⟩ (fun r287 H locs hP hS h => ?_)
                      refine lv_if_eq (tgt := 181) hx hb dX10_primitive_172 (by decide) (fun hc => ?_) (fun hc => ?_)
                      · have h := h.1 hc
                        refine lv_ldc2 (v := (4294967297 : Int64)) hx hb hown (hW _ kcX10_284) dX10_primitive_181 ?_
                        refine cR_v (ci := 9) (q0 := 0) (As := [.long (4294967297 : Int64)]) (rest := []) E hml hP hD hS hA (t_X10_gives l D G (4294967297 : Int64) u _ h) kmX10_286 mwyX10_gives rfl rfl ⟨⟨rfl, rfl⟩, Nat.le_of_ble_eq_true rfl, Nat.le_of_ble_eq_true rfl⟩ rfl hl.1 rfl (Nat.le_of_ble_eq_true rfl) dX10_primitive_184 ⟨Nat.zero_le _, Nat.zero_le _⟩ (fun u288 H locs hP hD hS h => ?_)
                        refine lv_goto (tgt := 404) hx hb dX10_primitive_187 (by decide) ?_
                        exact retR_v E hr hlk hP hD hS h dX10_primitive_404
                      · have h := h.2 hc
                        refine lv_ldc2 (v := (4294967296 : Int64)) hx hb hown (hW _ kcX10_199) dX10_primitive_175 ?_
                        refine lv_goto (tgt := 184) hx hb dX10_primitive_178 (by decide) ?_
                        refine cR_v (ci := 9) (q0 := 0) (As := [.long (4294967296 : Int64)]) (rest := []) E hml hP hD hS hA (t_X10_gives l D G (4294967296 : Int64) u _ h) kmX10_286 mwyX10_gives rfl rfl ⟨⟨rfl, rfl⟩, Nat.le_of_ble_eq_true rfl, Nat.le_of_ble_eq_true rfl⟩ rfl hl.1 rfl (Nat.le_of_ble_eq_true rfl) dX10_primitive_184 ⟨Nat.zero_le _, Nat.zero_le _⟩ (fun u289 H locs hP hD hS h => ?_)
                        refine lv_goto (tgt := 404) hx hb dX10_primitive_187 (by decide) ?_
                        exact retR_v E hr hlk hP hD hS h dX10_primitive_404
                  · have h := h.1 hc
                    refine lv_aload_n hx hb dX10_primitive_124 rfl (lv_at hl 3 rfl) ?_
                    refine cR_v (ci := 9) (q0 := 0) (As := []) (rest := []) E hml hP hD hS hA (t_X10_holdWaiting l D G  u _ h) kmX10_304 mwyX10_holdWaiting rfl rfl ⟨⟨rfl, rfl⟩, Nat.le_of_ble_eq_true rfl, Nat.le_of_ble_eq_true rfl⟩ rfl hl.1 rfl (Nat.le_of_ble_eq_true rfl) dX10_primitive_125 ⟨Nat.zero_le _, Nat.zero_le _⟩ (fun u290 H locs hP hD hS h => ?_)
                    refine lv_aload_n hx hb dX10_primitive_128 rfl (lv_at hl 3 rfl) ?_
                    refine lv_lload_n hx hb dX10_primitive_129 rfl (lv_at hl 1 rfl) ?_
                    refine cR_v (ci := 9) (q0 := 0) (As := [.long ((gB u 42) ((0 : Int32)).toNatClampNeg)]) (rest := []) E hml hP hD hS hA (t_X10_hold l D G ((gB u 42) ((0 : Int32)).toNatClampNeg) u290 _ h) kmX10_213 mwyX10_hold rfl rfl ⟨⟨rfl, rfl⟩, Nat.le_of_ble_eq_true rfl, Nat.le_of_ble_eq_true rfl⟩ rfl hl.1 rfl (Nat.le_of_ble_eq_true rfl) dX10_primitive_130 ⟨Nat.zero_le _, Nat.zero_le _⟩ (fun u291 H locs hP hD hS h => ?_)
                    refine lv_aload_n hx hb dX10_primitive_133 rfl (lv_at hl 3 rfl) ?_
                    refine lv_lload hx hb dX10_primitive_134 (lv_at hl 0 rfl) ?_
                    refine cR_v (ci := 9) (q0 := 0) (As := [.long ((gB u 42) ((1 : Int32)).toNatClampNeg)]) (rest := []) E hml hP hD hS hA (t_X10_hold l D G ((gB u 42) ((1 : Int32)).toNatClampNeg) u291 _ h) kmX10_213 mwyX10_hold rfl rfl ⟨⟨rfl, rfl⟩, Nat.le_of_ble_eq_true rfl, Nat.le_of_ble_eq_true rfl⟩ rfl hl.1 rfl (Nat.le_of_ble_eq_true rfl) dX10_primitive_136 ⟨Nat.zero_le _, Nat.zero_le _⟩ (fun u292 H locs hP hD hS h => ?_)
                    refine lv_aload_n hx hb dX10_primitive_139 rfl (lv_at hl 3 rfl) ?_
                    refine lv_iconst (v := (1 : Int32)) hx hb dX10_primitive_140 (by decide) ?_
                    refine cR_i (ci := 9) (q0 := 0) (As := [.int (1 : Int32)]) (rest := []) E hml hP hD hS hA (t_X10_room l D G (1 : Int32) u292 _ h) kmX10_307 mwyX10_room rfl rfl ⟨⟨rfl, rfl⟩, Nat.le_of_ble_eq_true rfl, Nat.le_of_ble_eq_true rfl⟩ rfl hl.1 rfl (Nat.le_of_ble_eq_true rfl) dX10_primitive_141 ⟨Nat.zero_le _, Nat.zero_le _⟩ (fun r293 u294 H locs hP hD hS h => ?_)
                    refine lv_if_eq (tgt := 404) hx hb dX10_primitive_144 (by decide) (fun hc => ?_) (fun hc => ?_)
                    · have h := h.1 hc
                      exact retR_v E hr hlk hP hD hS h dX10_primitive_404
                    · have h := h.2 hc
                      refine lv_aload_n hx hb dX10_primitive_147 rfl (lv_at hl 3 rfl) ?_
                      refine lv_aload_n hx hb dX10_primitive_148 rfl (lv_at hl 3 rfl) ?_
                      refine lv_lload_n hx hb dX10_primitive_149 rfl (lv_at hl 1 rfl) ?_
                      refine lv_lload hx hb dX10_primitive_150 (lv_at hl 0 rfl) ?_
                      refine cR_l (ci := 9) (q0 := 0) (As := [.long ((gB u 42) ((0 : Int32)).toNatClampNeg), .long ((gB u 42) ((1 : Int32)).toNatClampNeg)]) (rest := [.ref (G.1 0)]) E hml hP hD hS hA (t_X10_pair l D G ((gB u 42) ((0 : Int32)).toNatClampNeg) ((gB u 42) ((1 : Int32)).toNatClampNeg) u294 _ h) kmX10_244 mwyX10_pair rfl rfl ⟨⟨rfl, rfl⟩, Nat.le_of_ble_eq_true rfl, Nat.le_of_ble_eq_true rfl⟩ rfl hl.1 rfl (Nat.le_of_ble_eq_true rfl) dX10_primitive_152 ⟨Nat.zero_le _, Nat.zero_le _⟩ (fun r295 u296 H locs hP hD hS h => ?_)
                      refine cR_v (ci := 9) (q0 := 0) (As := [.long r295]) (rest := []) E hml hP hD hS hA (t_X10_gives l D G r295 u296 _ h) kmX10_286 mwyX10_gives rfl rfl ⟨⟨rfl, rfl⟩, Nat.le_of_ble_eq_true rfl, Nat.le_of_ble_eq_true rfl⟩ rfl hl.1 rfl (Nat.le_of_ble_eq_true rfl) dX10_primitive_155 ⟨Nat.zero_le _, Nat.zero_le _⟩ (fun u297 H locs hP hD hS h => ?_)
                      refine lv_goto (tgt := 404) hx hb dX10_primitive_158 (by decide) ?_
                      exact retR_v E hr hlk hP hD hS h dX10_primitive_404
                · have h := h.1 hc
                  refine lv_lload_n hx hb dX10_primitive_77 rfl (lv_at hl 1 rfl) ?_
                  refine c0_i (As := [.long ((gB u 42) ((0 : Int32)).toNatClampNeg)]) (rest := []) hx hb hml hown hW hP hS hA (t_X10_isPair l ((gB u 42) ((0 : Int32)).toNatClampNeg) _ h) kmX10_205 mwyX10_isPair ⟨⟨rfl, rfl⟩, Nat.le_of_ble_eq_true rfl, Nat.le_of_ble_eq_true rfl⟩ rfl hl.1 rfl (Nat.le_of_ble_eq_true rfl) dX10_primitive_78 ⟨Nat.zero_le _, Nat.zero_le _⟩ (fun r298 H locs hP hS h => ?_)
                  refine lv_if_ne (tgt := 92) hx hb dX10_primitive_81 (by decide) (fun hc => ?_) (fun hc => ?_)
                  · have h := h.2 hc
                    refine lv_aload_n hx hb dX10_primitive_92 rfl (lv_at hl 3 rfl) ?_
                    refine lv_iload_n hx hb dX10_primitive_93 rfl (lv_at hl 4 rfl) ?_
                    refine lv_bipush (v := (7 : Int32)) hx hb dX10_primitive_94 (by decide) ?_
                    refine lv_icmp_ne (tgt := 107) hx hb dX10_primitive_96 (by decide) (fun hc => ?_) (fun hc => ?_)
                    · have h := h.2 hc
                      refine lv_aload_n hx hb dX10_primitive_107 rfl (lv_at hl 3 rfl) ?_
                      refine lv_lload_n hx hb dX10_primitive_108 rfl (lv_at hl 1 rfl) ?_
                      refine cR_l (ci := 9) (q0 := 0) (As := [.long ((gB u 42) ((0 : Int32)).toNatClampNeg)]) (rest := [.ref (G.1 0)]) E hml hP hD hS hA (t_X10_behind l D G ((gB u 42) ((0 : Int32)).toNatClampNeg) u _ h) kmX10_216 mwyX10_behind rfl rfl ⟨⟨rfl, rfl⟩, Nat.le_of_ble_eq_true rfl, Nat.le_of_ble_eq_true rfl⟩ rfl hl.1 rfl (Nat.le_of_ble_eq_true rfl) dX10_primitive_109 ⟨Nat.zero_le _, Nat.zero_le _⟩ (fun r299 u300 H locs hP hD hS h => ?_)
                      refine cR_v (ci := 9) (q0 := 0) (As := [.long r299]) (rest := []) E hml hP hD hS hA (t_X10_gives l D G r299 u300 _ h) kmX10_286 mwyX10_gives rfl rfl ⟨⟨rfl, rfl⟩, Nat.le_of_ble_eq_true rfl, Nat.le_of_ble_eq_true rfl⟩ rfl hl.1 rfl (Nat.le_of_ble_eq_true rfl) dX10_primitive_112 ⟨Nat.zero_le _, Nat.zero_le _⟩ (fun u301 H locs hP hD hS h => ?_)
                      refine lv_goto (tgt := 404) hx hb dX10_primitive_115 (by decide) ?_
                      exact retR_v E hr hlk hP hD hS h dX10_primitive_404
                    · have h := h.1 hc
                      refine lv_aload_n hx hb dX10_primitive_99 rfl (lv_at hl 3 rfl) ?_
                      refine lv_lload_n hx hb dX10_primitive_100 rfl (lv_at hl 1 rfl) ?_
                      refine cR_l (ci := 9) (q0 := 0) (As := [.long ((gB u 42) ((0 : Int32)).toNatClampNeg)]) (rest := [.ref (G.1 0)]) E hml hP hD hS hA (t_X10_first l D G ((gB u 42) ((0 : Int32)).toNatClampNeg) u _ h) kmX10_209 mwyX10_first rfl rfl ⟨⟨rfl, rfl⟩, Nat.le_of_ble_eq_true rfl, Nat.le_of_ble_eq_true rfl⟩ rfl hl.1 rfl (Nat.le_of_ble_eq_true rfl) dX10_primitive_101 ⟨Nat.zero_le _, Nat.zero_le _⟩ (fun r302 u303 H locs hP hD hS h => ?_)
                      refine lv_goto (tgt := 112) hx hb dX10_primitive_104 (by decide) ?_
                      refine cR_v (ci := 9) (q0 := 0) (As := [.long r302]) (rest := []) E hml hP hD hS hA (t_X10_gives l D G r302 u303 _ h) kmX10_286 mwyX10_gives rfl rfl ⟨⟨rfl, rfl⟩, Nat.le_of_ble_eq_true rfl, Nat.le_of_ble_eq_true rfl⟩ rfl hl.1 rfl (Nat.le_of_ble_eq_true rfl) dX10_primitive_112 ⟨Nat.zero_le _, Nat.zero_le _⟩ (fun u304 H locs hP hD hS h => ?_)
                      refine lv_goto (tgt := 404) hx hb dX10_primitive_115 (by decide) ?_
                      exact retR_v E hr hlk hP hD hS h dX10_primitive_404
                  · have h := h.1 hc
                    refine lv_aload_n hx hb dX10_primitive_84 rfl (lv_at hl 3 rfl) ?_
                    refine lv_iconst (v := (2 : Int32)) hx hb dX10_primitive_85 (by decide) ?_
                    refine cR_v (ci := 9) (q0 := 0) (As := [.int (2 : Int32)]) (rest := []) E hml hP hD hS hA (t_X10_fails l D G (2 : Int32) u _ h) kmX10_265 mwyX10_fails rfl rfl ⟨⟨rfl, rfl⟩, Nat.le_of_ble_eq_true rfl, Nat.le_of_ble_eq_true rfl⟩ rfl hl.1 rfl (Nat.le_of_ble_eq_true rfl) dX10_primitive_86 ⟨Nat.zero_le _, Nat.zero_le _⟩ (fun u305 H locs hP hD hS h => ?_)
                    refine lv_goto (tgt := 404) hx hb dX10_primitive_89 (by decide) ?_
                    exact retR_v E hr hlk hP hD hS h dX10_primitive_404
            · have h := h.2 hc
              refine lv_aload_n hx hb dX10_primitive_44 rfl (lv_at hl 1 rfl) ?_
              refine lv_iconst (v := (3 : Int32)) hx hb dX10_primitive_45 (by decide) ?_
              refine cR_v (ci := 9) (q0 := 0) (As := [.int (3 : Int32)]) (rest := []) E hml hP hD hS hA (t_X10_fails l D G (3 : Int32) u _ h) kmX10_265 mwyX10_fails rfl rfl ⟨⟨rfl, rfl⟩, Nat.le_of_ble_eq_true rfl, Nat.le_of_ble_eq_true rfl⟩ rfl hl.1 rfl (Nat.le_of_ble_eq_true rfl) dX10_primitive_46 ⟨Nat.zero_le _, Nat.zero_le _⟩ (fun u306 H locs hP hD hS h => ?_)
              exact retR_v E hr hlk hP hD hS h dX10_primitive_49
