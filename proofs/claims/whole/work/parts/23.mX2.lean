def wp_X2_applyPair (N : Nat → Nat)  (u : St) (Q : St → Prop) : Prop := wp_X0_car N (gJ u 612) u (fun (r1 : Int64) (u2 : St) => ((r1 = (1099511627781 : Int64) → wp_X2_applyLambda N  u2 (fun (u8 : St) => Q u8)) ∧ (¬ r1 = (1099511627781 : Int64) → ((r1 = (1099511627782 : Int64) → wp_X2_applyLabel N  u2 (fun (u7 : St) => Q u7)) ∧ (¬ r1 = (1099511627782 : Int64) → wp_X7_push N (2 : Int32) (1099511627776 : Int64) (1099511627776 : Int64) (gJ u2 613) u2 (fun (r3 : Int32) (u4 : St) => ((r3 = 0 → Q (sI u4 609 (7 : Int32))) ∧ (¬ r3 = 0 → wp_X7_putValues_21 N (gI u4 606) u4 (fun (u5 : St) => wp_X2_beginEvaluating N (gJ u5 612) (gJ u5 613) u5 (fun (u6 : St) => Q u6))))))))))
abbrev rm_X2_applyPair : Room := { frames := 4, cells := 0, slots := 0, locals := 102 }
set_option maxHeartbeats 4000000 in
set_option maxRecDepth 100000 in
theorem t_X2_applyPair (l : Launch) (D : va_G) (G : Gd)  (u : St) (Q : St → Prop) (h : wp_X2_applyPair G.2.1  u Q) : MCv l D G yX2_applyPair cX2_applyPair 3 none rm_X2_applyPair [.ref (G.1 6)] u Q := by
  refine startC_v (by decide) ?_
  intro p e s m args below meth c E hr hlk hml hP hD hS hA
  have hx := E.1
  have hb := E.2.1
  have hown := E.2.2.1
  have hW := E.2.2.2.1
  have hl := lv_entry ([.ref (G.1 6)]) (n := 3) (Nat.le_of_ble_eq_true rfl)
  rw [lg_entry_eq]
  generalize (lg_sl ([.ref (G.1 6)]) ++ List.replicate (3 - (lg_sl ([.ref (G.1 6)])).length) Slot.unset).toArray = ls at hl ⊢
  have hl : lv_has ls 3 [(0, .ref (G.1 6))] := hl
  unfold wp_X2_applyPair at h
  refine lv_aload_n hx hb dX2_applyPair_0 rfl (lv_at hl 0 rfl) ?_
  refine gC_600 E hP kfX2_46 dX2_applyPair_1 ?_
  refine lv_aload_n hx hb dX2_applyPair_4 rfl (lv_at hl 0 rfl) ?_
  refine gC_612 E hP kfX2_37 (v := (gJ u 612)) rfl dX2_applyPair_5 ?_
  refine cC_l (ci := 0) (q0 := 8) (As := [.long (gJ u 612)]) (rest := []) E hml hP hD hS hA (t_X0_car l D G (gJ u 612) u _ h) kmX2_104 mwyX0_car rfl rfl ⟨⟨rfl, rfl⟩, Nat.le_of_ble_eq_true rfl, Nat.le_of_ble_eq_true rfl⟩ rfl hl.1 rfl (Nat.le_of_ble_eq_true rfl) dX2_applyPair_8 ⟨Nat.zero_le _, Nat.zero_le _⟩ (fun r1 u2 H locs hP hD hS h => ?_)
  refine lv_lstore_n (lv' := [(1, .long r1), (0, .ref (G.1 6))]) hx hb dX2_applyPair_11 rfl hl (by decide) rfl (fun ls hl => ?_)
  refine lv_lload_n hx hb dX2_applyPair_12 rfl (lv_at hl 0 rfl) ?_
  refine lv_ldc2 (v := (1099511627781 : Int64)) hx hb hown (hW _ kcX2_191) dX2_applyPair_13 ?_
  refine lq_ne (tgt := 27) hx hb dX2_applyPair_16 dX2_applyPair_17 (by decide) (fun hc => ?_) (fun hc => ?_)
  · have h := h.2 hc
    refine lv_lload_n hx hb dX2_applyPair_27 rfl (lv_at hl 0 rfl) ?_
    refine lv_ldc2 (v := (1099511627782 : Int64)) hx hb hown (hW _ kcX2_196) dX2_applyPair_28 ?_
    refine lq_ne (tgt := 42) hx hb dX2_applyPair_31 dX2_applyPair_32 (by decide) (fun hc => ?_) (fun hc => ?_)
    · have h := h.2 hc
      refine lv_aload_n hx hb dX2_applyPair_42 rfl (lv_at hl 1 rfl) ?_
      refine gC_602 E hP kfX2_54 dX2_applyPair_43 ?_
      refine lv_iconst (v := (2 : Int32)) hx hb dX2_applyPair_46 (by decide) ?_
      refine lv_ldc2 (v := (1099511627776 : Int64)) hx hb hown (hW _ kcX2_28) dX2_applyPair_47 ?_
      refine lv_ldc2 (v := (1099511627776 : Int64)) hx hb hown (hW _ kcX2_28) dX2_applyPair_50 ?_
      refine lv_aload_n hx hb dX2_applyPair_53 rfl (lv_at hl 1 rfl) ?_
      refine gC_613 E hP kfX2_40 (v := (gJ u2 613)) rfl dX2_applyPair_54 ?_
      refine cC_i (ci := 7) (q0 := 3) (As := [.int (2 : Int32), .long (1099511627776 : Int64), .long (1099511627776 : Int64), .long (gJ u2 613)]) (rest := []) E hml hP hD hS hA (t_X7_push l D G (2 : Int32) (1099511627776 : Int64) (1099511627776 : Int64) (gJ u2 613) u2 _ h) kmX2_151 mwyX7_push rfl rfl ⟨⟨rfl, rfl⟩, Nat.le_of_ble_eq_true rfl, Nat.le_of_ble_eq_true rfl⟩ rfl hl.1 rfl (Nat.le_of_ble_eq_true rfl) dX2_applyPair_57 ⟨Nat.zero_le _, Nat.zero_le _⟩ (fun r3 u4 H locs hP hD hS h => ?_)
      refine lv_if_ne (tgt := 72) hx hb dX2_applyPair_60 (by decide) (fun hc => ?_) (fun hc => ?_)
      · have h := h.2 hc
        refine lv_aload_n hx hb dX2_applyPair_72 rfl (lv_at hl 1 rfl) ?_
        refine gC_602 E hP kfX2_54 dX2_applyPair_73 ?_
        refine lv_aload_n hx hb dX2_applyPair_76 rfl (lv_at hl 1 rfl) ?_
        refine gC_605 E hP kfX2_9 dX2_applyPair_77 ?_
        refine lv_aload_n hx hb dX2_applyPair_80 rfl (lv_at hl 1 rfl) ?_
        refine gC_606 E hP kfX2_15 (v := (gI u4 606)) rfl dX2_applyPair_81 ?_
        refine cC_v (ci := 7) (q0 := 3) (As := [.ref (G.1 21), .int (gI u4 606)]) (rest := []) E hml hP hD hS hA (t_X7_putValues_21 l D G (gI u4 606) u4 _ h) kmX2_201 mwyX7_putValues rfl rfl ⟨⟨rfl, rfl⟩, Nat.le_of_ble_eq_true rfl, Nat.le_of_ble_eq_true rfl⟩ rfl hl.1 rfl (Nat.le_of_ble_eq_true rfl) dX2_applyPair_84 ⟨Nat.zero_le _, Nat.zero_le _⟩ (fun u5 H locs hP hD hS h => ?_)
        refine lv_aload_n hx hb dX2_applyPair_87 rfl (lv_at hl 1 rfl) ?_
        refine lv_aload_n hx hb dX2_applyPair_88 rfl (lv_at hl 1 rfl) ?_
        refine gC_612 E hP kfX2_37 (v := (gJ u5 612)) rfl dX2_applyPair_89 ?_
        refine lv_aload_n hx hb dX2_applyPair_92 rfl (lv_at hl 1 rfl) ?_
        refine gC_613 E hP kfX2_40 (v := (gJ u5 613)) rfl dX2_applyPair_93 ?_
        refine cC_v (ci := 2) (q0 := 6) (As := [.long (gJ u5 612), .long (gJ u5 613)]) (rest := []) E hml hP hD hS hA (t_X2_beginEvaluating l D G (gJ u5 612) (gJ u5 613) u5 _ h) kmX2_65 mwyX2_beginEvaluating rfl rfl ⟨⟨rfl, rfl⟩, Nat.le_of_ble_eq_true rfl, Nat.le_of_ble_eq_true rfl⟩ rfl hl.1 rfl (Nat.le_of_ble_eq_true rfl) dX2_applyPair_96 ⟨Nat.zero_le _, Nat.zero_le _⟩ (fun u6 H locs hP hD hS h => ?_)
        exact retC_v E hr hlk hP hD hS h dX2_applyPair_99
      · have h := h.1 hc
        refine lv_aload_n hx hb dX2_applyPair_63 rfl (lv_at hl 1 rfl) ?_
        refine lv_bipush (v := (7 : Int32)) hx hb dX2_applyPair_64 (by decide) ?_
        refine pC_609 E hP hD hS kfX2_25 dX2_applyPair_66 (fun H locs hP hD hS => ?_)
        refine lv_goto (tgt := 99) hx hb dX2_applyPair_69 (by decide) ?_
        exact retC_v E hr hlk hP hD hS h dX2_applyPair_99
    · have h := h.1 hc
      refine lv_aload_n hx hb dX2_applyPair_35 rfl (lv_at hl 1 rfl) ?_
      refine cC_v (ci := 2) (q0 := 6) (As := []) (rest := []) E hml hP hD hS hA (t_X2_applyLabel l D G  u2 _ h) kmX2_198 mwyX2_applyLabel rfl rfl ⟨⟨rfl, rfl⟩, Nat.le_of_ble_eq_true rfl, Nat.le_of_ble_eq_true rfl⟩ rfl hl.1 rfl (Nat.le_of_ble_eq_true rfl) dX2_applyPair_36 ⟨Nat.zero_le _, Nat.zero_le _⟩ (fun u7 H locs hP hD hS h => ?_)
      refine lv_goto (tgt := 99) hx hb dX2_applyPair_39 (by decide) ?_
      exact retC_v E hr hlk hP hD hS h dX2_applyPair_99
  · have h := h.1 hc
    refine lv_aload_n hx hb dX2_applyPair_20 rfl (lv_at hl 1 rfl) ?_
    refine cC_v (ci := 2) (q0 := 6) (As := []) (rest := []) E hml hP hD hS hA (t_X2_applyLambda l D G  u2 _ h) kmX2_193 mwyX2_applyLambda rfl rfl ⟨⟨rfl, rfl⟩, Nat.le_of_ble_eq_true rfl, Nat.le_of_ble_eq_true rfl⟩ rfl hl.1 rfl (Nat.le_of_ble_eq_true rfl) dX2_applyPair_21 ⟨Nat.zero_le _, Nat.zero_le _⟩ (fun u8 H locs hP hD hS h => ?_)
    refine lv_goto (tgt := 99) hx hb dX2_applyPair_24 (by decide) ?_
    exact retC_v E hr hlk hP hD hS h dX2_applyPair_99
def wp_X2_evaluateAtom (N : Nat → Nat)  (u : St) (Q : St → Prop) : Prop := wp_X8_isFixed (gJ u 610) (fun (r1 : Int32) => ((r1 = 0 → wp_X2_boundTo N (gJ u 610) u (fun (r2 : Int64) (u3 : St) => ((r2 = (3298534883331 : Int64) → Q (sI u3 609 (1 : Int32))) ∧ (¬ r2 = (3298534883331 : Int64) → wp_X2_answer N r2 u3 (fun (u4 : St) => Q u4))))) ∧ (¬ r1 = 0 → (((gJ u 610) = (3298534883331 : Int64) → Q (sI u 609 (1 : Int32))) ∧ (¬ (gJ u 610) = (3298534883331 : Int64) → wp_X2_answer N (gJ u 610) u (fun (u5 : St) => Q u5))))))
abbrev rm_X2_evaluateAtom : Room := { frames := 3, cells := 0, slots := 0, locals := 72 }
set_option maxHeartbeats 4000000 in
set_option maxRecDepth 100000 in
theorem t_X2_evaluateAtom (l : Launch) (D : va_G) (G : Gd)  (u : St) (Q : St → Prop) (h : wp_X2_evaluateAtom G.2.1  u Q) : MCv l D G yX2_evaluateAtom cX2_evaluateAtom 3 none rm_X2_evaluateAtom [.ref (G.1 6)] u Q := by
  refine startC_v (by decide) ?_
  intro p e s m args below meth c E hr hlk hml hP hD hS hA
  have hx := E.1
  have hb := E.2.1
  have hown := E.2.2.1
  have hW := E.2.2.2.1
  have hl := lv_entry ([.ref (G.1 6)]) (n := 3) (Nat.le_of_ble_eq_true rfl)
  rw [lg_entry_eq]
  generalize (lg_sl ([.ref (G.1 6)]) ++ List.replicate (3 - (lg_sl ([.ref (G.1 6)])).length) Slot.unset).toArray = ls at hl ⊢
  have hl : lv_has ls 3 [(0, .ref (G.1 6))] := hl
  unfold wp_X2_evaluateAtom at h
  refine lv_aload_n hx hb dX2_evaluateAtom_0 rfl (lv_at hl 0 rfl) ?_
  refine gC_610 E hP kfX2_30 (v := (gJ u 610)) rfl dX2_evaluateAtom_1 ?_
  refine c0_i (As := [.long (gJ u 610)]) (rest := []) hx hb hml hown hW hP hS hA (t_X8_isFixed l (gJ u 610) _ h) kmX2_116 mwyX8_isFixed ⟨⟨rfl, rfl⟩, Nat.le_of_ble_eq_true rfl, Nat.le_of_ble_eq_true rfl⟩ rfl hl.1 rfl (Nat.le_of_ble_eq_true rfl) dX2_evaluateAtom_4 ⟨Nat.zero_le _, Nat.zero_le _⟩ (fun r1 H locs hP hS h => ?_)
  refine lv_if_eq (tgt := 17) hx hb dX2_evaluateAtom_7 (by decide) (fun hc => ?_) (fun hc => ?_)
  · have h := h.1 hc
    refine lv_aload_n hx hb dX2_evaluateAtom_17 rfl (lv_at hl 0 rfl) ?_
    refine lv_aload_n hx hb dX2_evaluateAtom_18 rfl (lv_at hl 0 rfl) ?_
    refine gC_610 E hP kfX2_30 (v := (gJ u 610)) rfl dX2_evaluateAtom_19 ?_
    refine cC_l (ci := 2) (q0 := 6) (As := [.long (gJ u 610)]) (rest := []) E hml hP hD hS hA (t_X2_boundTo l D G (gJ u 610) u _ h) kmX2_119 mwyX2_boundTo rfl rfl ⟨⟨rfl, rfl⟩, Nat.le_of_ble_eq_true rfl, Nat.le_of_ble_eq_true rfl⟩ rfl hl.1 rfl (Nat.le_of_ble_eq_true rfl) dX2_evaluateAtom_22 ⟨Nat.zero_le _, Nat.zero_le _⟩ (fun r2 u3 H locs hP hD hS h => ?_)
    refine lv_lstore_n (lv' := [(1, .long r2), (0, .ref (G.1 6))]) hx hb dX2_evaluateAtom_25 rfl hl (by decide) rfl (fun ls hl => ?_)
    refine lv_lload_n hx hb dX2_evaluateAtom_26 rfl (lv_at hl 0 rfl) ?_
    refine lv_ldc2 (v := (3298534883331 : Int64)) hx hb hown (hW _ kcX2_122) dX2_evaluateAtom_27 ?_
    refine lq_ne (tgt := 42) hx hb dX2_evaluateAtom_30 dX2_evaluateAtom_31 (by decide) (fun hc => ?_) (fun hc => ?_)
    · have h := h.2 hc
      refine lv_aload_n hx hb dX2_evaluateAtom_42 rfl (lv_at hl 1 rfl) ?_
      refine lv_lload_n hx hb dX2_evaluateAtom_43 rfl (lv_at hl 0 rfl) ?_
      refine cC_v (ci := 2) (q0 := 6) (As := [.long r2]) (rest := []) E hml hP hD hS hA (t_X2_answer l D G r2 u3 _ h) kmX2_95 mwyX2_answer rfl rfl ⟨⟨rfl, rfl⟩, Nat.le_of_ble_eq_true rfl, Nat.le_of_ble_eq_true rfl⟩ rfl hl.1 rfl (Nat.le_of_ble_eq_true rfl) dX2_evaluateAtom_44 ⟨Nat.zero_le _, Nat.zero_le _⟩ (fun u4 H locs hP hD hS h => ?_)
      exact retC_v E hr hlk hP hD hS h dX2_evaluateAtom_47
    · have h := h.1 hc
      refine lv_aload_n hx hb dX2_evaluateAtom_34 rfl (lv_at hl 1 rfl) ?_
      refine lv_iconst (v := (1 : Int32)) hx hb dX2_evaluateAtom_35 (by decide) ?_
      refine pC_609 E hP hD hS kfX2_25 dX2_evaluateAtom_36 (fun H locs hP hD hS => ?_)
      refine lv_goto (tgt := 47) hx hb dX2_evaluateAtom_39 (by decide) ?_
      exact retC_v E hr hlk hP hD hS h dX2_evaluateAtom_47
  · have h := h.2 hc
    refine lv_aload_n hx hb dX2_evaluateAtom_10 rfl (lv_at hl 0 rfl) ?_
    refine gC_610 E hP kfX2_30 (v := (gJ u 610)) rfl dX2_evaluateAtom_11 ?_
    refine lv_goto (tgt := 25) hx hb dX2_evaluateAtom_14 (by decide) ?_
    refine lv_lstore_n (lv' := [(1, .long (gJ u 610)), (0, .ref (G.1 6))]) hx hb dX2_evaluateAtom_25 rfl hl (by decide) rfl (fun ls hl => ?_)
    refine lv_lload_n hx hb dX2_evaluateAtom_26 rfl (lv_at hl 0 rfl) ?_
    refine lv_ldc2 (v := (3298534883331 : Int64)) hx hb hown (hW _ kcX2_122) dX2_evaluateAtom_27 ?_
    refine lq_ne (tgt := 42) hx hb dX2_evaluateAtom_30 dX2_evaluateAtom_31 (by decide) (fun hc => ?_) (fun hc => ?_)
    · have h := h.2 hc
      refine lv_aload_n hx hb dX2_evaluateAtom_42 rfl (lv_at hl 1 rfl) ?_
      refine lv_lload_n hx hb dX2_evaluateAtom_43 rfl (lv_at hl 0 rfl) ?_
      refine cC_v (ci := 2) (q0 := 6) (As := [.long (gJ u 610)]) (rest := []) E hml hP hD hS hA (t_X2_answer l D G (gJ u 610) u _ h) kmX2_95 mwyX2_answer rfl rfl ⟨⟨rfl, rfl⟩, Nat.le_of_ble_eq_true rfl, Nat.le_of_ble_eq_true rfl⟩ rfl hl.1 rfl (Nat.le_of_ble_eq_true rfl) dX2_evaluateAtom_44 ⟨Nat.zero_le _, Nat.zero_le _⟩ (fun u5 H locs hP hD hS h => ?_)
      exact retC_v E hr hlk hP hD hS h dX2_evaluateAtom_47
    · have h := h.1 hc
      refine lv_aload_n hx hb dX2_evaluateAtom_34 rfl (lv_at hl 1 rfl) ?_
      refine lv_iconst (v := (1 : Int32)) hx hb dX2_evaluateAtom_35 (by decide) ?_
      refine pC_609 E hP hD hS kfX2_25 dX2_evaluateAtom_36 (fun H locs hP hD hS => ?_)
      refine lv_goto (tgt := 47) hx hb dX2_evaluateAtom_39 (by decide) ?_
      exact retC_v E hr hlk hP hD hS h dX2_evaluateAtom_47
def wp_X2_evaluateCall (N : Nat → Nat) (p0 : Int64) (p1 : Int64) (u : St) (Q : St → Prop) : Prop := ((p1 = (1099511627776 : Int64) → wp_X2_beginApplying N p0 (sI u 606 (0 : Int32)) (fun (u9 : St) => Q u9)) ∧ (¬ p1 = (1099511627776 : Int64) → wp_X8_isPair p1 (fun (r1 : Int32) => ((r1 = 0 → Q (sI u 609 (3 : Int32))) ∧ (¬ r1 = 0 → wp_X0_cdr N p1 u (fun (r2 : Int64) (u3 : St) => wp_X7_push N (0 : Int32) p0 r2 (gJ u3 613) u3 (fun (r4 : Int32) (u5 : St) => ((r4 = 0 → Q (sI u5 609 (7 : Int32))) ∧ (¬ r4 = 0 → wp_X0_car N p1 u5 (fun (r6 : Int64) (u7 : St) => wp_X2_beginEvaluating N r6 (gJ u7 613) u7 (fun (u8 : St) => Q u8)))))))))))
abbrev rm_X2_evaluateCall : Room := { frames := 2, cells := 0, slots := 0, locals := 69 }
set_option maxHeartbeats 4000000 in
set_option maxRecDepth 100000 in
theorem t_X2_evaluateCall (l : Launch) (D : va_G) (G : Gd) (p0 : Int64) (p1 : Int64) (u : St) (Q : St → Prop) (h : wp_X2_evaluateCall G.2.1 p0 p1 u Q) : MCv l D G yX2_evaluateCall cX2_evaluateCall 5 none rm_X2_evaluateCall [.ref (G.1 6), .long p0, .long p1] u Q := by
  refine startC_v (by decide) ?_
  intro p e s m args below meth c E hr hlk hml hP hD hS hA
  have hx := E.1
  have hb := E.2.1
  have hown := E.2.2.1
  have hW := E.2.2.2.1
  have hl := lv_entry ([.ref (G.1 6), .long p0, .long p1]) (n := 5) (Nat.le_of_ble_eq_true rfl)
  rw [lg_entry_eq]
  generalize (lg_sl ([.ref (G.1 6), .long p0, .long p1]) ++ List.replicate (5 - (lg_sl ([.ref (G.1 6), .long p0, .long p1])).length) Slot.unset).toArray = ls at hl ⊢
  have hl : lv_has ls 5 [(0, .ref (G.1 6)), (1, .long p0), (3, .long p1)] := hl
  unfold wp_X2_evaluateCall at h
  refine lv_lload_n hx hb dX2_evaluateCall_0 rfl (lv_at hl 2 rfl) ?_
  refine lv_ldc2 (v := (1099511627776 : Int64)) hx hb hown (hW _ kcX2_28) dX2_evaluateCall_1 ?_
  refine lq_ne (tgt := 21) hx hb dX2_evaluateCall_4 dX2_evaluateCall_5 (by decide) (fun hc => ?_) (fun hc => ?_)
  · have h := h.2 hc
    refine lv_lload_n hx hb dX2_evaluateCall_21 rfl (lv_at hl 2 rfl) ?_
    refine c0_i (As := [.long p1]) (rest := []) hx hb hml hown hW hP hS hA (t_X8_isPair l p1 _ h) kmX2_75 mwyX8_isPair ⟨⟨rfl, rfl⟩, Nat.le_of_ble_eq_true rfl, Nat.le_of_ble_eq_true rfl⟩ rfl hl.1 rfl (Nat.le_of_ble_eq_true rfl) dX2_evaluateCall_22 ⟨Nat.zero_le _, Nat.zero_le _⟩ (fun r1 H locs hP hS h => ?_)
    refine lv_if_ne (tgt := 36) hx hb dX2_evaluateCall_25 (by decide) (fun hc => ?_) (fun hc => ?_)
    · have h := h.2 hc
      refine lv_aload_n hx hb dX2_evaluateCall_36 rfl (lv_at hl 0 rfl) ?_
      refine gC_602 E hP kfX2_54 dX2_evaluateCall_37 ?_
      refine lv_iconst (v := (0 : Int32)) hx hb dX2_evaluateCall_40 (by decide) ?_
      refine lv_lload_n hx hb dX2_evaluateCall_41 rfl (lv_at hl 1 rfl) ?_
      refine lv_aload_n hx hb dX2_evaluateCall_42 rfl (lv_at hl 0 rfl) ?_
      refine gC_600 E hP kfX2_46 dX2_evaluateCall_43 ?_
      refine lv_lload_n hx hb dX2_evaluateCall_46 rfl (lv_at hl 2 rfl) ?_
      refine cC_l (ci := 0) (q0 := 8) (As := [.long p1]) (rest := [.long p0, .int (0 : Int32), .ref (G.1 3)]) E hml hP hD hS hA (t_X0_cdr l D G p1 u _ h) kmX2_108 mwyX0_cdr rfl rfl ⟨⟨rfl, rfl⟩, Nat.le_of_ble_eq_true rfl, Nat.le_of_ble_eq_true rfl⟩ rfl hl.1 rfl (Nat.le_of_ble_eq_true rfl) dX2_evaluateCall_47 ⟨Nat.zero_le _, Nat.zero_le _⟩ (fun r2 u3 H locs hP hD hS h => ?_)
      refine lv_aload_n hx hb dX2_evaluateCall_50 rfl (lv_at hl 0 rfl) ?_
      refine gC_613 E hP kfX2_40 (v := (gJ u3 613)) rfl dX2_evaluateCall_51 ?_
      refine cC_i (ci := 7) (q0 := 3) (As := [.int (0 : Int32), .long p0, .long r2, .long (gJ u3 613)]) (rest := []) E hml hP hD hS hA (t_X7_push l D G (0 : Int32) p0 r2 (gJ u3 613) u3 _ h) kmX2_151 mwyX7_push rfl rfl ⟨⟨rfl, rfl⟩, Nat.le_of_ble_eq_true rfl, Nat.le_of_ble_eq_true rfl⟩ rfl hl.1 rfl (Nat.le_of_ble_eq_true rfl) dX2_evaluateCall_54 ⟨Nat.zero_le _, Nat.zero_le _⟩ (fun r4 u5 H locs hP hD hS h => ?_)
      refine lv_if_ne (tgt := 69) hx hb dX2_evaluateCall_57 (by decide) (fun hc => ?_) (fun hc => ?_)
      · have h := h.2 hc
        refine lv_aload_n hx hb dX2_evaluateCall_69 rfl (lv_at hl 0 rfl) ?_
        refine lv_aload_n hx hb dX2_evaluateCall_70 rfl (lv_at hl 0 rfl) ?_
        refine gC_600 E hP kfX2_46 dX2_evaluateCall_71 ?_
        refine lv_lload_n hx hb dX2_evaluateCall_74 rfl (lv_at hl 2 rfl) ?_
        refine cC_l (ci := 0) (q0 := 8) (As := [.long p1]) (rest := [.ref (G.1 6)]) E hml hP hD hS hA (t_X0_car l D G p1 u5 _ h) kmX2_104 mwyX0_car rfl rfl ⟨⟨rfl, rfl⟩, Nat.le_of_ble_eq_true rfl, Nat.le_of_ble_eq_true rfl⟩ rfl hl.1 rfl (Nat.le_of_ble_eq_true rfl) dX2_evaluateCall_75 ⟨Nat.zero_le _, Nat.zero_le _⟩ (fun r6 u7 H locs hP hD hS h => ?_)
        refine lv_aload_n hx hb dX2_evaluateCall_78 rfl (lv_at hl 0 rfl) ?_
        refine gC_613 E hP kfX2_40 (v := (gJ u7 613)) rfl dX2_evaluateCall_79 ?_
        refine cC_v (ci := 2) (q0 := 6) (As := [.long r6, .long (gJ u7 613)]) (rest := []) E hml hP hD hS hA (t_X2_beginEvaluating l D G r6 (gJ u7 613) u7 _ h) kmX2_65 mwyX2_beginEvaluating rfl rfl ⟨⟨rfl, rfl⟩, Nat.le_of_ble_eq_true rfl, Nat.le_of_ble_eq_true rfl⟩ rfl hl.1 rfl (Nat.le_of_ble_eq_true rfl) dX2_evaluateCall_82 ⟨Nat.zero_le _, Nat.zero_le _⟩ (fun u8 H locs hP hD hS h => ?_)
        exact retC_v E hr hlk hP hD hS h dX2_evaluateCall_85
      · have h := h.1 hc
        refine lv_aload_n hx hb dX2_evaluateCall_60 rfl (lv_at hl 0 rfl) ?_
        refine lv_bipush (v := (7 : Int32)) hx hb dX2_evaluateCall_61 (by decide) ?_
        refine pC_609 E hP hD hS kfX2_25 dX2_evaluateCall_63 (fun H locs hP hD hS => ?_)
        refine lv_goto (tgt := 85) hx hb dX2_evaluateCall_66 (by decide) ?_
        exact retC_v E hr hlk hP hD hS h dX2_evaluateCall_85
    · have h := h.1 hc
      refine lv_aload_n hx hb dX2_evaluateCall_28 rfl (lv_at hl 0 rfl) ?_
      refine lv_iconst (v := (3 : Int32)) hx hb dX2_evaluateCall_29 (by decide) ?_
      refine pC_609 E hP hD hS kfX2_25 dX2_evaluateCall_30 (fun H locs hP hD hS => ?_)
      refine lv_goto (tgt := 85) hx hb dX2_evaluateCall_33 (by decide) ?_
      exact retC_v E hr hlk hP hD hS h dX2_evaluateCall_85
  · have h := h.1 hc
    refine lv_aload_n hx hb dX2_evaluateCall_8 rfl (lv_at hl 0 rfl) ?_
    refine lv_iconst (v := (0 : Int32)) hx hb dX2_evaluateCall_9 (by decide) ?_
    refine pC_606 E hP hD hS kfX2_15 dX2_evaluateCall_10 (fun H locs hP hD hS => ?_)
    refine lv_aload_n hx hb dX2_evaluateCall_13 rfl (lv_at hl 0 rfl) ?_
    refine lv_lload_n hx hb dX2_evaluateCall_14 rfl (lv_at hl 1 rfl) ?_
    refine cC_v (ci := 2) (q0 := 6) (As := [.long p0]) (rest := []) E hml hP hD hS hA (t_X2_beginApplying l D G p0 (sI u 606 (0 : Int32)) _ h) kmX2_155 mwyX2_beginApplying rfl rfl ⟨⟨rfl, rfl⟩, Nat.le_of_ble_eq_true rfl, Nat.le_of_ble_eq_true rfl⟩ rfl hl.1 rfl (Nat.le_of_ble_eq_true rfl) dX2_evaluateCall_15 ⟨Nat.zero_le _, Nat.zero_le _⟩ (fun u9 H locs hP hD hS h => ?_)
    refine lv_goto (tgt := 85) hx hb dX2_evaluateCall_18 (by decide) ?_
    exact retC_v E hr hlk hP hD hS h dX2_evaluateCall_85
def wp_X3_makeGlobal (N : Nat → Nat) (p0 : Int64) (p1 : Int64) (u : St) (Q : St → Prop) : Prop := wp_X3_isKnown N p0 u (fun (r1 : Int32) (u2 : St) => ((r1 = 0 → Q u2) ∧ (¬ r1 = 0 → vp_in (((p0 - (1099511627776 : Int64))).toInt32) 150 ∧ Q (sB u2 201 (vp_updL (gB u2 201) (((p0 - (1099511627776 : Int64))).toInt32).toNatClampNeg p1)))))
abbrev rm_X3_makeGlobal : Room := { frames := 1, cells := 0, slots := 0, locals := 22 }
set_option maxHeartbeats 4000000 in
set_option maxRecDepth 100000 in
theorem t_X3_makeGlobal (l : Launch) (D : va_G) (G : Gd) (p0 : Int64) (p1 : Int64) (u : St) (Q : St → Prop) (h : wp_X3_makeGlobal G.2.1 p0 p1 u Q) : MCv l D G yX3_makeGlobal cX3_makeGlobal 5 none rm_X3_makeGlobal [.ref (G.1 2), .long p0, .long p1] u Q := by
  refine startC_v (by decide) ?_
  intro p e s m args below meth c E hr hlk hml hP hD hS hA
  have hx := E.1
  have hb := E.2.1
  have hown := E.2.2.1
  have hW := E.2.2.2.1
  have hl := lv_entry ([.ref (G.1 2), .long p0, .long p1]) (n := 5) (Nat.le_of_ble_eq_true rfl)
  rw [lg_entry_eq]
  generalize (lg_sl ([.ref (G.1 2), .long p0, .long p1]) ++ List.replicate (5 - (lg_sl ([.ref (G.1 2), .long p0, .long p1])).length) Slot.unset).toArray = ls at hl ⊢
  have hl : lv_has ls 5 [(0, .ref (G.1 2)), (1, .long p0), (3, .long p1)] := hl
  unfold wp_X3_makeGlobal at h
  refine lv_aload_n hx hb dX3_makeGlobal_0 rfl (lv_at hl 0 rfl) ?_
  refine lv_lload_n hx hb dX3_makeGlobal_1 rfl (lv_at hl 1 rfl) ?_
  refine cC_i (ci := 3) (q0 := 2) (As := [.long p0]) (rest := []) E hml hP hD hS hA (t_X3_isKnown l D G p0 u _ h) kmX3_52 mwyX3_isKnown rfl rfl ⟨⟨rfl, rfl⟩, Nat.le_of_ble_eq_true rfl, Nat.le_of_ble_eq_true rfl⟩ rfl hl.1 rfl (Nat.le_of_ble_eq_true rfl) dX3_makeGlobal_2 ⟨Nat.zero_le _, Nat.zero_le _⟩ (fun r1 u2 H locs hP hD hS h => ?_)
  refine lv_if_eq (tgt := 20) hx hb dX3_makeGlobal_5 (by decide) (fun hc => ?_) (fun hc => ?_)
  · have h := h.1 hc
    exact retC_v E hr hlk hP hD hS h dX3_makeGlobal_20
  · have h := h.2 hc
    refine lv_aload_n hx hb dX3_makeGlobal_8 rfl (lv_at hl 0 rfl) ?_
    refine gC_201 E hP kfX3_15 dX3_makeGlobal_9 ?_
    refine lv_lload_n hx hb dX3_makeGlobal_12 rfl (lv_at hl 1 rfl) ?_
    refine lv_ldc2 (v := (1099511627776 : Int64)) hx hb hown (hW _ kcX3_50) dX3_makeGlobal_13 ?_
    refine lv_lsub hx hb dX3_makeGlobal_16 ?_
    refine lv_l2i (v := ((p0 - (1099511627776 : Int64))).toInt32) hx hb dX3_makeGlobal_17 rfl ?_
    refine lv_lload_n hx hb dX3_makeGlobal_18 rfl (lv_at hl 2 rfl) ?_
    obtain ⟨h9, h⟩ := h
    refine yC_201 E hP hD hS h9 (f := (gB u2 201)) rfl dX3_makeGlobal_19 (fun H locs hP hD hS => ?_)
    exact retC_v E hr hlk hP hD hS h dX3_makeGlobal_20
def wp_X2_evaluateDefine (N : Nat → Nat)  (u : St) (Q : St → Prop) : Prop := wp_X0_cdr N (gJ u 610) u (fun (r1 : Int64) (u2 : St) => wp_X0_car N r1 u2 (fun (r3 : Int64) (u4 : St) => wp_X0_isListOf N (gJ u4 610) (3 : Int32) u4 (fun (r5 : Int32) (u6 : St) => ((r5 = 0 → Q (sI u6 609 (3 : Int32))) ∧ (¬ r5 = 0 → wp_X8_isName r3 (fun (r7 : Int32) => ((r7 = 0 → Q (sI u6 609 (3 : Int32))) ∧ (¬ r7 = 0 → wp_X8_isFixed r3 (fun (r8 : Int32) => ((r8 = 0 → wp_X0_cdr N (gJ u6 610) u6 (fun (r9 : Int64) (u10 : St) => wp_X0_cdr N r9 u10 (fun (r11 : Int64) (u12 : St) => wp_X0_car N r11 u12 (fun (r13 : Int64) (u14 : St) => wp_X3_makeGlobal N r3 r13 u14 (fun (u15 : St) => wp_X2_answer N r3 u15 (fun (u16 : St) => Q u16)))))) ∧ (¬ r8 = 0 → Q (sI u6 609 (3 : Int32)))))))))))))
abbrev rm_X2_evaluateDefine : Room := { frames := 3, cells := 0, slots := 0, locals := 71 }
set_option maxHeartbeats 4000000 in
set_option maxRecDepth 100000 in
theorem t_X2_evaluateDefine (l : Launch) (D : va_G) (G : Gd)  (u : St) (Q : St → Prop) (h : wp_X2_evaluateDefine G.2.1  u Q) : MCv l D G yX2_evaluateDefine cX2_evaluateDefine 3 none rm_X2_evaluateDefine [.ref (G.1 6)] u Q := by
  refine startC_v (by decide) ?_
  intro p e s m args below meth c E hr hlk hml hP hD hS hA
  have hx := E.1
  have hb := E.2.1
  have hown := E.2.2.1
  have hW := E.2.2.2.1
  have hl := lv_entry ([.ref (G.1 6)]) (n := 3) (Nat.le_of_ble_eq_true rfl)
  rw [lg_entry_eq]
  generalize (lg_sl ([.ref (G.1 6)]) ++ List.replicate (3 - (lg_sl ([.ref (G.1 6)])).length) Slot.unset).toArray = ls at hl ⊢
  have hl : lv_has ls 3 [(0, .ref (G.1 6))] := hl
  unfold wp_X2_evaluateDefine at h
  refine lv_aload_n hx hb dX2_evaluateDefine_0 rfl (lv_at hl 0 rfl) ?_
  refine gC_600 E hP kfX2_46 dX2_evaluateDefine_1 ?_
  refine lv_aload_n hx hb dX2_evaluateDefine_4 rfl (lv_at hl 0 rfl) ?_
  refine gC_600 E hP kfX2_46 dX2_evaluateDefine_5 ?_
  refine lv_aload_n hx hb dX2_evaluateDefine_8 rfl (lv_at hl 0 rfl) ?_
  refine gC_610 E hP kfX2_30 (v := (gJ u 610)) rfl dX2_evaluateDefine_9 ?_
  refine cC_l (ci := 0) (q0 := 8) (As := [.long (gJ u 610)]) (rest := [.ref (G.1 8)]) E hml hP hD hS hA (t_X0_cdr l D G (gJ u 610) u _ h) kmX2_108 mwyX0_cdr rfl rfl ⟨⟨rfl, rfl⟩, Nat.le_of_ble_eq_true rfl, Nat.le_of_ble_eq_true rfl⟩ rfl hl.1 rfl (Nat.le_of_ble_eq_true rfl) dX2_evaluateDefine_12 ⟨Nat.zero_le _, Nat.zero_le _⟩ (fun r1 u2 H locs hP hD hS h => ?_)
  refine cC_l (ci := 0) (q0 := 8) (As := [.long r1]) (rest := []) E hml hP hD hS hA (t_X0_car l D G r1 u2 _ h) kmX2_104 mwyX0_car rfl rfl ⟨⟨rfl, rfl⟩, Nat.le_of_ble_eq_true rfl, Nat.le_of_ble_eq_true rfl⟩ rfl hl.1 rfl (Nat.le_of_ble_eq_true rfl) dX2_evaluateDefine_15 ⟨Nat.zero_le _, Nat.zero_le _⟩ (fun r3 u4 H locs hP hD hS h => ?_)
  refine lv_lstore_n (lv' := [(1, .long r3), (0, .ref (G.1 6))]) hx hb dX2_evaluateDefine_18 rfl hl (by decide) rfl (fun ls hl => ?_)
  refine lv_aload_n hx hb dX2_evaluateDefine_19 rfl (lv_at hl 1 rfl) ?_
  refine gC_600 E hP kfX2_46 dX2_evaluateDefine_20 ?_
  refine lv_aload_n hx hb dX2_evaluateDefine_23 rfl (lv_at hl 1 rfl) ?_
  refine gC_610 E hP kfX2_30 (v := (gJ u4 610)) rfl dX2_evaluateDefine_24 ?_
  refine lv_iconst (v := (3 : Int32)) hx hb dX2_evaluateDefine_27 (by decide) ?_
  refine cC_i (ci := 0) (q0 := 8) (As := [.long (gJ u4 610), .int (3 : Int32)]) (rest := []) E hml hP hD hS hA (t_X0_isListOf l D G (gJ u4 610) (3 : Int32) u4 _ h) kmX2_139 mwyX0_isListOf rfl rfl ⟨⟨rfl, rfl⟩, Nat.le_of_ble_eq_true rfl, Nat.le_of_ble_eq_true rfl⟩ rfl hl.1 rfl (Nat.le_of_ble_eq_true rfl) dX2_evaluateDefine_28 ⟨Nat.zero_le _, Nat.zero_le _⟩ (fun r5 u6 H locs hP hD hS h => ?_)
  refine lv_if_eq (tgt := 48) hx hb dX2_evaluateDefine_31 (by decide) (fun hc => ?_) (fun hc => ?_)
  · have h := h.1 hc
    refine lv_aload_n hx hb dX2_evaluateDefine_48 rfl (lv_at hl 1 rfl) ?_
    refine lv_iconst (v := (3 : Int32)) hx hb dX2_evaluateDefine_49 (by decide) ?_
    refine pC_609 E hP hD hS kfX2_25 dX2_evaluateDefine_50 (fun H locs hP hD hS => ?_)
    exact retC_v E hr hlk hP hD hS h dX2_evaluateDefine_53
  · have h := h.2 hc
    refine lv_lload_n hx hb dX2_evaluateDefine_34 rfl (lv_at hl 0 rfl) ?_
    refine c0_i (As := [.long r3]) (rest := []) hx hb hml hown hW hP hS hA (t_X8_isName l r3 _ h) kmX2_143 mwyX8_isName ⟨⟨rfl, rfl⟩, Nat.le_of_ble_eq_true rfl, Nat.le_of_ble_eq_true rfl⟩ rfl hl.1 rfl (Nat.le_of_ble_eq_true rfl) dX2_evaluateDefine_35 ⟨Nat.zero_le _, Nat.zero_le _⟩ (fun r7 H locs hP hS h => ?_)
    refine lv_if_eq (tgt := 48) hx hb dX2_evaluateDefine_38 (by decide) (fun hc => ?_) (fun hc => ?_)
    · have h := h.1 hc
      refine lv_aload_n hx hb dX2_evaluateDefine_48 rfl (lv_at hl 1 rfl) ?_
      refine lv_iconst (v := (3 : Int32)) hx hb dX2_evaluateDefine_49 (by decide) ?_
      refine pC_609 E hP hD hS kfX2_25 dX2_evaluateDefine_50 (fun H locs hP hD hS => ?_)
      exact retC_v E hr hlk hP hD hS h dX2_evaluateDefine_53
    · have h := h.2 hc
      refine lv_lload_n hx hb dX2_evaluateDefine_41 rfl (lv_at hl 0 rfl) ?_
      refine c0_i (As := [.long r3]) (rest := []) hx hb hml hown hW hP hS hA (t_X8_isFixed l r3 _ h) kmX2_116 mwyX8_isFixed ⟨⟨rfl, rfl⟩, Nat.le_of_ble_eq_true rfl, Nat.le_of_ble_eq_true rfl⟩ rfl hl.1 rfl (Nat.le_of_ble_eq_true rfl) dX2_evaluateDefine_42 ⟨Nat.zero_le _, Nat.zero_le _⟩ (fun r8 H locs hP hS h => ?_)
      refine lv_if_eq (tgt := 54) hx hb dX2_evaluateDefine_45 (by decide) (fun hc => ?_) (fun hc => ?_)
      · have h := h.1 hc
        refine lv_aload_n hx hb dX2_evaluateDefine_54 rfl (lv_at hl 1 rfl) ?_
        refine gC_601 E hP kfX2_50 dX2_evaluateDefine_55 ?_
        refine lv_lload_n hx hb dX2_evaluateDefine_58 rfl (lv_at hl 0 rfl) ?_
        refine lv_aload_n hx hb dX2_evaluateDefine_59 rfl (lv_at hl 1 rfl) ?_
        refine gC_600 E hP kfX2_46 dX2_evaluateDefine_60 ?_
        refine lv_aload_n hx hb dX2_evaluateDefine_63 rfl (lv_at hl 1 rfl) ?_
        refine gC_600 E hP kfX2_46 dX2_evaluateDefine_64 ?_
        refine lv_aload_n hx hb dX2_evaluateDefine_67 rfl (lv_at hl 1 rfl) ?_
        refine gC_600 E hP kfX2_46 dX2_evaluateDefine_68 ?_
        refine lv_aload_n hx hb dX2_evaluateDefine_71 rfl (lv_at hl 1 rfl) ?_
        refine gC_610 E hP kfX2_30 (v := (gJ u6 610)) rfl dX2_evaluateDefine_72 ?_
        refine cC_l (ci := 0) (q0 := 8) (As := [.long (gJ u6 610)]) (rest := [.ref (G.1 8), .ref (G.1 8), .long r3, .ref (G.1 2)]) E hml hP hD hS hA (t_X0_cdr l D G (gJ u6 610) u6 _ h) kmX2_108 mwyX0_cdr rfl rfl ⟨⟨rfl, rfl⟩, Nat.le_of_ble_eq_true rfl, Nat.le_of_ble_eq_true rfl⟩ rfl hl.1 rfl (Nat.le_of_ble_eq_true rfl) dX2_evaluateDefine_75 ⟨Nat.zero_le _, Nat.zero_le _⟩ (fun r9 u10 H locs hP hD hS h => ?_)
        refine cC_l (ci := 0) (q0 := 8) (As := [.long r9]) (rest := [.ref (G.1 8), .long r3, .ref (G.1 2)]) E hml hP hD hS hA (t_X0_cdr l D G r9 u10 _ h) kmX2_108 mwyX0_cdr rfl rfl ⟨⟨rfl, rfl⟩, Nat.le_of_ble_eq_true rfl, Nat.le_of_ble_eq_true rfl⟩ rfl hl.1 rfl (Nat.le_of_ble_eq_true rfl) dX2_evaluateDefine_78 ⟨Nat.zero_le _, Nat.zero_le _⟩ (fun r11 u12 H locs hP hD hS h => ?_)
        refine cC_l (ci := 0) (q0 := 8) (As := [.long r11]) (rest := [.long r3, .ref (G.1 2)]) E hml hP hD hS hA (t_X0_car l D G r11 u12 _ h) kmX2_104 mwyX0_car rfl rfl ⟨⟨rfl, rfl⟩, Nat.le_of_ble_eq_true rfl, Nat.le_of_ble_eq_true rfl⟩ rfl hl.1 rfl (Nat.le_of_ble_eq_true rfl) dX2_evaluateDefine_81 ⟨Nat.zero_le _, Nat.zero_le _⟩ (fun r13 u14 H locs hP hD hS h => ?_)
        refine cC_v (ci := 3) (q0 := 2) (As := [.long r3, .long r13]) (rest := []) E hml hP hD hS hA (t_X3_makeGlobal l D G r3 r13 u14 _ h) kmX2_146 mwyX3_makeGlobal rfl rfl ⟨⟨rfl, rfl⟩, Nat.le_of_ble_eq_true rfl, Nat.le_of_ble_eq_true rfl⟩ rfl hl.1 rfl (Nat.le_of_ble_eq_true rfl) dX2_evaluateDefine_84 ⟨Nat.zero_le _, Nat.zero_le _⟩ (fun u15 H locs hP hD hS h => ?_)
        refine lv_aload_n hx hb dX2_evaluateDefine_87 rfl (lv_at hl 1 rfl) ?_
        refine lv_lload_n hx hb dX2_evaluateDefine_88 rfl (lv_at hl 0 rfl) ?_
        refine cC_v (ci := 2) (q0 := 6) (As := [.long r3]) (rest := []) E hml hP hD hS hA (t_X2_answer l D G r3 u15 _ h) kmX2_95 mwyX2_answer rfl rfl ⟨⟨rfl, rfl⟩, Nat.le_of_ble_eq_true rfl, Nat.le_of_ble_eq_true rfl⟩ rfl hl.1 rfl (Nat.le_of_ble_eq_true rfl) dX2_evaluateDefine_89 ⟨Nat.zero_le _, Nat.zero_le _⟩ (fun u16 H locs hP hD hS h => ?_)
        exact retC_v E hr hlk hP hD hS h dX2_evaluateDefine_92
      · have h := h.2 hc
        refine lv_aload_n hx hb dX2_evaluateDefine_48 rfl (lv_at hl 1 rfl) ?_
        refine lv_iconst (v := (3 : Int32)) hx hb dX2_evaluateDefine_49 (by decide) ?_
        refine pC_609 E hP hD hS kfX2_25 dX2_evaluateDefine_50 (fun H locs hP hD hS => ?_)
        exact retC_v E hr hlk hP hD hS h dX2_evaluateDefine_53
def wp_X2_choose (N : Nat → Nat)  (u : St) (Q : St → Prop) : Prop := wp_X0_car N (gJ u 611) u (fun (r1 : Int64) (u2 : St) => (((gJ u2 611) = (1099511627776 : Int64) → Q (sI u2 609 (5 : Int32))) ∧ (¬ (gJ u2 611) = (1099511627776 : Int64) → wp_X8_isPair (gJ u2 611) (fun (r3 : Int32) => ((r3 = 0 → Q (sI u2 609 (3 : Int32))) ∧ (¬ r3 = 0 → wp_X0_isListOf N r1 (2 : Int32) u2 (fun (r4 : Int32) (u5 : St) => ((r4 = 0 → Q (sI u5 609 (3 : Int32))) ∧ (¬ r4 = 0 → wp_X7_push N (1 : Int32) (1099511627776 : Int64) (gJ u5 611) (gJ u5 613) u5 (fun (r6 : Int32) (u7 : St) => ((r6 = 0 → Q (sI u7 609 (7 : Int32))) ∧ (¬ r6 = 0 → wp_X0_car N r1 u7 (fun (r8 : Int64) (u9 : St) => wp_X2_beginEvaluating N r8 (gJ u9 613) u9 (fun (u10 : St) => Q u10))))))))))))))
abbrev rm_X2_choose : Room := { frames := 3, cells := 0, slots := 0, locals := 71 }
set_option maxHeartbeats 4000000 in
set_option maxRecDepth 100000 in
theorem t_X2_choose (l : Launch) (D : va_G) (G : Gd)  (u : St) (Q : St → Prop) (h : wp_X2_choose G.2.1  u Q) : MCv l D G yX2_choose cX2_choose 3 none rm_X2_choose [.ref (G.1 6)] u Q := by
  refine startC_v (by decide) ?_
  intro p e s m args below meth c E hr hlk hml hP hD hS hA
  have hx := E.1
  have hb := E.2.1
  have hown := E.2.2.1
  have hW := E.2.2.2.1
  have hl := lv_entry ([.ref (G.1 6)]) (n := 3) (Nat.le_of_ble_eq_true rfl)
  rw [lg_entry_eq]
  generalize (lg_sl ([.ref (G.1 6)]) ++ List.replicate (3 - (lg_sl ([.ref (G.1 6)])).length) Slot.unset).toArray = ls at hl ⊢
  have hl : lv_has ls 3 [(0, .ref (G.1 6))] := hl
  unfold wp_X2_choose at h
  refine lv_aload_n hx hb dX2_choose_0 rfl (lv_at hl 0 rfl) ?_
  refine gC_600 E hP kfX2_46 dX2_choose_1 ?_
  refine lv_aload_n hx hb dX2_choose_4 rfl (lv_at hl 0 rfl) ?_
  refine gC_611 E hP kfX2_34 (v := (gJ u 611)) rfl dX2_choose_5 ?_
  refine cC_l (ci := 0) (q0 := 8) (As := [.long (gJ u 611)]) (rest := []) E hml hP hD hS hA (t_X0_car l D G (gJ u 611) u _ h) kmX2_104 mwyX0_car rfl rfl ⟨⟨rfl, rfl⟩, Nat.le_of_ble_eq_true rfl, Nat.le_of_ble_eq_true rfl⟩ rfl hl.1 rfl (Nat.le_of_ble_eq_true rfl) dX2_choose_8 ⟨Nat.zero_le _, Nat.zero_le _⟩ (fun r1 u2 H locs hP hD hS h => ?_)
  refine lv_lstore_n (lv' := [(1, .long r1), (0, .ref (G.1 6))]) hx hb dX2_choose_11 rfl hl (by decide) rfl (fun ls hl => ?_)
  refine lv_aload_n hx hb dX2_choose_12 rfl (lv_at hl 1 rfl) ?_
  refine gC_611 E hP kfX2_34 (v := (gJ u2 611)) rfl dX2_choose_13 ?_
  refine lv_ldc2 (v := (1099511627776 : Int64)) hx hb hown (hW _ kcX2_28) dX2_choose_16 ?_
  refine lq_ne (tgt := 31) hx hb dX2_choose_19 dX2_choose_20 (by decide) (fun hc => ?_) (fun hc => ?_)
  · have h := h.2 hc
    refine lv_aload_n hx hb dX2_choose_31 rfl (lv_at hl 1 rfl) ?_
    refine gC_611 E hP kfX2_34 (v := (gJ u2 611)) rfl dX2_choose_32 ?_
    refine c0_i (As := [.long (gJ u2 611)]) (rest := []) hx hb hml hown hW hP hS hA (t_X8_isPair l (gJ u2 611) _ h) kmX2_75 mwyX8_isPair ⟨⟨rfl, rfl⟩, Nat.le_of_ble_eq_true rfl, Nat.le_of_ble_eq_true rfl⟩ rfl hl.1 rfl (Nat.le_of_ble_eq_true rfl) dX2_choose_35 ⟨Nat.zero_le _, Nat.zero_le _⟩ (fun r3 H locs hP hS h => ?_)
    refine lv_if_eq (tgt := 53) hx hb dX2_choose_38 (by decide) (fun hc => ?_) (fun hc => ?_)
    · have h := h.1 hc
      refine lv_aload_n hx hb dX2_choose_53 rfl (lv_at hl 1 rfl) ?_
      refine lv_iconst (v := (3 : Int32)) hx hb dX2_choose_54 (by decide) ?_
      refine pC_609 E hP hD hS kfX2_25 dX2_choose_55 (fun H locs hP hD hS => ?_)
      refine lv_goto (tgt := 108) hx hb dX2_choose_58 (by decide) ?_
      exact retC_v E hr hlk hP hD hS h dX2_choose_108
    · have h := h.2 hc
      refine lv_aload_n hx hb dX2_choose_41 rfl (lv_at hl 1 rfl) ?_
      refine gC_600 E hP kfX2_46 dX2_choose_42 ?_
      refine lv_lload_n hx hb dX2_choose_45 rfl (lv_at hl 0 rfl) ?_
      refine lv_iconst (v := (2 : Int32)) hx hb dX2_choose_46 (by decide) ?_
      refine cC_i (ci := 0) (q0 := 8) (As := [.long r1, .int (2 : Int32)]) (rest := []) E hml hP hD hS hA (t_X0_isListOf l D G r1 (2 : Int32) u2 _ h) kmX2_139 mwyX0_isListOf rfl rfl ⟨⟨rfl, rfl⟩, Nat.le_of_ble_eq_true rfl, Nat.le_of_ble_eq_true rfl⟩ rfl hl.1 rfl (Nat.le_of_ble_eq_true rfl) dX2_choose_47 ⟨Nat.zero_le _, Nat.zero_le _⟩ (fun r4 u5 H locs hP hD hS h => ?_)
      refine lv_if_ne (tgt := 61) hx hb dX2_choose_50 (by decide) (fun hc => ?_) (fun hc => ?_)
      · have h := h.2 hc
        refine lv_aload_n hx hb dX2_choose_61 rfl (lv_at hl 1 rfl) ?_
        refine gC_602 E hP kfX2_54 dX2_choose_62 ?_
        refine lv_iconst (v := (1 : Int32)) hx hb dX2_choose_65 (by decide) ?_
        refine lv_ldc2 (v := (1099511627776 : Int64)) hx hb hown (hW _ kcX2_28) dX2_choose_66 ?_
        refine lv_aload_n hx hb dX2_choose_69 rfl (lv_at hl 1 rfl) ?_
        refine gC_611 E hP kfX2_34 (v := (gJ u5 611)) rfl dX2_choose_70 ?_
        refine lv_aload_n hx hb dX2_choose_73 rfl (lv_at hl 1 rfl) ?_
        refine gC_613 E hP kfX2_40 (v := (gJ u5 613)) rfl dX2_choose_74 ?_
        refine cC_i (ci := 7) (q0 := 3) (As := [.int (1 : Int32), .long (1099511627776 : Int64), .long (gJ u5 611), .long (gJ u5 613)]) (rest := []) E hml hP hD hS hA (t_X7_push l D G (1 : Int32) (1099511627776 : Int64) (gJ u5 611) (gJ u5 613) u5 _ h) kmX2_151 mwyX7_push rfl rfl ⟨⟨rfl, rfl⟩, Nat.le_of_ble_eq_true rfl, Nat.le_of_ble_eq_true rfl⟩ rfl hl.1 rfl (Nat.le_of_ble_eq_true rfl) dX2_choose_77 ⟨Nat.zero_le _, Nat.zero_le _⟩ (fun r6 u7 H locs hP hD hS h => ?_)
        refine lv_if_ne (tgt := 92) hx hb dX2_choose_80 (by decide) (fun hc => ?_) (fun hc => ?_)
        · have h := h.2 hc
          refine lv_aload_n hx hb dX2_choose_92 rfl (lv_at hl 1 rfl) ?_
          refine lv_aload_n hx hb dX2_choose_93 rfl (lv_at hl 1 rfl) ?_
          refine gC_600 E hP kfX2_46 dX2_choose_94 ?_
          refine lv_lload_n hx hb dX2_choose_97 rfl (lv_at hl 0 rfl) ?_
          refine cC_l (ci := 0) (q0 := 8) (As := [.long r1]) (rest := [.ref (G.1 6)]) E hml hP hD hS hA (t_X0_car l D G r1 u7 _ h) kmX2_104 mwyX0_car rfl rfl ⟨⟨rfl, rfl⟩, Nat.le_of_ble_eq_true rfl, Nat.le_of_ble_eq_true rfl⟩ rfl hl.1 rfl (Nat.le_of_ble_eq_true rfl) dX2_choose_98 ⟨Nat.zero_le _, Nat.zero_le _⟩ (fun r8 u9 H locs hP hD hS h => ?_)
          refine lv_aload_n hx hb dX2_choose_101 rfl (lv_at hl 1 rfl) ?_
          refine gC_613 E hP kfX2_40 (v := (gJ u9 613)) rfl dX2_choose_102 ?_
          refine cC_v (ci := 2) (q0 := 6) (As := [.long r8, .long (gJ u9 613)]) (rest := []) E hml hP hD hS hA (t_X2_beginEvaluating l D G r8 (gJ u9 613) u9 _ h) kmX2_65 mwyX2_beginEvaluating rfl rfl ⟨⟨rfl, rfl⟩, Nat.le_of_ble_eq_true rfl, Nat.le_of_ble_eq_true rfl⟩ rfl hl.1 rfl (Nat.le_of_ble_eq_true rfl) dX2_choose_105 ⟨Nat.zero_le _, Nat.zero_le _⟩ (fun u10 H locs hP hD hS h => ?_)
          exact retC_v E hr hlk hP hD hS h dX2_choose_108
        · have h := h.1 hc
          refine lv_aload_n hx hb dX2_choose_83 rfl (lv_at hl 1 rfl) ?_
          refine lv_bipush (v := (7 : Int32)) hx hb dX2_choose_84 (by decide) ?_
          refine pC_609 E hP hD hS kfX2_25 dX2_choose_86 (fun H locs hP hD hS => ?_)
          refine lv_goto (tgt := 108) hx hb dX2_choose_89 (by decide) ?_
          exact retC_v E hr hlk hP hD hS h dX2_choose_108
      · have h := h.1 hc
        refine lv_aload_n hx hb dX2_choose_53 rfl (lv_at hl 1 rfl) ?_
        refine lv_iconst (v := (3 : Int32)) hx hb dX2_choose_54 (by decide) ?_
        refine pC_609 E hP hD hS kfX2_25 dX2_choose_55 (fun H locs hP hD hS => ?_)
        refine lv_goto (tgt := 108) hx hb dX2_choose_58 (by decide) ?_
        exact retC_v E hr hlk hP hD hS h dX2_choose_108
  · have h := h.1 hc
    refine lv_aload_n hx hb dX2_choose_23 rfl (lv_at hl 1 rfl) ?_
    refine lv_iconst (v := (5 : Int32)) hx hb dX2_choose_24 (by decide) ?_
    refine pC_609 E hP hD hS kfX2_25 dX2_choose_25 (fun H locs hP hD hS => ?_)
    refine lv_goto (tgt := 108) hx hb dX2_choose_28 (by decide) ?_
    exact retC_v E hr hlk hP hD hS h dX2_choose_108
def wp_X2_evaluateQuote (N : Nat → Nat)  (u : St) (Q : St → Prop) : Prop := wp_X0_isListOf N (gJ u 610) (2 : Int32) u (fun (r1 : Int32) (u2 : St) => ((r1 = 0 → Q (sI u2 609 (3 : Int32))) ∧ (¬ r1 = 0 → wp_X0_cdr N (gJ u2 610) u2 (fun (r3 : Int64) (u4 : St) => wp_X0_car N r3 u4 (fun (r5 : Int64) (u6 : St) => wp_X2_answer N r5 u6 (fun (u7 : St) => Q u7))))))
abbrev rm_X2_evaluateQuote : Room := { frames := 3, cells := 0, slots := 0, locals := 71 }
set_option maxHeartbeats 4000000 in
set_option maxRecDepth 100000 in
theorem t_X2_evaluateQuote (l : Launch) (D : va_G) (G : Gd)  (u : St) (Q : St → Prop) (h : wp_X2_evaluateQuote G.2.1  u Q) : MCv l D G yX2_evaluateQuote cX2_evaluateQuote 1 none rm_X2_evaluateQuote [.ref (G.1 6)] u Q := by
  refine startC_v (by decide) ?_
  intro p e s m args below meth c E hr hlk hml hP hD hS hA
  have hx := E.1
  have hb := E.2.1
  have hown := E.2.2.1
  have hW := E.2.2.2.1
  have hl := lv_entry ([.ref (G.1 6)]) (n := 1) (Nat.le_of_ble_eq_true rfl)
  rw [lg_entry_eq]
  generalize (lg_sl ([.ref (G.1 6)]) ++ List.replicate (1 - (lg_sl ([.ref (G.1 6)])).length) Slot.unset).toArray = ls at hl ⊢
  have hl : lv_has ls 1 [(0, .ref (G.1 6))] := hl
  unfold wp_X2_evaluateQuote at h
  refine lv_aload_n hx hb dX2_evaluateQuote_0 rfl (lv_at hl 0 rfl) ?_
  refine gC_600 E hP kfX2_46 dX2_evaluateQuote_1 ?_
  refine lv_aload_n hx hb dX2_evaluateQuote_4 rfl (lv_at hl 0 rfl) ?_
  refine gC_610 E hP kfX2_30 (v := (gJ u 610)) rfl dX2_evaluateQuote_5 ?_
  refine lv_iconst (v := (2 : Int32)) hx hb dX2_evaluateQuote_8 (by decide) ?_
  refine cC_i (ci := 0) (q0 := 8) (As := [.long (gJ u 610), .int (2 : Int32)]) (rest := []) E hml hP hD hS hA (t_X0_isListOf l D G (gJ u 610) (2 : Int32) u _ h) kmX2_139 mwyX0_isListOf rfl rfl ⟨⟨rfl, rfl⟩, Nat.le_of_ble_eq_true rfl, Nat.le_of_ble_eq_true rfl⟩ rfl hl.1 rfl (Nat.le_of_ble_eq_true rfl) dX2_evaluateQuote_9 ⟨Nat.zero_le _, Nat.zero_le _⟩ (fun r1 u2 H locs hP hD hS h => ?_)
  refine lv_if_eq (tgt := 40) hx hb dX2_evaluateQuote_12 (by decide) (fun hc => ?_) (fun hc => ?_)
  · have h := h.1 hc
    refine lv_aload_n hx hb dX2_evaluateQuote_40 rfl (lv_at hl 0 rfl) ?_
    refine lv_iconst (v := (3 : Int32)) hx hb dX2_evaluateQuote_41 (by decide) ?_
    refine pC_609 E hP hD hS kfX2_25 dX2_evaluateQuote_42 (fun H locs hP hD hS => ?_)
    exact retC_v E hr hlk hP hD hS h dX2_evaluateQuote_45
  · have h := h.2 hc
    refine lv_aload_n hx hb dX2_evaluateQuote_15 rfl (lv_at hl 0 rfl) ?_
    refine lv_aload_n hx hb dX2_evaluateQuote_16 rfl (lv_at hl 0 rfl) ?_
    refine gC_600 E hP kfX2_46 dX2_evaluateQuote_17 ?_
    refine lv_aload_n hx hb dX2_evaluateQuote_20 rfl (lv_at hl 0 rfl) ?_
    refine gC_600 E hP kfX2_46 dX2_evaluateQuote_21 ?_
    refine lv_aload_n hx hb dX2_evaluateQuote_24 rfl (lv_at hl 0 rfl) ?_
    refine gC_610 E hP kfX2_30 (v := (gJ u2 610)) rfl dX2_evaluateQuote_25 ?_
    refine cC_l (ci := 0) (q0 := 8) (As := [.long (gJ u2 610)]) (rest := [.ref (G.1 8), .ref (G.1 6)]) E hml hP hD hS hA (t_X0_cdr l D G (gJ u2 610) u2 _ h) kmX2_108 mwyX0_cdr rfl rfl ⟨⟨rfl, rfl⟩, Nat.le_of_ble_eq_true rfl, Nat.le_of_ble_eq_true rfl⟩ rfl hl.1 rfl (Nat.le_of_ble_eq_true rfl) dX2_evaluateQuote_28 ⟨Nat.zero_le _, Nat.zero_le _⟩ (fun r3 u4 H locs hP hD hS h => ?_)
    refine cC_l (ci := 0) (q0 := 8) (As := [.long r3]) (rest := [.ref (G.1 6)]) E hml hP hD hS hA (t_X0_car l D G r3 u4 _ h) kmX2_104 mwyX0_car rfl rfl ⟨⟨rfl, rfl⟩, Nat.le_of_ble_eq_true rfl, Nat.le_of_ble_eq_true rfl⟩ rfl hl.1 rfl (Nat.le_of_ble_eq_true rfl) dX2_evaluateQuote_31 ⟨Nat.zero_le _, Nat.zero_le _⟩ (fun r5 u6 H locs hP hD hS h => ?_)
    refine cC_v (ci := 2) (q0 := 6) (As := [.long r5]) (rest := []) E hml hP hD hS hA (t_X2_answer l D G r5 u6 _ h) kmX2_95 mwyX2_answer rfl rfl ⟨⟨rfl, rfl⟩, Nat.le_of_ble_eq_true rfl, Nat.le_of_ble_eq_true rfl⟩ rfl hl.1 rfl (Nat.le_of_ble_eq_true rfl) dX2_evaluateQuote_34 ⟨Nat.zero_le _, Nat.zero_le _⟩ (fun u7 H locs hP hD hS h => ?_)
    refine lv_goto (tgt := 45) hx hb dX2_evaluateQuote_37 (by decide) ?_
    exact retC_v E hr hlk hP hD hS h dX2_evaluateQuote_45
def wp_X2_evaluatePair (N : Nat → Nat)  (u : St) (Q : St → Prop) : Prop := wp_X0_car N (gJ u 610) u (fun (r1 : Int64) (u2 : St) => ((r1 = (1099511627778 : Int64) → wp_X2_evaluateQuote N  u2 (fun (u10 : St) => Q u10)) ∧ (¬ r1 = (1099511627778 : Int64) → ((r1 = (1099511627779 : Int64) → wp_X0_cdr N (gJ u2 610) u2 (fun (r7 : Int64) (u8 : St) => wp_X2_choose N  (sJ u8 611 r7) (fun (u9 : St) => Q u9))) ∧ (¬ r1 = (1099511627779 : Int64) → ((r1 = (1099511627780 : Int64) → wp_X2_evaluateDefine N  u2 (fun (u6 : St) => Q u6)) ∧ (¬ r1 = (1099511627780 : Int64) → wp_X0_cdr N (gJ u2 610) u2 (fun (r3 : Int64) (u4 : St) => wp_X2_evaluateCall N r1 r3 u4 (fun (u5 : St) => Q u5)))))))))
abbrev rm_X2_evaluatePair : Room := { frames := 4, cells := 0, slots := 0, locals := 93 }
set_option maxHeartbeats 4000000 in
set_option maxRecDepth 100000 in
theorem t_X2_evaluatePair (l : Launch) (D : va_G) (G : Gd)  (u : St) (Q : St → Prop) (h : wp_X2_evaluatePair G.2.1  u Q) : MCv l D G yX2_evaluatePair cX2_evaluatePair 3 none rm_X2_evaluatePair [.ref (G.1 6)] u Q := by
  refine startC_v (by decide) ?_
  intro p e s m args below meth c E hr hlk hml hP hD hS hA
  have hx := E.1
  have hb := E.2.1
  have hown := E.2.2.1
  have hW := E.2.2.2.1
  have hl := lv_entry ([.ref (G.1 6)]) (n := 3) (Nat.le_of_ble_eq_true rfl)
  rw [lg_entry_eq]
  generalize (lg_sl ([.ref (G.1 6)]) ++ List.replicate (3 - (lg_sl ([.ref (G.1 6)])).length) Slot.unset).toArray = ls at hl ⊢
  have hl : lv_has ls 3 [(0, .ref (G.1 6))] := hl
  unfold wp_X2_evaluatePair at h
  refine lv_aload_n hx hb dX2_evaluatePair_0 rfl (lv_at hl 0 rfl) ?_
  refine gC_600 E hP kfX2_46 dX2_evaluatePair_1 ?_
  refine lv_aload_n hx hb dX2_evaluatePair_4 rfl (lv_at hl 0 rfl) ?_
  refine gC_610 E hP kfX2_30 (v := (gJ u 610)) rfl dX2_evaluatePair_5 ?_
  refine cC_l (ci := 0) (q0 := 8) (As := [.long (gJ u 610)]) (rest := []) E hml hP hD hS hA (t_X0_car l D G (gJ u 610) u _ h) kmX2_104 mwyX0_car rfl rfl ⟨⟨rfl, rfl⟩, Nat.le_of_ble_eq_true rfl, Nat.le_of_ble_eq_true rfl⟩ rfl hl.1 rfl (Nat.le_of_ble_eq_true rfl) dX2_evaluatePair_8 ⟨Nat.zero_le _, Nat.zero_le _⟩ (fun r1 u2 H locs hP hD hS h => ?_)
  refine lv_lstore_n (lv' := [(1, .long r1), (0, .ref (G.1 6))]) hx hb dX2_evaluatePair_11 rfl hl (by decide) rfl (fun ls hl => ?_)
  refine lv_lload_n hx hb dX2_evaluatePair_12 rfl (lv_at hl 0 rfl) ?_
  refine lv_ldc2 (v := (1099511627778 : Int64)) hx hb hown (hW _ kcX2_124) dX2_evaluatePair_13 ?_
  refine lq_ne (tgt := 27) hx hb dX2_evaluatePair_16 dX2_evaluatePair_17 (by decide) (fun hc => ?_) (fun hc => ?_)
  · have h := h.2 hc
    refine lv_lload_n hx hb dX2_evaluatePair_27 rfl (lv_at hl 0 rfl) ?_
    refine lv_ldc2 (v := (1099511627779 : Int64)) hx hb hown (hW _ kcX2_129) dX2_evaluatePair_28 ?_
    refine lq_ne (tgt := 57) hx hb dX2_evaluatePair_31 dX2_evaluatePair_32 (by decide) (fun hc => ?_) (fun hc => ?_)
    · have h := h.2 hc
      refine lv_lload_n hx hb dX2_evaluatePair_57 rfl (lv_at hl 0 rfl) ?_
      refine lv_ldc2 (v := (1099511627780 : Int64)) hx hb hown (hW _ kcX2_131) dX2_evaluatePair_58 ?_
      refine lq_ne (tgt := 72) hx hb dX2_evaluatePair_61 dX2_evaluatePair_62 (by decide) (fun hc => ?_) (fun hc => ?_)
      · have h := h.2 hc
        refine lv_aload_n hx hb dX2_evaluatePair_72 rfl (lv_at hl 1 rfl) ?_
        refine lv_lload_n hx hb dX2_evaluatePair_73 rfl (lv_at hl 0 rfl) ?_
        refine lv_aload_n hx hb dX2_evaluatePair_74 rfl (lv_at hl 1 rfl) ?_
        refine gC_600 E hP kfX2_46 dX2_evaluatePair_75 ?_
        refine lv_aload_n hx hb dX2_evaluatePair_78 rfl (lv_at hl 1 rfl) ?_
        refine gC_610 E hP kfX2_30 (v := (gJ u2 610)) rfl dX2_evaluatePair_79 ?_
        refine cC_l (ci := 0) (q0 := 8) (As := [.long (gJ u2 610)]) (rest := [.long r1, .ref (G.1 6)]) E hml hP hD hS hA (t_X0_cdr l D G (gJ u2 610) u2 _ h) kmX2_108 mwyX0_cdr rfl rfl ⟨⟨rfl, rfl⟩, Nat.le_of_ble_eq_true rfl, Nat.le_of_ble_eq_true rfl⟩ rfl hl.1 rfl (Nat.le_of_ble_eq_true rfl) dX2_evaluatePair_82 ⟨Nat.zero_le _, Nat.zero_le _⟩ (fun r3 u4 H locs hP hD hS h => ?_)
        refine cC_v (ci := 2) (q0 := 6) (As := [.long r1, .long r3]) (rest := []) E hml hP hD hS hA (t_X2_evaluateCall l D G r1 r3 u4 _ h) kmX2_136 mwyX2_evaluateCall rfl rfl ⟨⟨rfl, rfl⟩, Nat.le_of_ble_eq_true rfl, Nat.le_of_ble_eq_true rfl⟩ rfl hl.1 rfl (Nat.le_of_ble_eq_true rfl) dX2_evaluatePair_85 ⟨Nat.zero_le _, Nat.zero_le _⟩ (fun u5 H locs hP hD hS h => ?_)
        exact retC_v E hr hlk hP hD hS h dX2_evaluatePair_88
      · have h := h.1 hc
        refine lv_aload_n hx hb dX2_evaluatePair_65 rfl (lv_at hl 1 rfl) ?_
        refine cC_v (ci := 2) (q0 := 6) (As := []) (rest := []) E hml hP hD hS hA (t_X2_evaluateDefine l D G  u2 _ h) kmX2_133 mwyX2_evaluateDefine rfl rfl ⟨⟨rfl, rfl⟩, Nat.le_of_ble_eq_true rfl, Nat.le_of_ble_eq_true rfl⟩ rfl hl.1 rfl (Nat.le_of_ble_eq_true rfl) dX2_evaluatePair_66 ⟨Nat.zero_le _, Nat.zero_le _⟩ (fun u6 H locs hP hD hS h => ?_)
        refine lv_goto (tgt := 88) hx hb dX2_evaluatePair_69 (by decide) ?_
        exact retC_v E hr hlk hP hD hS h dX2_evaluatePair_88
    · have h := h.1 hc
      refine lv_aload_n hx hb dX2_evaluatePair_35 rfl (lv_at hl 1 rfl) ?_
      refine lv_aload_n hx hb dX2_evaluatePair_36 rfl (lv_at hl 1 rfl) ?_
      refine gC_600 E hP kfX2_46 dX2_evaluatePair_37 ?_
      refine lv_aload_n hx hb dX2_evaluatePair_40 rfl (lv_at hl 1 rfl) ?_
      refine gC_610 E hP kfX2_30 (v := (gJ u2 610)) rfl dX2_evaluatePair_41 ?_
      refine cC_l (ci := 0) (q0 := 8) (As := [.long (gJ u2 610)]) (rest := [.ref (G.1 6)]) E hml hP hD hS hA (t_X0_cdr l D G (gJ u2 610) u2 _ h) kmX2_108 mwyX0_cdr rfl rfl ⟨⟨rfl, rfl⟩, Nat.le_of_ble_eq_true rfl, Nat.le_of_ble_eq_true rfl⟩ rfl hl.1 rfl (Nat.le_of_ble_eq_true rfl) dX2_evaluatePair_44 ⟨Nat.zero_le _, Nat.zero_le _⟩ (fun r7 u8 H locs hP hD hS h => ?_)
      refine pC_611 E hP hD hS kfX2_34 dX2_evaluatePair_47 (fun H locs hP hD hS => ?_)
      refine lv_aload_n hx hb dX2_evaluatePair_50 rfl (lv_at hl 1 rfl) ?_
      refine cC_v (ci := 2) (q0 := 6) (As := []) (rest := []) E hml hP hD hS hA (t_X2_choose l D G  (sJ u8 611 r7) _ h) kmX2_72 mwyX2_choose rfl rfl ⟨⟨rfl, rfl⟩, Nat.le_of_ble_eq_true rfl, Nat.le_of_ble_eq_true rfl⟩ rfl hl.1 rfl (Nat.le_of_ble_eq_true rfl) dX2_evaluatePair_51 ⟨Nat.zero_le _, Nat.zero_le _⟩ (fun u9 H locs hP hD hS h => ?_)
      refine lv_goto (tgt := 88) hx hb dX2_evaluatePair_54 (by decide) ?_
      exact retC_v E hr hlk hP hD hS h dX2_evaluatePair_88
  · have h := h.1 hc
    refine lv_aload_n hx hb dX2_evaluatePair_20 rfl (lv_at hl 1 rfl) ?_
    refine cC_v (ci := 2) (q0 := 6) (As := []) (rest := []) E hml hP hD hS hA (t_X2_evaluateQuote l D G  u2 _ h) kmX2_126 mwyX2_evaluateQuote rfl rfl ⟨⟨rfl, rfl⟩, Nat.le_of_ble_eq_true rfl, Nat.le_of_ble_eq_true rfl⟩ rfl hl.1 rfl (Nat.le_of_ble_eq_true rfl) dX2_evaluatePair_21 ⟨Nat.zero_le _, Nat.zero_le _⟩ (fun u10 H locs hP hD hS h => ?_)
    refine lv_goto (tgt := 88) hx hb dX2_evaluatePair_24 (by decide) ?_
    exact retC_v E hr hlk hP hD hS h dX2_evaluatePair_88
def wp_X7_part (N : Nat → Nat) (p0 : Int32) (u : St) (Q : Int64 → St → Prop) : Prop := (((gI u 303) ≤ 0 → Q (1099511627776 : Int64) u) ∧ (¬ (gI u 303) ≤ 0 → vp_in ((((gI u 303) - (1 : Int32)) * (11 : Int32)) + p0) (N 302) ∧ Q ((gB u 302) (((((gI u 303) - (1 : Int32)) * (11 : Int32)) + p0)).toNatClampNeg) u))
abbrev rm_X7_part : Room := { frames := 0, cells := 0, slots := 0, locals := 0 }
set_option maxHeartbeats 4000000 in
set_option maxRecDepth 100000 in
theorem t_X7_part (l : Launch) (D : va_G) (G : Gd) (p0 : Int32) (u : St) (Q : Int64 → St → Prop) (h : wp_X7_part G.2.1 p0 u Q) : MCl l D G yX7_part cX7_part 2 (some .long) rm_X7_part [.ref (G.1 3), .int p0] u Q := by
  refine startC_l (by decide) ?_
  intro p e s m args below meth c E hr hlk hml hP hD hS hA
  have hx := E.1
  have hb := E.2.1
  have hown := E.2.2.1
  have hW := E.2.2.2.1
  have hl := lv_entry ([.ref (G.1 3), .int p0]) (n := 2) (Nat.le_of_ble_eq_true rfl)
  rw [lg_entry_eq]
  generalize (lg_sl ([.ref (G.1 3), .int p0]) ++ List.replicate (2 - (lg_sl ([.ref (G.1 3), .int p0])).length) Slot.unset).toArray = ls at hl ⊢
  have hl : lv_has ls 2 [(0, .ref (G.1 3)), (1, .int p0)] := hl
  unfold wp_X7_part at h
  refine lv_aload_n hx hb dX7_part_0 rfl (lv_at hl 0 rfl) ?_
  refine gC_303 E hP kfX7_11 (v := (gI u 303)) rfl dX7_part_1 ?_
  refine lv_if_le (tgt := 26) hx hb dX7_part_4 (by decide) (fun hc => ?_) (fun hc => ?_)
  · have h := h.1 hc
    refine lv_ldc2 (v := (1099511627776 : Int64)) hx hb hown (hW _ kcX7_29) dX7_part_26 ?_
    exact retC_l E hr hlk hP hD hS h dX7_part_29
  · have h := h.2 hc
    refine lv_aload_n hx hb dX7_part_7 rfl (lv_at hl 0 rfl) ?_
    refine gC_302 E hP kfX7_25 dX7_part_8 ?_
    refine lv_aload_n hx hb dX7_part_11 rfl (lv_at hl 0 rfl) ?_
    refine gC_303 E hP kfX7_11 (v := (gI u 303)) rfl dX7_part_12 ?_
    refine lv_iconst (v := (1 : Int32)) hx hb dX7_part_15 (by decide) ?_
    refine lv_isub hx hb dX7_part_16 ?_
    refine lv_bipush (v := (11 : Int32)) hx hb dX7_part_17 (by decide) ?_
    refine lv_imul hx hb dX7_part_19 ?_
    refine lv_iload_n hx hb dX7_part_20 rfl (lv_at hl 1 rfl) ?_
    refine lv_iadd hx hb dX7_part_21 ?_
    obtain ⟨h9, h⟩ := h
    refine xC_302 E hP h9 (v := ((gB u 302) (((((gI u 303) - (1 : Int32)) * (11 : Int32)) + p0)).toNatClampNeg)) rfl dX7_part_22 ?_
    refine lv_goto (tgt := 29) hx hb dX7_part_23 (by decide) ?_
    exact retC_l E hr hlk hP hD hS h dX7_part_29
def wp_X7_kindOnTop (N : Nat → Nat)  (u : St) (Q : Int32 → St → Prop) : Prop := (((gI u 303) ≤ 0 → Q (0 : Int32) u) ∧ (¬ (gI u 303) ≤ 0 → vp_in ((gI u 303) - (1 : Int32)) (N 300) ∧ Q ((gA u 300) (((gI u 303) - (1 : Int32))).toNatClampNeg) u))
abbrev rm_X7_kindOnTop : Room := { frames := 0, cells := 0, slots := 0, locals := 0 }
set_option maxHeartbeats 4000000 in
set_option maxRecDepth 100000 in
theorem t_X7_kindOnTop (l : Launch) (D : va_G) (G : Gd)  (u : St) (Q : Int32 → St → Prop) (h : wp_X7_kindOnTop G.2.1  u Q) : MCi l D G yX7_kindOnTop cX7_kindOnTop 1 (some .int) rm_X7_kindOnTop [.ref (G.1 3)] u Q := by
  refine startC_i (by decide) ?_
  intro p e s m args below meth c E hr hlk hml hP hD hS hA
  have hx := E.1
  have hb := E.2.1
  have hown := E.2.2.1
  have hW := E.2.2.2.1
  have hl := lv_entry ([.ref (G.1 3)]) (n := 1) (Nat.le_of_ble_eq_true rfl)
  rw [lg_entry_eq]
  generalize (lg_sl ([.ref (G.1 3)]) ++ List.replicate (1 - (lg_sl ([.ref (G.1 3)])).length) Slot.unset).toArray = ls at hl ⊢
  have hl : lv_has ls 1 [(0, .ref (G.1 3))] := hl
  unfold wp_X7_kindOnTop at h
  refine lv_aload_n hx hb dX7_kindOnTop_0 rfl (lv_at hl 0 rfl) ?_
  refine gC_303 E hP kfX7_11 (v := (gI u 303)) rfl dX7_kindOnTop_1 ?_
  refine lv_if_le (tgt := 21) hx hb dX7_kindOnTop_4 (by decide) (fun hc => ?_) (fun hc => ?_)
  · have h := h.1 hc
    refine lv_iconst (v := (0 : Int32)) hx hb dX7_kindOnTop_21 (by decide) ?_
    exact retC_i E hr hlk hP hD hS h dX7_kindOnTop_22
  · have h := h.2 hc
    refine lv_aload_n hx hb dX7_kindOnTop_7 rfl (lv_at hl 0 rfl) ?_
    refine gC_300 E hP kfX7_18 dX7_kindOnTop_8 ?_
    refine lv_aload_n hx hb dX7_kindOnTop_11 rfl (lv_at hl 0 rfl) ?_
    refine gC_303 E hP kfX7_11 (v := (gI u 303)) rfl dX7_kindOnTop_12 ?_
    refine lv_iconst (v := (1 : Int32)) hx hb dX7_kindOnTop_15 (by decide) ?_
    refine lv_isub hx hb dX7_kindOnTop_16 ?_
    obtain ⟨h9, h⟩ := h
    refine xC_300 E hP h9 (v := ((gA u 300) (((gI u 303) - (1 : Int32))).toNatClampNeg)) rfl dX7_kindOnTop_17 ?_
    refine lv_goto (tgt := 22) hx hb dX7_kindOnTop_18 (by decide) ?_
    exact retC_i E hr hlk hP hD hS h dX7_kindOnTop_22
def wp_X7_setRest (N : Nat → Nat) (p0 : Int64) (u : St) (Q : St → Prop) : Prop := (((gI u 303) ≤ 0 → Q u) ∧ (¬ (gI u 303) ≤ 0 → vp_in ((((gI u 303) - (1 : Int32)) * (11 : Int32)) + (1 : Int32)) (N 302) ∧ Q (sB u 302 (vp_updL (gB u 302) (((((gI u 303) - (1 : Int32)) * (11 : Int32)) + (1 : Int32))).toNatClampNeg p0))))
abbrev rm_X7_setRest : Room := { frames := 0, cells := 0, slots := 0, locals := 0 }
set_option maxHeartbeats 4000000 in
set_option maxRecDepth 100000 in
theorem t_X7_setRest (l : Launch) (D : va_G) (G : Gd) (p0 : Int64) (u : St) (Q : St → Prop) (h : wp_X7_setRest G.2.1 p0 u Q) : MCv l D G yX7_setRest cX7_setRest 3 none rm_X7_setRest [.ref (G.1 3), .long p0] u Q := by
  refine startC_v (by decide) ?_
  intro p e s m args below meth c E hr hlk hml hP hD hS hA
  have hx := E.1
  have hb := E.2.1
  have hown := E.2.2.1
  have hW := E.2.2.2.1
  have hl := lv_entry ([.ref (G.1 3), .long p0]) (n := 3) (Nat.le_of_ble_eq_true rfl)
  rw [lg_entry_eq]
  generalize (lg_sl ([.ref (G.1 3), .long p0]) ++ List.replicate (3 - (lg_sl ([.ref (G.1 3), .long p0])).length) Slot.unset).toArray = ls at hl ⊢
  have hl : lv_has ls 3 [(0, .ref (G.1 3)), (1, .long p0)] := hl
  unfold wp_X7_setRest at h
  refine lv_aload_n hx hb dX7_setRest_0 rfl (lv_at hl 0 rfl) ?_
  refine gC_303 E hP kfX7_11 (v := (gI u 303)) rfl dX7_setRest_1 ?_
  refine lv_if_le (tgt := 24) hx hb dX7_setRest_4 (by decide) (fun hc => ?_) (fun hc => ?_)
  · have h := h.1 hc
    exact retC_v E hr hlk hP hD hS h dX7_setRest_24
  · have h := h.2 hc
    refine lv_aload_n hx hb dX7_setRest_7 rfl (lv_at hl 0 rfl) ?_
    refine gC_302 E hP kfX7_25 dX7_setRest_8 ?_
    refine lv_aload_n hx hb dX7_setRest_11 rfl (lv_at hl 0 rfl) ?_
    refine gC_303 E hP kfX7_11 (v := (gI u 303)) rfl dX7_setRest_12 ?_
    refine lv_iconst (v := (1 : Int32)) hx hb dX7_setRest_15 (by decide) ?_
    refine lv_isub hx hb dX7_setRest_16 ?_
    refine lv_bipush (v := (11 : Int32)) hx hb dX7_setRest_17 (by decide) ?_
    refine lv_imul hx hb dX7_setRest_19 ?_
    refine lv_iconst (v := (1 : Int32)) hx hb dX7_setRest_20 (by decide) ?_
    refine lv_iadd hx hb dX7_setRest_21 ?_
    refine lv_lload_n hx hb dX7_setRest_22 rfl (lv_at hl 1 rfl) ?_
    obtain ⟨h9, h⟩ := h
    refine yC_302 E hP hD hS h9 (f := (gB u 302)) rfl dX7_setRest_23 (fun H locs hP hD hS => ?_)
    exact retC_v E hr hlk hP hD hS h dX7_setRest_24
def wp_X7_takeValues_21 (N : Nat → Nat)  (u : St) (Q : Int32 → St → Prop) : Prop := wp_X7_valuesOnTop N  u (fun (r1 : Int32) (u2 : St) => (((gI u2 303) ≤ 0 → Q r1 u2) ∧ (¬ (gI u2 303) ≤ 0 → (¬ ((((gI u2 303) - (1 : Int32)) * (11 : Int32)) + (3 : Int32)) < 0 ∧ ¬ (0 : Int32) < 0 ∧ ¬ r1 < 0 ∧ (((((gI u2 303) - (1 : Int32)) * (11 : Int32)) + (3 : Int32))).toNatClampNeg + (r1).toNatClampNeg ≤ N 302 ∧ ((0 : Int32)).toNatClampNeg + (r1).toNatClampNeg ≤ 8 ∧ Q r1 (sB u2 605 (va_cpy (gB u2 302) (gB u2 605) (((((gI u2 303) - (1 : Int32)) * (11 : Int32)) + (3 : Int32))).toNatClampNeg ((0 : Int32)).toNatClampNeg (r1).toNatClampNeg))))))
abbrev rm_X7_takeValues_21 : Room := { frames := 1, cells := 0, slots := 0, locals := 60 }
set_option maxHeartbeats 4000000 in
set_option maxRecDepth 100000 in
theorem t_X7_takeValues_21 (l : Launch) (D : va_G) (G : Gd)  (u : St) (Q : Int32 → St → Prop) (h : wp_X7_takeValues_21 G.2.1  u Q) : MCi l D G yX7_takeValues cX7_takeValues 3 (some .int) rm_X7_takeValues_21 [.ref (G.1 3), .ref (G.1 21)] u Q := by
  refine startC_i (by decide) ?_
  intro p e s m args below meth c E hr hlk hml hP hD hS hA
  have hx := E.1
  have hb := E.2.1
  have hown := E.2.2.1
  have hW := E.2.2.2.1
  have hl := lv_entry ([.ref (G.1 3), .ref (G.1 21)]) (n := 3) (Nat.le_of_ble_eq_true rfl)
  rw [lg_entry_eq]
  generalize (lg_sl ([.ref (G.1 3), .ref (G.1 21)]) ++ List.replicate (3 - (lg_sl ([.ref (G.1 3), .ref (G.1 21)])).length) Slot.unset).toArray = ls at hl ⊢
  have hl : lv_has ls 3 [(0, .ref (G.1 3)), (1, .ref (G.1 21))] := hl
  unfold wp_X7_takeValues_21 at h
  refine lv_aload_n hx hb dX7_takeValues_0 rfl (lv_at hl 0 rfl) ?_
  refine cC_i (ci := 7) (q0 := 3) (As := []) (rest := []) E hml hP hD hS hA (t_X7_valuesOnTop l D G  u _ h) kmX7_37 mwyX7_valuesOnTop rfl rfl ⟨⟨rfl, rfl⟩, Nat.le_of_ble_eq_true rfl, Nat.le_of_ble_eq_true rfl⟩ rfl hl.1 rfl (Nat.le_of_ble_eq_true rfl) dX7_takeValues_1 ⟨Nat.zero_le _, Nat.zero_le _⟩ (fun r1 u2 H locs hP hD hS h => ?_)
  refine lv_istore_n (lv' := [(2, .int r1), (0, .ref (G.1 3)), (1, .ref (G.1 21))]) hx hb dX7_takeValues_4 rfl hl (by decide) rfl (fun ls hl => ?_)
  refine lv_aload_n hx hb dX7_takeValues_5 rfl (lv_at hl 1 rfl) ?_
  refine gC_303 E hP kfX7_11 (v := (gI u2 303)) rfl dX7_takeValues_6 ?_
  refine lv_if_le (tgt := 33) hx hb dX7_takeValues_9 (by decide) (fun hc => ?_) (fun hc => ?_)
  · have h := h.1 hc
    refine lv_iload_n hx hb dX7_takeValues_33 rfl (lv_at hl 0 rfl) ?_
    exact retC_i E hr hlk hP hD hS h dX7_takeValues_34
  · have h := h.2 hc
    refine lv_aload_n hx hb dX7_takeValues_12 rfl (lv_at hl 1 rfl) ?_
    refine gC_302 E hP kfX7_25 dX7_takeValues_13 ?_
    refine lv_aload_n hx hb dX7_takeValues_16 rfl (lv_at hl 1 rfl) ?_
    refine gC_303 E hP kfX7_11 (v := (gI u2 303)) rfl dX7_takeValues_17 ?_
    refine lv_iconst (v := (1 : Int32)) hx hb dX7_takeValues_20 (by decide) ?_
    refine lv_isub hx hb dX7_takeValues_21 ?_
    refine lv_bipush (v := (11 : Int32)) hx hb dX7_takeValues_22 (by decide) ?_
    refine lv_imul hx hb dX7_takeValues_24 ?_
    refine lv_iconst (v := (3 : Int32)) hx hb dX7_takeValues_25 (by decide) ?_
    refine lv_iadd hx hb dX7_takeValues_26 ?_
    refine lv_aload_n hx hb dX7_takeValues_27 rfl (lv_at hl 2 rfl) ?_
    refine lv_iconst (v := (0 : Int32)) hx hb dX7_takeValues_28 (by decide) ?_
    refine lv_iload_n hx hb dX7_takeValues_29 rfl (lv_at hl 0 rfl) ?_
    obtain ⟨h1, h2, h3, h4, h5, h⟩ := h
    refine va_copyl (f := (gB u2 302)) (g := (gB u2 605)) hx hb (hml.trans hl.1.symm) hown (hW _ kmX7_45) (hW _ kx_acn) (hW _ ks_acn) (hW _ kz_System) E.2.2.2.2 hP hD hS 14 21 5 12 rfl rfl rfl rfl rfl h1 h2 h3 h4 h5 (fun _ _ => rfl) (Nat.le_of_ble_eq_true rfl) (by decide) dX7_takeValues_30 (fun H locs hP hD hS => ?_)
    have hP : va_P D vwCl (wC G (sB u2 605 (va_cpy (gB u2 302) (gB u2 605) (((((gI u2 303) - (1 : Int32)) * (11 : Int32)) + (3 : Int32))).toNatClampNeg ((0 : Int32)).toNatClampNeg (r1).toNatClampNeg))) H := hP
    have hD : va_D _ (wC G (sB u2 605 (va_cpy (gB u2 302) (gB u2 605) (((((gI u2 303) - (1 : Int32)) * (11 : Int32)) + (3 : Int32))).toNatClampNeg ((0 : Int32)).toNatClampNeg (r1).toNatClampNeg))) := hD
    refine lv_iload_n hx hb dX7_takeValues_33 rfl (lv_at hl 0 rfl) ?_
    exact retC_i E hr hlk hP hD hS h dX7_takeValues_34
def wp_X7_pop (N : Nat → Nat)  (u : St) (Q : St → Prop) : Prop := (((gI u 303) ≤ 0 → Q u) ∧ (¬ (gI u 303) ≤ 0 → Q (sI u 303 ((gI u 303) - (1 : Int32)))))
abbrev rm_X7_pop : Room := { frames := 0, cells := 0, slots := 0, locals := 0 }
set_option maxHeartbeats 4000000 in
set_option maxRecDepth 100000 in
theorem t_X7_pop (l : Launch) (D : va_G) (G : Gd)  (u : St) (Q : St → Prop) (h : wp_X7_pop G.2.1  u Q) : MCv l D G yX7_pop cX7_pop 1 none rm_X7_pop [.ref (G.1 3)] u Q := by
  refine startC_v (by decide) ?_
  intro p e s m args below meth c E hr hlk hml hP hD hS hA
  have hx := E.1
  have hb := E.2.1
  have hown := E.2.2.1
  have hW := E.2.2.2.1
  have hl := lv_entry ([.ref (G.1 3)]) (n := 1) (Nat.le_of_ble_eq_true rfl)
  rw [lg_entry_eq]
  generalize (lg_sl ([.ref (G.1 3)]) ++ List.replicate (1 - (lg_sl ([.ref (G.1 3)])).length) Slot.unset).toArray = ls at hl ⊢
  have hl : lv_has ls 1 [(0, .ref (G.1 3))] := hl
  unfold wp_X7_pop at h
  refine lv_aload_n hx hb dX7_pop_0 rfl (lv_at hl 0 rfl) ?_
  refine gC_303 E hP kfX7_11 (v := (gI u 303)) rfl dX7_pop_1 ?_
  refine lv_if_le (tgt := 17) hx hb dX7_pop_4 (by decide) (fun hc => ?_) (fun hc => ?_)
  · have h := h.1 hc
    exact retC_v E hr hlk hP hD hS h dX7_pop_17
  · have h := h.2 hc
    refine lv_aload_n hx hb dX7_pop_7 rfl (lv_at hl 0 rfl) ?_
    refine lv_dup hx hb dX7_pop_8 rfl ?_
    refine gC_303 E hP kfX7_11 (v := (gI u 303)) rfl dX7_pop_9 ?_
    refine lv_iconst (v := (1 : Int32)) hx hb dX7_pop_12 (by decide) ?_
    refine lv_isub hx hb dX7_pop_13 ?_
    refine pC_303 E hP hD hS kfX7_11 dX7_pop_14 (fun H locs hP hD hS => ?_)
    exact retC_v E hr hlk hP hD hS h dX7_pop_17
def wp_X2_goOnWithCall (N : Nat → Nat)  (u : St) (Q : St → Prop) : Prop := wp_X7_addValue N (gJ u 614) u (fun (u1 : St) => wp_X7_part N (1 : Int32) u1 (fun (r2 : Int64) (u3 : St) => ((r2 = (1099511627776 : Int64) → wp_X7_takeValues_21 N  u3 (fun (r13 : Int32) (u14 : St) => wp_X7_part N (0 : Int32) (sI u14 606 r13) (fun (r15 : Int64) (u16 : St) => wp_X2_beginApplying N r15 u16 (fun (u17 : St) => wp_X7_pop N  u17 (fun (u18 : St) => Q u18))))) ∧ (¬ r2 = (1099511627776 : Int64) → wp_X8_isPair r2 (fun (r4 : Int32) => ((r4 = 0 → Q (sI u3 609 (3 : Int32))) ∧ (¬ r4 = 0 → wp_X7_valuesOnTop N  u3 (fun (r5 : Int32) (u6 : St) => ((r5 < (8 : Int32) → wp_X0_cdr N r2 u6 (fun (r7 : Int64) (u8 : St) => wp_X7_setRest N r7 u8 (fun (u9 : St) => wp_X0_car N r2 u9 (fun (r10 : Int64) (u11 : St) => wp_X2_beginEvaluating N r10 (gJ u11 613) u11 (fun (u12 : St) => Q u12))))) ∧ (¬ r5 < (8 : Int32) → Q (sI u6 609 (3 : Int32))))))))))))
abbrev rm_X2_goOnWithCall : Room := { frames := 2, cells := 0, slots := 0, locals := 82 }
set_option maxHeartbeats 4000000 in
set_option maxRecDepth 100000 in
theorem t_X2_goOnWithCall (l : Launch) (D : va_G) (G : Gd)  (u : St) (Q : St → Prop) (h : wp_X2_goOnWithCall G.2.1  u Q) : MCv l D G yX2_goOnWithCall cX2_goOnWithCall 3 none rm_X2_goOnWithCall [.ref (G.1 6)] u Q := by
  refine startC_v (by decide) ?_
  intro p e s m args below meth c E hr hlk hml hP hD hS hA
  have hx := E.1
  have hb := E.2.1
  have hown := E.2.2.1
  have hW := E.2.2.2.1
  have hl := lv_entry ([.ref (G.1 6)]) (n := 3) (Nat.le_of_ble_eq_true rfl)
  rw [lg_entry_eq]
  generalize (lg_sl ([.ref (G.1 6)]) ++ List.replicate (3 - (lg_sl ([.ref (G.1 6)])).length) Slot.unset).toArray = ls at hl ⊢
  have hl : lv_has ls 3 [(0, .ref (G.1 6))] := hl
  unfold wp_X2_goOnWithCall at h
  refine lv_aload_n hx hb dX2_goOnWithCall_0 rfl (lv_at hl 0 rfl) ?_
  refine gC_602 E hP kfX2_54 dX2_goOnWithCall_1 ?_
  refine lv_aload_n hx hb dX2_goOnWithCall_4 rfl (lv_at hl 0 rfl) ?_
  refine gC_614 E hP kfX2_43 (v := (gJ u 614)) rfl dX2_goOnWithCall_5 ?_
  refine cC_v (ci := 7) (q0 := 3) (As := [.long (gJ u 614)]) (rest := []) E hml hP hD hS hA (t_X7_addValue l D G (gJ u 614) u _ h) kmX2_182 mwyX7_addValue rfl rfl ⟨⟨rfl, rfl⟩, Nat.le_of_ble_eq_true rfl, Nat.le_of_ble_eq_true rfl⟩ rfl hl.1 rfl (Nat.le_of_ble_eq_true rfl) dX2_goOnWithCall_8 ⟨Nat.zero_le _, Nat.zero_le _⟩ (fun u1 H locs hP hD hS h => ?_)
  refine lv_aload_n hx hb dX2_goOnWithCall_11 rfl (lv_at hl 0 rfl) ?_
  refine gC_602 E hP kfX2_54 dX2_goOnWithCall_12 ?_
  refine lv_iconst (v := (1 : Int32)) hx hb dX2_goOnWithCall_15 (by decide) ?_
  refine cC_l (ci := 7) (q0 := 3) (As := [.int (1 : Int32)]) (rest := []) E hml hP hD hS hA (t_X7_part l D G (1 : Int32) u1 _ h) kmX2_161 mwyX7_part rfl rfl ⟨⟨rfl, rfl⟩, Nat.le_of_ble_eq_true rfl, Nat.le_of_ble_eq_true rfl⟩ rfl hl.1 rfl (Nat.le_of_ble_eq_true rfl) dX2_goOnWithCall_16 ⟨Nat.zero_le _, Nat.zero_le _⟩ (fun r2 u3 H locs hP hD hS h => ?_)
  refine lv_lstore_n (lv' := [(1, .long r2), (0, .ref (G.1 6))]) hx hb dX2_goOnWithCall_19 rfl hl (by decide) rfl (fun ls hl => ?_)
  refine lv_lload_n hx hb dX2_goOnWithCall_20 rfl (lv_at hl 0 rfl) ?_
  refine lv_ldc2 (v := (1099511627776 : Int64)) hx hb hown (hW _ kcX2_28) dX2_goOnWithCall_21 ?_
  refine lq_ne (tgt := 65) hx hb dX2_goOnWithCall_24 dX2_goOnWithCall_25 (by decide) (fun hc => ?_) (fun hc => ?_)
  · have h := h.2 hc
    refine lv_lload_n hx hb dX2_goOnWithCall_65 rfl (lv_at hl 0 rfl) ?_
    refine c0_i (As := [.long r2]) (rest := []) hx hb hml hown hW hP hS hA (t_X8_isPair l r2 _ h) kmX2_75 mwyX8_isPair ⟨⟨rfl, rfl⟩, Nat.le_of_ble_eq_true rfl, Nat.le_of_ble_eq_true rfl⟩ rfl hl.1 rfl (Nat.le_of_ble_eq_true rfl) dX2_goOnWithCall_66 ⟨Nat.zero_le _, Nat.zero_le _⟩ (fun r4 H locs hP hS h => ?_)
    refine lv_if_eq (tgt := 84) hx hb dX2_goOnWithCall_69 (by decide) (fun hc => ?_) (fun hc => ?_)
    · have h := h.1 hc
      refine lv_aload_n hx hb dX2_goOnWithCall_84 rfl (lv_at hl 1 rfl) ?_
      refine lv_iconst (v := (3 : Int32)) hx hb dX2_goOnWithCall_85 (by decide) ?_
      refine pC_609 E hP hD hS kfX2_25 dX2_goOnWithCall_86 (fun H locs hP hD hS => ?_)
      refine lv_goto (tgt := 123) hx hb dX2_goOnWithCall_89 (by decide) ?_
      exact retC_v E hr hlk hP hD hS h dX2_goOnWithCall_123
    · have h := h.2 hc
      refine lv_aload_n hx hb dX2_goOnWithCall_72 rfl (lv_at hl 1 rfl) ?_
      refine gC_602 E hP kfX2_54 dX2_goOnWithCall_73 ?_
      refine cC_i (ci := 7) (q0 := 3) (As := []) (rest := []) E hml hP hD hS hA (t_X7_valuesOnTop l D G  u3 _ h) kmX2_185 mwyX7_valuesOnTop rfl rfl ⟨⟨rfl, rfl⟩, Nat.le_of_ble_eq_true rfl, Nat.le_of_ble_eq_true rfl⟩ rfl hl.1 rfl (Nat.le_of_ble_eq_true rfl) dX2_goOnWithCall_76 ⟨Nat.zero_le _, Nat.zero_le _⟩ (fun r5 u6 H locs hP hD hS h => ?_)
      refine lv_bipush (v := (8 : Int32)) hx hb dX2_goOnWithCall_79 (by decide) ?_
      refine lv_icmp_lt (tgt := 92) hx hb dX2_goOnWithCall_81 (by decide) (fun hc => ?_) (fun hc => ?_)
      · have h := h.1 hc
        refine lv_aload_n hx hb dX2_goOnWithCall_92 rfl (lv_at hl 1 rfl) ?_
        refine gC_602 E hP kfX2_54 dX2_goOnWithCall_93 ?_
        refine lv_aload_n hx hb dX2_goOnWithCall_96 rfl (lv_at hl 1 rfl) ?_
        refine gC_600 E hP kfX2_46 dX2_goOnWithCall_97 ?_
        refine lv_lload_n hx hb dX2_goOnWithCall_100 rfl (lv_at hl 0 rfl) ?_
        refine cC_l (ci := 0) (q0 := 8) (As := [.long r2]) (rest := [.ref (G.1 3)]) E hml hP hD hS hA (t_X0_cdr l D G r2 u6 _ h) kmX2_108 mwyX0_cdr rfl rfl ⟨⟨rfl, rfl⟩, Nat.le_of_ble_eq_true rfl, Nat.le_of_ble_eq_true rfl⟩ rfl hl.1 rfl (Nat.le_of_ble_eq_true rfl) dX2_goOnWithCall_101 ⟨Nat.zero_le _, Nat.zero_le _⟩ (fun r7 u8 H locs hP hD hS h => ?_)
        refine cC_v (ci := 7) (q0 := 3) (As := [.long r7]) (rest := []) E hml hP hD hS hA (t_X7_setRest l D G r7 u8 _ h) kmX2_188 mwyX7_setRest rfl rfl ⟨⟨rfl, rfl⟩, Nat.le_of_ble_eq_true rfl, Nat.le_of_ble_eq_true rfl⟩ rfl hl.1 rfl (Nat.le_of_ble_eq_true rfl) dX2_goOnWithCall_104 ⟨Nat.zero_le _, Nat.zero_le _⟩ (fun u9 H locs hP hD hS h => ?_)
        refine lv_aload_n hx hb dX2_goOnWithCall_107 rfl (lv_at hl 1 rfl) ?_
        refine lv_aload_n hx hb dX2_goOnWithCall_108 rfl (lv_at hl 1 rfl) ?_
        refine gC_600 E hP kfX2_46 dX2_goOnWithCall_109 ?_
        refine lv_lload_n hx hb dX2_goOnWithCall_112 rfl (lv_at hl 0 rfl) ?_
        refine cC_l (ci := 0) (q0 := 8) (As := [.long r2]) (rest := [.ref (G.1 6)]) E hml hP hD hS hA (t_X0_car l D G r2 u9 _ h) kmX2_104 mwyX0_car rfl rfl ⟨⟨rfl, rfl⟩, Nat.le_of_ble_eq_true rfl, Nat.le_of_ble_eq_true rfl⟩ rfl hl.1 rfl (Nat.le_of_ble_eq_true rfl) dX2_goOnWithCall_113 ⟨Nat.zero_le _, Nat.zero_le _⟩ (fun r10 u11 H locs hP hD hS h => ?_)
        refine lv_aload_n hx hb dX2_goOnWithCall_116 rfl (lv_at hl 1 rfl) ?_
        refine gC_613 E hP kfX2_40 (v := (gJ u11 613)) rfl dX2_goOnWithCall_117 ?_
        refine cC_v (ci := 2) (q0 := 6) (As := [.long r10, .long (gJ u11 613)]) (rest := []) E hml hP hD hS hA (t_X2_beginEvaluating l D G r10 (gJ u11 613) u11 _ h) kmX2_65 mwyX2_beginEvaluating rfl rfl ⟨⟨rfl, rfl⟩, Nat.le_of_ble_eq_true rfl, Nat.le_of_ble_eq_true rfl⟩ rfl hl.1 rfl (Nat.le_of_ble_eq_true rfl) dX2_goOnWithCall_120 ⟨Nat.zero_le _, Nat.zero_le _⟩ (fun u12 H locs hP hD hS h => ?_)
        exact retC_v E hr hlk hP hD hS h dX2_goOnWithCall_123
      · have h := h.2 hc
        refine lv_aload_n hx hb dX2_goOnWithCall_84 rfl (lv_at hl 1 rfl) ?_
        refine lv_iconst (v := (3 : Int32)) hx hb dX2_goOnWithCall_85 (by decide) ?_
        refine pC_609 E hP hD hS kfX2_25 dX2_goOnWithCall_86 (fun H locs hP hD hS => ?_)
        refine lv_goto (tgt := 123) hx hb dX2_goOnWithCall_89 (by decide) ?_
        exact retC_v E hr hlk hP hD hS h dX2_goOnWithCall_123
  · have h := h.1 hc
    refine lv_aload_n hx hb dX2_goOnWithCall_28 rfl (lv_at hl 1 rfl) ?_
    refine lv_aload_n hx hb dX2_goOnWithCall_29 rfl (lv_at hl 1 rfl) ?_
    refine gC_602 E hP kfX2_54 dX2_goOnWithCall_30 ?_
    refine lv_aload_n hx hb dX2_goOnWithCall_33 rfl (lv_at hl 1 rfl) ?_
    refine gC_605 E hP kfX2_9 dX2_goOnWithCall_34 ?_
    refine cC_i (ci := 7) (q0 := 3) (As := [.ref (G.1 21)]) (rest := [.ref (G.1 6)]) E hml hP hD hS hA (t_X7_takeValues_21 l D G  u3 _ h) kmX2_175 mwyX7_takeValues rfl rfl ⟨⟨rfl, rfl⟩, Nat.le_of_ble_eq_true rfl, Nat.le_of_ble_eq_true rfl⟩ rfl hl.1 rfl (Nat.le_of_ble_eq_true rfl) dX2_goOnWithCall_37 ⟨Nat.zero_le _, Nat.zero_le _⟩ (fun r13 u14 H locs hP hD hS h => ?_)
    refine pC_606 E hP hD hS kfX2_15 dX2_goOnWithCall_40 (fun H locs hP hD hS => ?_)
    refine lv_aload_n hx hb dX2_goOnWithCall_43 rfl (lv_at hl 1 rfl) ?_
    refine lv_aload_n hx hb dX2_goOnWithCall_44 rfl (lv_at hl 1 rfl) ?_
    refine gC_602 E hP kfX2_54 dX2_goOnWithCall_45 ?_
    refine lv_iconst (v := (0 : Int32)) hx hb dX2_goOnWithCall_48 (by decide) ?_
    refine cC_l (ci := 7) (q0 := 3) (As := [.int (0 : Int32)]) (rest := [.ref (G.1 6)]) E hml hP hD hS hA (t_X7_part l D G (0 : Int32) (sI u14 606 r13) _ h) kmX2_161 mwyX7_part rfl rfl ⟨⟨rfl, rfl⟩, Nat.le_of_ble_eq_true rfl, Nat.le_of_ble_eq_true rfl⟩ rfl hl.1 rfl (Nat.le_of_ble_eq_true rfl) dX2_goOnWithCall_49 ⟨Nat.zero_le _, Nat.zero_le _⟩ (fun r15 u16 H locs hP hD hS h => ?_)
    refine cC_v (ci := 2) (q0 := 6) (As := [.long r15]) (rest := []) E hml hP hD hS hA (t_X2_beginApplying l D G r15 u16 _ h) kmX2_155 mwyX2_beginApplying rfl rfl ⟨⟨rfl, rfl⟩, Nat.le_of_ble_eq_true rfl, Nat.le_of_ble_eq_true rfl⟩ rfl hl.1 rfl (Nat.le_of_ble_eq_true rfl) dX2_goOnWithCall_52 ⟨Nat.zero_le _, Nat.zero_le _⟩ (fun u17 H locs hP hD hS h => ?_)
    refine lv_aload_n hx hb dX2_goOnWithCall_55 rfl (lv_at hl 1 rfl) ?_
    refine gC_602 E hP kfX2_54 dX2_goOnWithCall_56 ?_
    refine cC_v (ci := 7) (q0 := 3) (As := []) (rest := []) E hml hP hD hS hA (t_X7_pop l D G  u17 _ h) kmX2_179 mwyX7_pop rfl rfl ⟨⟨rfl, rfl⟩, Nat.le_of_ble_eq_true rfl, Nat.le_of_ble_eq_true rfl⟩ rfl hl.1 rfl (Nat.le_of_ble_eq_true rfl) dX2_goOnWithCall_59 ⟨Nat.zero_le _, Nat.zero_le _⟩ (fun u18 H locs hP hD hS h => ?_)
    refine lv_goto (tgt := 123) hx hb dX2_goOnWithCall_62 (by decide) ?_
    exact retC_v E hr hlk hP hD hS h dX2_goOnWithCall_123
def wp_X2_goOnWithChoice (N : Nat → Nat)  (u : St) (Q : St → Prop) : Prop := wp_X7_part N (1 : Int32) u (fun (r1 : Int64) (u2 : St) => wp_X7_pop N  u2 (fun (u3 : St) => (((gJ u3 614) = (1099511627776 : Int64) → wp_X0_cdr N r1 u3 (fun (r11 : Int64) (u12 : St) => Q (sI (sJ u12 611 r11) 608 (1 : Int32)))) ∧ (¬ (gJ u3 614) = (1099511627776 : Int64) → wp_X0_car N r1 u3 (fun (r4 : Int64) (u5 : St) => wp_X0_cdr N r4 u5 (fun (r6 : Int64) (u7 : St) => wp_X0_car N r6 u7 (fun (r8 : Int64) (u9 : St) => wp_X2_beginEvaluating N r8 (gJ u9 613) u9 (fun (u10 : St) => Q u10))))))))
abbrev rm_X2_goOnWithChoice : Room := { frames := 2, cells := 0, slots := 0, locals := 45 }
set_option maxHeartbeats 4000000 in
set_option maxRecDepth 100000 in
theorem t_X2_goOnWithChoice (l : Launch) (D : va_G) (G : Gd)  (u : St) (Q : St → Prop) (h : wp_X2_goOnWithChoice G.2.1  u Q) : MCv l D G yX2_goOnWithChoice cX2_goOnWithChoice 3 none rm_X2_goOnWithChoice [.ref (G.1 6)] u Q := by
  refine startC_v (by decide) ?_
  intro p e s m args below meth c E hr hlk hml hP hD hS hA
  have hx := E.1
  have hb := E.2.1
  have hown := E.2.2.1
  have hW := E.2.2.2.1
  have hl := lv_entry ([.ref (G.1 6)]) (n := 3) (Nat.le_of_ble_eq_true rfl)
  rw [lg_entry_eq]
  generalize (lg_sl ([.ref (G.1 6)]) ++ List.replicate (3 - (lg_sl ([.ref (G.1 6)])).length) Slot.unset).toArray = ls at hl ⊢
  have hl : lv_has ls 3 [(0, .ref (G.1 6))] := hl
  unfold wp_X2_goOnWithChoice at h
  refine lv_aload_n hx hb dX2_goOnWithChoice_0 rfl (lv_at hl 0 rfl) ?_
  refine gC_602 E hP kfX2_54 dX2_goOnWithChoice_1 ?_
  refine lv_iconst (v := (1 : Int32)) hx hb dX2_goOnWithChoice_4 (by decide) ?_
  refine cC_l (ci := 7) (q0 := 3) (As := [.int (1 : Int32)]) (rest := []) E hml hP hD hS hA (t_X7_part l D G (1 : Int32) u _ h) kmX2_161 mwyX7_part rfl rfl ⟨⟨rfl, rfl⟩, Nat.le_of_ble_eq_true rfl, Nat.le_of_ble_eq_true rfl⟩ rfl hl.1 rfl (Nat.le_of_ble_eq_true rfl) dX2_goOnWithChoice_5 ⟨Nat.zero_le _, Nat.zero_le _⟩ (fun r1 u2 H locs hP hD hS h => ?_)
  refine lv_lstore_n (lv' := [(1, .long r1), (0, .ref (G.1 6))]) hx hb dX2_goOnWithChoice_8 rfl hl (by decide) rfl (fun ls hl => ?_)
  refine lv_aload_n hx hb dX2_goOnWithChoice_9 rfl (lv_at hl 1 rfl) ?_
  refine gC_602 E hP kfX2_54 dX2_goOnWithChoice_10 ?_
  refine cC_v (ci := 7) (q0 := 3) (As := []) (rest := []) E hml hP hD hS hA (t_X7_pop l D G  u2 _ h) kmX2_179 mwyX7_pop rfl rfl ⟨⟨rfl, rfl⟩, Nat.le_of_ble_eq_true rfl, Nat.le_of_ble_eq_true rfl⟩ rfl hl.1 rfl (Nat.le_of_ble_eq_true rfl) dX2_goOnWithChoice_13 ⟨Nat.zero_le _, Nat.zero_le _⟩ (fun u3 H locs hP hD hS h => ?_)
  refine lv_aload_n hx hb dX2_goOnWithChoice_16 rfl (lv_at hl 1 rfl) ?_
  refine gC_614 E hP kfX2_43 (v := (gJ u3 614)) rfl dX2_goOnWithChoice_17 ?_
  refine lv_ldc2 (v := (1099511627776 : Int64)) hx hb hown (hW _ kcX2_28) dX2_goOnWithChoice_20 ?_
  refine lq_ne (tgt := 47) hx hb dX2_goOnWithChoice_23 dX2_goOnWithChoice_24 (by decide) (fun hc => ?_) (fun hc => ?_)
  · have h := h.2 hc
    refine lv_aload_n hx hb dX2_goOnWithChoice_47 rfl (lv_at hl 1 rfl) ?_
    refine lv_aload_n hx hb dX2_goOnWithChoice_48 rfl (lv_at hl 1 rfl) ?_
    refine gC_600 E hP kfX2_46 dX2_goOnWithChoice_49 ?_
    refine lv_aload_n hx hb dX2_goOnWithChoice_52 rfl (lv_at hl 1 rfl) ?_
    refine gC_600 E hP kfX2_46 dX2_goOnWithChoice_53 ?_
    refine lv_aload_n hx hb dX2_goOnWithChoice_56 rfl (lv_at hl 1 rfl) ?_
    refine gC_600 E hP kfX2_46 dX2_goOnWithChoice_57 ?_
    refine lv_lload_n hx hb dX2_goOnWithChoice_60 rfl (lv_at hl 0 rfl) ?_
    refine cC_l (ci := 0) (q0 := 8) (As := [.long r1]) (rest := [.ref (G.1 8), .ref (G.1 8), .ref (G.1 6)]) E hml hP hD hS hA (t_X0_car l D G r1 u3 _ h) kmX2_104 mwyX0_car rfl rfl ⟨⟨rfl, rfl⟩, Nat.le_of_ble_eq_true rfl, Nat.le_of_ble_eq_true rfl⟩ rfl hl.1 rfl (Nat.le_of_ble_eq_true rfl) dX2_goOnWithChoice_61 ⟨Nat.zero_le _, Nat.zero_le _⟩ (fun r4 u5 H locs hP hD hS h => ?_)
    refine cC_l (ci := 0) (q0 := 8) (As := [.long r4]) (rest := [.ref (G.1 8), .ref (G.1 6)]) E hml hP hD hS hA (t_X0_cdr l D G r4 u5 _ h) kmX2_108 mwyX0_cdr rfl rfl ⟨⟨rfl, rfl⟩, Nat.le_of_ble_eq_true rfl, Nat.le_of_ble_eq_true rfl⟩ rfl hl.1 rfl (Nat.le_of_ble_eq_true rfl) dX2_goOnWithChoice_64 ⟨Nat.zero_le _, Nat.zero_le _⟩ (fun r6 u7 H locs hP hD hS h => ?_)
    refine cC_l (ci := 0) (q0 := 8) (As := [.long r6]) (rest := [.ref (G.1 6)]) E hml hP hD hS hA (t_X0_car l D G r6 u7 _ h) kmX2_104 mwyX0_car rfl rfl ⟨⟨rfl, rfl⟩, Nat.le_of_ble_eq_true rfl, Nat.le_of_ble_eq_true rfl⟩ rfl hl.1 rfl (Nat.le_of_ble_eq_true rfl) dX2_goOnWithChoice_67 ⟨Nat.zero_le _, Nat.zero_le _⟩ (fun r8 u9 H locs hP hD hS h => ?_)
    refine lv_aload_n hx hb dX2_goOnWithChoice_70 rfl (lv_at hl 1 rfl) ?_
    refine gC_613 E hP kfX2_40 (v := (gJ u9 613)) rfl dX2_goOnWithChoice_71 ?_
    refine cC_v (ci := 2) (q0 := 6) (As := [.long r8, .long (gJ u9 613)]) (rest := []) E hml hP hD hS hA (t_X2_beginEvaluating l D G r8 (gJ u9 613) u9 _ h) kmX2_65 mwyX2_beginEvaluating rfl rfl ⟨⟨rfl, rfl⟩, Nat.le_of_ble_eq_true rfl, Nat.le_of_ble_eq_true rfl⟩ rfl hl.1 rfl (Nat.le_of_ble_eq_true rfl) dX2_goOnWithChoice_74 ⟨Nat.zero_le _, Nat.zero_le _⟩ (fun u10 H locs hP hD hS h => ?_)
    exact retC_v E hr hlk hP hD hS h dX2_goOnWithChoice_77
  · have h := h.1 hc
    refine lv_aload_n hx hb dX2_goOnWithChoice_27 rfl (lv_at hl 1 rfl) ?_
    refine lv_aload_n hx hb dX2_goOnWithChoice_28 rfl (lv_at hl 1 rfl) ?_
    refine gC_600 E hP kfX2_46 dX2_goOnWithChoice_29 ?_
    refine lv_lload_n hx hb dX2_goOnWithChoice_32 rfl (lv_at hl 0 rfl) ?_
    refine cC_l (ci := 0) (q0 := 8) (As := [.long r1]) (rest := [.ref (G.1 6)]) E hml hP hD hS hA (t_X0_cdr l D G r1 u3 _ h) kmX2_108 mwyX0_cdr rfl rfl ⟨⟨rfl, rfl⟩, Nat.le_of_ble_eq_true rfl, Nat.le_of_ble_eq_true rfl⟩ rfl hl.1 rfl (Nat.le_of_ble_eq_true rfl) dX2_goOnWithChoice_33 ⟨Nat.zero_le _, Nat.zero_le _⟩ (fun r11 u12 H locs hP hD hS h => ?_)
    refine pC_611 E hP hD hS kfX2_34 dX2_goOnWithChoice_36 (fun H locs hP hD hS => ?_)
    refine lv_aload_n hx hb dX2_goOnWithChoice_39 rfl (lv_at hl 1 rfl) ?_
    refine lv_iconst (v := (1 : Int32)) hx hb dX2_goOnWithChoice_40 (by decide) ?_
    refine pC_608 E hP hD hS kfX2_22 dX2_goOnWithChoice_41 (fun H locs hP hD hS => ?_)
    refine lv_goto (tgt := 77) hx hb dX2_goOnWithChoice_44 (by decide) ?_
    exact retC_v E hr hlk hP hD hS h dX2_goOnWithChoice_77
def wp_X2_handBack (N : Nat → Nat)  (u : St) (Q : St → Prop) : Prop := (((gI u 303) = 0 → Q (sI u 608 (4 : Int32))) ∧ (¬ (gI u 303) = 0 → wp_X7_part N (2 : Int32) u (fun (r1 : Int64) (u2 : St) => wp_X7_kindOnTop N  (sJ u2 613 r1) (fun (r3 : Int32) (u4 : St) => ((r3 = (0 : Int32) → wp_X2_goOnWithCall N  u4 (fun (u5 : St) => Q u5)) ∧ (¬ r3 = (0 : Int32) → ((r3 = (1 : Int32) → wp_X2_goOnWithChoice N  u4 (fun (u6 : St) => Q u6)) ∧ (¬ r3 = (1 : Int32) → wp_X7_takeValues_21 N  u4 (fun (r7 : Int32) (u8 : St) => wp_X7_pop N  (sI u8 606 r7) (fun (u9 : St) => wp_X2_beginApplying N (gJ u9 614) u9 (fun (u10 : St) => Q u10)))))))))))
abbrev rm_X2_handBack : Room := { frames := 3, cells := 0, slots := 0, locals := 104 }
set_option maxHeartbeats 4000000 in
set_option maxRecDepth 100000 in
theorem t_X2_handBack (l : Launch) (D : va_G) (G : Gd)  (u : St) (Q : St → Prop) (h : wp_X2_handBack G.2.1  u Q) : MCv l D G yX2_handBack cX2_handBack 1 none rm_X2_handBack [.ref (G.1 6)] u Q := by
  refine startC_v (by decide) ?_
  intro p e s m args below meth c E hr hlk hml hP hD hS hA
  have hx := E.1
  have hb := E.2.1
  have hown := E.2.2.1
  have hW := E.2.2.2.1
  have hl := lv_entry ([.ref (G.1 6)]) (n := 1) (Nat.le_of_ble_eq_true rfl)
  rw [lg_entry_eq]
  generalize (lg_sl ([.ref (G.1 6)]) ++ List.replicate (1 - (lg_sl ([.ref (G.1 6)])).length) Slot.unset).toArray = ls at hl ⊢
  have hl : lv_has ls 1 [(0, .ref (G.1 6))] := hl
  unfold wp_X2_handBack at h
  refine lv_aload_n hx hb dX2_handBack_0 rfl (lv_at hl 0 rfl) ?_
  refine gC_602 E hP kfX2_54 dX2_handBack_1 ?_
  refine gC_303 E hP kfX2_158 (v := (gI u 303)) rfl dX2_handBack_4 ?_
  refine lv_if_ne (tgt := 16) hx hb dX2_handBack_7 (by decide) (fun hc => ?_) (fun hc => ?_)
  · have h := h.2 hc
    refine lv_aload_n hx hb dX2_handBack_16 rfl (lv_at hl 0 rfl) ?_
    refine lv_aload_n hx hb dX2_handBack_17 rfl (lv_at hl 0 rfl) ?_
    refine gC_602 E hP kfX2_54 dX2_handBack_18 ?_
    refine lv_iconst (v := (2 : Int32)) hx hb dX2_handBack_21 (by decide) ?_
    refine cC_l (ci := 7) (q0 := 3) (As := [.int (2 : Int32)]) (rest := [.ref (G.1 6)]) E hml hP hD hS hA (t_X7_part l D G (2 : Int32) u _ h) kmX2_161 mwyX7_part rfl rfl ⟨⟨rfl, rfl⟩, Nat.le_of_ble_eq_true rfl, Nat.le_of_ble_eq_true rfl⟩ rfl hl.1 rfl (Nat.le_of_ble_eq_true rfl) dX2_handBack_22 ⟨Nat.zero_le _, Nat.zero_le _⟩ (fun r1 u2 H locs hP hD hS h => ?_)
    refine pC_613 E hP hD hS kfX2_40 dX2_handBack_25 (fun H locs hP hD hS => ?_)
    refine lv_aload_n hx hb dX2_handBack_28 rfl (lv_at hl 0 rfl) ?_
    refine gC_602 E hP kfX2_54 dX2_handBack_29 ?_
    refine cC_i (ci := 7) (q0 := 3) (As := []) (rest := []) E hml hP hD hS hA (t_X7_kindOnTop l D G  (sJ u2 613 r1) _ h) kmX2_165 mwyX7_kindOnTop rfl rfl ⟨⟨rfl, rfl⟩, Nat.le_of_ble_eq_true rfl, Nat.le_of_ble_eq_true rfl⟩ rfl hl.1 rfl (Nat.le_of_ble_eq_true rfl) dX2_handBack_32 ⟨Nat.zero_le _, Nat.zero_le _⟩ (fun r3 u4 H locs hP hD hS h => ?_)
    rcases Decidable.em (r3 = (0 : Int32)) with hc0 | hc0
    · have h := h.1 hc0
      refine lv_lookup (off := (25 : Int)) (tgt := 60) hx hb dX2_handBack_35 (by decide) (by rw [hc0]; decide) (by decide) ?_
      refine lv_aload_n hx hb dX2_handBack_60 rfl (lv_at hl 0 rfl) ?_
      refine cC_v (ci := 2) (q0 := 6) (As := []) (rest := []) E hml hP hD hS hA (t_X2_goOnWithCall l D G  u4 _ h) kmX2_169 mwyX2_goOnWithCall rfl rfl ⟨⟨rfl, rfl⟩, Nat.le_of_ble_eq_true rfl, Nat.le_of_ble_eq_true rfl⟩ rfl hl.1 rfl (Nat.le_of_ble_eq_true rfl) dX2_handBack_61 ⟨Nat.zero_le _, Nat.zero_le _⟩ (fun u5 H locs hP hD hS h => ?_)
      refine lv_goto (tgt := 104) hx hb dX2_handBack_64 (by decide) ?_
      exact retC_v E hr hlk hP hD hS h dX2_handBack_104
    · have h := h.2 hc0
      rcases Decidable.em (r3 = (1 : Int32)) with hc1 | hc1
      · have h := h.1 hc1
        refine lv_lookup (off := (32 : Int)) (tgt := 67) hx hb dX2_handBack_35 (by decide) (by rw [hc1]; decide) (by decide) ?_
        refine lv_aload_n hx hb dX2_handBack_67 rfl (lv_at hl 0 rfl) ?_
        refine cC_v (ci := 2) (q0 := 6) (As := []) (rest := []) E hml hP hD hS hA (t_X2_goOnWithChoice l D G  u4 _ h) kmX2_172 mwyX2_goOnWithChoice rfl rfl ⟨⟨rfl, rfl⟩, Nat.le_of_ble_eq_true rfl, Nat.le_of_ble_eq_true rfl⟩ rfl hl.1 rfl (Nat.le_of_ble_eq_true rfl) dX2_handBack_68 ⟨Nat.zero_le _, Nat.zero_le _⟩ (fun u6 H locs hP hD hS h => ?_)
        refine lv_goto (tgt := 104) hx hb dX2_handBack_71 (by decide) ?_
        exact retC_v E hr hlk hP hD hS h dX2_handBack_104
      · have h := h.2 hc1
        refine lv_lookup (off := (39 : Int)) (tgt := 74) hx hb dX2_handBack_35 (by decide) (by have e0 : ¬ (0 : Int) = (r3).toInt := fun e => i32_ne (z := 0) (by decide) hc0 e.symm; have e1 : ¬ (1 : Int) = (r3).toInt := fun e => i32_ne (z := 1) (by decide) hc1 e.symm; simp [Op.lookupswitch.offset, *]) (by decide) ?_
        refine lv_aload_n hx hb dX2_handBack_74 rfl (lv_at hl 0 rfl) ?_
        refine lv_aload_n hx hb dX2_handBack_75 rfl (lv_at hl 0 rfl) ?_
        refine gC_602 E hP kfX2_54 dX2_handBack_76 ?_
        refine lv_aload_n hx hb dX2_handBack_79 rfl (lv_at hl 0 rfl) ?_
        refine gC_605 E hP kfX2_9 dX2_handBack_80 ?_
        refine cC_i (ci := 7) (q0 := 3) (As := [.ref (G.1 21)]) (rest := [.ref (G.1 6)]) E hml hP hD hS hA (t_X7_takeValues_21 l D G  u4 _ h) kmX2_175 mwyX7_takeValues rfl rfl ⟨⟨rfl, rfl⟩, Nat.le_of_ble_eq_true rfl, Nat.le_of_ble_eq_true rfl⟩ rfl hl.1 rfl (Nat.le_of_ble_eq_true rfl) dX2_handBack_83 ⟨Nat.zero_le _, Nat.zero_le _⟩ (fun r7 u8 H locs hP hD hS h => ?_)
        refine pC_606 E hP hD hS kfX2_15 dX2_handBack_86 (fun H locs hP hD hS => ?_)
        refine lv_aload_n hx hb dX2_handBack_89 rfl (lv_at hl 0 rfl) ?_
        refine gC_602 E hP kfX2_54 dX2_handBack_90 ?_
        refine cC_v (ci := 7) (q0 := 3) (As := []) (rest := []) E hml hP hD hS hA (t_X7_pop l D G  (sI u8 606 r7) _ h) kmX2_179 mwyX7_pop rfl rfl ⟨⟨rfl, rfl⟩, Nat.le_of_ble_eq_true rfl, Nat.le_of_ble_eq_true rfl⟩ rfl hl.1 rfl (Nat.le_of_ble_eq_true rfl) dX2_handBack_93 ⟨Nat.zero_le _, Nat.zero_le _⟩ (fun u9 H locs hP hD hS h => ?_)
        refine lv_aload_n hx hb dX2_handBack_96 rfl (lv_at hl 0 rfl) ?_
        refine lv_aload_n hx hb dX2_handBack_97 rfl (lv_at hl 0 rfl) ?_
        refine gC_614 E hP kfX2_43 (v := (gJ u9 614)) rfl dX2_handBack_98 ?_
        refine cC_v (ci := 2) (q0 := 6) (As := [.long (gJ u9 614)]) (rest := []) E hml hP hD hS hA (t_X2_beginApplying l D G (gJ u9 614) u9 _ h) kmX2_155 mwyX2_beginApplying rfl rfl ⟨⟨rfl, rfl⟩, Nat.le_of_ble_eq_true rfl, Nat.le_of_ble_eq_true rfl⟩ rfl hl.1 rfl (Nat.le_of_ble_eq_true rfl) dX2_handBack_101 ⟨Nat.zero_le _, Nat.zero_le _⟩ (fun u10 H locs hP hD hS h => ?_)
        exact retC_v E hr hlk hP hD hS h dX2_handBack_104
  · have h := h.1 hc
    refine lv_aload_n hx hb dX2_handBack_10 rfl (lv_at hl 0 rfl) ?_
    refine lv_iconst (v := (4 : Int32)) hx hb dX2_handBack_11 (by decide) ?_
    refine pC_608 E hP hD hS kfX2_22 dX2_handBack_12 (fun H locs hP hD hS => ?_)
    exact retC_v E hr hlk hP hD hS h dX2_handBack_15
def l_X2_evaluate_25 (N : Nat → Nat) (c3 : Int32) (K : St → Prop) : Nat → Int32 → St → Prop
  | 0, _, _ => False
  | n + 1, x4, u => ((c3 ≤ x4 → K u) ∧ (¬ c3 ≤ x4 → (((gI u 608) = (4 : Int32) → K u) ∧ (¬ (gI u 608) = (4 : Int32) → (((gI u 609) = 0 → (((gI u 608) = (3 : Int32) → wp_X2_handBack N  u (fun (u13 : St) => l_X2_evaluate_25 N  c3 K n (x4 + (1 : Int32)) u13)) ∧ (¬ (gI u 608) = (3 : Int32) → (((gI u 607) < (gI u 604) → (((gI u 608) = (1 : Int32) → wp_X2_choose N  (sI u 607 ((gI u 607) + (1 : Int32))) (fun (u12 : St) => l_X2_evaluate_25 N  c3 K n (x4 + (1 : Int32)) u12)) ∧ (¬ (gI u 608) = (1 : Int32) → (((gI u 608) = 0 → wp_X8_isPair (gJ u 610) (fun (r6 : Int32) => ((r6 = 0 → (((gI u 608) = 0 → wp_X2_evaluateAtom N  (sI u 607 ((gI u 607) + (1 : Int32))) (fun (u10 : St) => l_X2_evaluate_25 N  c3 K n (x4 + (1 : Int32)) u10)) ∧ (¬ (gI u 608) = 0 → wp_X8_isPair (gJ u 612) (fun (r7 : Int32) => ((r7 = 0 → wp_X2_applyAtom N  (sI u 607 ((gI u 607) + (1 : Int32))) (fun (u8 : St) => l_X2_evaluate_25 N  c3 K n (x4 + (1 : Int32)) u8)) ∧ (¬ r7 = 0 → wp_X2_applyPair N  (sI u 607 ((gI u 607) + (1 : Int32))) (fun (u9 : St) => l_X2_evaluate_25 N  c3 K n (x4 + (1 : Int32)) u9))))))) ∧ (¬ r6 = 0 → wp_X2_evaluatePair N  (sI u 607 ((gI u 607) + (1 : Int32))) (fun (u11 : St) => l_X2_evaluate_25 N  c3 K n (x4 + (1 : Int32)) u11))))) ∧ (¬ (gI u 608) = 0 → (((gI u 608) = 0 → wp_X2_evaluateAtom N  (sI u 607 ((gI u 607) + (1 : Int32))) (fun (u5 : St) => l_X2_evaluate_25 N  c3 K n (x4 + (1 : Int32)) u5)) ∧ (¬ (gI u 608) = 0 → wp_X8_isPair (gJ u 612) (fun (r2 : Int32) => ((r2 = 0 → wp_X2_applyAtom N  (sI u 607 ((gI u 607) + (1 : Int32))) (fun (u3 : St) => l_X2_evaluate_25 N  c3 K n (x4 + (1 : Int32)) u3)) ∧ (¬ r2 = 0 → wp_X2_applyPair N  (sI u 607 ((gI u 607) + (1 : Int32))) (fun (u4 : St) => l_X2_evaluate_25 N  c3 K n (x4 + (1 : Int32)) u4))))))))))) ∧ (¬ (gI u 607) < (gI u 604) → l_X2_evaluate_25 N  c3 K n (x4 + (1 : Int32)) (sI u 609 (8 : Int32))))))) ∧ (¬ (gI u 609) = 0 → K u))))))
def wp_X2_evaluate (N : Nat → Nat) (p0 : Int64) (u : St) (Q : Int32 → St → Prop) : Prop := wp_X2_beginEvaluating N p0 (1099511627776 : Int64) (sI u 609 (0 : Int32)) (fun (u1 : St) => (∃ k15 : Nat, l_X2_evaluate_25 N  (((2 : Int32) * (gI u1 604)) + (4 : Int32)) (fun (u14 : St) => Q (gI u14 609) u14) k15 (0 : Int32) u1))
abbrev rm_X2_evaluate : Room := { frames := 5, cells := 0, slots := 0, locals := 124 }
set_option maxHeartbeats 4000000 in
set_option maxRecDepth 100000 in
theorem t_X2_evaluate (l : Launch) (D : va_G) (G : Gd) (p0 : Int64) (u : St) (Q : Int32 → St → Prop) (h : wp_X2_evaluate G.2.1 p0 u Q) : MCi l D G yX2_evaluate cX2_evaluate 5 (some .int) rm_X2_evaluate [.ref (G.1 6), .long p0] u Q := by
  refine startC_i (by decide) ?_
  intro p e s m args below meth c E hr hlk hml hP hD hS hA
  have hx := E.1
  have hb := E.2.1
  have hown := E.2.2.1
  have hW := E.2.2.2.1
  have hl := lv_entry ([.ref (G.1 6), .long p0]) (n := 5) (Nat.le_of_ble_eq_true rfl)
  rw [lg_entry_eq]
  generalize (lg_sl ([.ref (G.1 6), .long p0]) ++ List.replicate (5 - (lg_sl ([.ref (G.1 6), .long p0])).length) Slot.unset).toArray = ls at hl ⊢
  have hl : lv_has ls 5 [(0, .ref (G.1 6)), (1, .long p0)] := hl
  have L_25 : ∀ (c3 : Int32) (K : St → Prop), (∀  (u : St) (H : Heap) (locs : List Loc) (ls : Array Slot), K  u → va_P D vwCl (wC G u) H → va_D (AC G s.heap.size) (wC G u) → va_S (AC G s.heap.size) s.heap H locs → lv_has ls 5 [(0, .ref (G.1 6))] → W p l e rm_X2_evaluate s m args below meth c H locs 0 0 (MQ below (va_Qi Q (BC D G s.heap.size) (AC G s.heap.size)) args s 0 0 (AC G s.heap.size)) (F0 m 171 ls [])) → ∀ (n : Nat) (x4 : Int32) (u : St) (H : Heap) (locs : List Loc) (ls : Array Slot), l_X2_evaluate_25 G.2.1  c3 K n x4 u → va_P D vwCl (wC G u) H → va_D (AC G s.heap.size) (wC G u) → va_S (AC G s.heap.size) s.heap H locs → lv_has ls 5 [(0, .ref (G.1 6)), (3, .int c3), (4, .int x4)] → W p l e rm_X2_evaluate s m args below meth c H locs 0 0 (MQ below (va_Qi Q (BC D G s.heap.size) (AC G s.heap.size)) args s 0 0 (AC G s.heap.size)) (F0 m 25 ls []) := by
    intro c3 K hK n
    induction n with
    | zero => intro x4 u H locs ls h; exact False.elim h
    | succ n ih =>
      intro x4 u H locs ls h hP hD hS hl
      unfold l_X2_evaluate_25 at h
      refine lv_iload hx hb dX2_evaluate_25 (lv_at hl 2 rfl) ?_
      refine lv_iload_n hx hb dX2_evaluate_27 rfl (lv_at hl 1 rfl) ?_
      refine lv_icmp_ge (tgt := 171) hx hb dX2_evaluate_28 (by decide) (fun hc => ?_) (fun hc => ?_)
      · have h := h.1 hc
        exact hK u _ _ _ h hP hD hS (lv_sub hl [0] rfl)
      · have h := h.2 hc
        refine lv_aload_n hx hb dX2_evaluate_31 rfl (lv_at hl 0 rfl) ?_
        refine gC_608 E hP kfX2_22 (v := (gI u 608)) rfl dX2_evaluate_32 ?_
        refine lv_iconst (v := (4 : Int32)) hx hb dX2_evaluate_35 (by decide) ?_
        refine lv_icmp_eq (tgt := 171) hx hb dX2_evaluate_36 (by decide) (fun hc => ?_) (fun hc => ?_)
        · have h := h.1 hc
          exact hK u _ _ _ h hP hD hS (lv_sub hl [0] rfl)
        · have h := h.2 hc
          refine lv_aload_n hx hb dX2_evaluate_39 rfl (lv_at hl 0 rfl) ?_
          refine gC_609 E hP kfX2_25 (v := (gI u 609)) rfl dX2_evaluate_40 ?_
          refine lv_if_ne (tgt := 171) hx hb dX2_evaluate_43 (by decide) (fun hc => ?_) (fun hc => ?_)
          · have h := h.2 hc
            exact hK u _ _ _ h hP hD hS (lv_sub hl [0] rfl)
          · have h := h.1 hc
            refine lv_aload_n hx hb dX2_evaluate_46 rfl (lv_at hl 0 rfl) ?_
            refine gC_608 E hP kfX2_22 (v := (gI u 608)) rfl dX2_evaluate_47 ?_
            refine lv_iconst (v := (3 : Int32)) hx hb dX2_evaluate_50 (by decide) ?_
            refine lv_icmp_ne (tgt := 61) hx hb dX2_evaluate_51 (by decide) (fun hc => ?_) (fun hc => ?_)
            · have h := h.2 hc
              refine lv_aload_n hx hb dX2_evaluate_61 rfl (lv_at hl 0 rfl) ?_
              refine gC_607 E hP kfX2_19 (v := (gI u 607)) rfl dX2_evaluate_62 ?_
              refine lv_aload_n hx hb dX2_evaluate_65 rfl (lv_at hl 0 rfl) ?_
              refine gC_604 E hP kfX2_62 (v := (gI u 604)) rfl dX2_evaluate_66 ?_
              refine lv_icmp_lt (tgt := 81) hx hb dX2_evaluate_69 (by decide) (fun hc => ?_) (fun hc => ?_)
              · have h := h.1 hc
                refine lv_aload_n hx hb dX2_evaluate_81 rfl (lv_at hl 0 rfl) ?_
                refine lv_dup hx hb dX2_evaluate_82 rfl ?_
                refine gC_607 E hP kfX2_19 (v := (gI u 607)) rfl dX2_evaluate_83 ?_
                refine lv_iconst (v := (1 : Int32)) hx hb dX2_evaluate_86 (by decide) ?_
                refine lv_iadd hx hb dX2_evaluate_87 ?_
                refine pC_607 E hP hD hS kfX2_19 dX2_evaluate_88 (fun H locs hP hD hS => ?_)
                refine lv_aload_n hx hb dX2_evaluate_91 rfl (lv_at hl 0 rfl) ?_
                refine gC_608 E hP kfX2_22 (v := (gI u 608)) rfl dX2_evaluate_92 ?_
                refine lv_iconst (v := (1 : Int32)) hx hb dX2_evaluate_95 (by decide) ?_
                refine lv_icmp_ne (tgt := 106) hx hb dX2_evaluate_96 (by decide) (fun hc => ?_) (fun hc => ?_)
                · have h := h.2 hc
                  refine lv_aload_n hx hb dX2_evaluate_106 rfl (lv_at hl 0 rfl) ?_
                  refine gC_608 E hP kfX2_22 (v := (gI u 608)) rfl dX2_evaluate_107 ?_
                  refine lv_if_ne (tgt := 130) hx hb dX2_evaluate_110 (by decide) (fun hc => ?_) (fun hc => ?_)
                  · have h := h.2 hc
                    refine lv_aload_n hx hb dX2_evaluate_130 rfl (lv_at hl 0 rfl) ?_
                    refine gC_608 E hP kfX2_22 (v := (gI u 608)) rfl dX2_evaluate_131 ?_
                    refine lv_if_ne (tgt := 144) hx hb dX2_evaluate_134 (by decide) (fun hc => ?_) (fun hc => ?_)
                    · have h := h.2 hc
                      refine lv_aload_n hx hb dX2_evaluate_144 rfl (lv_at hl 0 rfl) ?_
                      refine gC_612 E hP kfX2_37 (v := (gJ u 612)) rfl dX2_evaluate_145 ?_
                      refine c0_i (As := [.long (gJ u 612)]) (rest := []) hx hb hml hown hW hP hS hA (t_X8_isPair l (gJ u 612) _ h) kmX2_75 mwyX8_isPair ⟨⟨rfl, rfl⟩, Nat.le_of_ble_eq_true rfl, Nat.le_of_ble_eq_true rfl⟩ rfl hl.1 rfl (Nat.le_of_ble_eq_true rfl) dX2_evaluate_148 ⟨Nat.zero_le _, Nat.zero_le _⟩ (fun r2 H locs hP hS h => ?_)
                      refine lv_if_eq (tgt := 161) hx hb dX2_evaluate_151 (by decide) (fun hc => ?_) (fun hc => ?_)
                      · have h := h.1 hc
                        refine lv_aload_n hx hb dX2_evaluate_161 rfl (lv_at hl 0 rfl) ?_
                        refine cC_v (ci := 2) (q0 := 6) (As := []) (rest := []) E hml hP hD hS hA (t_X2_applyAtom l D G  (sI u 607 ((gI u 607) + (1 : Int32))) _ h) kmX2_90 mwyX2_applyAtom rfl rfl ⟨⟨rfl, rfl⟩, Nat.le_of_ble_eq_true rfl, Nat.le_of_ble_eq_true rfl⟩ rfl hl.1 rfl (Nat.le_of_ble_eq_true rfl) dX2_evaluate_162 ⟨Nat.zero_le _, Nat.zero_le _⟩ (fun u3 H locs hP hD hS h => ?_)
                        refine lv_iinc (v := (x4 + (1 : Int32))) (lv' := [(4, .int (x4 + (1 : Int32))), (0, .ref (G.1 6)), (3, .int c3)]) hx hb dX2_evaluate_165 hl (k := 2) rfl rfl (by decide) rfl (fun ls hl => ?_)
                        refine lv_goto (tgt := 25) hx hb dX2_evaluate_168 (by decide) ?_
                        exact ih (x4 + (1 : Int32)) u3 _ _ _ h hP hD hS (lv_sub hl [1, 2, 0] rfl)
                      · have h := h.2 hc
                        refine lv_aload_n hx hb dX2_evaluate_154 rfl (lv_at hl 0 rfl) ?_
                        refine cC_v (ci := 2) (q0 := 6) (As := []) (rest := []) E hml hP hD hS hA (t_X2_applyPair l D G  (sI u 607 ((gI u 607) + (1 : Int32))) _ h) kmX2_87 mwyX2_applyPair rfl rfl ⟨⟨rfl, rfl⟩, Nat.le_of_ble_eq_true rfl, Nat.le_of_ble_eq_true rfl⟩ rfl hl.1 rfl (Nat.le_of_ble_eq_true rfl) dX2_evaluate_155 ⟨Nat.zero_le _, Nat.zero_le _⟩ (fun u4 H locs hP hD hS h => ?_)
                        refine lv_goto (tgt := 165) hx hb dX2_evaluate_158 (by decide) ?_
                        refine lv_iinc (v := (x4 + (1 : Int32))) (lv' := [(4, .int (x4 + (1 : Int32))), (0, .ref (G.1 6)), (3, .int c3)]) hx hb dX2_evaluate_165 hl (k := 2) rfl rfl (by decide) rfl (fun ls hl => ?_)
                        refine lv_goto (tgt := 25) hx hb dX2_evaluate_168 (by decide) ?_
                        exact ih (x4 + (1 : Int32)) u4 _ _ _ h hP hD hS (lv_sub hl [1, 2, 0] rfl)
                    · have h := h.1 hc
                      refine lv_aload_n hx hb dX2_evaluate_137 rfl (lv_at hl 0 rfl) ?_
                      refine cC_v (ci := 2) (q0 := 6) (As := []) (rest := []) E hml hP hD hS hA (t_X2_evaluateAtom l D G  (sI u 607 ((gI u 607) + (1 : Int32))) _ h) kmX2_84 mwyX2_evaluateAtom rfl rfl ⟨⟨rfl, rfl⟩, Nat.le_of_ble_eq_true rfl, Nat.le_of_ble_eq_true rfl⟩ rfl hl.1 rfl (Nat.le_of_ble_eq_true rfl) dX2_evaluate_138 ⟨Nat.zero_le _, Nat.zero_le _⟩ (fun u5 H locs hP hD hS h => ?_)
                      refine lv_goto (tgt := 165) hx hb dX2_evaluate_141 (by decide) ?_
                      refine lv_iinc (v := (x4 + (1 : Int32))) (lv' := [(4, .int (x4 + (1 : Int32))), (0, .ref (G.1 6)), (3, .int c3)]) hx hb dX2_evaluate_165 hl (k := 2) rfl rfl (by decide) rfl (fun ls hl => ?_)
                      refine lv_goto (tgt := 25) hx hb dX2_evaluate_168 (by decide) ?_
                      exact ih (x4 + (1 : Int32)) u5 _ _ _ h hP hD hS (lv_sub hl [1, 2, 0] rfl)
                  · have h := h.1 hc
                    refine lv_aload_n hx hb dX2_evaluate_113 rfl (lv_at hl 0 rfl) ?_
                    refine gC_610 E hP kfX2_30 (v := (gJ u 610)) rfl dX2_evaluate_114 ?_
                    refine c0_i (As := [.long (gJ u 610)]) (rest := []) hx hb hml hown hW hP hS hA (t_X8_isPair l (gJ u 610) _ h) kmX2_75 mwyX8_isPair ⟨⟨rfl, rfl⟩, Nat.le_of_ble_eq_true rfl, Nat.le_of_ble_eq_true rfl⟩ rfl hl.1 rfl (Nat.le_of_ble_eq_true rfl) dX2_evaluate_117 ⟨Nat.zero_le _, Nat.zero_le _⟩ (fun r6 H locs hP hS h => ?_)
                    refine lv_if_eq (tgt := 130) hx hb dX2_evaluate_120 (by decide) (fun hc => ?_) (fun hc => ?_)
                    · have h := h.1 hc
                      refine lv_aload_n hx hb dX2_evaluate_130 rfl (lv_at hl 0 rfl) ?_
                      refine gC_608 E hP kfX2_22 (v := (gI u 608)) rfl dX2_evaluate_131 ?_
                      refine lv_if_ne (tgt := 144) hx hb dX2_evaluate_134 (by decide) (fun hc => ?_) (fun hc => ?_)
                      · have h := h.2 hc
                        refine lv_aload_n hx hb dX2_evaluate_144 rfl (lv_at hl 0 rfl) ?_
                        refine gC_612 E hP kfX2_37 (v := (gJ u 612)) rfl dX2_evaluate_145 ?_
                        refine c0_i (As := [.long (gJ u 612)]) (rest := []) hx hb hml hown hW hP hS hA (t_X8_isPair l (gJ u 612) _ h) kmX2_75 mwyX8_isPair ⟨⟨rfl, rfl⟩, Nat.le_of_ble_eq_true rfl, Nat.le_of_ble_eq_true rfl⟩ rfl hl.1 rfl (Nat.le_of_ble_eq_true rfl) dX2_evaluate_148 ⟨Nat.zero_le _, Nat.zero_le _⟩ (fun r7 H locs hP hS h => ?_)
                        refine lv_if_eq (tgt := 161) hx hb dX2_evaluate_151 (by decide) (fun hc => ?_) (fun hc => ?_)
                        · have h := h.1 hc
                          refine lv_aload_n hx hb dX2_evaluate_161 rfl (lv_at hl 0 rfl) ?_
                          refine cC_v (ci := 2) (q0 := 6) (As := []) (rest := []) E hml hP hD hS hA (t_X2_applyAtom l D G  (sI u 607 ((gI u 607) + (1 : Int32))) _ h) kmX2_90 mwyX2_applyAtom rfl rfl ⟨⟨rfl, rfl⟩, Nat.le_of_ble_eq_true rfl, Nat.le_of_ble_eq_true rfl⟩ rfl hl.1 rfl (Nat.le_of_ble_eq_true rfl) dX2_evaluate_162 ⟨Nat.zero_le _, Nat.zero_le _⟩ (fun u8 H locs hP hD hS h => ?_)
                          refine lv_iinc (v := (x4 + (1 : Int32))) (lv' := [(4, .int (x4 + (1 : Int32))), (0, .ref (G.1 6)), (3, .int c3)]) hx hb dX2_evaluate_165 hl (k := 2) rfl rfl (by decide) rfl (fun ls hl => ?_)
                          refine lv_goto (tgt := 25) hx hb dX2_evaluate_168 (by decide) ?_
                          exact ih (x4 + (1 : Int32)) u8 _ _ _ h hP hD hS (lv_sub hl [1, 2, 0] rfl)
                        · have h := h.2 hc
                          refine lv_aload_n hx hb dX2_evaluate_154 rfl (lv_at hl 0 rfl) ?_
                          refine cC_v (ci := 2) (q0 := 6) (As := []) (rest := []) E hml hP hD hS hA (t_X2_applyPair l D G  (sI u 607 ((gI u 607) + (1 : Int32))) _ h) kmX2_87 mwyX2_applyPair rfl rfl ⟨⟨rfl, rfl⟩, Nat.le_of_ble_eq_true rfl, Nat.le_of_ble_eq_true rfl⟩ rfl hl.1 rfl (Nat.le_of_ble_eq_true rfl) dX2_evaluate_155 ⟨Nat.zero_le _, Nat.zero_le _⟩ (fun u9 H locs hP hD hS h => ?_)
                          refine lv_goto (tgt := 165) hx hb dX2_evaluate_158 (by decide) ?_
                          refine lv_iinc (v := (x4 + (1 : Int32))) (lv' := [(4, .int (x4 + (1 : Int32))), (0, .ref (G.1 6)), (3, .int c3)]) hx hb dX2_evaluate_165 hl (k := 2) rfl rfl (by decide) rfl (fun ls hl => ?_)
                          refine lv_goto (tgt := 25) hx hb dX2_evaluate_168 (by decide) ?_
                          exact ih (x4 + (1 : Int32)) u9 _ _ _ h hP hD hS (lv_sub hl [1, 2, 0] rfl)
                      · have h := h.1 hc
                        refine lv_aload_n hx hb dX2_evaluate_137 rfl (lv_at hl 0 rfl) ?_
                        refine cC_v (ci := 2) (q0 := 6) (As := []) (rest := []) E hml hP hD hS hA (t_X2_evaluateAtom l D G  (sI u 607 ((gI u 607) + (1 : Int32))) _ h) kmX2_84 mwyX2_evaluateAtom rfl rfl ⟨⟨rfl, rfl⟩, Nat.le_of_ble_eq_true rfl, Nat.le_of_ble_eq_true rfl⟩ rfl hl.1 rfl (Nat.le_of_ble_eq_true rfl) dX2_evaluate_138 ⟨Nat.zero_le _, Nat.zero_le _⟩ (fun u10 H locs hP hD hS h => ?_)
                        refine lv_goto (tgt := 165) hx hb dX2_evaluate_141 (by decide) ?_
                        refine lv_iinc (v := (x4 + (1 : Int32))) (lv' := [(4, .int (x4 + (1 : Int32))), (0, .ref (G.1 6)), (3, .int c3)]) hx hb dX2_evaluate_165 hl (k := 2) rfl rfl (by decide) rfl (fun ls hl => ?_)
                        refine lv_goto (tgt := 25) hx hb dX2_evaluate_168 (by decide) ?_
                        exact ih (x4 + (1 : Int32)) u10 _ _ _ h hP hD hS (lv_sub hl [1, 2, 0] rfl)
                    · have h := h.2 hc
                      refine lv_aload_n hx hb dX2_evaluate_123 rfl (lv_at hl 0 rfl) ?_
                      refine cC_v (ci := 2) (q0 := 6) (As := []) (rest := []) E hml hP hD hS hA (t_X2_evaluatePair l D G  (sI u 607 ((gI u 607) + (1 : Int32))) _ h) kmX2_81 mwyX2_evaluatePair rfl rfl ⟨⟨rfl, rfl⟩, Nat.le_of_ble_eq_true rfl, Nat.le_of_ble_eq_true rfl⟩ rfl hl.1 rfl (Nat.le_of_ble_eq_true rfl) dX2_evaluate_124 ⟨Nat.zero_le _, Nat.zero_le _⟩ (fun u11 H locs hP hD hS h => ?_)
                      refine lv_goto (tgt := 165) hx hb dX2_evaluate_127 (by decide) ?_
                      refine lv_iinc (v := (x4 + (1 : Int32))) (lv' := [(4, .int (x4 + (1 : Int32))), (0, .ref (G.1 6)), (3, .int c3)]) hx hb dX2_evaluate_165 hl (k := 2) rfl rfl (by decide) rfl (fun ls hl => ?_)
                      refine lv_goto (tgt := 25) hx hb dX2_evaluate_168 (by decide) ?_
                      exact ih (x4 + (1 : Int32)) u11 _ _ _ h hP hD hS (lv_sub hl [1, 2, 0] rfl)
                · have h := h.1 hc
                  refine lv_aload_n hx hb dX2_evaluate_99 rfl (lv_at hl 0 rfl) ?_
                  refine cC_v (ci := 2) (q0 := 6) (As := []) (rest := []) E hml hP hD hS hA (t_X2_choose l D G  (sI u 607 ((gI u 607) + (1 : Int32))) _ h) kmX2_72 mwyX2_choose rfl rfl ⟨⟨rfl, rfl⟩, Nat.le_of_ble_eq_true rfl, Nat.le_of_ble_eq_true rfl⟩ rfl hl.1 rfl (Nat.le_of_ble_eq_true rfl) dX2_evaluate_100 ⟨Nat.zero_le _, Nat.zero_le _⟩ (fun u12 H locs hP hD hS h => ?_)
                  refine lv_goto (tgt := 165) hx hb dX2_evaluate_103 (by decide) ?_
                  refine lv_iinc (v := (x4 + (1 : Int32))) (lv' := [(4, .int (x4 + (1 : Int32))), (0, .ref (G.1 6)), (3, .int c3)]) hx hb dX2_evaluate_165 hl (k := 2) rfl rfl (by decide) rfl (fun ls hl => ?_)
                  refine lv_goto (tgt := 25) hx hb dX2_evaluate_168 (by decide) ?_
                  exact ih (x4 + (1 : Int32)) u12 _ _ _ h hP hD hS (lv_sub hl [1, 2, 0] rfl)
              · have h := h.2 hc
                refine lv_aload_n hx hb dX2_evaluate_72 rfl (lv_at hl 0 rfl) ?_
                refine lv_bipush (v := (8 : Int32)) hx hb dX2_evaluate_73 (by decide) ?_
                refine pC_609 E hP hD hS kfX2_25 dX2_evaluate_75 (fun H locs hP hD hS => ?_)
                refine lv_goto (tgt := 165) hx hb dX2_evaluate_78 (by decide) ?_
                refine lv_iinc (v := (x4 + (1 : Int32))) (lv' := [(4, .int (x4 + (1 : Int32))), (0, .ref (G.1 6)), (3, .int c3)]) hx hb dX2_evaluate_165 hl (k := 2) rfl rfl (by decide) rfl (fun ls hl => ?_)
                refine lv_goto (tgt := 25) hx hb dX2_evaluate_168 (by decide) ?_
                exact ih (x4 + (1 : Int32)) (sI u 609 (8 : Int32)) _ _ _ h hP hD hS (lv_sub hl [1, 2, 0] rfl)
            · have h := h.1 hc
              refine lv_aload_n hx hb dX2_evaluate_54 rfl (lv_at hl 0 rfl) ?_
              refine cC_v (ci := 2) (q0 := 6) (As := []) (rest := []) E hml hP hD hS hA (t_X2_handBack l D G  u _ h) kmX2_69 mwyX2_handBack rfl rfl ⟨⟨rfl, rfl⟩, Nat.le_of_ble_eq_true rfl, Nat.le_of_ble_eq_true rfl⟩ rfl hl.1 rfl (Nat.le_of_ble_eq_true rfl) dX2_evaluate_55 ⟨Nat.zero_le _, Nat.zero_le _⟩ (fun u13 H locs hP hD hS h => ?_)
              refine lv_goto (tgt := 165) hx hb dX2_evaluate_58 (by decide) ?_
              refine lv_iinc (v := (x4 + (1 : Int32))) (lv' := [(4, .int (x4 + (1 : Int32))), (0, .ref (G.1 6)), (3, .int c3)]) hx hb dX2_evaluate_165 hl (k := 2) rfl rfl (by decide) rfl (fun ls hl => ?_)
              refine lv_goto (tgt := 25) hx hb dX2_evaluate_168 (by decide) ?_
              exact ih (x4 + (1 : Int32)) u13 _ _ _ h hP hD hS (lv_sub hl [1, 2, 0] rfl)
  unfold wp_X2_evaluate at h
  refine lv_aload_n hx hb dX2_evaluate_0 rfl (lv_at hl 0 rfl) ?_
  refine lv_iconst (v := (0 : Int32)) hx hb dX2_evaluate_1 (by decide) ?_
  refine pC_609 E hP hD hS kfX2_25 dX2_evaluate_2 (fun H locs hP hD hS => ?_)
  refine lv_aload_n hx hb dX2_evaluate_5 rfl (lv_at hl 0 rfl) ?_
  refine lv_lload_n hx hb dX2_evaluate_6 rfl (lv_at hl 1 rfl) ?_
  refine lv_ldc2 (v := (1099511627776 : Int64)) hx hb hown (hW _ kcX2_28) dX2_evaluate_7 ?_
  refine cC_v (ci := 2) (q0 := 6) (As := [.long p0, .long (1099511627776 : Int64)]) (rest := []) E hml hP hD hS hA (t_X2_beginEvaluating l D G p0 (1099511627776 : Int64) (sI u 609 (0 : Int32)) _ h) kmX2_65 mwyX2_beginEvaluating rfl rfl ⟨⟨rfl, rfl⟩, Nat.le_of_ble_eq_true rfl, Nat.le_of_ble_eq_true rfl⟩ rfl hl.1 rfl (Nat.le_of_ble_eq_true rfl) dX2_evaluate_10 ⟨Nat.zero_le _, Nat.zero_le _⟩ (fun u1 H locs hP hD hS h => ?_)
  refine lv_iconst (v := (2 : Int32)) hx hb dX2_evaluate_13 (by decide) ?_
  refine lv_aload_n hx hb dX2_evaluate_14 rfl (lv_at hl 0 rfl) ?_
  refine gC_604 E hP kfX2_62 (v := (gI u1 604)) rfl dX2_evaluate_15 ?_
  refine lv_imul hx hb dX2_evaluate_18 ?_
  refine lv_iconst (v := (4 : Int32)) hx hb dX2_evaluate_19 (by decide) ?_
  refine lv_iadd hx hb dX2_evaluate_20 ?_
  refine lv_istore_n (lv' := [(3, .int (((2 : Int32) * (gI u1 604)) + (4 : Int32))), (0, .ref (G.1 6)), (1, .long p0)]) hx hb dX2_evaluate_21 rfl hl (by decide) rfl (fun ls hl => ?_)
  refine lv_iconst (v := (0 : Int32)) hx hb dX2_evaluate_22 (by decide) ?_
  refine lv_istore (lv' := [(4, .int (0 : Int32)), (3, .int (((2 : Int32) * (gI u1 604)) + (4 : Int32))), (0, .ref (G.1 6)), (1, .long p0)]) hx hb dX2_evaluate_23 hl (by decide) rfl (fun ls hl => ?_)
  obtain ⟨n, h⟩ := h
  refine L_25 (((2 : Int32) * (gI u1 604)) + (4 : Int32)) _ (fun u14 H locs ls h hP hD hS hl => ?_) n (0 : Int32) u1 _ _ _ h hP hD hS (lv_sub hl [2, 1, 0] rfl)
  refine lv_aload_n hx hb dX2_evaluate_171 rfl (lv_at hl 0 rfl) ?_
  refine gC_609 E hP kfX2_25 (v := (gI u14 609)) rfl dX2_evaluate_172 ?_
  exact retC_i E hr hlk hP hD hS h dX2_evaluate_175
def wp_X4_put (N : Nat → Nat) (p0 : Int32) (u : St) (Q : St → Prop) : Prop := (((400 : Int32) ≤ (gI u 706) → Q u) ∧ (¬ (400 : Int32) ≤ (gI u 706) → vp_in (gI u 706) 400 ∧ Q (sI (sA u 702 (upd (gA u 702) ((gI u 706)).toNatClampNeg (vp_nar .char p0))) 706 ((gI u 706) + (1 : Int32)))))
abbrev rm_X4_put : Room := { frames := 0, cells := 0, slots := 0, locals := 0 }
set_option maxHeartbeats 4000000 in
set_option maxRecDepth 100000 in
theorem t_X4_put (l : Launch) (D : va_G) (G : Gd) (p0 : Int32) (u : St) (Q : St → Prop) (h : wp_X4_put G.2.1 p0 u Q) : MCv l D G yX4_put cX4_put 2 none rm_X4_put [.ref (G.1 7), .int p0] u Q := by
  refine startC_v (by decide) ?_
  intro p e s m args below meth c E hr hlk hml hP hD hS hA
  have hx := E.1
  have hb := E.2.1
  have hown := E.2.2.1
  have hW := E.2.2.2.1
  have hl := lv_entry ([.ref (G.1 7), .int p0]) (n := 2) (Nat.le_of_ble_eq_true rfl)
  rw [lg_entry_eq]
  generalize (lg_sl ([.ref (G.1 7), .int p0]) ++ List.replicate (2 - (lg_sl ([.ref (G.1 7), .int p0])).length) Slot.unset).toArray = ls at hl ⊢
  have hl : lv_has ls 2 [(0, .ref (G.1 7)), (1, .int p0)] := hl
  unfold wp_X4_put at h
  refine lv_aload_n hx hb dX4_put_0 rfl (lv_at hl 0 rfl) ?_
  refine gC_706 E hP kfX4_26 (v := (gI u 706)) rfl dX4_put_1 ?_
  refine lv_sipush (v := (400 : Int32)) hx hb dX4_put_4 (by decide) ?_
  refine lv_icmp_ge (tgt := 30) hx hb dX4_put_7 (by decide) (fun hc => ?_) (fun hc => ?_)
  · have h := h.1 hc
    exact retC_v E hr hlk hP hD hS h dX4_put_30
  · have h := h.2 hc
    refine lv_aload_n hx hb dX4_put_10 rfl (lv_at hl 0 rfl) ?_
    refine gC_702 E hP kfX4_9 dX4_put_11 ?_
    refine lv_aload_n hx hb dX4_put_14 rfl (lv_at hl 0 rfl) ?_
    refine gC_706 E hP kfX4_26 (v := (gI u 706)) rfl dX4_put_15 ?_
    refine lv_iload_n hx hb dX4_put_18 rfl (lv_at hl 1 rfl) ?_
    obtain ⟨h9, h⟩ := h
    refine yC_702 E hP hD hS h9 (f := (gA u 702)) rfl dX4_put_19 (fun H locs hP hD hS => ?_)
    refine lv_aload_n hx hb dX4_put_20 rfl (lv_at hl 0 rfl) ?_
    refine lv_dup hx hb dX4_put_21 rfl ?_
    refine gC_706 E hP kfX4_26 (v := (gI u 706)) rfl dX4_put_22 ?_
    refine lv_iconst (v := (1 : Int32)) hx hb dX4_put_25 (by decide) ?_
    refine lv_iadd hx hb dX4_put_26 ?_
    refine pC_706 E hP hD hS kfX4_26 dX4_put_27 (fun H locs hP hD hS => ?_)
    exact retC_v E hr hlk hP hD hS h dX4_put_30
def wp_X3_spellingOf (N : Nat → Nat) (p0 : Int64) (u : St) (Q : Int64 → St → Prop) : Prop := wp_X3_isKnown N p0 u (fun (r1 : Int32) (u2 : St) => ((r1 = 0 → Q (0 : Int64) u2) ∧ (¬ r1 = 0 → vp_in (((p0 - (1099511627776 : Int64))).toInt32) 150 ∧ Q ((gB u2 200) (((p0 - (1099511627776 : Int64))).toInt32).toNatClampNeg) u2)))
abbrev rm_X3_spellingOf : Room := { frames := 1, cells := 0, slots := 0, locals := 22 }
set_option maxHeartbeats 4000000 in
set_option maxRecDepth 100000 in
theorem t_X3_spellingOf (l : Launch) (D : va_G) (G : Gd) (p0 : Int64) (u : St) (Q : Int64 → St → Prop) (h : wp_X3_spellingOf G.2.1 p0 u Q) : MCl l D G yX3_spellingOf cX3_spellingOf 3 (some .long) rm_X3_spellingOf [.ref (G.1 2), .long p0] u Q := by
  refine startC_l (by decide) ?_
  intro p e s m args below meth c E hr hlk hml hP hD hS hA
  have hx := E.1
  have hb := E.2.1
  have hown := E.2.2.1
  have hW := E.2.2.2.1
  have hl := lv_entry ([.ref (G.1 2), .long p0]) (n := 3) (Nat.le_of_ble_eq_true rfl)
  rw [lg_entry_eq]
  generalize (lg_sl ([.ref (G.1 2), .long p0]) ++ List.replicate (3 - (lg_sl ([.ref (G.1 2), .long p0])).length) Slot.unset).toArray = ls at hl ⊢
  have hl : lv_has ls 3 [(0, .ref (G.1 2)), (1, .long p0)] := hl
  unfold wp_X3_spellingOf at h
  refine lv_aload_n hx hb dX3_spellingOf_0 rfl (lv_at hl 0 rfl) ?_
  refine lv_lload_n hx hb dX3_spellingOf_1 rfl (lv_at hl 1 rfl) ?_
  refine cC_i (ci := 3) (q0 := 2) (As := [.long p0]) (rest := []) E hml hP hD hS hA (t_X3_isKnown l D G p0 u _ h) kmX3_52 mwyX3_isKnown rfl rfl ⟨⟨rfl, rfl⟩, Nat.le_of_ble_eq_true rfl, Nat.le_of_ble_eq_true rfl⟩ rfl hl.1 rfl (Nat.le_of_ble_eq_true rfl) dX3_spellingOf_2 ⟨Nat.zero_le _, Nat.zero_le _⟩ (fun r1 u2 H locs hP hD hS h => ?_)
  refine lv_if_eq (tgt := 22) hx hb dX3_spellingOf_5 (by decide) (fun hc => ?_) (fun hc => ?_)
  · have h := h.1 hc
    refine lv_lconst (v := (0 : Int64)) hx hb dX3_spellingOf_22 (by decide) ?_
    exact retC_l E hr hlk hP hD hS h dX3_spellingOf_23
  · have h := h.2 hc
    refine lv_aload_n hx hb dX3_spellingOf_8 rfl (lv_at hl 0 rfl) ?_
    refine gC_200 E hP kfX3_9 dX3_spellingOf_9 ?_
    refine lv_lload_n hx hb dX3_spellingOf_12 rfl (lv_at hl 1 rfl) ?_
    refine lv_ldc2 (v := (1099511627776 : Int64)) hx hb hown (hW _ kcX3_50) dX3_spellingOf_13 ?_
    refine lv_lsub hx hb dX3_spellingOf_16 ?_
    refine lv_l2i (v := ((p0 - (1099511627776 : Int64))).toInt32) hx hb dX3_spellingOf_17 rfl ?_
    obtain ⟨h9, h⟩ := h
    refine xC_200 E hP h9 (v := ((gB u2 200) (((p0 - (1099511627776 : Int64))).toInt32).toNatClampNeg)) rfl dX3_spellingOf_18 ?_
    refine lv_goto (tgt := 23) hx hb dX3_spellingOf_19 (by decide) ?_
    exact retC_l E hr hlk hP hD hS h dX3_spellingOf_23
def wp_X3_characterOf (p0 : Int32) (Q : Int32 → Prop) : Prop := (((27 : Int32) ≤ p0 → Q ((((((48 : Int32) + p0) - (27 : Int32))).toUInt32 % 65536).toInt32)) ∧ (¬ (27 : Int32) ≤ p0 → Q ((((((65 : Int32) + p0) - (1 : Int32))).toUInt32 % 65536).toInt32)))
abbrev rm_X3_characterOf : Room := { frames := 0, cells := 0, slots := 0, locals := 0 }
set_option maxHeartbeats 4000000 in
set_option maxRecDepth 100000 in
theorem t_X3_characterOf (l : Launch) (p0 : Int32) (Q : Int32 → Prop) (h : wp_X3_characterOf p0 Q) : M0i l yX3_characterOf cX3_characterOf 1 (some .char) rm_X3_characterOf [.int p0] Q := by
  refine start0_i (by decide) ?_
  intro p e s m args below meth c hx hb hown hW hr hlk hml hS
  have hP : va_P ((fun _ => 0), (fun _ _ => 0)) vwCl [] s.heap := fun k q h => by simp at h
  have hA : ∀ q, s.heap.size ≤ q → (fun q => s.heap.size ≤ q) q := fun _ h => h
  have hl := lv_entry ([.int p0]) (n := 1) (Nat.le_of_ble_eq_true rfl)
  rw [lg_entry_eq]
  generalize (lg_sl ([.int p0]) ++ List.replicate (1 - (lg_sl ([.int p0])).length) Slot.unset).toArray = ls at hl ⊢
  have hl : lv_has ls 1 [(0, .int p0)] := hl
  unfold wp_X3_characterOf at h
  refine lv_iload_n hx hb dX3_characterOf_0 rfl (lv_at hl 0 rfl) ?_
  refine lv_bipush (v := (27 : Int32)) hx hb dX3_characterOf_1 (by decide) ?_
  refine lv_icmp_ge (tgt := 15) hx hb dX3_characterOf_3 (by decide) (fun hc => ?_) (fun hc => ?_)
  · have h := h.1 hc
    refine lv_bipush (v := (48 : Int32)) hx hb dX3_characterOf_15 (by decide) ?_
    refine lv_iload_n hx hb dX3_characterOf_17 rfl (lv_at hl 0 rfl) ?_
    refine lv_iadd hx hb dX3_characterOf_18 ?_
    refine lv_bipush (v := (27 : Int32)) hx hb dX3_characterOf_19 (by decide) ?_
    refine lv_isub hx hb dX3_characterOf_21 ?_
    refine lv_i2c (v := (((((48 : Int32) + p0) - (27 : Int32))).toUInt32 % 65536).toInt32) hx hb dX3_characterOf_22 rfl ?_
    exact ret0_z hx hb hr hlk hS (pk_nc _) h dX3_characterOf_23
  · have h := h.2 hc
    refine lv_bipush (v := (65 : Int32)) hx hb dX3_characterOf_6 (by decide) ?_
    refine lv_iload_n hx hb dX3_characterOf_8 rfl (lv_at hl 0 rfl) ?_
    refine lv_iadd hx hb dX3_characterOf_9 ?_
    refine lv_iconst (v := (1 : Int32)) hx hb dX3_characterOf_10 (by decide) ?_
    refine lv_isub hx hb dX3_characterOf_11 ?_
    refine lv_goto (tgt := 22) hx hb dX3_characterOf_12 (by decide) ?_
    refine lv_i2c (v := (((((65 : Int32) + p0) - (1 : Int32))).toUInt32 % 65536).toInt32) hx hb dX3_characterOf_22 rfl ?_
    exact ret0_z hx hb hr hlk hS (pk_nc _) h dX3_characterOf_23
def l_X4_putBackwards_4 (N : Nat → Nat)  (K : St → Prop) : Nat → Int32 → St → Prop
  | 0, _, _ => False
  | n + 1, x2, u => ((x2 < 0 → K u) ∧ (¬ x2 < 0 → vp_in x2 12 ∧ wp_X4_put N ((gA u 704) (x2).toNatClampNeg) u (fun (u1 : St) => l_X4_putBackwards_4 N  K n (x2 + (-1 : Int32)) u1)))
def wp_X4_putBackwards (N : Nat → Nat) (p0 : Int32) (u : St) (Q : St → Prop) : Prop := (∃ k3 : Nat, l_X4_putBackwards_4 N   (fun (u2 : St) => Q u2) k3 (p0 - (1 : Int32)) u)
abbrev rm_X4_putBackwards : Room := { frames := 1, cells := 0, slots := 0, locals := 21 }
set_option maxHeartbeats 4000000 in
set_option maxRecDepth 100000 in
theorem t_X4_putBackwards (l : Launch) (D : va_G) (G : Gd) (p0 : Int32) (u : St) (Q : St → Prop) (h : wp_X4_putBackwards G.2.1 p0 u Q) : MCv l D G yX4_putBackwards cX4_putBackwards 3 none rm_X4_putBackwards [.ref (G.1 7), .int p0] u Q := by
  refine startC_v (by decide) ?_
  intro p e s m args below meth c E hr hlk hml hP hD hS hA
  have hx := E.1
  have hb := E.2.1
  have hown := E.2.2.1
  have hW := E.2.2.2.1
  have hl := lv_entry ([.ref (G.1 7), .int p0]) (n := 3) (Nat.le_of_ble_eq_true rfl)
  rw [lg_entry_eq]
  generalize (lg_sl ([.ref (G.1 7), .int p0]) ++ List.replicate (3 - (lg_sl ([.ref (G.1 7), .int p0])).length) Slot.unset).toArray = ls at hl ⊢
  have hl : lv_has ls 3 [(0, .ref (G.1 7)), (1, .int p0)] := hl
  have L_4 : ∀  (K : St → Prop), (∀  (u : St) (H : Heap) (locs : List Loc) (ls : Array Slot), K  u → va_P D vwCl (wC G u) H → va_D (AC G s.heap.size) (wC G u) → va_S (AC G s.heap.size) s.heap H locs → lv_has ls 3 [] → W p l e rm_X4_putBackwards s m args below meth c H locs 0 0 (MQ below (va_Qv Q (BC D G s.heap.size) (AC G s.heap.size)) args s 0 0 (AC G s.heap.size)) (F0 m 24 ls [])) → ∀ (n : Nat) (x2 : Int32) (u : St) (H : Heap) (locs : List Loc) (ls : Array Slot), l_X4_putBackwards_4 G.2.1  K n x2 u → va_P D vwCl (wC G u) H → va_D (AC G s.heap.size) (wC G u) → va_S (AC G s.heap.size) s.heap H locs → lv_has ls 3 [(0, .ref (G.1 7)), (2, .int x2)] → W p l e rm_X4_putBackwards s m args below meth c H locs 0 0 (MQ below (va_Qv Q (BC D G s.heap.size) (AC G s.heap.size)) args s 0 0 (AC G s.heap.size)) (F0 m 4 ls []) := by
    intro  K hK n
    induction n with
    | zero => intro x2 u H locs ls h; exact False.elim h
    | succ n ih =>
      intro x2 u H locs ls h hP hD hS hl
      unfold l_X4_putBackwards_4 at h
      refine lv_iload_n hx hb dX4_putBackwards_4 rfl (lv_at hl 1 rfl) ?_
      refine lv_if_lt (tgt := 24) hx hb dX4_putBackwards_5 (by decide) (fun hc => ?_) (fun hc => ?_)
      · have h := h.1 hc
        exact hK u _ _ _ h hP hD hS (lv_sub hl [] rfl)
      · have h := h.2 hc
        refine lv_aload_n hx hb dX4_putBackwards_8 rfl (lv_at hl 0 rfl) ?_
        refine lv_aload_n hx hb dX4_putBackwards_9 rfl (lv_at hl 0 rfl) ?_
        refine gC_704 E hP kfX4_19 dX4_putBackwards_10 ?_
        refine lv_iload_n hx hb dX4_putBackwards_13 rfl (lv_at hl 1 rfl) ?_
        obtain ⟨h9, h⟩ := h
        refine xC_704 E hP h9 (v := ((gA u 704) (x2).toNatClampNeg)) rfl dX4_putBackwards_14 ?_
        refine cC_v (ci := 4) (q0 := 7) (As := [.int ((gA u 704) (x2).toNatClampNeg)]) (rest := []) E hml hP hD hS hA (t_X4_put l D G ((gA u 704) (x2).toNatClampNeg) u _ h) kmX4_53 mwyX4_put rfl rfl ⟨⟨rfl, rfl⟩, Nat.le_of_ble_eq_true rfl, Nat.le_of_ble_eq_true rfl⟩ rfl hl.1 rfl (Nat.le_of_ble_eq_true rfl) dX4_putBackwards_15 ⟨Nat.zero_le _, Nat.zero_le _⟩ (fun u1 H locs hP hD hS h => ?_)
        refine lv_iinc (v := (x2 + (-1 : Int32))) (lv' := [(2, .int (x2 + (-1 : Int32))), (0, .ref (G.1 7))]) hx hb dX4_putBackwards_18 hl (k := 1) rfl rfl (by decide) rfl (fun ls hl => ?_)
        refine lv_goto (tgt := 4) hx hb dX4_putBackwards_21 (by decide) ?_
        exact ih (x2 + (-1 : Int32)) u1 _ _ _ h hP hD hS (lv_sub hl [1, 0] rfl)
  unfold wp_X4_putBackwards at h
  refine lv_iload_n hx hb dX4_putBackwards_0 rfl (lv_at hl 1 rfl) ?_
  refine lv_iconst (v := (1 : Int32)) hx hb dX4_putBackwards_1 (by decide) ?_
  refine lv_isub hx hb dX4_putBackwards_2 ?_
  refine lv_istore_n (lv' := [(2, .int (p0 - (1 : Int32))), (0, .ref (G.1 7)), (1, .int p0)]) hx hb dX4_putBackwards_3 rfl hl (by decide) rfl (fun ls hl => ?_)
  obtain ⟨n, h⟩ := h
  refine L_4  _ (fun u2 H locs ls h hP hD hS hl => ?_) n (p0 - (1 : Int32)) u _ _ _ h hP hD hS (lv_sub hl [1, 0] rfl)
  exact retC_v E hr hlk hP hD hS h dX4_putBackwards_24
def l_X4_printName_5 (N : Nat → Nat)  (K : Int32 → St → Prop) : Nat → Int64 → Int32 → St → Prop
  | 0, _, _, _ => False
  | n + 1, x3, x5, u => ((x3 ≤ (0 : Int64) → K x5 u) ∧ (¬ x3 ≤ (0 : Int64) → (((12 : Int32) ≤ x5 → K x5 u) ∧ (¬ (12 : Int32) ≤ x5 → wp_X3_characterOf (((x3 - x3 / (37 : Int64) * (37 : Int64))).toInt32) (fun (r1 : Int32) => vp_in x5 12 ∧ l_X4_printName_5 N  K n (x3 / (37 : Int64)) (x5 + (1 : Int32)) (sA u 704 (upd (gA u 704) (x5).toNatClampNeg (vp_nar .char r1))))))))
def wp_X4_printName (N : Nat → Nat) (p0 : Int64) (u : St) (Q : St → Prop) : Prop := (∃ k5 : Nat, l_X4_printName_5 N   (fun (y2 : Int32) (u3 : St) => wp_X4_putBackwards N y2 u3 (fun (u4 : St) => Q u4)) k5 p0 (0 : Int32) u)
abbrev rm_X4_printName : Room := { frames := 2, cells := 0, slots := 0, locals := 43 }
set_option maxHeartbeats 4000000 in
set_option maxRecDepth 100000 in
theorem t_X4_printName (l : Launch) (D : va_G) (G : Gd) (p0 : Int64) (u : St) (Q : St → Prop) (h : wp_X4_printName G.2.1 p0 u Q) : MCv l D G yX4_printName cX4_printName 6 none rm_X4_printName [.ref (G.1 7), .long p0] u Q := by
  refine startC_v (by decide) ?_
  intro p e s m args below meth c E hr hlk hml hP hD hS hA
  have hx := E.1
  have hb := E.2.1
  have hown := E.2.2.1
  have hW := E.2.2.2.1
  have hl := lv_entry ([.ref (G.1 7), .long p0]) (n := 6) (Nat.le_of_ble_eq_true rfl)
  rw [lg_entry_eq]
  generalize (lg_sl ([.ref (G.1 7), .long p0]) ++ List.replicate (6 - (lg_sl ([.ref (G.1 7), .long p0])).length) Slot.unset).toArray = ls at hl ⊢
  have hl : lv_has ls 6 [(0, .ref (G.1 7)), (1, .long p0)] := hl
  have L_5 : ∀  (K : Int32 → St → Prop), (∀ (x5 : Int32) (u : St) (H : Heap) (locs : List Loc) (ls : Array Slot), K x5 u → va_P D vwCl (wC G u) H → va_D (AC G s.heap.size) (wC G u) → va_S (AC G s.heap.size) s.heap H locs → lv_has ls 6 [(0, .ref (G.1 7)), (5, .int x5)] → W p l e rm_X4_printName s m args below meth c H locs 0 0 (MQ below (va_Qv Q (BC D G s.heap.size) (AC G s.heap.size)) args s 0 0 (AC G s.heap.size)) (F0 m 46 ls [])) → ∀ (n : Nat) (x3 : Int64) (x5 : Int32) (u : St) (H : Heap) (locs : List Loc) (ls : Array Slot), l_X4_printName_5 G.2.1  K n x3 x5 u → va_P D vwCl (wC G u) H → va_D (AC G s.heap.size) (wC G u) → va_S (AC G s.heap.size) s.heap H locs → lv_has ls 6 [(0, .ref (G.1 7)), (3, .long x3), (5, .int x5)] → W p l e rm_X4_printName s m args below meth c H locs 0 0 (MQ below (va_Qv Q (BC D G s.heap.size) (AC G s.heap.size)) args s 0 0 (AC G s.heap.size)) (F0 m 5 ls []) := by
    intro  K hK n
    induction n with
    | zero => intro x3 x5 u H locs ls h; exact False.elim h
    | succ n ih =>
      intro x3 x5 u H locs ls h hP hD hS hl
      unfold l_X4_printName_5 at h
      refine lv_lload_n hx hb dX4_printName_5 rfl (lv_at hl 1 rfl) ?_
      refine lv_lconst (v := (0 : Int64)) hx hb dX4_printName_6 (by decide) ?_
      refine lq_le (tgt := 46) hx hb dX4_printName_7 dX4_printName_8 (by decide) (fun hc => ?_) (fun hc => ?_)
      · have h := h.1 hc
        exact hK x5 u _ _ _ h hP hD hS (lv_sub hl [0, 2] rfl)
      · have h := h.2 hc
        refine lv_iload hx hb dX4_printName_11 (lv_at hl 2 rfl) ?_
        refine lv_bipush (v := (12 : Int32)) hx hb dX4_printName_13 (by decide) ?_
        refine lv_icmp_ge (tgt := 46) hx hb dX4_printName_15 (by decide) (fun hc => ?_) (fun hc => ?_)
        · have h := h.1 hc
          exact hK x5 u _ _ _ h hP hD hS (lv_sub hl [0, 2] rfl)
        · have h := h.2 hc
          refine lv_aload_n hx hb dX4_printName_18 rfl (lv_at hl 0 rfl) ?_
          refine gC_704 E hP kfX4_19 dX4_printName_19 ?_
          refine lv_iload hx hb dX4_printName_22 (lv_at hl 2 rfl) ?_
          refine lv_lload_n hx hb dX4_printName_24 rfl (lv_at hl 1 rfl) ?_
          refine lv_ldc2 (v := (37 : Int64)) hx hb hown (hW _ kcX4_95) dX4_printName_25 ?_
          refine lv_lrem hx hb dX4_printName_28 (by decide) ?_
          refine lv_l2i (v := ((x3 - x3 / (37 : Int64) * (37 : Int64))).toInt32) hx hb dX4_printName_29 rfl ?_
          refine c0_i (As := [.int ((x3 - x3 / (37 : Int64) * (37 : Int64))).toInt32]) (rest := [.int x5, .ref (G.1 24)]) hx hb hml hown hW hP hS hA (t_X3_characterOf l (((x3 - x3 / (37 : Int64) * (37 : Int64))).toInt32) _ h) kmX4_97 mwyX3_characterOf ⟨⟨rfl, rfl⟩, Nat.le_of_ble_eq_true rfl, Nat.le_of_ble_eq_true rfl⟩ rfl hl.1 rfl (Nat.le_of_ble_eq_true rfl) dX4_printName_30 ⟨Nat.zero_le _, Nat.zero_le _⟩ (fun r1 H locs hP hS h => ?_)
          obtain ⟨h9, h⟩ := h
          refine yC_704 E hP hD hS h9 (f := (gA u 704)) rfl dX4_printName_33 (fun H locs hP hD hS => ?_)
          refine lv_iinc (v := (x5 + (1 : Int32))) (lv' := [(5, .int (x5 + (1 : Int32))), (0, .ref (G.1 7)), (3, .long x3)]) hx hb dX4_printName_34 hl (k := 2) rfl rfl (by decide) rfl (fun ls hl => ?_)
          refine lv_lload_n hx hb dX4_printName_37 rfl (lv_at hl 2 rfl) ?_
          refine lv_ldc2 (v := (37 : Int64)) hx hb hown (hW _ kcX4_95) dX4_printName_38 ?_
          refine lv_ldiv hx hb dX4_printName_41 (by decide) ?_
          refine lv_lstore_n (lv' := [(3, .long (x3 / (37 : Int64))), (5, .int (x5 + (1 : Int32))), (0, .ref (G.1 7))]) hx hb dX4_printName_42 rfl hl (by decide) rfl (fun ls hl => ?_)
          refine lv_goto (tgt := 5) hx hb dX4_printName_43 (by decide) ?_
          exact ih (x3 / (37 : Int64)) (x5 + (1 : Int32)) (sA u 704 (upd (gA u 704) (x5).toNatClampNeg (vp_nar .char r1))) _ _ _ h hP hD hS (lv_sub hl [2, 0, 1] rfl)
  unfold wp_X4_printName at h
  refine lv_lload_n hx hb dX4_printName_0 rfl (lv_at hl 1 rfl) ?_
  refine lv_lstore_n (lv' := [(3, .long p0), (0, .ref (G.1 7)), (1, .long p0)]) hx hb dX4_printName_1 rfl hl (by decide) rfl (fun ls hl => ?_)
  refine lv_iconst (v := (0 : Int32)) hx hb dX4_printName_2 (by decide) ?_
  refine lv_istore (lv' := [(5, .int (0 : Int32)), (3, .long p0), (0, .ref (G.1 7)), (1, .long p0)]) hx hb dX4_printName_3 hl (by decide) rfl (fun ls hl => ?_)
  obtain ⟨n, h⟩ := h
  refine L_5  _ (fun y2 u3 H locs ls h hP hD hS hl => ?_) n p0 (0 : Int32) u _ _ _ h hP hD hS (lv_sub hl [2, 1, 0] rfl)
  refine lv_aload_n hx hb dX4_printName_46 rfl (lv_at hl 0 rfl) ?_
  refine lv_iload hx hb dX4_printName_47 (lv_at hl 1 rfl) ?_
  refine cC_v (ci := 4) (q0 := 7) (As := [.int y2]) (rest := []) E hml hP hD hS hA (t_X4_putBackwards l D G y2 u3 _ h) kmX4_91 mwyX4_putBackwards rfl rfl ⟨⟨rfl, rfl⟩, Nat.le_of_ble_eq_true rfl, Nat.le_of_ble_eq_true rfl⟩ rfl hl.1 rfl (Nat.le_of_ble_eq_true rfl) dX4_printName_49 ⟨Nat.zero_le _, Nat.zero_le _⟩ (fun u4 H locs hP hD hS h => ?_)
  exact retC_v E hr hlk hP hD hS h dX4_printName_52
def l_X4_printNumber_20 (N : Nat → Nat)  (K : Int32 → St → Prop) : Nat → Int64 → Int32 → St → Prop
  | 0, _, _, _ => False
  | n + 1, x3, x5, u => vp_in x5 12 ∧ (((x3 / (10 : Int64)) ≤ (0 : Int64) → K (x5 + (1 : Int32)) (sA u 704 (upd (gA u 704) (x5).toNatClampNeg (vp_nar .char (((((48 : Int64) + (x3 - x3 / (10 : Int64) * (10 : Int64)))).toInt32).toUInt32 % 65536).toInt32)))) ∧ (¬ (x3 / (10 : Int64)) ≤ (0 : Int64) → (((x5 + (1 : Int32)) < (12 : Int32) → l_X4_printNumber_20 N  K n (x3 / (10 : Int64)) (x5 + (1 : Int32)) (sA u 704 (upd (gA u 704) (x5).toNatClampNeg (vp_nar .char (((((48 : Int64) + (x3 - x3 / (10 : Int64) * (10 : Int64)))).toInt32).toUInt32 % 65536).toInt32)))) ∧ (¬ (x5 + (1 : Int32)) < (12 : Int32) → K (x5 + (1 : Int32)) (sA u 704 (upd (gA u 704) (x5).toNatClampNeg (vp_nar .char (((((48 : Int64) + (x3 - x3 / (10 : Int64) * (10 : Int64)))).toInt32).toUInt32 % 65536).toInt32)))))))
def wp_X4_printNumber (N : Nat → Nat) (p0 : Int64) (u : St) (Q : St → Prop) : Prop := (((0 : Int64) ≤ p0 → (∃ k4 : Nat, l_X4_printNumber_20 N   (fun (y1 : Int32) (u2 : St) => wp_X4_putBackwards N y1 u2 (fun (u3 : St) => Q u3)) k4 (if 0 < p0 then p0 else -p0) (0 : Int32) u)) ∧ (¬ (0 : Int64) ≤ p0 → wp_X4_put N (45 : Int32) u (fun (u5 : St) => (∃ k9 : Nat, l_X4_printNumber_20 N   (fun (y6 : Int32) (u7 : St) => wp_X4_putBackwards N y6 u7 (fun (u8 : St) => Q u8)) k9 (if 0 < p0 then p0 else -p0) (0 : Int32) u5))))
abbrev rm_X4_printNumber : Room := { frames := 2, cells := 0, slots := 0, locals := 43 }
set_option maxHeartbeats 4000000 in
set_option maxRecDepth 100000 in
theorem t_X4_printNumber (l : Launch) (D : va_G) (G : Gd) (p0 : Int64) (u : St) (Q : St → Prop) (h : wp_X4_printNumber G.2.1 p0 u Q) : MCv l D G yX4_printNumber cX4_printNumber 6 none rm_X4_printNumber [.ref (G.1 7), .long p0] u Q := by
  refine startC_v (by decide) ?_
  intro p e s m args below meth c E hr hlk hml hP hD hS hA
  have hx := E.1
  have hb := E.2.1
  have hown := E.2.2.1
  have hW := E.2.2.2.1
  have hl := lv_entry ([.ref (G.1 7), .long p0]) (n := 6) (Nat.le_of_ble_eq_true rfl)
  rw [lg_entry_eq]
  generalize (lg_sl ([.ref (G.1 7), .long p0]) ++ List.replicate (6 - (lg_sl ([.ref (G.1 7), .long p0])).length) Slot.unset).toArray = ls at hl ⊢
  have hl : lv_has ls 6 [(0, .ref (G.1 7)), (1, .long p0)] := hl
  have L_20 : ∀  (K : Int32 → St → Prop), (∀ (x5 : Int32) (u : St) (H : Heap) (locs : List Loc) (ls : Array Slot), K x5 u → va_P D vwCl (wC G u) H → va_D (AC G s.heap.size) (wC G u) → va_S (AC G s.heap.size) s.heap H locs → lv_has ls 6 [(0, .ref (G.1 7)), (5, .int x5)] → W p l e rm_X4_printNumber s m args below meth c H locs 0 0 (MQ below (va_Qv Q (BC D G s.heap.size) (AC G s.heap.size)) args s 0 0 (AC G s.heap.size)) (F0 m 60 ls [])) → ∀ (n : Nat) (x3 : Int64) (x5 : Int32) (u : St) (H : Heap) (locs : List Loc) (ls : Array Slot), l_X4_printNumber_20 G.2.1  K n x3 x5 u → va_P D vwCl (wC G u) H → va_D (AC G s.heap.size) (wC G u) → va_S (AC G s.heap.size) s.heap H locs → lv_has ls 6 [(0, .ref (G.1 7)), (3, .long x3), (5, .int x5)] → W p l e rm_X4_printNumber s m args below meth c H locs 0 0 (MQ below (va_Qv Q (BC D G s.heap.size) (AC G s.heap.size)) args s 0 0 (AC G s.heap.size)) (F0 m 20 ls []) := by
    intro  K hK n
    induction n with
    | zero => intro x3 x5 u H locs ls h; exact False.elim h
    | succ n ih =>
      intro x3 x5 u H locs ls h hP hD hS hl
      unfold l_X4_printNumber_20 at h
      refine lv_aload_n hx hb dX4_printNumber_20 rfl (lv_at hl 0 rfl) ?_
      refine gC_704 E hP kfX4_19 dX4_printNumber_21 ?_
      refine lv_iload hx hb dX4_printNumber_24 (lv_at hl 2 rfl) ?_
      refine lv_ldc2 (v := (48 : Int64)) hx hb hown (hW _ kcX4_87) dX4_printNumber_26 ?_
      refine lv_lload_n hx hb dX4_printNumber_29 rfl (lv_at hl 1 rfl) ?_
      refine lv_ldc2 (v := (10 : Int64)) hx hb hown (hW _ kcX4_89) dX4_printNumber_30 ?_
      refine lv_lrem hx hb dX4_printNumber_33 (by decide) ?_
      refine lv_ladd hx hb dX4_printNumber_34 ?_
      refine lv_l2i (v := (((48 : Int64) + (x3 - x3 / (10 : Int64) * (10 : Int64)))).toInt32) hx hb dX4_printNumber_35 rfl ?_
      refine lv_i2c (v := (((((48 : Int64) + (x3 - x3 / (10 : Int64) * (10 : Int64)))).toInt32).toUInt32 % 65536).toInt32) hx hb dX4_printNumber_36 rfl ?_
      obtain ⟨h9, h⟩ := h
      refine yC_704 E hP hD hS h9 (f := (gA u 704)) rfl dX4_printNumber_37 (fun H locs hP hD hS => ?_)
      refine lv_iinc (v := (x5 + (1 : Int32))) (lv' := [(5, .int (x5 + (1 : Int32))), (0, .ref (G.1 7)), (3, .long x3)]) hx hb dX4_printNumber_38 hl (k := 2) rfl rfl (by decide) rfl (fun ls hl => ?_)
      refine lv_lload_n hx hb dX4_printNumber_41 rfl (lv_at hl 2 rfl) ?_
      refine lv_ldc2 (v := (10 : Int64)) hx hb hown (hW _ kcX4_89) dX4_printNumber_42 ?_
      refine lv_ldiv hx hb dX4_printNumber_45 (by decide) ?_
      refine lv_lstore_n (lv' := [(3, .long (x3 / (10 : Int64))), (5, .int (x5 + (1 : Int32))), (0, .ref (G.1 7))]) hx hb dX4_printNumber_46 rfl hl (by decide) rfl (fun ls hl => ?_)
      refine lv_lload_n hx hb dX4_printNumber_47 rfl (lv_at hl 0 rfl) ?_
      refine lv_lconst (v := (0 : Int64)) hx hb dX4_printNumber_48 (by decide) ?_
      refine lq_le (tgt := 60) hx hb dX4_printNumber_49 dX4_printNumber_50 (by decide) (fun hc => ?_) (fun hc => ?_)
      · have h := h.1 hc
        exact hK (x5 + (1 : Int32)) (sA u 704 (upd (gA u 704) (x5).toNatClampNeg (vp_nar .char (((((48 : Int64) + (x3 - x3 / (10 : Int64) * (10 : Int64)))).toInt32).toUInt32 % 65536).toInt32))) _ _ _ h hP hD hS (lv_sub hl [2, 1] rfl)
      · have h := h.2 hc
        refine lv_iload hx hb dX4_printNumber_53 (lv_at hl 1 rfl) ?_
        refine lv_bipush (v := (12 : Int32)) hx hb dX4_printNumber_55 (by decide) ?_
        refine lv_icmp_lt (tgt := 20) hx hb dX4_printNumber_57 (by decide) (fun hc => ?_) (fun hc => ?_)
        · have h := h.1 hc
          exact ih (x3 / (10 : Int64)) (x5 + (1 : Int32)) (sA u 704 (upd (gA u 704) (x5).toNatClampNeg (vp_nar .char (((((48 : Int64) + (x3 - x3 / (10 : Int64) * (10 : Int64)))).toInt32).toUInt32 % 65536).toInt32))) _ _ _ h hP hD hS (lv_sub hl [2, 0, 1] rfl)
        · have h := h.2 hc
          exact hK (x5 + (1 : Int32)) (sA u 704 (upd (gA u 704) (x5).toNatClampNeg (vp_nar .char (((((48 : Int64) + (x3 - x3 / (10 : Int64) * (10 : Int64)))).toInt32).toUInt32 % 65536).toInt32))) _ _ _ h hP hD hS (lv_sub hl [2, 1] rfl)
  unfold wp_X4_printNumber at h
  refine lv_lload_n hx hb dX4_printNumber_0 rfl (lv_at hl 1 rfl) ?_
  refine lv_lconst (v := (0 : Int64)) hx hb dX4_printNumber_1 (by decide) ?_
  refine lq_ge (tgt := 12) hx hb dX4_printNumber_2 dX4_printNumber_3 (by decide) (fun hc => ?_) (fun hc => ?_)
  · have h := h.1 hc
    refine lv_lload_n hx hb dX4_printNumber_12 rfl (lv_at hl 1 rfl) ?_
    refine va_mabs_long hx hb (hml.trans hl.1.symm) hown (hW _ kmX4_82) (hW _ kx_abs_s) (hW _ kz_Math) (hW _ kx_abs_k) (Nat.le_of_ble_eq_true rfl) (Nat.le_of_ble_eq_true rfl) (Nat.zero_le _) (Nat.zero_le _) dX4_printNumber_13 ?_
    refine lv_lstore_n (lv' := [(3, .long (if 0 < p0 then p0 else -p0)), (0, .ref (G.1 7)), (1, .long p0)]) hx hb dX4_printNumber_16 rfl hl (by decide) rfl (fun ls hl => ?_)
    refine lv_iconst (v := (0 : Int32)) hx hb dX4_printNumber_17 (by decide) ?_
    refine lv_istore (lv' := [(5, .int (0 : Int32)), (3, .long (if 0 < p0 then p0 else -p0)), (0, .ref (G.1 7)), (1, .long p0)]) hx hb dX4_printNumber_18 hl (by decide) rfl (fun ls hl => ?_)
    obtain ⟨n, h⟩ := h
    refine L_20  _ (fun y1 u2 H locs ls h hP hD hS hl => ?_) n (if 0 < p0 then p0 else -p0) (0 : Int32) u _ _ _ h hP hD hS (lv_sub hl [2, 1, 0] rfl)
    refine lv_aload_n hx hb dX4_printNumber_60 rfl (lv_at hl 0 rfl) ?_
    refine lv_iload hx hb dX4_printNumber_61 (lv_at hl 1 rfl) ?_
    refine cC_v (ci := 4) (q0 := 7) (As := [.int y1]) (rest := []) E hml hP hD hS hA (t_X4_putBackwards l D G y1 u2 _ h) kmX4_91 mwyX4_putBackwards rfl rfl ⟨⟨rfl, rfl⟩, Nat.le_of_ble_eq_true rfl, Nat.le_of_ble_eq_true rfl⟩ rfl hl.1 rfl (Nat.le_of_ble_eq_true rfl) dX4_printNumber_63 ⟨Nat.zero_le _, Nat.zero_le _⟩ (fun u3 H locs hP hD hS h => ?_)
    exact retC_v E hr hlk hP hD hS h dX4_printNumber_66
  · have h := h.2 hc
    refine lv_aload_n hx hb dX4_printNumber_6 rfl (lv_at hl 0 rfl) ?_
    refine lv_bipush (v := (45 : Int32)) hx hb dX4_printNumber_7 (by decide) ?_
    refine cC_v (ci := 4) (q0 := 7) (As := [.int (45 : Int32)]) (rest := []) E hml hP hD hS hA (t_X4_put l D G (45 : Int32) u _ h) kmX4_53 mwyX4_put rfl rfl ⟨⟨rfl, rfl⟩, Nat.le_of_ble_eq_true rfl, Nat.le_of_ble_eq_true rfl⟩ rfl hl.1 rfl (Nat.le_of_ble_eq_true rfl) dX4_printNumber_9 ⟨Nat.zero_le _, Nat.zero_le _⟩ (fun u5 H locs hP hD hS h => ?_)
    refine lv_lload_n hx hb dX4_printNumber_12 rfl (lv_at hl 1 rfl) ?_
    refine va_mabs_long hx hb (hml.trans hl.1.symm) hown (hW _ kmX4_82) (hW _ kx_abs_s) (hW _ kz_Math) (hW _ kx_abs_k) (Nat.le_of_ble_eq_true rfl) (Nat.le_of_ble_eq_true rfl) (Nat.zero_le _) (Nat.zero_le _) dX4_printNumber_13 ?_
    refine lv_lstore_n (lv' := [(3, .long (if 0 < p0 then p0 else -p0)), (0, .ref (G.1 7)), (1, .long p0)]) hx hb dX4_printNumber_16 rfl hl (by decide) rfl (fun ls hl => ?_)
    refine lv_iconst (v := (0 : Int32)) hx hb dX4_printNumber_17 (by decide) ?_
    refine lv_istore (lv' := [(5, .int (0 : Int32)), (3, .long (if 0 < p0 then p0 else -p0)), (0, .ref (G.1 7)), (1, .long p0)]) hx hb dX4_printNumber_18 hl (by decide) rfl (fun ls hl => ?_)
    obtain ⟨n, h⟩ := h
    refine L_20  _ (fun y6 u7 H locs ls h hP hD hS hl => ?_) n (if 0 < p0 then p0 else -p0) (0 : Int32) u5 _ _ _ h hP hD hS (lv_sub hl [2, 1, 0] rfl)
    refine lv_aload_n hx hb dX4_printNumber_60 rfl (lv_at hl 0 rfl) ?_
    refine lv_iload hx hb dX4_printNumber_61 (lv_at hl 1 rfl) ?_
    refine cC_v (ci := 4) (q0 := 7) (As := [.int y6]) (rest := []) E hml hP hD hS hA (t_X4_putBackwards l D G y6 u7 _ h) kmX4_91 mwyX4_putBackwards rfl rfl ⟨⟨rfl, rfl⟩, Nat.le_of_ble_eq_true rfl, Nat.le_of_ble_eq_true rfl⟩ rfl hl.1 rfl (Nat.le_of_ble_eq_true rfl) dX4_printNumber_63 ⟨Nat.zero_le _, Nat.zero_le _⟩ (fun u8 H locs hP hD hS h => ?_)
    exact retC_v E hr hlk hP hD hS h dX4_printNumber_66
def wp_X4_printAtom (N : Nat → Nat) (p0 : Int64) (u : St) (Q : St → Prop) : Prop := wp_X8_isNumber p0 (fun (r1 : Int32) => ((r1 = 0 → wp_X3_spellingOf N p0 u (fun (r2 : Int64) (u3 : St) => wp_X4_printName N r2 u3 (fun (u4 : St) => Q u4))) ∧ (¬ r1 = 0 → wp_X4_printNumber N p0 u (fun (u5 : St) => Q u5))))
abbrev rm_X4_printAtom : Room := { frames := 3, cells := 0, slots := 0, locals := 68 }
set_option maxHeartbeats 4000000 in
set_option maxRecDepth 100000 in
theorem t_X4_printAtom (l : Launch) (D : va_G) (G : Gd) (p0 : Int64) (u : St) (Q : St → Prop) (h : wp_X4_printAtom G.2.1 p0 u Q) : MCv l D G yX4_printAtom cX4_printAtom 3 none rm_X4_printAtom [.ref (G.1 7), .long p0] u Q := by
  refine startC_v (by decide) ?_
  intro p e s m args below meth c E hr hlk hml hP hD hS hA
  have hx := E.1
  have hb := E.2.1
  have hown := E.2.2.1
  have hW := E.2.2.2.1
  have hl := lv_entry ([.ref (G.1 7), .long p0]) (n := 3) (Nat.le_of_ble_eq_true rfl)
  rw [lg_entry_eq]
  generalize (lg_sl ([.ref (G.1 7), .long p0]) ++ List.replicate (3 - (lg_sl ([.ref (G.1 7), .long p0])).length) Slot.unset).toArray = ls at hl ⊢
  have hl : lv_has ls 3 [(0, .ref (G.1 7)), (1, .long p0)] := hl
  unfold wp_X4_printAtom at h
  refine lv_lload_n hx hb dX4_printAtom_0 rfl (lv_at hl 1 rfl) ?_
  refine c0_i (As := [.long p0]) (rest := []) hx hb hml hown hW hP hS hA (t_X8_isNumber l p0 _ h) kmX4_68 mwyX8_isNumber ⟨⟨rfl, rfl⟩, Nat.le_of_ble_eq_true rfl, Nat.le_of_ble_eq_true rfl⟩ rfl hl.1 rfl (Nat.le_of_ble_eq_true rfl) dX4_printAtom_1 ⟨Nat.zero_le _, Nat.zero_le _⟩ (fun r1 H locs hP hS h => ?_)
  refine lv_if_eq (tgt := 15) hx hb dX4_printAtom_4 (by decide) (fun hc => ?_) (fun hc => ?_)
  · have h := h.1 hc
    refine lv_aload_n hx hb dX4_printAtom_15 rfl (lv_at hl 0 rfl) ?_
    refine lv_aload_n hx hb dX4_printAtom_16 rfl (lv_at hl 0 rfl) ?_
    refine gC_701 E hP kfX4_33 dX4_printAtom_17 ?_
    refine lv_lload_n hx hb dX4_printAtom_20 rfl (lv_at hl 1 rfl) ?_
    refine cC_l (ci := 3) (q0 := 2) (As := [.long p0]) (rest := [.ref (G.1 7)]) E hml hP hD hS hA (t_X3_spellingOf l D G p0 u _ h) kmX4_74 mwyX3_spellingOf rfl rfl ⟨⟨rfl, rfl⟩, Nat.le_of_ble_eq_true rfl, Nat.le_of_ble_eq_true rfl⟩ rfl hl.1 rfl (Nat.le_of_ble_eq_true rfl) dX4_printAtom_21 ⟨Nat.zero_le _, Nat.zero_le _⟩ (fun r2 u3 H locs hP hD hS h => ?_)
    refine cC_v (ci := 4) (q0 := 7) (As := [.long r2]) (rest := []) E hml hP hD hS hA (t_X4_printName l D G r2 u3 _ h) kmX4_79 mwyX4_printName rfl rfl ⟨⟨rfl, rfl⟩, Nat.le_of_ble_eq_true rfl, Nat.le_of_ble_eq_true rfl⟩ rfl hl.1 rfl (Nat.le_of_ble_eq_true rfl) dX4_printAtom_24 ⟨Nat.zero_le _, Nat.zero_le _⟩ (fun u4 H locs hP hD hS h => ?_)
    exact retC_v E hr hlk hP hD hS h dX4_printAtom_27
  · have h := h.2 hc
    refine lv_aload_n hx hb dX4_printAtom_7 rfl (lv_at hl 0 rfl) ?_
    refine lv_lload_n hx hb dX4_printAtom_8 rfl (lv_at hl 1 rfl) ?_
    refine cC_v (ci := 4) (q0 := 7) (As := [.long p0]) (rest := []) E hml hP hD hS hA (t_X4_printNumber l D G p0 u _ h) kmX4_71 mwyX4_printNumber rfl rfl ⟨⟨rfl, rfl⟩, Nat.le_of_ble_eq_true rfl, Nat.le_of_ble_eq_true rfl⟩ rfl hl.1 rfl (Nat.le_of_ble_eq_true rfl) dX4_printAtom_9 ⟨Nat.zero_le _, Nat.zero_le _⟩ (fun u5 H locs hP hD hS h => ?_)
    refine lv_goto (tgt := 27) hx hb dX4_printAtom_12 (by decide) ?_
    exact retC_v E hr hlk hP hD hS h dX4_printAtom_27
def wp_X4_printBeginning (N : Nat → Nat) (p0 : Int64) (u : St) (Q : St → Prop) : Prop := wp_X8_isPair p0 (fun (r1 : Int32) => ((r1 = 0 → wp_X4_printAtom N p0 u (fun (u3 : St) => Q u3)) ∧ (¬ r1 = 0 → (((400 : Int32) ≤ (gI u 705) → Q u) ∧ (¬ (400 : Int32) ≤ (gI u 705) → wp_X4_put N (40 : Int32) u (fun (u2 : St) => vp_in (gI u2 705) 400 ∧ Q (sI (sB u2 703 (vp_updL (gB u2 703) ((gI u2 705)).toNatClampNeg p0)) 705 ((gI u2 705) + (1 : Int32)))))))))
abbrev rm_X4_printBeginning : Room := { frames := 4, cells := 0, slots := 0, locals := 90 }
set_option maxHeartbeats 4000000 in
set_option maxRecDepth 100000 in
theorem t_X4_printBeginning (l : Launch) (D : va_G) (G : Gd) (p0 : Int64) (u : St) (Q : St → Prop) (h : wp_X4_printBeginning G.2.1 p0 u Q) : MCv l D G yX4_printBeginning cX4_printBeginning 3 none rm_X4_printBeginning [.ref (G.1 7), .long p0] u Q := by
  refine startC_v (by decide) ?_
  intro p e s m args below meth c E hr hlk hml hP hD hS hA
  have hx := E.1
  have hb := E.2.1
  have hown := E.2.2.1
  have hW := E.2.2.2.1
  have hl := lv_entry ([.ref (G.1 7), .long p0]) (n := 3) (Nat.le_of_ble_eq_true rfl)
  rw [lg_entry_eq]
  generalize (lg_sl ([.ref (G.1 7), .long p0]) ++ List.replicate (3 - (lg_sl ([.ref (G.1 7), .long p0])).length) Slot.unset).toArray = ls at hl ⊢
  have hl : lv_has ls 3 [(0, .ref (G.1 7)), (1, .long p0)] := hl
  unfold wp_X4_printBeginning at h
  refine lv_lload_n hx hb dX4_printBeginning_0 rfl (lv_at hl 1 rfl) ?_
  refine c0_i (As := [.long p0]) (rest := []) hx hb hml hown hW hP hS hA (t_X8_isPair l p0 _ h) kmX4_41 mwyX8_isPair ⟨⟨rfl, rfl⟩, Nat.le_of_ble_eq_true rfl, Nat.le_of_ble_eq_true rfl⟩ rfl hl.1 rfl (Nat.le_of_ble_eq_true rfl) dX4_printBeginning_1 ⟨Nat.zero_le _, Nat.zero_le _⟩ (fun r1 H locs hP hS h => ?_)
  refine lv_if_ne (tgt := 15) hx hb dX4_printBeginning_4 (by decide) (fun hc => ?_) (fun hc => ?_)
  · have h := h.2 hc
    refine lv_aload_n hx hb dX4_printBeginning_15 rfl (lv_at hl 0 rfl) ?_
    refine gC_705 E hP kfX4_22 (v := (gI u 705)) rfl dX4_printBeginning_16 ?_
    refine lv_sipush (v := (400 : Int32)) hx hb dX4_printBeginning_19 (by decide) ?_
    refine lv_icmp_ge (tgt := 51) hx hb dX4_printBeginning_22 (by decide) (fun hc => ?_) (fun hc => ?_)
    · have h := h.1 hc
      exact retC_v E hr hlk hP hD hS h dX4_printBeginning_51
    · have h := h.2 hc
      refine lv_aload_n hx hb dX4_printBeginning_25 rfl (lv_at hl 0 rfl) ?_
      refine lv_bipush (v := (40 : Int32)) hx hb dX4_printBeginning_26 (by decide) ?_
      refine cC_v (ci := 4) (q0 := 7) (As := [.int (40 : Int32)]) (rest := []) E hml hP hD hS hA (t_X4_put l D G (40 : Int32) u _ h) kmX4_53 mwyX4_put rfl rfl ⟨⟨rfl, rfl⟩, Nat.le_of_ble_eq_true rfl, Nat.le_of_ble_eq_true rfl⟩ rfl hl.1 rfl (Nat.le_of_ble_eq_true rfl) dX4_printBeginning_28 ⟨Nat.zero_le _, Nat.zero_le _⟩ (fun u2 H locs hP hD hS h => ?_)
      refine lv_aload_n hx hb dX4_printBeginning_31 rfl (lv_at hl 0 rfl) ?_
      refine gC_703 E hP kfX4_15 dX4_printBeginning_32 ?_
      refine lv_aload_n hx hb dX4_printBeginning_35 rfl (lv_at hl 0 rfl) ?_
      refine gC_705 E hP kfX4_22 (v := (gI u2 705)) rfl dX4_printBeginning_36 ?_
      refine lv_lload_n hx hb dX4_printBeginning_39 rfl (lv_at hl 1 rfl) ?_
      obtain ⟨h9, h⟩ := h
      refine yC_703 E hP hD hS h9 (f := (gB u2 703)) rfl dX4_printBeginning_40 (fun H locs hP hD hS => ?_)
      refine lv_aload_n hx hb dX4_printBeginning_41 rfl (lv_at hl 0 rfl) ?_
      refine lv_dup hx hb dX4_printBeginning_42 rfl ?_
      refine gC_705 E hP kfX4_22 (v := (gI u2 705)) rfl dX4_printBeginning_43 ?_
      refine lv_iconst (v := (1 : Int32)) hx hb dX4_printBeginning_46 (by decide) ?_
      refine lv_iadd hx hb dX4_printBeginning_47 ?_
      refine pC_705 E hP hD hS kfX4_22 dX4_printBeginning_48 (fun H locs hP hD hS => ?_)
      exact retC_v E hr hlk hP hD hS h dX4_printBeginning_51
  · have h := h.1 hc
    refine lv_aload_n hx hb dX4_printBeginning_7 rfl (lv_at hl 0 rfl) ?_
    refine lv_lload_n hx hb dX4_printBeginning_8 rfl (lv_at hl 1 rfl) ?_
    refine cC_v (ci := 4) (q0 := 7) (As := [.long p0]) (rest := []) E hml hP hD hS hA (t_X4_printAtom l D G p0 u _ h) kmX4_63 mwyX4_printAtom rfl rfl ⟨⟨rfl, rfl⟩, Nat.le_of_ble_eq_true rfl, Nat.le_of_ble_eq_true rfl⟩ rfl hl.1 rfl (Nat.le_of_ble_eq_true rfl) dX4_printBeginning_9 ⟨Nat.zero_le _, Nat.zero_le _⟩ (fun u3 H locs hP hD hS h => ?_)
    refine lv_goto (tgt := 51) hx hb dX4_printBeginning_12 (by decide) ?_
    exact retC_v E hr hlk hP hD hS h dX4_printBeginning_51
def wp_X4_printEnd (N : Nat → Nat) (p0 : Int64) (u : St) (Q : St → Prop) : Prop := ((p0 = (1099511627776 : Int64) → wp_X4_put N (41 : Int32) u (fun (u1 : St) => Q u1)) ∧ (¬ p0 = (1099511627776 : Int64) → wp_X4_put N (32 : Int32) u (fun (u2 : St) => wp_X4_put N (46 : Int32) u2 (fun (u3 : St) => wp_X4_put N (32 : Int32) u3 (fun (u4 : St) => wp_X4_printAtom N p0 u4 (fun (u5 : St) => wp_X4_put N (41 : Int32) u5 (fun (u6 : St) => Q u6)))))))
abbrev rm_X4_printEnd : Room := { frames := 4, cells := 0, slots := 0, locals := 90 }
set_option maxHeartbeats 4000000 in
set_option maxRecDepth 100000 in
theorem t_X4_printEnd (l : Launch) (D : va_G) (G : Gd) (p0 : Int64) (u : St) (Q : St → Prop) (h : wp_X4_printEnd G.2.1 p0 u Q) : MCv l D G yX4_printEnd cX4_printEnd 3 none rm_X4_printEnd [.ref (G.1 7), .long p0] u Q := by
  refine startC_v (by decide) ?_
  intro p e s m args below meth c E hr hlk hml hP hD hS hA
  have hx := E.1
  have hb := E.2.1
  have hown := E.2.2.1
  have hW := E.2.2.2.1
  have hl := lv_entry ([.ref (G.1 7), .long p0]) (n := 3) (Nat.le_of_ble_eq_true rfl)
  rw [lg_entry_eq]
  generalize (lg_sl ([.ref (G.1 7), .long p0]) ++ List.replicate (3 - (lg_sl ([.ref (G.1 7), .long p0])).length) Slot.unset).toArray = ls at hl ⊢
  have hl : lv_has ls 3 [(0, .ref (G.1 7)), (1, .long p0)] := hl
  unfold wp_X4_printEnd at h
  refine lv_lload_n hx hb dX4_printEnd_0 rfl (lv_at hl 1 rfl) ?_
  refine lv_ldc2 (v := (1099511627776 : Int64)) hx hb hown (hW _ kcX4_66) dX4_printEnd_1 ?_
  refine lq_eq (tgt := 31) hx hb dX4_printEnd_4 dX4_printEnd_5 (by decide) (fun hc => ?_) (fun hc => ?_)
  · have h := h.1 hc
    refine lv_aload_n hx hb dX4_printEnd_31 rfl (lv_at hl 0 rfl) ?_
    refine lv_bipush (v := (41 : Int32)) hx hb dX4_printEnd_32 (by decide) ?_
    refine cC_v (ci := 4) (q0 := 7) (As := [.int (41 : Int32)]) (rest := []) E hml hP hD hS hA (t_X4_put l D G (41 : Int32) u _ h) kmX4_53 mwyX4_put rfl rfl ⟨⟨rfl, rfl⟩, Nat.le_of_ble_eq_true rfl, Nat.le_of_ble_eq_true rfl⟩ rfl hl.1 rfl (Nat.le_of_ble_eq_true rfl) dX4_printEnd_34 ⟨Nat.zero_le _, Nat.zero_le _⟩ (fun u1 H locs hP hD hS h => ?_)
    exact retC_v E hr hlk hP hD hS h dX4_printEnd_37
  · have h := h.2 hc
    refine lv_aload_n hx hb dX4_printEnd_8 rfl (lv_at hl 0 rfl) ?_
    refine lv_bipush (v := (32 : Int32)) hx hb dX4_printEnd_9 (by decide) ?_
    refine cC_v (ci := 4) (q0 := 7) (As := [.int (32 : Int32)]) (rest := []) E hml hP hD hS hA (t_X4_put l D G (32 : Int32) u _ h) kmX4_53 mwyX4_put rfl rfl ⟨⟨rfl, rfl⟩, Nat.le_of_ble_eq_true rfl, Nat.le_of_ble_eq_true rfl⟩ rfl hl.1 rfl (Nat.le_of_ble_eq_true rfl) dX4_printEnd_11 ⟨Nat.zero_le _, Nat.zero_le _⟩ (fun u2 H locs hP hD hS h => ?_)
    refine lv_aload_n hx hb dX4_printEnd_14 rfl (lv_at hl 0 rfl) ?_
    refine lv_bipush (v := (46 : Int32)) hx hb dX4_printEnd_15 (by decide) ?_
    refine cC_v (ci := 4) (q0 := 7) (As := [.int (46 : Int32)]) (rest := []) E hml hP hD hS hA (t_X4_put l D G (46 : Int32) u2 _ h) kmX4_53 mwyX4_put rfl rfl ⟨⟨rfl, rfl⟩, Nat.le_of_ble_eq_true rfl, Nat.le_of_ble_eq_true rfl⟩ rfl hl.1 rfl (Nat.le_of_ble_eq_true rfl) dX4_printEnd_17 ⟨Nat.zero_le _, Nat.zero_le _⟩ (fun u3 H locs hP hD hS h => ?_)
    refine lv_aload_n hx hb dX4_printEnd_20 rfl (lv_at hl 0 rfl) ?_
    refine lv_bipush (v := (32 : Int32)) hx hb dX4_printEnd_21 (by decide) ?_
    refine cC_v (ci := 4) (q0 := 7) (As := [.int (32 : Int32)]) (rest := []) E hml hP hD hS hA (t_X4_put l D G (32 : Int32) u3 _ h) kmX4_53 mwyX4_put rfl rfl ⟨⟨rfl, rfl⟩, Nat.le_of_ble_eq_true rfl, Nat.le_of_ble_eq_true rfl⟩ rfl hl.1 rfl (Nat.le_of_ble_eq_true rfl) dX4_printEnd_23 ⟨Nat.zero_le _, Nat.zero_le _⟩ (fun u4 H locs hP hD hS h => ?_)
    refine lv_aload_n hx hb dX4_printEnd_26 rfl (lv_at hl 0 rfl) ?_
    refine lv_lload_n hx hb dX4_printEnd_27 rfl (lv_at hl 1 rfl) ?_
    refine cC_v (ci := 4) (q0 := 7) (As := [.long p0]) (rest := []) E hml hP hD hS hA (t_X4_printAtom l D G p0 u4 _ h) kmX4_63 mwyX4_printAtom rfl rfl ⟨⟨rfl, rfl⟩, Nat.le_of_ble_eq_true rfl, Nat.le_of_ble_eq_true rfl⟩ rfl hl.1 rfl (Nat.le_of_ble_eq_true rfl) dX4_printEnd_28 ⟨Nat.zero_le _, Nat.zero_le _⟩ (fun u5 H locs hP hD hS h => ?_)
    refine lv_aload_n hx hb dX4_printEnd_31 rfl (lv_at hl 0 rfl) ?_
    refine lv_bipush (v := (41 : Int32)) hx hb dX4_printEnd_32 (by decide) ?_
    refine cC_v (ci := 4) (q0 := 7) (As := [.int (41 : Int32)]) (rest := []) E hml hP hD hS hA (t_X4_put l D G (41 : Int32) u5 _ h) kmX4_53 mwyX4_put rfl rfl ⟨⟨rfl, rfl⟩, Nat.le_of_ble_eq_true rfl, Nat.le_of_ble_eq_true rfl⟩ rfl hl.1 rfl (Nat.le_of_ble_eq_true rfl) dX4_printEnd_34 ⟨Nat.zero_le _, Nat.zero_le _⟩ (fun u6 H locs hP hD hS h => ?_)
    exact retC_v E hr hlk hP hD hS h dX4_printEnd_37
def l_X4_print_17 (N : Nat → Nat)  (K : St → Prop) : Nat → Int32 → St → Prop
  | 0, _, _ => False
  | n + 1, x3, u => (((400 : Int32) ≤ x3 → K u) ∧ (¬ (400 : Int32) ≤ x3 → (((gI u 705) ≤ 0 → K u) ∧ (¬ (gI u 705) ≤ 0 → (((400 : Int32) ≤ (gI u 706) → K u) ∧ (¬ (400 : Int32) ≤ (gI u 706) → vp_in ((gI u 705) - (1 : Int32)) 400 ∧ wp_X8_isPair ((gB u 703) (((gI u 705) - (1 : Int32))).toNatClampNeg) (fun (r2 : Int32) => ((r2 = 0 → wp_X4_printEnd N ((gB u 703) (((gI u 705) - (1 : Int32))).toNatClampNeg) (sI u 705 ((gI u 705) - (1 : Int32))) (fun (u3 : St) => l_X4_print_17 N  K n (x3 + (1 : Int32)) u3)) ∧ (¬ r2 = 0 → wp_X0_cdr N ((gB u 703) (((gI u 705) - (1 : Int32))).toNatClampNeg) u (fun (r4 : Int64) (u5 : St) => vp_in ((gI u 705) - (1 : Int32)) 400 ∧ (((gI u5 706) ≤ 0 → wp_X0_car N ((gB u 703) (((gI u 705) - (1 : Int32))).toNatClampNeg) (sB u5 703 (vp_updL (gB u5 703) (((gI u 705) - (1 : Int32))).toNatClampNeg r4)) (fun (r6 : Int64) (u7 : St) => wp_X4_printBeginning N r6 u7 (fun (u8 : St) => l_X4_print_17 N  K n (x3 + (1 : Int32)) u8))) ∧ (¬ (gI u5 706) ≤ 0 → vp_in ((gI u5 706) - (1 : Int32)) 400 ∧ ((((gA u5 702) (((gI u5 706) - (1 : Int32))).toNatClampNeg) = (40 : Int32) → wp_X0_car N ((gB u 703) (((gI u 705) - (1 : Int32))).toNatClampNeg) (sB u5 703 (vp_updL (gB u5 703) (((gI u 705) - (1 : Int32))).toNatClampNeg r4)) (fun (r9 : Int64) (u10 : St) => wp_X4_printBeginning N r9 u10 (fun (u11 : St) => l_X4_print_17 N  K n (x3 + (1 : Int32)) u11))) ∧ (¬ ((gA u5 702) (((gI u5 706) - (1 : Int32))).toNatClampNeg) = (40 : Int32) → wp_X4_put N (32 : Int32) (sB u5 703 (vp_updL (gB u5 703) (((gI u 705) - (1 : Int32))).toNatClampNeg r4)) (fun (u12 : St) => wp_X0_car N ((gB u 703) (((gI u 705) - (1 : Int32))).toNatClampNeg) u12 (fun (r13 : Int64) (u14 : St) => wp_X4_printBeginning N r13 u14 (fun (u15 : St) => l_X4_print_17 N  K n (x3 + (1 : Int32)) u15)))))))))))))))))
def wp_X4_print (N : Nat → Nat) (p0 : Int64) (u : St) (Q : St → Prop) : Prop := wp_X4_printBeginning N p0 (sI (sI u 706 (0 : Int32)) 705 (0 : Int32)) (fun (u1 : St) => (∃ k17 : Nat, l_X4_print_17 N   (fun (u16 : St) => Q u16) k17 (0 : Int32) u1))
abbrev rm_X4_print : Room := { frames := 5, cells := 0, slots := 0, locals := 112 }
set_option maxHeartbeats 4000000 in
set_option maxRecDepth 100000 in
theorem t_X4_print (l : Launch) (D : va_G) (G : Gd) (p0 : Int64) (u : St) (Q : St → Prop) (h : wp_X4_print G.2.1 p0 u Q) : MCv l D G yX4_print cX4_print 6 none rm_X4_print [.ref (G.1 7), .long p0] u Q := by
  refine startC_v (by decide) ?_
  intro p e s m args below meth c E hr hlk hml hP hD hS hA
  have hx := E.1
  have hb := E.2.1
  have hown := E.2.2.1
  have hW := E.2.2.2.1
  have hl := lv_entry ([.ref (G.1 7), .long p0]) (n := 6) (Nat.le_of_ble_eq_true rfl)
  rw [lg_entry_eq]
  generalize (lg_sl ([.ref (G.1 7), .long p0]) ++ List.replicate (6 - (lg_sl ([.ref (G.1 7), .long p0])).length) Slot.unset).toArray = ls at hl ⊢
  have hl : lv_has ls 6 [(0, .ref (G.1 7)), (1, .long p0)] := hl
  have L_17 : ∀  (K : St → Prop), (∀  (u : St) (H : Heap) (locs : List Loc) (ls : Array Slot), K  u → va_P D vwCl (wC G u) H → va_D (AC G s.heap.size) (wC G u) → va_S (AC G s.heap.size) s.heap H locs → lv_has ls 6 [] → W p l e rm_X4_print s m args below meth c H locs 0 0 (MQ below (va_Qv Q (BC D G s.heap.size) (AC G s.heap.size)) args s 0 0 (AC G s.heap.size)) (F0 m 149 ls [])) → ∀ (n : Nat) (x3 : Int32) (u : St) (H : Heap) (locs : List Loc) (ls : Array Slot), l_X4_print_17 G.2.1  K n x3 u → va_P D vwCl (wC G u) H → va_D (AC G s.heap.size) (wC G u) → va_S (AC G s.heap.size) s.heap H locs → lv_has ls 6 [(0, .ref (G.1 7)), (3, .int x3)] → W p l e rm_X4_print s m args below meth c H locs 0 0 (MQ below (va_Qv Q (BC D G s.heap.size) (AC G s.heap.size)) args s 0 0 (AC G s.heap.size)) (F0 m 17 ls []) := by
    intro  K hK n
    induction n with
    | zero => intro x3 u H locs ls h; exact False.elim h
    | succ n ih =>
      intro x3 u H locs ls h hP hD hS hl
      unfold l_X4_print_17 at h
      refine lv_iload_n hx hb dX4_print_17 rfl (lv_at hl 1 rfl) ?_
      refine lv_sipush (v := (400 : Int32)) hx hb dX4_print_18 (by decide) ?_
      refine lv_icmp_ge (tgt := 149) hx hb dX4_print_21 (by decide) (fun hc => ?_) (fun hc => ?_)
      · have h := h.1 hc
        exact hK u _ _ _ h hP hD hS (lv_sub hl [] rfl)
      · have h := h.2 hc
        refine lv_aload_n hx hb dX4_print_24 rfl (lv_at hl 0 rfl) ?_
        refine gC_705 E hP kfX4_22 (v := (gI u 705)) rfl dX4_print_25 ?_
        refine lv_if_le (tgt := 149) hx hb dX4_print_28 (by decide) (fun hc => ?_) (fun hc => ?_)
        · have h := h.1 hc
          exact hK u _ _ _ h hP hD hS (lv_sub hl [] rfl)
        · have h := h.2 hc
          refine lv_aload_n hx hb dX4_print_31 rfl (lv_at hl 0 rfl) ?_
          refine gC_706 E hP kfX4_26 (v := (gI u 706)) rfl dX4_print_32 ?_
          refine lv_sipush (v := (400 : Int32)) hx hb dX4_print_35 (by decide) ?_
          refine lv_icmp_ge (tgt := 149) hx hb dX4_print_38 (by decide) (fun hc => ?_) (fun hc => ?_)
          · have h := h.1 hc
            exact hK u _ _ _ h hP hD hS (lv_sub hl [] rfl)
          · have h := h.2 hc
            refine lv_aload_n hx hb dX4_print_41 rfl (lv_at hl 0 rfl) ?_
            refine gC_703 E hP kfX4_15 dX4_print_42 ?_
            refine lv_aload_n hx hb dX4_print_45 rfl (lv_at hl 0 rfl) ?_
            refine gC_705 E hP kfX4_22 (v := (gI u 705)) rfl dX4_print_46 ?_
            refine lv_iconst (v := (1 : Int32)) hx hb dX4_print_49 (by decide) ?_
            refine lv_isub hx hb dX4_print_50 ?_
            obtain ⟨h9, h⟩ := h
            refine xC_703 E hP h9 (v := ((gB u 703) (((gI u 705) - (1 : Int32))).toNatClampNeg)) rfl dX4_print_51 ?_
            refine lv_lstore (lv' := [(4, .long ((gB u 703) (((gI u 705) - (1 : Int32))).toNatClampNeg)), (0, .ref (G.1 7)), (3, .int x3)]) hx hb dX4_print_52 hl (by decide) rfl (fun ls hl => ?_)
            refine lv_lload hx hb dX4_print_54 (lv_at hl 0 rfl) ?_
            refine c0_i (As := [.long ((gB u 703) (((gI u 705) - (1 : Int32))).toNatClampNeg)]) (rest := []) hx hb hml hown hW hP hS hA (t_X8_isPair l ((gB u 703) (((gI u 705) - (1 : Int32))).toNatClampNeg) _ h) kmX4_41 mwyX8_isPair ⟨⟨rfl, rfl⟩, Nat.le_of_ble_eq_true rfl, Nat.le_of_ble_eq_true rfl⟩ rfl hl.1 rfl (Nat.le_of_ble_eq_true rfl) dX4_print_56 ⟨Nat.zero_le _, Nat.zero_le _⟩ (fun r2 H locs hP hS h => ?_)
            refine lv_if_eq (tgt := 127) hx hb dX4_print_59 (by decide) (fun hc => ?_) (fun hc => ?_)
            · have h := h.1 hc
              refine lv_aload_n hx hb dX4_print_127 rfl (lv_at hl 1 rfl) ?_
              refine lv_dup hx hb dX4_print_128 rfl ?_
              refine gC_705 E hP kfX4_22 (v := (gI u 705)) rfl dX4_print_129 ?_
              refine lv_iconst (v := (1 : Int32)) hx hb dX4_print_132 (by decide) ?_
              refine lv_isub hx hb dX4_print_133 ?_
              refine pC_705 E hP hD hS kfX4_22 dX4_print_134 (fun H locs hP hD hS => ?_)
              refine lv_aload_n hx hb dX4_print_137 rfl (lv_at hl 1 rfl) ?_
              refine lv_lload hx hb dX4_print_138 (lv_at hl 0 rfl) ?_
              refine cC_v (ci := 4) (q0 := 7) (As := [.long ((gB u 703) (((gI u 705) - (1 : Int32))).toNatClampNeg)]) (rest := []) E hml hP hD hS hA (t_X4_printEnd l D G ((gB u 703) (((gI u 705) - (1 : Int32))).toNatClampNeg) (sI u 705 ((gI u 705) - (1 : Int32))) _ h) kmX4_60 mwyX4_printEnd rfl rfl ⟨⟨rfl, rfl⟩, Nat.le_of_ble_eq_true rfl, Nat.le_of_ble_eq_true rfl⟩ rfl hl.1 rfl (Nat.le_of_ble_eq_true rfl) dX4_print_140 ⟨Nat.zero_le _, Nat.zero_le _⟩ (fun u3 H locs hP hD hS h => ?_)
              refine lv_iinc (v := (x3 + (1 : Int32))) (lv' := [(3, .int (x3 + (1 : Int32))), (4, .long ((gB u 703) (((gI u 705) - (1 : Int32))).toNatClampNeg)), (0, .ref (G.1 7))]) hx hb dX4_print_143 hl (k := 2) rfl rfl (by decide) rfl (fun ls hl => ?_)
              refine lv_goto (tgt := 17) hx hb dX4_print_146 (by decide) ?_
              exact ih (x3 + (1 : Int32)) u3 _ _ _ h hP hD hS (lv_sub hl [2, 0] rfl)
            · have h := h.2 hc
              refine lv_aload_n hx hb dX4_print_62 rfl (lv_at hl 1 rfl) ?_
              refine gC_703 E hP kfX4_15 dX4_print_63 ?_
              refine lv_aload_n hx hb dX4_print_66 rfl (lv_at hl 1 rfl) ?_
              refine gC_705 E hP kfX4_22 (v := (gI u 705)) rfl dX4_print_67 ?_
              refine lv_iconst (v := (1 : Int32)) hx hb dX4_print_70 (by decide) ?_
              refine lv_isub hx hb dX4_print_71 ?_
              refine lv_aload_n hx hb dX4_print_72 rfl (lv_at hl 1 rfl) ?_
              refine gC_700 E hP kfX4_29 dX4_print_73 ?_
              refine lv_lload hx hb dX4_print_76 (lv_at hl 0 rfl) ?_
              refine cC_l (ci := 0) (q0 := 8) (As := [.long ((gB u 703) (((gI u 705) - (1 : Int32))).toNatClampNeg)]) (rest := [.int ((gI u 705) - (1 : Int32)), .ref (G.1 23)]) E hml hP hD hS hA (t_X0_cdr l D G ((gB u 703) (((gI u 705) - (1 : Int32))).toNatClampNeg) u _ h) kmX4_47 mwyX0_cdr rfl rfl ⟨⟨rfl, rfl⟩, Nat.le_of_ble_eq_true rfl, Nat.le_of_ble_eq_true rfl⟩ rfl hl.1 rfl (Nat.le_of_ble_eq_true rfl) dX4_print_78 ⟨Nat.zero_le _, Nat.zero_le _⟩ (fun r4 u5 H locs hP hD hS h => ?_)
              obtain ⟨h9, h⟩ := h
              refine yC_703 E hP hD hS h9 (f := (gB u5 703)) rfl dX4_print_81 (fun H locs hP hD hS => ?_)
              refine lv_aload_n hx hb dX4_print_82 rfl (lv_at hl 1 rfl) ?_
              refine gC_706 E hP kfX4_26 (v := (gI u5 706)) rfl dX4_print_83 ?_
              refine lv_if_le (tgt := 111) hx hb dX4_print_86 (by decide) (fun hc => ?_) (fun hc => ?_)
              · have h := h.1 hc
                refine lv_aload_n hx hb dX4_print_111 rfl (lv_at hl 1 rfl) ?_
                refine lv_aload_n hx hb dX4_print_112 rfl (lv_at hl 1 rfl) ?_
                refine gC_700 E hP kfX4_29 dX4_print_113 ?_
                refine lv_lload hx hb dX4_print_116 (lv_at hl 0 rfl) ?_
                refine cC_l (ci := 0) (q0 := 8) (As := [.long ((gB u 703) (((gI u 705) - (1 : Int32))).toNatClampNeg)]) (rest := [.ref (G.1 7)]) E hml hP hD hS hA (t_X0_car l D G ((gB u 703) (((gI u 705) - (1 : Int32))).toNatClampNeg) (sB u5 703 (vp_updL (gB u5 703) (((gI u 705) - (1 : Int32))).toNatClampNeg r4)) _ h) kmX4_57 mwyX0_car rfl rfl ⟨⟨rfl, rfl⟩, Nat.le_of_ble_eq_true rfl, Nat.le_of_ble_eq_true rfl⟩ rfl hl.1 rfl (Nat.le_of_ble_eq_true rfl) dX4_print_118 ⟨Nat.zero_le _, Nat.zero_le _⟩ (fun r6 u7 H locs hP hD hS h => ?_)
                refine cC_v (ci := 4) (q0 := 7) (As := [.long r6]) (rest := []) E hml hP hD hS hA (t_X4_printBeginning l D G r6 u7 _ h) kmX4_37 mwyX4_printBeginning rfl rfl ⟨⟨rfl, rfl⟩, Nat.le_of_ble_eq_true rfl, Nat.le_of_ble_eq_true rfl⟩ rfl hl.1 rfl (Nat.le_of_ble_eq_true rfl) dX4_print_121 ⟨Nat.zero_le _, Nat.zero_le _⟩ (fun u8 H locs hP hD hS h => ?_)
                refine lv_goto (tgt := 143) hx hb dX4_print_124 (by decide) ?_
                refine lv_iinc (v := (x3 + (1 : Int32))) (lv' := [(3, .int (x3 + (1 : Int32))), (4, .long ((gB u 703) (((gI u 705) - (1 : Int32))).toNatClampNeg)), (0, .ref (G.1 7))]) hx hb dX4_print_143 hl (k := 2) rfl rfl (by decide) rfl (fun ls hl => ?_)
                refine lv_goto (tgt := 17) hx hb dX4_print_146 (by decide) ?_
                exact ih (x3 + (1 : Int32)) u8 _ _ _ h hP hD hS (lv_sub hl [2, 0] rfl)
              · have h := h.2 hc
                refine lv_aload_n hx hb dX4_print_89 rfl (lv_at hl 1 rfl) ?_
                refine gC_702 E hP kfX4_9 dX4_print_90 ?_
                refine lv_aload_n hx hb dX4_print_93 rfl (lv_at hl 1 rfl) ?_
                refine gC_706 E hP kfX4_26 (v := (gI u5 706)) rfl dX4_print_94 ?_
                refine lv_iconst (v := (1 : Int32)) hx hb dX4_print_97 (by decide) ?_
                refine lv_isub hx hb dX4_print_98 ?_
                obtain ⟨h9, h⟩ := h
                refine xC_702 E hP h9 (v := ((gA u5 702) (((gI u5 706) - (1 : Int32))).toNatClampNeg)) rfl dX4_print_99 ?_
                refine lv_bipush (v := (40 : Int32)) hx hb dX4_print_100 (by decide) ?_
                refine lv_icmp_eq (tgt := 111) hx hb dX4_print_102 (by decide) (fun hc => ?_) (fun hc => ?_)
                · have h := h.1 hc
                  refine lv_aload_n hx hb dX4_print_111 rfl (lv_at hl 1 rfl) ?_
                  refine lv_aload_n hx hb dX4_print_112 rfl (lv_at hl 1 rfl) ?_
                  refine gC_700 E hP kfX4_29 dX4_print_113 ?_
                  refine lv_lload hx hb dX4_print_116 (lv_at hl 0 rfl) ?_
                  refine cC_l (ci := 0) (q0 := 8) (As := [.long ((gB u 703) (((gI u 705) - (1 : Int32))).toNatClampNeg)]) (rest := [.ref (G.1 7)]) E hml hP hD hS hA (t_X0_car l D G ((gB u 703) (((gI u 705) - (1 : Int32))).toNatClampNeg) (sB u5 703 (vp_updL (gB u5 703) (((gI u 705) - (1 : Int32))).toNatClampNeg r4)) _ h) kmX4_57 mwyX0_car rfl rfl ⟨⟨rfl, rfl⟩, Nat.le_of_ble_eq_true rfl, Nat.le_of_ble_eq_true rfl⟩ rfl hl.1 rfl (Nat.le_of_ble_eq_true rfl) dX4_print_118 ⟨Nat.zero_le _, Nat.zero_le _⟩ (fun r9 u10 H locs hP hD hS h => ?_)
                  refine cC_v (ci := 4) (q0 := 7) (As := [.long r9]) (rest := []) E hml hP hD hS hA (t_X4_printBeginning l D G r9 u10 _ h) kmX4_37 mwyX4_printBeginning rfl rfl ⟨⟨rfl, rfl⟩, Nat.le_of_ble_eq_true rfl, Nat.le_of_ble_eq_true rfl⟩ rfl hl.1 rfl (Nat.le_of_ble_eq_true rfl) dX4_print_121 ⟨Nat.zero_le _, Nat.zero_le _⟩ (fun u11 H locs hP hD hS h => ?_)
                  refine lv_goto (tgt := 143) hx hb dX4_print_124 (by decide) ?_
                  refine lv_iinc (v := (x3 + (1 : Int32))) (lv' := [(3, .int (x3 + (1 : Int32))), (4, .long ((gB u 703) (((gI u 705) - (1 : Int32))).toNatClampNeg)), (0, .ref (G.1 7))]) hx hb dX4_print_143 hl (k := 2) rfl rfl (by decide) rfl (fun ls hl => ?_)
                  refine lv_goto (tgt := 17) hx hb dX4_print_146 (by decide) ?_
                  exact ih (x3 + (1 : Int32)) u11 _ _ _ h hP hD hS (lv_sub hl [2, 0] rfl)
                · have h := h.2 hc
                  refine lv_aload_n hx hb dX4_print_105 rfl (lv_at hl 1 rfl) ?_
                  refine lv_bipush (v := (32 : Int32)) hx hb dX4_print_106 (by decide) ?_
                  refine cC_v (ci := 4) (q0 := 7) (As := [.int (32 : Int32)]) (rest := []) E hml hP hD hS hA (t_X4_put l D G (32 : Int32) (sB u5 703 (vp_updL (gB u5 703) (((gI u 705) - (1 : Int32))).toNatClampNeg r4)) _ h) kmX4_53 mwyX4_put rfl rfl ⟨⟨rfl, rfl⟩, Nat.le_of_ble_eq_true rfl, Nat.le_of_ble_eq_true rfl⟩ rfl hl.1 rfl (Nat.le_of_ble_eq_true rfl) dX4_print_108 ⟨Nat.zero_le _, Nat.zero_le _⟩ (fun u12 H locs hP hD hS h => ?_)
                  refine lv_aload_n hx hb dX4_print_111 rfl (lv_at hl 1 rfl) ?_
                  refine lv_aload_n hx hb dX4_print_112 rfl (lv_at hl 1 rfl) ?_
                  refine gC_700 E hP kfX4_29 dX4_print_113 ?_
                  refine lv_lload hx hb dX4_print_116 (lv_at hl 0 rfl) ?_
                  refine cC_l (ci := 0) (q0 := 8) (As := [.long ((gB u 703) (((gI u 705) - (1 : Int32))).toNatClampNeg)]) (rest := [.ref (G.1 7)]) E hml hP hD hS hA (t_X0_car l D G ((gB u 703) (((gI u 705) - (1 : Int32))).toNatClampNeg) u12 _ h) kmX4_57 mwyX0_car rfl rfl ⟨⟨rfl, rfl⟩, Nat.le_of_ble_eq_true rfl, Nat.le_of_ble_eq_true rfl⟩ rfl hl.1 rfl (Nat.le_of_ble_eq_true rfl) dX4_print_118 ⟨Nat.zero_le _, Nat.zero_le _⟩ (fun r13 u14 H locs hP hD hS h => ?_)
                  refine cC_v (ci := 4) (q0 := 7) (As := [.long r13]) (rest := []) E hml hP hD hS hA (t_X4_printBeginning l D G r13 u14 _ h) kmX4_37 mwyX4_printBeginning rfl rfl ⟨⟨rfl, rfl⟩, Nat.le_of_ble_eq_true rfl, Nat.le_of_ble_eq_true rfl⟩ rfl hl.1 rfl (Nat.le_of_ble_eq_true rfl) dX4_print_121 ⟨Nat.zero_le _, Nat.zero_le _⟩ (fun u15 H locs hP hD hS h => ?_)
                  refine lv_goto (tgt := 143) hx hb dX4_print_124 (by decide) ?_
                  refine lv_iinc (v := (x3 + (1 : Int32))) (lv' := [(3, .int (x3 + (1 : Int32))), (4, .long ((gB u 703) (((gI u 705) - (1 : Int32))).toNatClampNeg)), (0, .ref (G.1 7))]) hx hb dX4_print_143 hl (k := 2) rfl rfl (by decide) rfl (fun ls hl => ?_)
                  refine lv_goto (tgt := 17) hx hb dX4_print_146 (by decide) ?_
                  exact ih (x3 + (1 : Int32)) u15 _ _ _ h hP hD hS (lv_sub hl [2, 0] rfl)
  unfold wp_X4_print at h
  refine lv_aload_n hx hb dX4_print_0 rfl (lv_at hl 0 rfl) ?_
  refine lv_iconst (v := (0 : Int32)) hx hb dX4_print_1 (by decide) ?_
  refine pC_706 E hP hD hS kfX4_26 dX4_print_2 (fun H locs hP hD hS => ?_)
  refine lv_aload_n hx hb dX4_print_5 rfl (lv_at hl 0 rfl) ?_
  refine lv_iconst (v := (0 : Int32)) hx hb dX4_print_6 (by decide) ?_
  refine pC_705 E hP hD hS kfX4_22 dX4_print_7 (fun H locs hP hD hS => ?_)
  refine lv_aload_n hx hb dX4_print_10 rfl (lv_at hl 0 rfl) ?_
  refine lv_lload_n hx hb dX4_print_11 rfl (lv_at hl 1 rfl) ?_
  refine cC_v (ci := 4) (q0 := 7) (As := [.long p0]) (rest := []) E hml hP hD hS hA (t_X4_printBeginning l D G p0 (sI (sI u 706 (0 : Int32)) 705 (0 : Int32)) _ h) kmX4_37 mwyX4_printBeginning rfl rfl ⟨⟨rfl, rfl⟩, Nat.le_of_ble_eq_true rfl, Nat.le_of_ble_eq_true rfl⟩ rfl hl.1 rfl (Nat.le_of_ble_eq_true rfl) dX4_print_12 ⟨Nat.zero_le _, Nat.zero_le _⟩ (fun u1 H locs hP hD hS h => ?_)
  refine lv_iconst (v := (0 : Int32)) hx hb dX4_print_15 (by decide) ?_
  refine lv_istore_n (lv' := [(3, .int (0 : Int32)), (0, .ref (G.1 7)), (1, .long p0)]) hx hb dX4_print_16 rfl hl (by decide) rfl (fun ls hl => ?_)
  obtain ⟨n, h⟩ := h
  refine L_17  _ (fun u16 H locs ls h hP hD hS hl => ?_) n (0 : Int32) u1 _ _ _ h hP hD hS (lv_sub hl [1, 0] rfl)
  exact retC_v E hr hlk hP hD hS h dX4_print_149
def wp_X9_within (p0 : Int32) (p1 : Int32) (p2 : Int32) (p3 : Int32) (Q : Int32 → Prop) : Prop := ((p0 < p1 → Q p3) ∧ (¬ p0 < p1 → ((p0 ≤ p2 → Q p0) ∧ (¬ p0 ≤ p2 → Q p3))))
abbrev rm_X9_within : Room := { frames := 0, cells := 0, slots := 0, locals := 0 }
set_option maxHeartbeats 4000000 in
set_option maxRecDepth 100000 in
theorem t_X9_within (l : Launch) (p0 : Int32) (p1 : Int32) (p2 : Int32) (p3 : Int32) (Q : Int32 → Prop) (h : wp_X9_within p0 p1 p2 p3 Q) : M0i l yX9_within cX9_within 4 (some .int) rm_X9_within [.int p0, .int p1, .int p2, .int p3] Q := by
  refine start0_i (by decide) ?_
  intro p e s m args below meth c hx hb hown hW hr hlk hml hS
  have hP : va_P ((fun _ => 0), (fun _ _ => 0)) vwCl [] s.heap := fun k q h => by simp at h
  have hA : ∀ q, s.heap.size ≤ q → (fun q => s.heap.size ≤ q) q := fun _ h => h
  have hl := lv_entry ([.int p0, .int p1, .int p2, .int p3]) (n := 4) (Nat.le_of_ble_eq_true rfl)
  rw [lg_entry_eq]
  generalize (lg_sl ([.int p0, .int p1, .int p2, .int p3]) ++ List.replicate (4 - (lg_sl ([.int p0, .int p1, .int p2, .int p3])).length) Slot.unset).toArray = ls at hl ⊢
  have hl : lv_has ls 4 [(0, .int p0), (1, .int p1), (2, .int p2), (3, .int p3)] := hl
  unfold wp_X9_within at h
  refine lv_iload_n hx hb dX9_within_0 rfl (lv_at hl 0 rfl) ?_
  refine lv_iload_n hx hb dX9_within_1 rfl (lv_at hl 1 rfl) ?_
  refine lv_icmp_lt (tgt := 10) hx hb dX9_within_2 (by decide) (fun hc => ?_) (fun hc => ?_)
  · have h := h.1 hc
    refine lv_iload_n hx hb dX9_within_10 rfl (lv_at hl 3 rfl) ?_
    refine lv_goto (tgt := 15) hx hb dX9_within_11 (by decide) ?_
    exact ret0_i hx hb hr hlk hS h dX9_within_15
  · have h := h.2 hc
    refine lv_iload_n hx hb dX9_within_5 rfl (lv_at hl 0 rfl) ?_
    refine lv_iload_n hx hb dX9_within_6 rfl (lv_at hl 2 rfl) ?_
    refine lv_icmp_le (tgt := 14) hx hb dX9_within_7 (by decide) (fun hc => ?_) (fun hc => ?_)
    · have h := h.1 hc
      refine lv_iload_n hx hb dX9_within_14 rfl (lv_at hl 0 rfl) ?_
      exact ret0_i hx hb hr hlk hS h dX9_within_15
    · have h := h.2 hc
      refine lv_iload_n hx hb dX9_within_10 rfl (lv_at hl 3 rfl) ?_
      refine lv_goto (tgt := 15) hx hb dX9_within_11 (by decide) ?_
      exact ret0_i hx hb hr hlk hS h dX9_within_15
