def l_X3_wordOf_N_2 (Q : Int64 → St → Prop) (c1 : Int64) (K : St → Prop) : Nat → Int32 → St → Prop
  | 0, _, _ => False
  | n + 1, x3, u => (((gI u 2) ≤ x3 → K u) ∧ (¬ (gI u 2) ≤ x3 → vp_in x3 150 ∧ ((((gB u 0) (x3).toNatClampNeg) = c1 → Q ((1099511627776 : Int64) + (x3).toInt64) u) ∧ (¬ ((gB u 0) (x3).toNatClampNeg) = c1 → l_X3_wordOf_N_2 Q c1 K n (x3 + (1 : Int32)) u))))
def wp_X3_wordOf_N (p0 : Int64) (u : St) (Q : Int64 → St → Prop) : Prop := (∃ k2 : Nat, l_X3_wordOf_N_2 Q p0 (fun (u1 : St) => (((gI u1 2) < (150 : Int32) → vp_in (gI u1 2) 150 ∧ Q (((1099511627776 : Int64) + (((gI u1 2) + (1 : Int32))).toInt64) - (1 : Int64)) (sI (sB u1 0 (vp_updL (gB u1 0) ((gI u1 2)).toNatClampNeg p0)) 2 ((gI u1 2) + (1 : Int32)))) ∧ (¬ (gI u1 2) < (150 : Int32) → Q (1099511627776 : Int64) (sI u1 3 (1 : Int32))))) k2 (0 : Int32) u)
abbrev rm_X3_wordOf_N : Room := { frames := 0, cells := 0, slots := 0, locals := 0 }
set_option maxHeartbeats 4000000 in
set_option maxRecDepth 100000 in
theorem t_X3_wordOf_N (l : Launch) (D : va_G) (G : Gd) (p0 : Int64) (u : St) (Q : Int64 → St → Prop) (h : wp_X3_wordOf_N p0 u Q) : MNl l D G yX3_wordOf cX3_wordOf 4 (some .long) rm_X3_wordOf_N [.ref (G.1 0), .long p0] u Q := by
  refine startN_l (by decide) ?_
  intro p e s m args below meth c E hr hlk hml hP hD hS hA
  have hx := E.1
  have hb := E.2.1
  have hown := E.2.2.1
  have hW := E.2.2.2.1
  have hl := lv_entry ([.ref (G.1 0), .long p0]) (n := 4) (Nat.le_of_ble_eq_true rfl)
  rw [lg_entry_eq]
  generalize (lg_sl ([.ref (G.1 0), .long p0]) ++ List.replicate (4 - (lg_sl ([.ref (G.1 0), .long p0])).length) Slot.unset).toArray = ls at hl ⊢
  have hl : lv_has ls 4 [(0, .ref (G.1 0)), (1, .long p0)] := hl
  have L_2 : ∀ (c1 : Int64) (K : St → Prop), (∀  (u : St) (H : Heap) (locs : List Loc) (ls : Array Slot), K  u → va_P D vwCl (wN G u) H → va_D (AN G s.heap.size) (wN G u) → va_S (AN G s.heap.size) s.heap H locs → lv_has ls 4 [(0, .ref (G.1 0)), (1, .long c1)] → W p l e rm_X3_wordOf_N s m args below meth c H locs 0 0 (MQ below (va_Ql Q (BN D G s.heap.size) (AN G s.heap.size)) args s 0 0 (AN G s.heap.size)) (F0 m 34 ls [])) → ∀ (n : Nat) (x3 : Int32) (u : St) (H : Heap) (locs : List Loc) (ls : Array Slot), l_X3_wordOf_N_2 Q c1 K n x3 u → va_P D vwCl (wN G u) H → va_D (AN G s.heap.size) (wN G u) → va_S (AN G s.heap.size) s.heap H locs → lv_has ls 4 [(0, .ref (G.1 0)), (1, .long c1), (3, .int x3)] → W p l e rm_X3_wordOf_N s m args below meth c H locs 0 0 (MQ below (va_Ql Q (BN D G s.heap.size) (AN G s.heap.size)) args s 0 0 (AN G s.heap.size)) (F0 m 2 ls []) := by
    intro c1 K hK n
    induction n with
    | zero => intro x3 u H locs ls h; exact False.elim h
    | succ n ih =>
      intro x3 u H locs ls h hP hD hS hl
      unfold l_X3_wordOf_N_2 at h
      refine lv_iload_n hx hb dX3_wordOf_2 rfl (lv_at hl 2 rfl) ?_
      refine lv_aload_n hx hb dX3_wordOf_3 rfl (lv_at hl 0 rfl) ?_
      refine gN_2 E hP kfX3_18 (v := (gI u 2)) rfl dX3_wordOf_4 ?_
      refine lv_icmp_ge (tgt := 34) hx hb dX3_wordOf_7 (by decide) (fun hc => ?_) (fun hc => ?_)
      · have h := h.1 hc
        exact hK u _ _ _ h hP hD hS (lv_sub hl [0, 1] rfl)
      · have h := h.2 hc
        refine lv_aload_n hx hb dX3_wordOf_10 rfl (lv_at hl 0 rfl) ?_
        refine gN_0 E hP kfX3_9 dX3_wordOf_11 ?_
        refine lv_iload_n hx hb dX3_wordOf_14 rfl (lv_at hl 2 rfl) ?_
        obtain ⟨h9, h⟩ := h
        refine xN_0 E hP h9 (v := ((gB u 0) (x3).toNatClampNeg)) rfl dX3_wordOf_15 ?_
        refine lv_lload_n hx hb dX3_wordOf_16 rfl (lv_at hl 1 rfl) ?_
        refine lq_ne (tgt := 28) hx hb dX3_wordOf_17 dX3_wordOf_18 (by decide) (fun hc => ?_) (fun hc => ?_)
        · have h := h.2 hc
          refine lv_iinc (v := (x3 + (1 : Int32))) (lv' := [(3, .int (x3 + (1 : Int32))), (0, .ref (G.1 0)), (1, .long c1)]) hx hb dX3_wordOf_28 hl (k := 2) rfl rfl (by decide) rfl (fun ls hl => ?_)
          refine lv_goto (tgt := 2) hx hb dX3_wordOf_31 (by decide) ?_
          exact ih (x3 + (1 : Int32)) u _ _ _ h hP hD hS (lv_sub hl [1, 2, 0] rfl)
        · have h := h.1 hc
          refine lv_ldc2 (v := (1099511627776 : Int64)) hx hb hown (hW _ kcX3_50) dX3_wordOf_21 ?_
          refine lv_iload_n hx hb dX3_wordOf_24 rfl (lv_at hl 2 rfl) ?_
          refine lv_i2l (v := (x3).toInt64) hx hb dX3_wordOf_25 rfl ?_
          refine lv_ladd hx hb dX3_wordOf_26 ?_
          exact retN_l E hr hlk hP hD hS h dX3_wordOf_27
  unfold wp_X3_wordOf_N at h
  refine lv_iconst (v := (0 : Int32)) hx hb dX3_wordOf_0 (by decide) ?_
  refine lv_istore_n (lv' := [(3, .int (0 : Int32)), (0, .ref (G.1 0)), (1, .long p0)]) hx hb dX3_wordOf_1 rfl hl (by decide) rfl (fun ls hl => ?_)
  obtain ⟨n, h⟩ := h
  refine L_2 p0 _ (fun u1 H locs ls h hP hD hS hl => ?_) n (0 : Int32) u _ _ _ h hP hD hS (lv_sub hl [1, 2, 0] rfl)
  refine lv_aload_n hx hb dX3_wordOf_34 rfl (lv_at hl 0 rfl) ?_
  refine gN_2 E hP kfX3_18 (v := (gI u1 2)) rfl dX3_wordOf_35 ?_
  refine lv_sipush (v := (150 : Int32)) hx hb dX3_wordOf_38 (by decide) ?_
  refine lv_icmp_lt (tgt := 53) hx hb dX3_wordOf_41 (by decide) (fun hc => ?_) (fun hc => ?_)
  · have h := h.1 hc
    refine lv_aload_n hx hb dX3_wordOf_53 rfl (lv_at hl 0 rfl) ?_
    refine gN_0 E hP kfX3_9 dX3_wordOf_54 ?_
    refine lv_aload_n hx hb dX3_wordOf_57 rfl (lv_at hl 0 rfl) ?_
    refine gN_2 E hP kfX3_18 (v := (gI u1 2)) rfl dX3_wordOf_58 ?_
    refine lv_lload_n hx hb dX3_wordOf_61 rfl (lv_at hl 1 rfl) ?_
    obtain ⟨h9, h⟩ := h
    refine yN_0 E hP hD hS h9 (f := (gB u1 0)) rfl dX3_wordOf_62 (fun H locs hP hD hS => ?_)
    refine lv_aload_n hx hb dX3_wordOf_63 rfl (lv_at hl 0 rfl) ?_
    refine lv_dup hx hb dX3_wordOf_64 rfl ?_
    refine gN_2 E hP kfX3_18 (v := (gI u1 2)) rfl dX3_wordOf_65 ?_
    refine lv_iconst (v := (1 : Int32)) hx hb dX3_wordOf_68 (by decide) ?_
    refine lv_iadd hx hb dX3_wordOf_69 ?_
    refine pN_2 E hP hD hS kfX3_18 dX3_wordOf_70 (fun H locs hP hD hS => ?_)
    refine lv_ldc2 (v := (1099511627776 : Int64)) hx hb hown (hW _ kcX3_50) dX3_wordOf_73 ?_
    refine lv_aload_n hx hb dX3_wordOf_76 rfl (lv_at hl 0 rfl) ?_
    refine gN_2 E hP kfX3_18 (v := ((gI u1 2) + (1 : Int32))) rfl dX3_wordOf_77 ?_
    refine lv_i2l (v := (((gI u1 2) + (1 : Int32))).toInt64) hx hb dX3_wordOf_80 rfl ?_
    refine lv_ladd hx hb dX3_wordOf_81 ?_
    refine lv_lconst (v := (1 : Int64)) hx hb dX3_wordOf_82 (by decide) ?_
    refine lv_lsub hx hb dX3_wordOf_83 ?_
    exact retN_l E hr hlk hP hD hS h dX3_wordOf_84
  · have h := h.2 hc
    refine lv_aload_n hx hb dX3_wordOf_44 rfl (lv_at hl 0 rfl) ?_
    refine lv_iconst (v := (1 : Int32)) hx hb dX3_wordOf_45 (by decide) ?_
    refine pN_3 E hP hD hS kfX3_22 vz_1 dX3_wordOf_46 (fun H locs hP hD hS => ?_)
    refine lv_ldc2 (v := (1099511627776 : Int64)) hx hb hown (hW _ kcX3_50) dX3_wordOf_49 ?_
    exact retN_l E hr hlk hP hD hS h dX3_wordOf_52
