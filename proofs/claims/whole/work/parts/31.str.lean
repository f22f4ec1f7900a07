theorem dJ0_length_8abf5_0 : decode cJ0_length_8abf5 0 = .ok (.aload_n 0, 1) := by decide +kernel
theorem dJ0_length_8abf5_1 : decode cJ0_length_8abf5 1 = .ok (.getfield 9, 3) := by decide +kernel
theorem dJ0_length_8abf5_4 : decode cJ0_length_8abf5 4 = .ok (.arraylength, 1) := by decide +kernel
theorem dJ0_length_8abf5_5 : decode cJ0_length_8abf5 5 = .ok (.aload_n 0, 1) := by decide +kernel
theorem dJ0_length_8abf5_6 : decode cJ0_length_8abf5 6 = .ok (.invokevirtual 335, 3) := by decide +kernel
theorem dJ0_length_8abf5_9 : decode cJ0_length_8abf5 9 = .ok (.ishr, 1) := by decide +kernel
theorem dJ0_length_8abf5_10 : decode cJ0_length_8abf5 10 = .ok (.ireturn, 1) := by decide +kernel
theorem dJ0_charAt_5068e_0 : decode cJ0_charAt_5068e 0 = .ok (.aload_n 0, 1) := by decide +kernel
theorem dJ0_charAt_5068e_1 : decode cJ0_charAt_5068e 1 = .ok (.invokevirtual 492, 3) := by decide +kernel
theorem dJ0_charAt_5068e_4 : decode cJ0_charAt_5068e 4 = .ok (.ifCond .eq 12, 3) := by decide +kernel
theorem dJ0_charAt_5068e_7 : decode cJ0_charAt_5068e 7 = .ok (.aload_n 0, 1) := by decide +kernel
theorem dJ0_charAt_5068e_8 : decode cJ0_charAt_5068e 8 = .ok (.getfield 9, 3) := by decide +kernel
theorem dJ0_charAt_5068e_11 : decode cJ0_charAt_5068e 11 = .ok (.iload_n 1, 1) := by decide +kernel
theorem dJ0_charAt_5068e_12 : decode cJ0_charAt_5068e 12 = .ok (.invokestatic 495, 3) := by decide +kernel
theorem dJ0_charAt_5068e_15 : decode cJ0_charAt_5068e 15 = .ok (.ireturn, 1) := by decide +kernel
theorem dJ0_charAt_5068e_16 : decode cJ0_charAt_5068e 16 = .ok (.aload_n 0, 1) := by decide +kernel
theorem dJ0_charAt_5068e_17 : decode cJ0_charAt_5068e 17 = .ok (.getfield 9, 3) := by decide +kernel
theorem dJ0_charAt_5068e_20 : decode cJ0_charAt_5068e 20 = .ok (.iload_n 1, 1) := by decide +kernel
theorem dJ0_charAt_5068e_21 : decode cJ0_charAt_5068e 21 = .ok (.invokestatic 498, 3) := by decide +kernel
theorem dJ0_charAt_5068e_24 : decode cJ0_charAt_5068e 24 = .ok (.ireturn, 1) := by decide +kernel
theorem dJ0_coder_7d493_0 : decode cJ0_coder_7d493 0 = .ok (.getstatic 38, 3) := by decide +kernel
theorem dJ0_coder_7d493_3 : decode cJ0_coder_7d493 3 = .ok (.ifCond .eq 10, 3) := by decide +kernel
theorem dJ0_coder_7d493_6 : decode cJ0_coder_7d493 6 = .ok (.aload_n 0, 1) := by decide +kernel
theorem dJ0_coder_7d493_7 : decode cJ0_coder_7d493 7 = .ok (.getfield 15, 3) := by decide +kernel
theorem dJ0_coder_7d493_10 : decode cJ0_coder_7d493 10 = .ok (.goto 4, 3) := by decide +kernel
theorem dJ0_coder_7d493_13 : decode cJ0_coder_7d493 13 = .ok (.iconst 1, 1) := by decide +kernel
theorem dJ0_coder_7d493_14 : decode cJ0_coder_7d493 14 = .ok (.ireturn, 1) := by decide +kernel
theorem dJ0_isLatin1_aae02_0 : decode cJ0_isLatin1_aae02 0 = .ok (.getstatic 38, 3) := by decide +kernel
theorem dJ0_isLatin1_aae02_3 : decode cJ0_isLatin1_aae02 3 = .ok (.ifCond .eq 14, 3) := by decide +kernel
theorem dJ0_isLatin1_aae02_6 : decode cJ0_isLatin1_aae02 6 = .ok (.aload_n 0, 1) := by decide +kernel
theorem dJ0_isLatin1_aae02_7 : decode cJ0_isLatin1_aae02 7 = .ok (.getfield 15, 3) := by decide +kernel
theorem dJ0_isLatin1_aae02_10 : decode cJ0_isLatin1_aae02 10 = .ok (.ifCond .ne 7, 3) := by decide +kernel
theorem dJ0_isLatin1_aae02_13 : decode cJ0_isLatin1_aae02 13 = .ok (.iconst 1, 1) := by decide +kernel
theorem dJ0_isLatin1_aae02_14 : decode cJ0_isLatin1_aae02 14 = .ok (.goto 4, 3) := by decide +kernel
theorem dJ0_isLatin1_aae02_17 : decode cJ0_isLatin1_aae02 17 = .ok (.iconst 0, 1) := by decide +kernel
theorem dJ0_isLatin1_aae02_18 : decode cJ0_isLatin1_aae02 18 = .ok (.ireturn, 1) := by decide +kernel
theorem dJ0_checkIndex_df160_0 : decode cJ0_checkIndex_df160 0 = .ok (.iload_n 0, 1) := by decide +kernel
theorem dJ0_checkIndex_df160_1 : decode cJ0_checkIndex_df160 1 = .ok (.iload_n 1, 1) := by decide +kernel
theorem dJ0_checkIndex_df160_2 : decode cJ0_checkIndex_df160 2 = .ok (.getstatic 1053, 3) := by decide +kernel
theorem dJ0_checkIndex_df160_5 : decode cJ0_checkIndex_df160 5 = .ok (.invokestatic 1059, 3) := by decide +kernel
theorem dJ0_checkIndex_df160_8 : decode cJ0_checkIndex_df160 8 = .ok (.pop, 1) := by decide +kernel
theorem dJ0_checkIndex_df160_9 : decode cJ0_checkIndex_df160 9 = .ok (.return_, 1) := by decide +kernel
theorem dJ1_charAt_3b067_0 : decode cJ1_charAt_3b067 0 = .ok (.iload_n 1, 1) := by decide +kernel
theorem dJ1_charAt_3b067_1 : decode cJ1_charAt_3b067 1 = .ok (.aload_n 0, 1) := by decide +kernel
theorem dJ1_charAt_3b067_2 : decode cJ1_charAt_3b067 2 = .ok (.arraylength, 1) := by decide +kernel
theorem dJ1_charAt_3b067_3 : decode cJ1_charAt_3b067 3 = .ok (.invokestatic 9, 3) := by decide +kernel
theorem dJ1_charAt_3b067_6 : decode cJ1_charAt_3b067 6 = .ok (.aload_n 0, 1) := by decide +kernel
theorem dJ1_charAt_3b067_7 : decode cJ1_charAt_3b067 7 = .ok (.iload_n 1, 1) := by decide +kernel
theorem dJ1_charAt_3b067_8 : decode cJ1_charAt_3b067 8 = .ok (.baload, 1) := by decide +kernel
theorem dJ1_charAt_3b067_9 : decode cJ1_charAt_3b067 9 = .ok (.sipush 255, 3) := by decide +kernel
theorem dJ1_charAt_3b067_12 : decode cJ1_charAt_3b067 12 = .ok (.iand, 1) := by decide +kernel
theorem dJ1_charAt_3b067_13 : decode cJ1_charAt_3b067 13 = .ok (.i2c, 1) := by decide +kernel
theorem dJ1_charAt_3b067_14 : decode cJ1_charAt_3b067 14 = .ok (.ireturn, 1) := by decide +kernel
theorem dJ3_checkIndex_8e157_0 : decode cJ3_checkIndex_8e157 0 = .ok (.iload_n 0, 1) := by decide +kernel
theorem dJ3_checkIndex_8e157_1 : decode cJ3_checkIndex_8e157 1 = .ok (.ifCond .lt 8, 3) := by decide +kernel
theorem dJ3_checkIndex_8e157_4 : decode cJ3_checkIndex_8e157 4 = .ok (.iload_n 0, 1) := by decide +kernel
theorem dJ3_checkIndex_8e157_5 : decode cJ3_checkIndex_8e157 5 = .ok (.iload_n 1, 1) := by decide +kernel
theorem dJ3_checkIndex_8e157_6 : decode cJ3_checkIndex_8e157 6 = .ok (.if_icmp .lt 10, 3) := by decide +kernel
theorem dJ3_checkIndex_8e157_9 : decode cJ3_checkIndex_8e157 9 = .ok (.aload_n 2, 1) := by decide +kernel
theorem dJ3_checkIndex_8e157_10 : decode cJ3_checkIndex_8e157 10 = .ok (.iload_n 0, 1) := by decide +kernel
theorem dJ3_checkIndex_8e157_11 : decode cJ3_checkIndex_8e157 11 = .ok (.iload_n 1, 1) := by decide +kernel
theorem dJ3_checkIndex_8e157_12 : decode cJ3_checkIndex_8e157 12 = .ok (.invokestatic 95, 3) := by decide +kernel
theorem dJ3_checkIndex_8e157_15 : decode cJ3_checkIndex_8e157 15 = .ok (.athrow, 1) := by decide +kernel
theorem dJ3_checkIndex_8e157_16 : decode cJ3_checkIndex_8e157 16 = .ok (.iload_n 0, 1) := by decide +kernel
theorem dJ3_checkIndex_8e157_17 : decode cJ3_checkIndex_8e157 17 = .ok (.ireturn, 1) := by decide +kernel
theorem kq_fCS : Cond.fieldLink RJ0 38 "java/lang/String" "COMPACT_STRINGS" "Z" ∈ WS := WS_of (by decide +kernel) (by decide +kernel)
theorem kq_fVal : Cond.fieldLink RJ0 9 "java/lang/String" "value" "[B" ∈ WS := WS_of (by decide +kernel) (by decide +kernel)
theorem kq_fCod : Cond.fieldLink RJ0 15 "java/lang/String" "coder" "B" ∈ WS := WS_of (by decide +kernel) (by decide +kernel)
theorem kq_fSI : Cond.fieldLink RJ0 1053 "jdk/internal/util/Preconditions" "SIOOBE_FORMATTER" "Ljava/util/function/BiFunction;" ∈ WS := WS_of (by decide +kernel) (by decide +kernel)
theorem kq_mCod : Cond.methodLink RJ0 335 yJ0_coder_7d493 ∈ WS := WS_of (by decide +kernel) (by decide +kernel)
theorem kq_mLat : Cond.methodLink RJ0 492 yJ0_isLatin1_aae02 ∈ WS := WS_of (by decide +kernel) (by decide +kernel)
theorem kq_mL1 : Cond.methodLink RJ0 495 yJ1_charAt_3b067 ∈ WS := WS_of (by decide +kernel) (by decide +kernel)
theorem kq_mCI : Cond.methodLink RJ1 9 yJ0_checkIndex_df160 ∈ WS := WS_of (by decide +kernel) (by decide +kernel)
theorem kq_mPre : Cond.methodLink RJ0 1059 yJ3_checkIndex_8e157 ∈ WS := WS_of (by decide +kernel) (by decide +kernel)
theorem kq_zS : Cond.initialized RJ0 ∈ WS := WS_of (by decide +kernel) (by decide +kernel)
theorem kq_zL : Cond.initialized RJ1 ∈ WS := WS_of (by decide +kernel) (by decide +kernel)
theorem kq_zP : Cond.initialized RJ3 ∈ WS := WS_of (by decide +kernel) (by decide +kernel)
theorem kq_c_yJ0_length_8abf5 : Cond.code yJ0_length_8abf5 cJ0_length_8abf5 1 (some .int) ∈ WS := WS_of (by decide +kernel) (by decide +kernel)
theorem kq_i_yJ0_length_8abf5 : Cond.instanceMethod yJ0_length_8abf5 ∈ WS := WS_of (by decide +kernel) (by decide +kernel)
theorem kq_v_yJ0_length_8abf5 : Cond.selects RJ0 yJ0_length_8abf5 yJ0_length_8abf5 ∈ WS := WS_of (by decide +kernel) (by decide +kernel)
theorem kq_c_yJ0_charAt_5068e : Cond.code yJ0_charAt_5068e cJ0_charAt_5068e 2 (some .char) ∈ WS := WS_of (by decide +kernel) (by decide +kernel)
theorem kq_i_yJ0_charAt_5068e : Cond.instanceMethod yJ0_charAt_5068e ∈ WS := WS_of (by decide +kernel) (by decide +kernel)
theorem kq_v_yJ0_charAt_5068e : Cond.selects RJ0 yJ0_charAt_5068e yJ0_charAt_5068e ∈ WS := WS_of (by decide +kernel) (by decide +kernel)
theorem kq_c_yJ0_coder_7d493 : Cond.code yJ0_coder_7d493 cJ0_coder_7d493 1 (some .byte) ∈ WS := WS_of (by decide +kernel) (by decide +kernel)
theorem kq_i_yJ0_coder_7d493 : Cond.instanceMethod yJ0_coder_7d493 ∈ WS := WS_of (by decide +kernel) (by decide +kernel)
theorem kq_v_yJ0_coder_7d493 : Cond.selects RJ0 yJ0_coder_7d493 yJ0_coder_7d493 ∈ WS := WS_of (by decide +kernel) (by decide +kernel)
theorem kq_c_yJ0_isLatin1_aae02 : Cond.code yJ0_isLatin1_aae02 cJ0_isLatin1_aae02 1 (some .boolean) ∈ WS := WS_of (by decide +kernel) (by decide +kernel)
theorem kq_i_yJ0_isLatin1_aae02 : Cond.instanceMethod yJ0_isLatin1_aae02 ∈ WS := WS_of (by decide +kernel) (by decide +kernel)
theorem kq_v_yJ0_isLatin1_aae02 : Cond.selects RJ0 yJ0_isLatin1_aae02 yJ0_isLatin1_aae02 ∈ WS := WS_of (by decide +kernel) (by decide +kernel)
theorem kq_c_yJ0_checkIndex_df160 : Cond.code yJ0_checkIndex_df160 cJ0_checkIndex_df160 2 none ∈ WS := WS_of (by decide +kernel) (by decide +kernel)
theorem kq_s_yJ0_checkIndex_df160 : Cond.static yJ0_checkIndex_df160 ∈ WS := WS_of (by decide +kernel) (by decide +kernel)
theorem kq_c_yJ1_charAt_3b067 : Cond.code yJ1_charAt_3b067 cJ1_charAt_3b067 2 (some .char) ∈ WS := WS_of (by decide +kernel) (by decide +kernel)
theorem kq_s_yJ1_charAt_3b067 : Cond.static yJ1_charAt_3b067 ∈ WS := WS_of (by decide +kernel) (by decide +kernel)
theorem kq_c_yJ3_checkIndex_8e157 : Cond.code yJ3_checkIndex_8e157 cJ3_checkIndex_8e157 3 (some .int) ∈ WS := WS_of (by decide +kernel) (by decide +kernel)
theorem kq_s_yJ3_checkIndex_8e157 : Cond.static yJ3_checkIndex_8e157 ∈ WS := WS_of (by decide +kernel) (by decide +kernel)
theorem mwyJ0_length_8abf5 : MW RJ0 yJ0_length_8abf5 cJ0_length_8abf5 1 (some .int) 0 := ⟨kq_i_yJ0_length_8abf5, kq_v_yJ0_length_8abf5, kq_zS, kq_c_yJ0_length_8abf5, by decide +kernel⟩
theorem mwyJ0_charAt_5068e : MW RJ0 yJ0_charAt_5068e cJ0_charAt_5068e 2 (some .char) 1 := ⟨kq_i_yJ0_charAt_5068e, kq_v_yJ0_charAt_5068e, kq_zS, kq_c_yJ0_charAt_5068e, by decide +kernel⟩
theorem mwyJ0_coder_7d493 : MW RJ0 yJ0_coder_7d493 cJ0_coder_7d493 1 (some .byte) 0 := ⟨kq_i_yJ0_coder_7d493, kq_v_yJ0_coder_7d493, kq_zS, kq_c_yJ0_coder_7d493, by decide +kernel⟩
theorem mwyJ0_isLatin1_aae02 : MW RJ0 yJ0_isLatin1_aae02 cJ0_isLatin1_aae02 1 (some .boolean) 0 := ⟨kq_i_yJ0_isLatin1_aae02, kq_v_yJ0_isLatin1_aae02, kq_zS, kq_c_yJ0_isLatin1_aae02, by decide +kernel⟩
theorem mwyJ1_charAt_3b067 : MS yJ1_charAt_3b067 cJ1_charAt_3b067 2 (some .char) 2 := ⟨kq_s_yJ1_charAt_3b067, kq_zL, kq_c_yJ1_charAt_3b067, by decide +kernel⟩
theorem mwyJ0_checkIndex_df160 : MS yJ0_checkIndex_df160 cJ0_checkIndex_df160 2 none 2 := ⟨kq_s_yJ0_checkIndex_df160, kq_zS, kq_c_yJ0_checkIndex_df160, by decide +kernel⟩
theorem mwyJ3_checkIndex_8e157 : MS yJ3_checkIndex_8e157 cJ3_checkIndex_8e157 3 (some .int) 3 := ⟨kq_s_yJ3_checkIndex_8e157, kq_zP, kq_c_yJ3_checkIndex_8e157, by decide +kernel⟩
/-- the static that String.checkIndex reads -/
def SZ (A : Nat → Prop) (U : State) (H : Heap) : Prop := va_Zq "jdk/internal/util/Preconditions" "SIOOBE_FORMATTER" "Ljava/util/function/BiFunction;" A U H
/-- a String constant of Latin letters: its cell a, its bytes' cell v -/
def SF (a v n : Nat) (f : Nat → Int32) (A : Nat → Prop) (U : State) (H : Heap) : Prop := va_O "java/lang/String" a A U H ∧ va_OF "java/lang/String" "coder" "B" (.int 0) a A U H ∧ va_OF "java/lang/String" "value" "[B" (.ref v) a A U H ∧ va_T .byte v n (fun j => .int (f j)) A U H ∧ va_Z "java/lang/String" "COMPACT_STRINGS" "Z" (.int 1) A U H ∧ SZ A U H
theorem SF.moved {a v n : Nat} {f : Nat → Int32} {A : Nat → Prop} {u U : State} {H : Heap} (hvm : u.vm.Alike U.vm) (h : SF a v n f A u H) : SF a v n f A U H := ⟨va_O.moved hvm h.1, va_OF.moved hvm h.2.1, va_OF.moved hvm h.2.2.1, va_T.moved hvm h.2.2.2.1, va_Z.moved hvm h.2.2.2.2.1, va_Zq.moved hvm h.2.2.2.2.2⟩
theorem SF.kept {a v n : Nat} {f : Nat → Int32} {A : Nat → Prop} {U : State} {H H1 : Heap} (h : SF a v n f A U H) (hq : ∀ a : Nat, a < H.size → ¬ A a → H1[a]? = H[a]?) : SF a v n f A U H1 := ⟨h.1.kept hq, h.2.1.kept hq, h.2.2.1.kept hq, h.2.2.2.1.kept hq, h.2.2.2.2.1.kept hq, va_Zq.kept h.2.2.2.2.2 hq⟩
theorem SF.narrow {a v n : Nat} {f : Nat → Int32} {A B : Nat → Prop} {U : State} {H : Heap} (h : SF a v n f A U H) (hAB : ∀ q, B q → A q) : SF a v n f B U H := ⟨h.1.narrow hAB, h.2.1.narrow hAB, h.2.2.1.narrow hAB, h.2.2.2.1.narrow hAB, h.2.2.2.2.1.narrow hAB, va_Zq.narrow h.2.2.2.2.2 hAB⟩
abbrev rj0 : Room := { frames := 0, cells := 0, slots := 0, locals := 0 }
abbrev rj1 : Room := { frames := 1, cells := 0, slots := 0, locals := 22 }
abbrev rj2 : Room := { frames := 2, cells := 0, slots := 0, locals := 43 }
abbrev rj3 : Room := { frames := 3, cells := 0, slots := 0, locals := 64 }
set_option maxHeartbeats 4000000 in
theorem tj_pre (l : Launch) (i n : Int32) (o : Option Nat) (h0 : ¬ i < 0) (h1 : i < n) : M0i l yJ3_checkIndex_8e157 cJ3_checkIndex_8e157 3 (some .int) rj0 [.int i, .int n, va_rf o] (fun r => r = i) := by
  rcases o with _ | t
  · refine start0_i (by decide) ?_
    intro p e s m args below meth c hx hb hown hW hr hlk hml hS
    have hl := lv_entry ([.int i, .int n, va_rf none]) (n := 3) (Nat.le_of_ble_eq_true rfl)
    rw [lg_entry_eq]
    generalize (lg_sl ([.int i, .int n, va_rf none]) ++ List.replicate (3 - (lg_sl ([.int i, .int n, va_rf none])).length) Slot.unset).toArray = ls at hl ⊢
    have hl : lv_has ls 3 [(0, .int i), (1, .int n), (2, va_rf none)] := hl
    refine lv_iload_n hx hb dJ3_checkIndex_8e157_0 rfl (lv_at hl 0 rfl) ?_
    refine lv_if_lt (tgt := 9) hx hb dJ3_checkIndex_8e157_1 (by decide) (fun hc => absurd hc h0) (fun hc => ?_)
    refine lv_iload_n hx hb dJ3_checkIndex_8e157_4 rfl (lv_at hl 0 rfl) ?_
    refine lv_iload_n hx hb dJ3_checkIndex_8e157_5 rfl (lv_at hl 1 rfl) ?_
    refine lv_icmp_lt (tgt := 16) hx hb dJ3_checkIndex_8e157_6 (by decide) (fun hc => ?_) (fun hc => absurd h1 hc)
    refine lv_iload_n hx hb dJ3_checkIndex_8e157_16 rfl (lv_at hl 0 rfl) ?_
    exact ret0_i hx hb hr hlk hS rfl dJ3_checkIndex_8e157_17
  · refine start0_i (by decide) ?_
    intro p e s m args below meth c hx hb hown hW hr hlk hml hS
    have hl := lv_entry ([.int i, .int n, va_rf (some t)]) (n := 3) (Nat.le_of_ble_eq_true rfl)
    rw [lg_entry_eq]
    generalize (lg_sl ([.int i, .int n, va_rf (some t)]) ++ List.replicate (3 - (lg_sl ([.int i, .int n, va_rf (some t)])).length) Slot.unset).toArray = ls at hl ⊢
    have hl : lv_has ls 3 [(0, .int i), (1, .int n), (2, va_rf (some t))] := hl
    refine lv_iload_n hx hb dJ3_checkIndex_8e157_0 rfl (lv_at hl 0 rfl) ?_
    refine lv_if_lt (tgt := 9) hx hb dJ3_checkIndex_8e157_1 (by decide) (fun hc => absurd hc h0) (fun hc => ?_)
    refine lv_iload_n hx hb dJ3_checkIndex_8e157_4 rfl (lv_at hl 0 rfl) ?_
    refine lv_iload_n hx hb dJ3_checkIndex_8e157_5 rfl (lv_at hl 1 rfl) ?_
    refine lv_icmp_lt (tgt := 16) hx hb dJ3_checkIndex_8e157_6 (by decide) (fun hc => ?_) (fun hc => absurd h1 hc)
    refine lv_iload_n hx hb dJ3_checkIndex_8e157_16 rfl (lv_at hl 0 rfl) ?_
    exact ret0_i hx hb hr hlk hS rfl dJ3_checkIndex_8e157_17

set_option maxHeartbeats 4000000 in
theorem tj_ci (l : Launch) (i n : Int32) (h0 : ¬ i < 0) (h1 : i < n) (sz : Nat) : Met l yJ0_checkIndex_df160 (Cond.code yJ0_checkIndex_df160 cJ0_checkIndex_df160 2 none :: WS) rj1 (va_Pc [.int i, .int n] (fun U => U.heap.size = sz ∧ SZ (fun q => sz ≤ q) U U.heap)) (va_Qv (fun (_ : Unit) => True) (fun _ _ => True) (fun q => sz ≤ q)) 0 0 (fun q => sz ≤ q) := by
  refine Met.ofW (cc := cJ0_checkIndex_df160) (maxL := 2) (ret := none) (by decide) rfl ?_
  intro p e s m args below meth c s₁ B hml hv
  obtain ⟨rfl, hsz, hF⟩ := hv
  subst hsz
  have hx := B.exec
  have hb := B.bytes
  have hr := B.returns
  have hlk := B.notSynchronized
  have hW : ∀ w ∈ WS, w.before _ s = true := fun w h => atoms_spec (ws := Cond.code yJ0_checkIndex_df160 cJ0_checkIndex_df160 2 none :: WS) B.pre w (List.mem_cons_of_mem _ h)
  have hown : s.vm.findClass yJ0_checkIndex_df160.cls = some m.cls := findClass_of_methodNamed B.named
  have hS : va_S (fun q => s.heap.size ≤ q) s.heap s.heap [] := va_S.rf
  have hA : ∀ q, s.heap.size ≤ q → (fun q => s.heap.size ≤ q) q := fun _ h => h
  have hP : va_P ((fun _ => 0), (fun _ _ => 0)) vwCl [] s.heap := fun k q h => by simp at h
  have hl := lv_entry ([.int i, .int n]) (n := 2) (Nat.le_of_ble_eq_true rfl)
  rw [lg_entry_eq]
  generalize (lg_sl ([.int i, .int n]) ++ List.replicate (2 - (lg_sl ([.int i, .int n])).length) Slot.unset).toArray = ls at hl ⊢
  have hl : lv_has ls 2 [(0, .int i), (1, .int n)] := hl
  refine lv_iload_n hx hb dJ0_checkIndex_df160_0 rfl (lv_at hl 0 rfl) ?_
  refine lv_iload_n hx hb dJ0_checkIndex_df160_1 rfl (lv_at hl 1 rfl) ?_
  have key : ∀ o : Option Nat, va_Z "jdk/internal/util/Preconditions" "SIOOBE_FORMATTER" "Ljava/util/function/BiFunction;" (va_rf o) (fun q => s.heap.size ≤ q) s s.heap → W p l e rj1 s m ([.int i, .int n] : List Value).toArray below meth c s.heap [] 0 0 (MQ below (va_Qv (fun (_ : Unit) => True) (fun _ _ => True) (fun q => s.heap.size ≤ q)) ([.int i, .int n] : List Value).toArray s 0 0 (fun q => s.heap.size ≤ q)) (F0 m 2 ls [.int n, .int i]) := by
    intro o hZ
    refine va_gets hx hb hZ hS hown (hW _ kq_fSI) (fun _ h => h) dJ0_checkIndex_df160_2 ?_
    refine c0_i (As := [.int i, .int n, va_rf o]) (rest := []) hx hb hml hown hW hP hS hA (tj_pre l i n o h0 h1) kq_mPre mwyJ3_checkIndex_8e157 ⟨⟨rfl, rfl⟩, Nat.le_of_ble_eq_true rfl, Nat.le_of_ble_eq_true rfl⟩ rfl hl.1 rfl (Nat.le_of_ble_eq_true rfl) dJ0_checkIndex_df160_5 ⟨Nat.zero_le _, Nat.zero_le _⟩ (fun r H locs hP hS h => ?_)
    refine lv_pop hx hb dJ0_checkIndex_df160_8 rfl ?_
    exact W.vret hx hb hr (fun t ht hW => ⟨⟨(), rfl, trivial, trivial⟩, hS.F ht⟩) hS.2.2 dJ0_checkIndex_df160_9 hlk
  rcases hF with hZ | ⟨t, hZ⟩
  · exact key none hZ
  · exact key (some t) hZ
set_option maxHeartbeats 4000000 in
theorem tj_l1 (l : Launch) (v n : Nat) (f : Nat → Int32) (i : Int32) (hin : vp_in i n) (hn : n < 2 ^ 31) (sz : Nat) : Met l yJ1_charAt_3b067 (Cond.code yJ1_charAt_3b067 cJ1_charAt_3b067 2 (some .char) :: WS) rj2 (va_Pc [.ref v, .int i] (fun U => U.heap.size = sz ∧ (va_T .byte v n (fun j => .int (f j)) (fun q => sz ≤ q) U U.heap ∧ SZ (fun q => sz ≤ q) U U.heap))) (va_Qi (fun r (_ : Unit) => r = ((f i.toNatClampNeg &&& 255).toUInt32 % 65536).toInt32) (fun _ _ => True) (fun q => sz ≤ q)) 0 0 (fun q => sz ≤ q) := by
  refine Met.ofW (cc := cJ1_charAt_3b067) (maxL := 2) (ret := (some .char)) (by decide) rfl ?_
  intro p e s m args below meth c s₁ B hml hv
  obtain ⟨rfl, hsz, hF⟩ := hv
  subst hsz
  have hx := B.exec
  have hb := B.bytes
  have hr := B.returns
  have hlk := B.notSynchronized
  have hW : ∀ w ∈ WS, w.before _ s = true := fun w h => atoms_spec (ws := Cond.code yJ1_charAt_3b067 cJ1_charAt_3b067 2 (some .char) :: WS) B.pre w (List.mem_cons_of_mem _ h)
  have hown : s.vm.findClass yJ1_charAt_3b067.cls = some m.cls := findClass_of_methodNamed B.named
  have hS : va_S (fun q => s.heap.size ≤ q) s.heap s.heap [] := va_S.rf
  have hA : ∀ q, s.heap.size ≤ q → (fun q => s.heap.size ≤ q) q := fun _ h => h
  have hP : va_P ((fun _ => 0), (fun _ _ => 0)) vwCl [] s.heap := fun k q h => by simp at h
  have hl := lv_entry ([.ref v, .int i]) (n := 2) (Nat.le_of_ble_eq_true rfl)
  rw [lg_entry_eq]
  generalize (lg_sl ([.ref v, .int i]) ++ List.replicate (2 - (lg_sl ([.ref v, .int i])).length) Slot.unset).toArray = ls at hl ⊢
  have hl : lv_has ls 2 [(0, .ref v), (1, .int i)] := hl
  obtain ⟨hT, hZ⟩ := hF
  refine lv_iload_n hx hb dJ1_charAt_3b067_0 rfl (lv_at hl 1 rfl) ?_
  refine lv_aload_n hx hb dJ1_charAt_3b067_1 rfl (lv_at hl 0 rfl) ?_
  refine va_tlen hx hb hT hS rfl dJ1_charAt_3b067_2 ?_
  obtain ⟨j, hj, rfl⟩ := vp_in_of hin hn
  have cw := va_cwS (R := rj2) (s := s) (own := RJ1) (index := 9) (ret := none) (rm := rj1) (mc := 0) (ms := 0) 2 hW (gd_S kq_mCI mwyJ0_checkIndex_df160) rfl rfl rfl mwyJ0_checkIndex_df160.2.2.2 ⟨Nat.le_of_ble_eq_true rfl, Nat.le_of_ble_eq_true rfl⟩
  refine va_callv (A0 := fun q => s.heap.size ≤ q) (A1 := fun q => s.heap.size ≤ q) (free := fun q => s.heap.size ≤ q) (va_runS (Ts := WS) (As := [.int (nI j), .int (Int32.ofNat n)]) (rest := []) (mc := 0) (ms := 0) ⟨hx, hb, hml, hown, hW⟩ (tj_ci l (nI j) (Int32.ofNat n) (nI_pos (by omega)) (nI_lt hj hn) s.heap.size) cw ⟨fun a U g mk q => ⟨q.1, q.2.1, va_Zq.moved (u := U) (U := U.calling g mk a) (Vm.Alike.refl U.vm) q.2.2⟩, fun U hU hW => ⟨rfl, congrArg Array.size hU, by rw [hU]; exact va_Zq.moved hW.alike hZ⟩⟩ rfl rfl hl.1 rfl (lv_room (Nat.le_of_ble_eq_true rfl)) dJ1_charAt_3b067_3 ⟨Nat.zero_le _, Nat.zero_le _⟩) hS (fun q h1 h2 => h2) (fun q h => h) (fun u t H1 locs ht hvm hw hB hz1 hk1 hS => ?_)
  refine lv_aload_n hx hb dJ1_charAt_3b067_6 rfl (lv_at hl 0 rfl) ?_
  refine lv_iload_n hx hb dJ1_charAt_3b067_7 rfl (lv_at hl 1 rfl) ?_
  refine va_tb hx hb hT hS hin rfl dJ1_charAt_3b067_8 ?_
  refine lv_sipush (v := (255 : Int32)) hx hb dJ1_charAt_3b067_9 (by decide) ?_
  refine lv_iand hx hb dJ1_charAt_3b067_12 ?_
  refine lv_i2c hx hb dJ1_charAt_3b067_13 rfl ?_
  exact W.zret hx hb hr (pk_nc _) (fun t ht hW => ⟨⟨_, (), rfl, rfl, trivial⟩, hS.F ht⟩) hS.2.2 dJ1_charAt_3b067_14 hlk
set_option maxHeartbeats 4000000 in
theorem tj_coder (l : Launch) (a v n : Nat) (f : Nat → Int32) (sz : Nat) : Met l yJ0_coder_7d493 (Cond.code yJ0_coder_7d493 cJ0_coder_7d493 1 (some .byte) :: WS) rj0 (va_Pc [.ref a] (fun U => U.heap.size = sz ∧ SF a v n f (fun q => sz ≤ q) U U.heap)) (va_Qi (fun r (_ : Unit) => r = 0) (fun _ _ => True) (fun q => sz ≤ q)) 0 0 (fun q => sz ≤ q) := by
  refine Met.ofW (cc := cJ0_coder_7d493) (maxL := 1) (ret := (some .byte)) (by decide) rfl ?_
  intro p e s m args below meth c s₁ B hml hv
  obtain ⟨rfl, hsz, hF⟩ := hv
  subst hsz
  have hx := B.exec
  have hb := B.bytes
  have hr := B.returns
  have hlk := B.notSynchronized
  have hW : ∀ w ∈ WS, w.before _ s = true := fun w h => atoms_spec (ws := Cond.code yJ0_coder_7d493 cJ0_coder_7d493 1 (some .byte) :: WS) B.pre w (List.mem_cons_of_mem _ h)
  have hown : s.vm.findClass yJ0_coder_7d493.cls = some m.cls := findClass_of_methodNamed B.named
  have hS : va_S (fun q => s.heap.size ≤ q) s.heap s.heap [] := va_S.rf
  have hA : ∀ q, s.heap.size ≤ q → (fun q => s.heap.size ≤ q) q := fun _ h => h
  have hP : va_P ((fun _ => 0), (fun _ _ => 0)) vwCl [] s.heap := fun k q h => by simp at h
  have hl := lv_entry ([.ref a]) (n := 1) (Nat.le_of_ble_eq_true rfl)
  rw [lg_entry_eq]
  generalize (lg_sl ([.ref a]) ++ List.replicate (1 - (lg_sl ([.ref a])).length) Slot.unset).toArray = ls at hl ⊢
  have hl : lv_has ls 1 [(0, .ref a)] := hl
  refine va_gets hx hb hF.2.2.2.2.1 hS hown (hW _ kq_fCS) (fun _ h => h) dJ0_coder_7d493_0 ?_
  refine lv_if_eq (tgt := 13) hx hb dJ0_coder_7d493_3 (by decide) (fun hc => absurd hc (by decide)) (fun hc => ?_)
  refine lv_aload_n hx hb dJ0_coder_7d493_6 rfl (lv_at hl 0 rfl) ?_
  refine vk_getf hx hb hF.2.1 hS hown (hW _ kq_fCod) (fun _ h => h) dJ0_coder_7d493_7 ?_
  refine lv_goto (tgt := 14) hx hb dJ0_coder_7d493_10 (by decide) ?_
  exact W.zret hx hb hr rfl (fun t ht hW => ⟨⟨_, (), rfl, rfl, trivial⟩, hS.F ht⟩) hS.2.2 dJ0_coder_7d493_14 hlk
set_option maxHeartbeats 4000000 in
theorem tj_lat (l : Launch) (a v n : Nat) (f : Nat → Int32) (sz : Nat) : Met l yJ0_isLatin1_aae02 (Cond.code yJ0_isLatin1_aae02 cJ0_isLatin1_aae02 1 (some .boolean) :: WS) rj0 (va_Pc [.ref a] (fun U => U.heap.size = sz ∧ SF a v n f (fun q => sz ≤ q) U U.heap)) (va_Qi (fun r (_ : Unit) => r = 1) (fun _ _ => True) (fun q => sz ≤ q)) 0 0 (fun q => sz ≤ q) := by
  refine Met.ofW (cc := cJ0_isLatin1_aae02) (maxL := 1) (ret := (some .boolean)) (by decide) rfl ?_
  intro p e s m args below meth c s₁ B hml hv
  obtain ⟨rfl, hsz, hF⟩ := hv
  subst hsz
  have hx := B.exec
  have hb := B.bytes
  have hr := B.returns
  have hlk := B.notSynchronized
  have hW : ∀ w ∈ WS, w.before _ s = true := fun w h => atoms_spec (ws := Cond.code yJ0_isLatin1_aae02 cJ0_isLatin1_aae02 1 (some .boolean) :: WS) B.pre w (List.mem_cons_of_mem _ h)
  have hown : s.vm.findClass yJ0_isLatin1_aae02.cls = some m.cls := findClass_of_methodNamed B.named
  have hS : va_S (fun q => s.heap.size ≤ q) s.heap s.heap [] := va_S.rf
  have hA : ∀ q, s.heap.size ≤ q → (fun q => s.heap.size ≤ q) q := fun _ h => h
  have hP : va_P ((fun _ => 0), (fun _ _ => 0)) vwCl [] s.heap := fun k q h => by simp at h
  have hl := lv_entry ([.ref a]) (n := 1) (Nat.le_of_ble_eq_true rfl)
  rw [lg_entry_eq]
  generalize (lg_sl ([.ref a]) ++ List.replicate (1 - (lg_sl ([.ref a])).length) Slot.unset).toArray = ls at hl ⊢
  have hl : lv_has ls 1 [(0, .ref a)] := hl
  refine va_gets hx hb hF.2.2.2.2.1 hS hown (hW _ kq_fCS) (fun _ h => h) dJ0_isLatin1_aae02_0 ?_
  refine lv_if_eq (tgt := 17) hx hb dJ0_isLatin1_aae02_3 (by decide) (fun hc => absurd hc (by decide)) (fun hc => ?_)
  refine lv_aload_n hx hb dJ0_isLatin1_aae02_6 rfl (lv_at hl 0 rfl) ?_
  refine vk_getf hx hb hF.2.1 hS hown (hW _ kq_fCod) (fun _ h => h) dJ0_isLatin1_aae02_7 ?_
  refine lv_if_ne (tgt := 17) hx hb dJ0_isLatin1_aae02_10 (by decide) (fun hc => absurd rfl hc) (fun hc => ?_)
  refine lv_iconst (v := 1) hx hb dJ0_isLatin1_aae02_13 (by decide) ?_
  refine lv_goto (tgt := 18) hx hb dJ0_isLatin1_aae02_14 (by decide) ?_
  exact W.zret hx hb hr rfl (fun t ht hW => ⟨⟨_, (), rfl, rfl, trivial⟩, hS.F ht⟩) hS.2.2 dJ0_isLatin1_aae02_18 hlk
set_option maxHeartbeats 4000000 in
theorem tj_len (l : Launch) (a v n : Nat) (f : Nat → Int32) (hn : n < 2 ^ 31) (sz : Nat) : Met l yJ0_length_8abf5 (Cond.code yJ0_length_8abf5 cJ0_length_8abf5 1 (some .int) :: WS) rj1 (va_Pc [.ref a] (fun U => U.heap.size = sz ∧ SF a v n f (fun q => sz ≤ q) U U.heap)) (va_Qi (fun r (_ : Unit) => r = nI n) (fun _ _ => True) (fun q => sz ≤ q)) 0 0 (fun q => sz ≤ q) := by
  refine Met.ofW (cc := cJ0_length_8abf5) (maxL := 1) (ret := (some .int)) (by decide) rfl ?_
  intro p e s m args below meth c s₁ B hml hv
  obtain ⟨rfl, hsz, hF⟩ := hv
  subst hsz
  have hx := B.exec
  have hb := B.bytes
  have hr := B.returns
  have hlk := B.notSynchronized
  have hW : ∀ w ∈ WS, w.before _ s = true := fun w h => atoms_spec (ws := Cond.code yJ0_length_8abf5 cJ0_length_8abf5 1 (some .int) :: WS) B.pre w (List.mem_cons_of_mem _ h)
  have hown : s.vm.findClass yJ0_length_8abf5.cls = some m.cls := findClass_of_methodNamed B.named
  have hS : va_S (fun q => s.heap.size ≤ q) s.heap s.heap [] := va_S.rf
  have hA : ∀ q, s.heap.size ≤ q → (fun q => s.heap.size ≤ q) q := fun _ h => h
  have hP : va_P ((fun _ => 0), (fun _ _ => 0)) vwCl [] s.heap := fun k q h => by simp at h
  have hl := lv_entry ([.ref a]) (n := 1) (Nat.le_of_ble_eq_true rfl)
  rw [lg_entry_eq]
  generalize (lg_sl ([.ref a]) ++ List.replicate (1 - (lg_sl ([.ref a])).length) Slot.unset).toArray = ls at hl ⊢
  have hl : lv_has ls 1 [(0, .ref a)] := hl
  refine lv_aload_n hx hb dJ0_length_8abf5_0 rfl (lv_at hl 0 rfl) ?_
  refine vk_getf hx hb hF.2.2.1 hS hown (hW _ kq_fVal) (fun _ h => h) dJ0_length_8abf5_1 ?_
  refine va_tlen hx hb hF.2.2.2.1 hS rfl dJ0_length_8abf5_4 ?_
  refine lv_aload_n hx hb dJ0_length_8abf5_5 rfl (lv_at hl 0 rfl) ?_
  have cw := cwV (R := rj1) (s := s) (own := RJ0) (index := 335) (ret := (some .byte)) (rm := rj0) (mc := 0) (ms := 0) 0 hW (gd_V kq_mCod mwyJ0_coder_7d493) rfl rfl rfl mwyJ0_coder_7d493.2.2.2.2 ⟨Nat.le_of_ble_eq_true rfl, Nat.le_of_ble_eq_true rfl⟩
  refine va_calli (A0 := fun q => s.heap.size ≤ q) (A1 := fun q => s.heap.size ≤ q) (free := fun q => s.heap.size ≤ q) (va_runV (Ts := WS) (As := []) (rest := [.int (Int32.ofNat n)]) (mc := 0) (ms := 0) ⟨hx, hb, hml, hown, hW⟩ (tj_coder l a v n f s.heap.size) cw ⟨fun a U g mk q => ⟨q.1, q.2.1, SF.moved (u := U) (U := U.calling g mk a) (Vm.Alike.refl U.vm) q.2.2⟩, (by obtain ⟨cell, h1, h2, h3, -⟩ := hF.1; exact ⟨cell, h1, h2, h3⟩), fun U hU hW => ⟨rfl, congrArg Array.size hU, by rw [hU]; exact SF.moved hW.alike hF⟩⟩ rfl rfl hl.1 rfl (lv_room (Nat.le_of_ble_eq_true rfl)) dJ0_length_8abf5_6 ⟨Nat.zero_le _, Nat.zero_le _⟩) hS (fun q h1 h2 => h2) (fun q h => h) (fun r u t H1 locs ht hvm hw hB hz1 hk1 hS => ?_)
  subst hw
  refine lv_ishr hx hb dJ0_length_8abf5_9 ?_
  exact W.iret hx hb hr (fun t ht hW => ⟨⟨_, (), rfl, sb_shr0 _, trivial⟩, hS.F ht⟩) hS.2.2 dJ0_length_8abf5_10 hlk
set_option maxHeartbeats 4000000 in
theorem tj_chr (l : Launch) (a v n : Nat) (f : Nat → Int32) (i : Int32) (hin : vp_in i n) (hn : n < 2 ^ 31) (sz : Nat) : Met l yJ0_charAt_5068e (Cond.code yJ0_charAt_5068e cJ0_charAt_5068e 2 (some .char) :: WS) rj3 (va_Pc [.ref a, .int i] (fun U => U.heap.size = sz ∧ SF a v n f (fun q => sz ≤ q) U U.heap)) (va_Qi (fun r (_ : Unit) => r = ((f i.toNatClampNeg &&& 255).toUInt32 % 65536).toInt32) (fun _ _ => True) (fun q => sz ≤ q)) 0 0 (fun q => sz ≤ q) := by
  refine Met.ofW (cc := cJ0_charAt_5068e) (maxL := 2) (ret := (some .char)) (by decide) rfl ?_
  intro p e s m args below meth c s₁ B hml hv
  obtain ⟨rfl, hsz, hF⟩ := hv
  subst hsz
  have hx := B.exec
  have hb := B.bytes
  have hr := B.returns
  have hlk := B.notSynchronized
  have hW : ∀ w ∈ WS, w.before _ s = true := fun w h => atoms_spec (ws := Cond.code yJ0_charAt_5068e cJ0_charAt_5068e 2 (some .char) :: WS) B.pre w (List.mem_cons_of_mem _ h)
  have hown : s.vm.findClass yJ0_charAt_5068e.cls = some m.cls := findClass_of_methodNamed B.named
  have hS : va_S (fun q => s.heap.size ≤ q) s.heap s.heap [] := va_S.rf
  have hA : ∀ q, s.heap.size ≤ q → (fun q => s.heap.size ≤ q) q := fun _ h => h
  have hP : va_P ((fun _ => 0), (fun _ _ => 0)) vwCl [] s.heap := fun k q h => by simp at h
  have hl := lv_entry ([.ref a, .int i]) (n := 2) (Nat.le_of_ble_eq_true rfl)
  rw [lg_entry_eq]
  generalize (lg_sl ([.ref a, .int i]) ++ List.replicate (2 - (lg_sl ([.ref a, .int i])).length) Slot.unset).toArray = ls at hl ⊢
  have hl : lv_has ls 2 [(0, .ref a), (1, .int i)] := hl
  refine lv_aload_n hx hb dJ0_charAt_5068e_0 rfl (lv_at hl 0 rfl) ?_
  have cw := cwV (R := rj3) (s := s) (own := RJ0) (index := 492) (ret := (some .boolean)) (rm := rj0) (mc := 0) (ms := 0) 0 hW (gd_V kq_mLat mwyJ0_isLatin1_aae02) rfl rfl rfl mwyJ0_isLatin1_aae02.2.2.2.2 ⟨Nat.le_of_ble_eq_true rfl, Nat.le_of_ble_eq_true rfl⟩
  refine va_calli (A0 := fun q => s.heap.size ≤ q) (A1 := fun q => s.heap.size ≤ q) (free := fun q => s.heap.size ≤ q) (va_runV (Ts := WS) (As := []) (rest := []) (mc := 0) (ms := 0) ⟨hx, hb, hml, hown, hW⟩ (tj_lat l a v n f s.heap.size) cw ⟨fun a U g mk q => ⟨q.1, q.2.1, SF.moved (u := U) (U := U.calling g mk a) (Vm.Alike.refl U.vm) q.2.2⟩, (by obtain ⟨cell, h1, h2, h3, -⟩ := hF.1; exact ⟨cell, h1, h2, h3⟩), fun U hU hW => ⟨rfl, congrArg Array.size hU, by rw [hU]; exact SF.moved hW.alike hF⟩⟩ rfl rfl hl.1 rfl (lv_room (Nat.le_of_ble_eq_true rfl)) dJ0_charAt_5068e_1 ⟨Nat.zero_le _, Nat.zero_le _⟩) hS (fun q h1 h2 => h2) (fun q h => h) (fun r u t H1 locs ht hvm hw hB hz1 hk1 hS => ?_)
  subst hw
  refine lv_if_eq (tgt := 16) hx hb dJ0_charAt_5068e_4 (by decide) (fun hc => absurd hc (by decide)) (fun hc => ?_)
  refine lv_aload_n hx hb dJ0_charAt_5068e_7 rfl (lv_at hl 0 rfl) ?_
  refine vk_getf hx hb hF.2.2.1 hS hown (hW _ kq_fVal) (fun _ h => h) dJ0_charAt_5068e_8 ?_
  refine lv_iload_n hx hb dJ0_charAt_5068e_11 rfl (lv_at hl 1 rfl) ?_
  have hsz : ∀ q, H1.size ≤ q → s.heap.size ≤ q := fun q h => Nat.le_trans hS.1 h
  have hT1 := (hF.2.2.2.1.kept hS.2.1).narrow hsz
  have hZ1 := va_Zq.narrow (va_Zq.kept hF.2.2.2.2.2 hS.2.1) hsz
  have cw := va_cwS (R := rj3) (s := s) (own := RJ0) (index := 495) (ret := some .char) (rm := rj2) (mc := 0) (ms := 0) 2 hW (gd_S kq_mL1 mwyJ1_charAt_3b067) rfl rfl rfl mwyJ1_charAt_3b067.2.2.2 ⟨Nat.le_of_ble_eq_true rfl, Nat.le_of_ble_eq_true rfl⟩
  refine va_calli (A0 := fun q => s.heap.size ≤ q) (A1 := fun q => H1.size ≤ q) (free := fun q => H1.size ≤ q) (va_runS (Ts := WS) (As := [.ref v, .int i]) (rest := []) (mc := 0) (ms := 0) ⟨hx, hb, hml, hown, hW⟩ (tj_l1 l v n f i hin hn H1.size) cw ⟨fun a U g mk q => ⟨q.1, q.2.1, va_T.moved (u := U) (U := U.calling g mk a) (Vm.Alike.refl U.vm) q.2.2.1, va_Zq.moved (u := U) (U := U.calling g mk a) (Vm.Alike.refl U.vm) q.2.2.2⟩, fun U hU hW => ⟨rfl, congrArg Array.size hU, by rw [hU]; exact va_T.moved hW.alike hT1, by rw [hU]; exact va_Zq.moved hW.alike hZ1⟩⟩ rfl rfl hl.1 rfl (lv_room (Nat.le_of_ble_eq_true rfl)) dJ0_charAt_5068e_12 ⟨Nat.zero_le _, Nat.zero_le _⟩) hS (fun q h1 h2 => hsz q h2) (fun q h => hsz q h) (fun r u t H2 locs ht hvm hw hB hz1 hk1 hS => ?_)
  subst hw
  exact W.zret hx hb hr (pk_nc _) (fun t ht hW => ⟨⟨_, (), rfl, rfl, trivial⟩, hS.F ht⟩) hS.2.2 dJ0_charAt_5068e_15 hlk
