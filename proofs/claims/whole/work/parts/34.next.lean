abbrev xIA : String := "java/lang/IllegalArgumentException"
abbrev xIS : String := "java/lang/IllegalStateException"
def exN (k : Nat) : String := if k = 1 then xIA else xIS
abbrev xaI : List Cond := vx_atS RX9 114 xIA ["java/lang/RuntimeException", "java/lang/Exception"]
abbrev xaS : List Cond := vx_atS RX9 129 xIS ["java/lang/RuntimeException", "java/lang/Exception"]
theorem xaI_g : ∀ w ∈ xaI.filter goodWord, w ∈ WS := fun w h => WS_of ((by decide +kernel : ∀ w ∈ xaI.filter goodWord, w ∈ lw_tbl) w h) (List.mem_filter.mp h).2
theorem xaS_g : ∀ w ∈ xaS.filter goodWord, w ∈ WS := fun w h => WS_of ((by decide +kernel : ∀ w ∈ xaS.filter goodWord, w ∈ lw_tbl) w h) (List.mem_filter.mp h).2
theorem xaI_b : ∀ w ∈ xaI.filter (fun w => !goodWord w), w ∈ [Cond.castable xIA xIA, Cond.declares (Bundle.initS "java/lang/RuntimeException"), Cond.declares (Bundle.initS "java/lang/Exception"), Cond.declares (Bundle.initS Bundle.tN)] := by decide +kernel
theorem xaS_b : ∀ w ∈ xaS.filter (fun w => !goodWord w), w ∈ [Cond.castable xIS xIS, Cond.declares (Bundle.initS "java/lang/RuntimeException"), Cond.declares (Bundle.initS "java/lang/Exception"), Cond.declares (Bundle.initS Bundle.tN)] := by decide +kernel
theorem kn_IA : Cond.classLink RX9 110 xIA ∈ WS := WS_of (by decide +kernel) (by decide +kernel)
theorem kn_IS : Cond.classLink RX9 125 xIS ∈ WS := WS_of (by decide +kernel) (by decide +kernel)
theorem kz_IA : Cond.initialized xIA ∈ WS := WS_of (by decide +kernel) (by decide +kernel)
theorem kz_IS : Cond.initialized xIS ∈ WS := WS_of (by decide +kernel) (by decide +kernel)
/-- what a throw needs of the start: the two texts, the classes, two statics of Throwable -/
def TF (a1 a2 : Nat) (A : Nat → Prop) (U : State) (H : Heap) : Prop := vk_R RX9 112 "a fault of reading" a1 U ∧ vk_R RX9 127 "a fault of evaluating" a2 U ∧ va_Nw (.castable xIA xIA) U ∧ va_Nw (.castable xIS xIS) U ∧ vx_Zq Bundle.tN "UNASSIGNED_STACK" Bundle.steD A U H ∧ vx_Zq Bundle.tN "SUPPRESSED_SENTINEL" Bundle.listD A U H ∧ va_Nw (.declares (Bundle.initS "java/lang/RuntimeException")) U ∧ va_Nw (.declares (Bundle.initS "java/lang/Exception")) U ∧ va_Nw (.declares (Bundle.initS Bundle.tN)) U
theorem TF.warm {a1 a2 : Nat} {A : Nat → Prop} {s U : State} {H : Heap} (hW : s.WarmedH U.vm) (h : TF a1 a2 A s H) : TF a1 a2 A U H := ⟨vk_R.warm hW h.1, vk_R.warm hW h.2.1, va_Nw.warmC hW h.2.2.1, va_Nw.warmC hW h.2.2.2.1, vx_Zq.moved hW.alike h.2.2.2.2.1, vx_Zq.moved hW.alike h.2.2.2.2.2.1, va_Nw.warmD hW h.2.2.2.2.2.2.1, va_Nw.warmD hW h.2.2.2.2.2.2.2.1, va_Nw.warmD hW h.2.2.2.2.2.2.2.2⟩
theorem TF.calling {a1 a2 : Nat} {A : Nat → Prop} {U : State} {H : Heap} (h : TF a1 a2 A U H) (g : JFrame) (mk : MethodId) (a : Array Value) : TF a1 a2 A (U.calling g mk a) H := ⟨vk_R.same rfl h.1, vk_R.same rfl h.2.1, va_Nw.same rfl rfl h.2.2.1, va_Nw.same rfl rfl h.2.2.2.1, vx_Zq.moved (u := U) (U := U.calling g mk a) (Vm.Alike.refl U.vm) h.2.2.2.2.1, vx_Zq.moved (u := U) (U := U.calling g mk a) (Vm.Alike.refl U.vm) h.2.2.2.2.2.1, va_Nw.same rfl rfl h.2.2.2.2.2.2.1, va_Nw.same rfl rfl h.2.2.2.2.2.2.2.1, va_Nw.same rfl rfl h.2.2.2.2.2.2.2.2⟩
theorem TF.kept {a1 a2 : Nat} {A : Nat → Prop} {U : State} {H H1 : Heap} (h : TF a1 a2 A U H) (hq : ∀ a : Nat, a < H.size → ¬ A a → H1[a]? = H[a]?) : TF a1 a2 A U H1 := ⟨h.1, h.2.1, h.2.2.1, h.2.2.2.1, h.2.2.2.2.1.kept hq, h.2.2.2.2.2.1.kept hq, h.2.2.2.2.2.2⟩
theorem TF.narrow {a1 a2 : Nat} {A B : Nat → Prop} {U : State} {H : Heap} (h : TF a1 a2 A U H) (hAB : ∀ q, B q → A q) : TF a1 a2 B U H := ⟨h.1, h.2.1, h.2.2.1, h.2.2.2.1, h.2.2.2.2.1.narrow hAB, h.2.2.2.2.2.1.narrow hAB, h.2.2.2.2.2.2⟩
abbrev XN (D : va_G) (G : Gd) (sz : Nat) (T : Nat → St → Prop) : String → State → State → Prop := vx_X (fun z : Nat × St => T z.1 z.2) (fun E z t => E = exN z.1 ∧ BC D G sz z.2 t) (AC G sz)
set_option maxHeartbeats 4000000 in
theorem xt_1 {p : Program} {l : Launch} {e : Env} {R : Room} {s : State} {m : MethodId} {args : Array Value} {below : List Frame} {meth : Method} {c : Code} {H : Heap} {locs : List Loc} {D : va_G} {cc : ByteArray} {pc nL a1 a2 : Nat} {ls : Array Slot} {rest : List Value} {G : Gd} {u : St} {Q : Int32 → St → Prop} {T : Nat → St → Prop}
    (hst : l.stackTraces = false) (E : Ev D (tyC G) p s m c cc RX9 args) (hml : c.maxLocals = nL) (hP : va_P D vwCl (wC G u) H) (hD : va_D (AC G s.heap.size) (wC G u)) (hS : va_S (AC G s.heap.size) s.heap H locs) (hTF : TF a1 a2 (AC G s.heap.size) s s.heap) (hnt : ∀ x ∈ c.exceptionTable.toList, False) (hls : ls.size = nL)
    (d0 : decode cc pc = .ok (.new 110, 3)) (d3 : decode cc (pc + 3) = .ok (.dup, 1)) (d4 : decode cc (pc + 4) = .ok (.ldc 112, 2)) (d6 : decode cc (pc + 6) = .ok (.invokespecial 114, 3)) (d9 : decode cc (pc + 9) = .ok (.athrow, 1))
    (r1 : 2 + 4 ≤ R.frames) (r2 : (rest.map fun v => v.category).sum + 82 ≤ R.locals) (r3 : 1 ≤ R.cells) (r4 : 6 ≤ R.slots) (hlk : meth.locks = false) (h : T 1 u) :
    W p l e R s m args below meth c H locs 0 0 (vx_MQ below (va_Qi Q (BC D G s.heap.size) (AC G s.heap.size)) (XN D G s.heap.size T) args s 1 6 (AC G s.heap.size)) (F0 m pc ls rest) := by
  have hW := E.2.2.2.1
  refine vx_throwS (own := RX9) (cls := xIA) (text := "a fault of reading") (names := ["java/lang/RuntimeException", "java/lang/Exception"]) (ik := 110) (is := 112) (ic := 114) (A := AC G s.heap.size) E.1 E.2.1 hst E.2.2.1 (by decide +kernel) (by decide +kernel) (hW _ kn_IA) (hW _ kz_IA) hTF.1 (vx_hat (fun w h => hW w (xaI_g w h)) xaI_b (vx_c (va_Nw.use rfl hTF.2.2.1) (vx_c (va_Nw.use rfl hTF.2.2.2.2.2.2.1) (vx_c (va_Nw.use rfl hTF.2.2.2.2.2.2.2.1) (vx_c (va_Nw.use rfl hTF.2.2.2.2.2.2.2.2) vx_n))))) (by decide +kernel) hTF.2.2.2.2.1 hTF.2.2.2.2.2.1 hS (hls.trans hml.symm) d0 d3 d4 d6 d9 (fun x hx => (hnt x hx).elim) (by show 2 + 3 < R.frames; omega) (by show _ + (13 * (2 + 1) + 43) ≤ R.locals; omega) (by omega) (by omega) hlk ?_ hS.2.2 (by omega) (by omega)
  intro t hvm hsz hq
  refine ⟨(1, u), h, ⟨rfl, fun k q hk => (hP k q hk).kept (hq q.1 (hP k q hk).lt), va_K.moved hvm E.2.2.2.2, hD⟩, Nat.le_trans hS.1 hsz, fun q h1 h2 => ?_⟩
  rw [hq q (Nat.lt_of_lt_of_le h1 hS.1)]
  exact hS.2.1 q h1 h2
set_option maxHeartbeats 4000000 in
theorem xt_2 {p : Program} {l : Launch} {e : Env} {R : Room} {s : State} {m : MethodId} {args : Array Value} {below : List Frame} {meth : Method} {c : Code} {H : Heap} {locs : List Loc} {D : va_G} {cc : ByteArray} {pc nL a1 a2 : Nat} {ls : Array Slot} {rest : List Value} {G : Gd} {u : St} {Q : Int32 → St → Prop} {T : Nat → St → Prop}
    (hst : l.stackTraces = false) (E : Ev D (tyC G) p s m c cc RX9 args) (hml : c.maxLocals = nL) (hP : va_P D vwCl (wC G u) H) (hD : va_D (AC G s.heap.size) (wC G u)) (hS : va_S (AC G s.heap.size) s.heap H locs) (hTF : TF a1 a2 (AC G s.heap.size) s s.heap) (hnt : ∀ x ∈ c.exceptionTable.toList, False) (hls : ls.size = nL)
    (d0 : decode cc pc = .ok (.new 125, 3)) (d3 : decode cc (pc + 3) = .ok (.dup, 1)) (d4 : decode cc (pc + 4) = .ok (.ldc 127, 2)) (d6 : decode cc (pc + 6) = .ok (.invokespecial 129, 3)) (d9 : decode cc (pc + 9) = .ok (.athrow, 1))
    (r1 : 2 + 4 ≤ R.frames) (r2 : (rest.map fun v => v.category).sum + 82 ≤ R.locals) (r3 : 1 ≤ R.cells) (r4 : 6 ≤ R.slots) (hlk : meth.locks = false) (h : T 2 u) :
    W p l e R s m args below meth c H locs 0 0 (vx_MQ below (va_Qi Q (BC D G s.heap.size) (AC G s.heap.size)) (XN D G s.heap.size T) args s 1 6 (AC G s.heap.size)) (F0 m pc ls rest) := by
  have hW := E.2.2.2.1
  refine vx_throwS (own := RX9) (cls := xIS) (text := "a fault of evaluating") (names := ["java/lang/RuntimeException", "java/lang/Exception"]) (ik := 125) (is := 127) (ic := 129) (A := AC G s.heap.size) E.1 E.2.1 hst E.2.2.1 (by decide +kernel) (by decide +kernel) (hW _ kn_IS) (hW _ kz_IS) hTF.2.1 (vx_hat (fun w h => hW w (xaS_g w h)) xaS_b (vx_c (va_Nw.use rfl hTF.2.2.2.1) (vx_c (va_Nw.use rfl hTF.2.2.2.2.2.2.1) (vx_c (va_Nw.use rfl hTF.2.2.2.2.2.2.2.1) (vx_c (va_Nw.use rfl hTF.2.2.2.2.2.2.2.2) vx_n))))) (by decide +kernel) hTF.2.2.2.2.1 hTF.2.2.2.2.2.1 hS (hls.trans hml.symm) d0 d3 d4 d6 d9 (fun x hx => (hnt x hx).elim) (by show 2 + 3 < R.frames; omega) (by show _ + (13 * (2 + 1) + 43) ≤ R.locals; omega) (by omega) (by omega) hlk ?_ hS.2.2 (by omega) (by omega)
  intro t hvm hsz hq
  refine ⟨(2, u), h, ⟨rfl, fun k q hk => (hP k q hk).kept (hq q.1 (hP k q hk).lt), va_K.moved hvm E.2.2.2.2, hD⟩, Nat.le_trans hS.1 hsz, fun q h1 h2 => ?_⟩
  rw [hq q (Nat.lt_of_lt_of_le h1 hS.1)]
  exact hS.2.1 q h1 h2
def wp_X9_next (N : Nat → Nat) (u : St) (Q : Int32 → St → Prop) (T : Nat → St → Prop) : Prop := wp_X6_behindBlanks N (gI u 102) (sI (sI (sI (sI (sI (sI u 706 (0 : Int32)) 607 (0 : Int32)) 303 (0 : Int32)) 304 (0 : Int32)) 7 (0 : Int32)) 103 (-1 : Int32)) (fun (r1 : Int32) (u2 : St) => ((r1 < (gI u2 101) → wp_X5_read N  (sI u2 102 r1) (fun (r3 : Int32) (u4 : St) => ((r3 = (10 : Int32) → T 1 (sI u4 7 r3)) ∧ (¬ r3 = (10 : Int32) → ((r3 = 0 → wp_X2_evaluate N (gJ u4 513) (sI u4 7 r3) (fun (r6 : Int32) (u7 : St) => ((r6 = 0 → wp_X4_print N (gJ u7 614) (sI u7 7 r6) (fun (u8 : St) => Q (1 : Int32) u8)) ∧ (¬ r6 = 0 → T 2 (sI u7 7 r6))))) ∧ (¬ r3 = 0 → ((r3 = 0 → wp_X4_print N (gJ u4 614) (sI u4 7 r3) (fun (u5 : St) => Q (1 : Int32) u5)) ∧ (¬ r3 = 0 → T 2 (sI u4 7 r3))))))))) ∧ (¬ r1 < (gI u2 101) → Q (0 : Int32) (sI u2 102 r1))))
abbrev rm_X9_next : Room := { frames := 6, cells := 1, slots := 6, locals := 148 }
set_option maxHeartbeats 4000000 in
set_option maxRecDepth 100000 in
theorem t_X9_next (l : Launch) (hst : l.stackTraces = false) (D : va_G) (G : Gd) (u : St) (a1 a2 : Nat) (Q : Int32 → St → Prop) (T : Nat → St → Prop) (h : wp_X9_next G.2.1 u Q T) (sz : Nat) : vx_Met l yX9_next (Cond.code yX9_next cX9_next 1 (some .int) :: WS) rm_X9_next (va_Pc [.ref (G.1 0)] (fun U => PC D G u sz U ∧ TF a1 a2 (AC G sz) U U.heap)) (va_Qi Q (BC D G sz) (AC G sz)) (XN D G sz T) 1 6 (AC G sz) := by
  refine vx_ofW (cc := cX9_next) (maxL := 1) (ret := some .int) (by decide) rfl ?_
  intro p e s m args below meth c s₁ B hml hnt hv
  obtain ⟨rfl, ⟨hsz, hP, hK, hD⟩, hTF⟩ := hv
  subst hsz
  have hr := B.returns
  have hlk := B.notSynchronized
  have hx := B.exec
  have hb := B.bytes
  have hW : ∀ w ∈ WS, w.before _ s = true := fun w h => atoms_spec (ws := Cond.code yX9_next cX9_next 1 (some .int) :: WS) B.pre w (List.mem_cons_of_mem _ h)
  have hown : s.vm.findClass RX9 = some m.cls := findClass_of_methodNamed B.named
  have E : Ev D (tyC G) p s m c cX9_next RX9 _ := ⟨hx, hb, hown, hW, hK⟩
  have hS : va_S (AC G s.heap.size) s.heap s.heap [] := va_S.rf
  have hA : ∀ q, s.heap.size ≤ q → AC G s.heap.size q := fun q h => Or.inr h
  have hl := lv_entry ([.ref (G.1 0)]) (n := 1) (Nat.le_of_ble_eq_true rfl)
  rw [lg_entry_eq]
  generalize (lg_sl ([.ref (G.1 0)]) ++ List.replicate (1 - (lg_sl ([.ref (G.1 0)])).length) Slot.unset).toArray = ls at hl ⊢
  have hl : lv_has ls 1 [(0, .ref (G.1 0))] := hl
  unfold wp_X9_next at h
  refine lv_aload_n hx hb dX9_next_0 rfl (lv_at hl 0 rfl) ?_
  refine gC_6 E hP kfX9_71 dX9_next_1 ?_
  refine lv_iconst (v := (0 : Int32)) hx hb dX9_next_4 (by decide) ?_
  refine pC_706 E hP hD hS kfX9_92 dX9_next_5 (fun H locs hP hD hS => ?_)
  refine lv_aload_n hx hb dX9_next_8 rfl (lv_at hl 0 rfl) ?_
  refine gC_5 E hP kfX9_62 dX9_next_9 ?_
  refine lv_iconst (v := (0 : Int32)) hx hb dX9_next_12 (by decide) ?_
  refine pC_607 E hP hD hS kfX9_93 dX9_next_13 (fun H locs hP hD hS => ?_)
  refine lv_aload_n hx hb dX9_next_16 rfl (lv_at hl 0 rfl) ?_
  refine gC_2 E hP kfX9_35 dX9_next_17 ?_
  refine lv_iconst (v := (0 : Int32)) hx hb dX9_next_20 (by decide) ?_
  refine pC_303 E hP hD hS kfX9_96 dX9_next_21 (fun H locs hP hD hS => ?_)
  refine lv_aload_n hx hb dX9_next_24 rfl (lv_at hl 0 rfl) ?_
  refine gC_2 E hP kfX9_35 dX9_next_25 ?_
  refine lv_iconst (v := (0 : Int32)) hx hb dX9_next_28 (by decide) ?_
  refine pC_304 E hP hD hS kfX9_99 dX9_next_29 (fun H locs hP hD hS => ?_)
  refine lv_aload_n hx hb dX9_next_32 rfl (lv_at hl 0 rfl) ?_
  refine lv_iconst (v := (0 : Int32)) hx hb dX9_next_33 (by decide) ?_
  refine pC_7 E hP hD hS kfX9_75 dX9_next_34 (fun H locs hP hD hS => ?_)
  refine lv_aload_n hx hb dX9_next_37 rfl (lv_at hl 0 rfl) ?_
  refine gC_0 E hP kfX9_21 dX9_next_38 ?_
  refine lv_iconst (v := (-1 : Int32)) hx hb dX9_next_41 (by decide) ?_
  refine pC_103 E hP hD hS kfX9_89 dX9_next_42 (fun H locs hP hD hS => ?_)
  refine lv_aload_n hx hb dX9_next_45 rfl (lv_at hl 0 rfl) ?_
  refine gC_0 E hP kfX9_21 dX9_next_46 ?_
  refine lv_aload_n hx hb dX9_next_49 rfl (lv_at hl 0 rfl) ?_
  refine gC_0 E hP kfX9_21 dX9_next_50 ?_
  refine lv_aload_n hx hb dX9_next_53 rfl (lv_at hl 0 rfl) ?_
  refine gC_0 E hP kfX9_21 dX9_next_54 ?_
  refine gC_102 E hP kfX9_86 (v := (gI u 102)) rfl dX9_next_57 ?_
  refine cC_i (ci := 6) (q0 := 1) (As := [.int (gI u 102)]) (rest := [.ref (G.1 1)]) E hml hP hD hS hA (t_X6_behindBlanks l D G (gI u 102) (sI (sI (sI (sI (sI (sI u 706 (0 : Int32)) 607 (0 : Int32)) 303 (0 : Int32)) 304 (0 : Int32)) 7 (0 : Int32)) 103 (-1 : Int32)) _ h) kmX9_102 mwyX6_behindBlanks rfl rfl ⟨⟨rfl, rfl⟩, Nat.le_of_ble_eq_true rfl, Nat.le_of_ble_eq_true rfl⟩ rfl hl.1 rfl (Nat.le_of_ble_eq_true rfl) dX9_next_60 ⟨Nat.zero_le _, Nat.zero_le _⟩ (fun r1 u2 H locs hP hD hS h => ?_)
  refine pC_102 E hP hD hS kfX9_86 dX9_next_63 (fun H locs hP hD hS => ?_)
  refine lv_aload_n hx hb dX9_next_66 rfl (lv_at hl 0 rfl) ?_
  refine gC_0 E hP kfX9_21 dX9_next_67 ?_
  refine gC_102 E hP kfX9_86 (v := r1) rfl dX9_next_70 ?_
  refine lv_aload_n hx hb dX9_next_73 rfl (lv_at hl 0 rfl) ?_
  refine gC_0 E hP kfX9_21 dX9_next_74 ?_
  refine gC_101 E hP kfX9_83 (v := (gI u2 101)) rfl dX9_next_77 ?_
  refine lv_icmp_lt (tgt := 85) hx hb dX9_next_80 (by decide) (fun hc => ?_) (fun hc => ?_)
  · have h := h.1 hc
    refine lv_aload_n hx hb dX9_next_85 rfl (lv_at hl 0 rfl) ?_
    refine lv_aload_n hx hb dX9_next_86 rfl (lv_at hl 0 rfl) ?_
    refine gC_4 E hP kfX9_53 dX9_next_87 ?_
    refine cC_i (ci := 5) (q0 := 5) (As := []) (rest := [.ref (G.1 0)]) E hml hP hD hS hA (t_X5_read l D G  (sI u2 102 r1) _ h) kmX9_106 mwyX5_read rfl rfl ⟨⟨rfl, rfl⟩, Nat.le_of_ble_eq_true rfl, Nat.le_of_ble_eq_true rfl⟩ rfl hl.1 rfl (Nat.le_of_ble_eq_true rfl) dX9_next_90 ⟨Nat.zero_le _, Nat.zero_le _⟩ (fun r3 u4 H locs hP hD hS h => ?_)
    refine pC_7 E hP hD hS kfX9_75 dX9_next_93 (fun H locs hP hD hS => ?_)
    refine lv_aload_n hx hb dX9_next_96 rfl (lv_at hl 0 rfl) ?_
    refine gC_7 E hP kfX9_75 (v := r3) rfl dX9_next_97 ?_
    refine lv_bipush (v := (10 : Int32)) hx hb dX9_next_100 (by decide) ?_
    refine lv_icmp_ne (tgt := 115) hx hb dX9_next_102 (by decide) (fun hc => ?_) (fun hc => ?_)
    · have h := h.2 hc
      refine lv_aload_n hx hb dX9_next_115 rfl (lv_at hl 0 rfl) ?_
      refine gC_7 E hP kfX9_75 (v := r3) rfl dX9_next_116 ?_
      refine lv_if_ne (tgt := 140) hx hb dX9_next_119 (by decide) (fun hc => ?_) (fun hc => ?_)
      · have h := h.2 hc
        refine lv_aload_n hx hb dX9_next_140 rfl (lv_at hl 0 rfl) ?_
        refine gC_7 E hP kfX9_75 (v := r3) rfl dX9_next_141 ?_
        refine lv_if_eq (tgt := 157) hx hb dX9_next_144 (by decide) (fun hc => ?_) (fun hc => ?_)
        · have h := h.1 hc
          refine lv_aload_n hx hb dX9_next_157 rfl (lv_at hl 0 rfl) ?_
          refine gC_6 E hP kfX9_71 dX9_next_158 ?_
          refine lv_aload_n hx hb dX9_next_161 rfl (lv_at hl 0 rfl) ?_
          refine gC_5 E hP kfX9_62 dX9_next_162 ?_
          refine gC_614 E hP kfX9_130 (v := (gJ u4 614)) rfl dX9_next_165 ?_
          refine cC_v (ci := 4) (q0 := 7) (As := [.long (gJ u4 614)]) (rest := []) E hml hP hD hS hA (t_X4_print l D G (gJ u4 614) (sI u4 7 r3) _ h) kmX9_133 mwyX4_print rfl rfl ⟨⟨rfl, rfl⟩, Nat.le_of_ble_eq_true rfl, Nat.le_of_ble_eq_true rfl⟩ rfl hl.1 rfl (Nat.le_of_ble_eq_true rfl) dX9_next_168 ⟨Nat.zero_le _, Nat.zero_le _⟩ (fun u5 H locs hP hD hS h => ?_)
          refine lv_iconst (v := (1 : Int32)) hx hb dX9_next_171 (by decide) ?_
          refine W.widen (k := 1) (n := 6) (by omega) (by omega) ?_
          exact vx_ret (W.iret (v := (1 : Int32)) E.1 E.2.1 hr (fun t ht hW => ⟨⟨_, _, rfl, h, by rw [ht]; exact hP, va_K.moved hW.alike E.2.2.2.2, hD⟩, hS.F ht⟩) hS.2.2 dX9_next_172 hlk)
        · have h := h.2 hc
          exact xt_2 hst E hml hP hD hS hTF hnt hl.1 dX9_next_147 dX9_next_150 dX9_next_151 dX9_next_153 dX9_next_156 (Nat.le_of_ble_eq_true rfl) (Nat.le_of_ble_eq_true rfl) (Nat.le_of_ble_eq_true rfl) (Nat.le_of_ble_eq_true rfl) hlk h
      · have h := h.1 hc
        refine lv_aload_n hx hb dX9_next_122 rfl (lv_at hl 0 rfl) ?_
        refine lv_aload_n hx hb dX9_next_123 rfl (lv_at hl 0 rfl) ?_
        refine gC_5 E hP kfX9_62 dX9_next_124 ?_
        refine lv_aload_n hx hb dX9_next_127 rfl (lv_at hl 0 rfl) ?_
        refine gC_4 E hP kfX9_53 dX9_next_128 ?_
        refine gC_513 E hP kfX9_117 (v := (gJ u4 513)) rfl dX9_next_131 ?_
        refine cC_i (ci := 2) (q0 := 6) (As := [.long (gJ u4 513)]) (rest := [.ref (G.1 0)]) E hml hP hD hS hA (t_X2_evaluate l D G (gJ u4 513) (sI u4 7 r3) _ h) kmX9_121 mwyX2_evaluate rfl rfl ⟨⟨rfl, rfl⟩, Nat.le_of_ble_eq_true rfl, Nat.le_of_ble_eq_true rfl⟩ rfl hl.1 rfl (Nat.le_of_ble_eq_true rfl) dX9_next_134 ⟨Nat.zero_le _, Nat.zero_le _⟩ (fun r6 u7 H locs hP hD hS h => ?_)
        refine pC_7 E hP hD hS kfX9_75 dX9_next_137 (fun H locs hP hD hS => ?_)
        refine lv_aload_n hx hb dX9_next_140 rfl (lv_at hl 0 rfl) ?_
        refine gC_7 E hP kfX9_75 (v := r6) rfl dX9_next_141 ?_
        refine lv_if_eq (tgt := 157) hx hb dX9_next_144 (by decide) (fun hc => ?_) (fun hc => ?_)
        · have h := h.1 hc
          refine lv_aload_n hx hb dX9_next_157 rfl (lv_at hl 0 rfl) ?_
          refine gC_6 E hP kfX9_71 dX9_next_158 ?_
          refine lv_aload_n hx hb dX9_next_161 rfl (lv_at hl 0 rfl) ?_
          refine gC_5 E hP kfX9_62 dX9_next_162 ?_
          refine gC_614 E hP kfX9_130 (v := (gJ u7 614)) rfl dX9_next_165 ?_
          refine cC_v (ci := 4) (q0 := 7) (As := [.long (gJ u7 614)]) (rest := []) E hml hP hD hS hA (t_X4_print l D G (gJ u7 614) (sI u7 7 r6) _ h) kmX9_133 mwyX4_print rfl rfl ⟨⟨rfl, rfl⟩, Nat.le_of_ble_eq_true rfl, Nat.le_of_ble_eq_true rfl⟩ rfl hl.1 rfl (Nat.le_of_ble_eq_true rfl) dX9_next_168 ⟨Nat.zero_le _, Nat.zero_le _⟩ (fun u8 H locs hP hD hS h => ?_)
          refine lv_iconst (v := (1 : Int32)) hx hb dX9_next_171 (by decide) ?_
          refine W.widen (k := 1) (n := 6) (by omega) (by omega) ?_
          exact vx_ret (W.iret (v := (1 : Int32)) E.1 E.2.1 hr (fun t ht hW => ⟨⟨_, _, rfl, h, by rw [ht]; exact hP, va_K.moved hW.alike E.2.2.2.2, hD⟩, hS.F ht⟩) hS.2.2 dX9_next_172 hlk)
        · have h := h.2 hc
          exact xt_2 hst E hml hP hD hS hTF hnt hl.1 dX9_next_147 dX9_next_150 dX9_next_151 dX9_next_153 dX9_next_156 (Nat.le_of_ble_eq_true rfl) (Nat.le_of_ble_eq_true rfl) (Nat.le_of_ble_eq_true rfl) (Nat.le_of_ble_eq_true rfl) hlk h
    · have h := h.1 hc
      exact xt_1 hst E hml hP hD hS hTF hnt hl.1 dX9_next_105 dX9_next_108 dX9_next_109 dX9_next_111 dX9_next_114 (Nat.le_of_ble_eq_true rfl) (Nat.le_of_ble_eq_true rfl) (Nat.le_of_ble_eq_true rfl) (Nat.le_of_ble_eq_true rfl) hlk h
  · have h := h.2 hc
    refine lv_iconst (v := (0 : Int32)) hx hb dX9_next_83 (by decide) ?_
    refine W.widen (k := 1) (n := 6) (by omega) (by omega) ?_
    exact vx_ret (W.iret (v := (0 : Int32)) E.1 E.2.1 hr (fun t ht hW => ⟨⟨_, _, rfl, h, by rw [ht]; exact hP, va_K.moved hW.alike E.2.2.2.2, hD⟩, hS.F ht⟩) hS.2.2 dX9_next_84 hlk)
