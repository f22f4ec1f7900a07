section
variable {p : Program} {l : Launch} {e : Env} {R : Room} {s : State} {m : MethodId} {args : Array Value} {below : List Frame} {meth : Method} {c : Code} {H H0 : Heap} {locs : List Loc} {cells slots : Nat} {Q : State → Prop} {D : va_G} {A : Nat → Prop} {cc bytes : ByteArray} {own C : String} {pc ix nL maxL n : Nat} {ls : Array Slot} {rest st0 As : List Value} {G : Gd} {u : St} {y : MethodName} {rm : Room} {ret : Option FieldType} {cA : Cond}
theorem i32_ne {x k : Int32} {z : Int} (hz : k.toInt = z) (h : ¬ x = k) : ¬ x.toInt = z := fun e => h (Int32.toInt_inj.mp (e.trans hz.symm))
theorem i32_out {x : Int32} {lo hi : Int} (h : ∀ z : Int, lo ≤ z → z ≤ hi → ¬ x.toInt = z) : x.toInt < lo ∨ hi < x.toInt := by
  rcases Int.lt_or_le x.toInt lo with h1 | h1
  · exact Or.inl h1
  · rcases Int.lt_or_le hi x.toInt with h2 | h2
    · exact Or.inr h2
    · exact absurd rfl (h _ h1 h2)
/-- an instance method's words -/
def MW (C : String) (y : MethodName) (bytes : ByteArray) (maxL : Nat) (ret : Option FieldType) (n : Nat) : Prop := Cond.instanceMethod y ∈ WS ∧ Cond.selects C y y ∈ WS ∧ Cond.initialized C ∈ WS ∧ Cond.code y bytes maxL ret ∈ WS ∧ (y.cls = C ∧ y.cls ≠ "java/lang/invoke/MethodHandle" ∧ y.cls ≠ "java/lang/invoke/VarHandle" ∧ (parseMethodDescriptor y.desc).map (fun d => d.parameters.length) = some n)
/-- a static method's words -/
def MS (y : MethodName) (bytes : ByteArray) (maxL : Nat) (ret : Option FieldType) (n : Nat) : Prop := Cond.static y ∈ WS ∧ Cond.initialized y.cls ∈ WS ∧ Cond.code y bytes maxL ret ∈ WS ∧ (y.cls ≠ "java/lang/invoke/MethodHandle" ∧ y.cls ≠ "java/lang/invoke/VarHandle" ∧ (parseMethodDescriptor y.desc).map (fun d => d.parameters.length) = some n)
theorem gd_in (hk : Cond.code y bytes maxL ret ∈ WS) : GoodIn (cA :: WS) (Cond.code y bytes maxL ret :: WS) := fun w h => by
  rcases List.mem_cons.mp h with rfl | h
  · exact ⟨List.mem_cons_of_mem _ hk, WS_good _ hk⟩
  · exact ⟨List.mem_cons_of_mem _ h, WS_good _ h⟩
theorem gd_V (hl : Cond.methodLink own ix y ∈ WS) (M : MW C y bytes maxL ret n) : GoodIn WS (wsV own ix C y (Cond.code y bytes maxL ret :: WS)) := fun w h => by
  obtain ⟨h1, h2, h3, h4, -⟩ := M
  have key : w ∈ WS := by
    rcases List.mem_append.mp h with h | h
    · simp only [List.mem_cons, List.not_mem_nil, or_false] at h
      rcases h with rfl | rfl | rfl | rfl <;> assumption
    · rcases List.mem_cons.mp h with rfl | h
      · exact h4
      · exact h
  exact ⟨key, WS_good _ key⟩
theorem gd_S (hl : Cond.methodLink own ix y ∈ WS) (M : MS y bytes maxL ret n) : GoodIn WS (va_wsS own ix y (Cond.code y bytes maxL ret :: WS)) := fun w h => by
  obtain ⟨h1, h2, h3, -⟩ := M
  have key : w ∈ WS := by
    rcases List.mem_append.mp h with h | h
    · simp only [List.mem_cons, List.not_mem_nil, or_false] at h
      rcases h with rfl | rfl | rfl <;> assumption
    · rcases List.mem_cons.mp h with rfl | h
      · exact h3
      · exact h
  exact ⟨key, WS_good _ key⟩
theorem lq_lt {x y : Int64} {off : Int} {tgt : Nat} (hx : p.tables.exec = Jvm.exec) (hb : c.code = cc) (d1 : decode cc pc = .ok (.lcmp, 1)) (d2 : decode cc (pc + 1) = .ok (.ifCond .lt off, 3)) (ht : ((pc + 1 : Nat) : Int) + off = (tgt : Int)) (kt : x < y → W p l e R s m args below meth c H locs cells slots Q (F0 m tgt ls rest)) (kf : ¬ x < y → W p l e R s m args below meth c H locs cells slots Q (F0 m (pc + 4) ls rest)) : W p l e R s m args below meth c H locs cells slots Q (F0 m pc ls (.long y :: .long x :: rest)) := W.lcmp hx hb d1 (lv_if_lt hx hb d2 ht (fun h => kt ((lg_cmp_lt x y).mp h)) (fun h => kf (fun h2 => h ((lg_cmp_lt x y).mpr h2))))
theorem lq_ge {x y : Int64} {off : Int} {tgt : Nat} (hx : p.tables.exec = Jvm.exec) (hb : c.code = cc) (d1 : decode cc pc = .ok (.lcmp, 1)) (d2 : decode cc (pc + 1) = .ok (.ifCond .ge off, 3)) (ht : ((pc + 1 : Nat) : Int) + off = (tgt : Int)) (kt : y ≤ x → W p l e R s m args below meth c H locs cells slots Q (F0 m tgt ls rest)) (kf : ¬ y ≤ x → W p l e R s m args below meth c H locs cells slots Q (F0 m (pc + 4) ls rest)) : W p l e R s m args below meth c H locs cells slots Q (F0 m pc ls (.long y :: .long x :: rest)) := W.lcmp hx hb d1 (lv_if_ge hx hb d2 ht (fun h => kt ((lg_cmp_ge x y).mp h)) (fun h => kf (fun h2 => h ((lg_cmp_ge x y).mpr h2))))
theorem lq_gt {x y : Int64} {off : Int} {tgt : Nat} (hx : p.tables.exec = Jvm.exec) (hb : c.code = cc) (d1 : decode cc pc = .ok (.lcmp, 1)) (d2 : decode cc (pc + 1) = .ok (.ifCond .gt off, 3)) (ht : ((pc + 1 : Nat) : Int) + off = (tgt : Int)) (kt : y < x → W p l e R s m args below meth c H locs cells slots Q (F0 m tgt ls rest)) (kf : ¬ y < x → W p l e R s m args below meth c H locs cells slots Q (F0 m (pc + 4) ls rest)) : W p l e R s m args below meth c H locs cells slots Q (F0 m pc ls (.long y :: .long x :: rest)) := W.lcmp hx hb d1 (lv_if_gt hx hb d2 ht (fun h => kt ((lg_cmp_gt x y).mp h)) (fun h => kf (fun h2 => h ((lg_cmp_gt x y).mpr h2))))
theorem lq_le {x y : Int64} {off : Int} {tgt : Nat} (hx : p.tables.exec = Jvm.exec) (hb : c.code = cc) (d1 : decode cc pc = .ok (.lcmp, 1)) (d2 : decode cc (pc + 1) = .ok (.ifCond .le off, 3)) (ht : ((pc + 1 : Nat) : Int) + off = (tgt : Int)) (kt : x ≤ y → W p l e R s m args below meth c H locs cells slots Q (F0 m tgt ls rest)) (kf : ¬ x ≤ y → W p l e R s m args below meth c H locs cells slots Q (F0 m (pc + 4) ls rest)) : W p l e R s m args below meth c H locs cells slots Q (F0 m pc ls (.long y :: .long x :: rest)) := W.lcmp hx hb d1 (lv_if_le hx hb d2 ht (fun h => kt ((lg_cmp_le x y).mp h)) (fun h => kf (fun h2 => h ((lg_cmp_le x y).mpr h2))))
theorem lq_eq {x y : Int64} {off : Int} {tgt : Nat} (hx : p.tables.exec = Jvm.exec) (hb : c.code = cc) (d1 : decode cc pc = .ok (.lcmp, 1)) (d2 : decode cc (pc + 1) = .ok (.ifCond .eq off, 3)) (ht : ((pc + 1 : Nat) : Int) + off = (tgt : Int)) (kt : x = y → W p l e R s m args below meth c H locs cells slots Q (F0 m tgt ls rest)) (kf : ¬ x = y → W p l e R s m args below meth c H locs cells slots Q (F0 m (pc + 4) ls rest)) : W p l e R s m args below meth c H locs cells slots Q (F0 m pc ls (.long y :: .long x :: rest)) := W.lcmp hx hb d1 (lv_if_eq hx hb d2 ht (fun h => kt ((lg_cmp_eq x y).mp h)) (fun h => kf (fun h2 => h ((lg_cmp_eq x y).mpr h2))))
theorem lq_ne {x y : Int64} {off : Int} {tgt : Nat} (hx : p.tables.exec = Jvm.exec) (hb : c.code = cc) (d1 : decode cc pc = .ok (.lcmp, 1)) (d2 : decode cc (pc + 1) = .ok (.ifCond .ne off, 3)) (ht : ((pc + 1 : Nat) : Int) + off = (tgt : Int)) (kt : ¬ x = y → W p l e R s m args below meth c H locs cells slots Q (F0 m tgt ls rest)) (kf : x = y → W p l e R s m args below meth c H locs cells slots Q (F0 m (pc + 4) ls rest)) : W p l e R s m args below meth c H locs cells slots Q (F0 m pc ls (.long y :: .long x :: rest)) := W.lcmp hx hb d1 (lv_if_ne hx hb d2 ht (fun h => kt (fun h2 => h ((lg_cmp_eq x y).mpr h2))) (fun h => kf ((lg_cmp_eq x y).mp h)))
def M0i (l : Launch) (y : MethodName) (bytes : ByteArray) (maxL : Nat) (ret : Option FieldType) (rm : Room) (As : List Value) (post : Int32 → Prop) : Prop := ∀ sz : Nat, Met l y (Cond.code y bytes maxL ret :: WS) rm (va_Pc As (fun U => U.heap.size = sz)) (va_Qi (fun r (_ : Unit) => post r) (fun _ _ => True) (fun q => sz ≤ q)) 0 0 (fun q => sz ≤ q)
theorem c0_i {ws : va_W} {post : Int32 → Prop} (hx : p.tables.exec = Jvm.exec) (hb : c.code = cc) (hml : c.maxLocals = nL) (hown : s.vm.findClass own = some m.cls) (hW : ∀ w ∈ WS, w.before args s = true) (hP : va_P D vwCl ws H) (hS : va_S A H0 H locs) (hA : ∀ q, H0.size ≤ q → A q) (hM : M0i l y bytes maxL ret rm As post) (hl : Cond.methodLink own ix y ∈ WS) (M : MS y bytes maxL ret n) (hR : (rm.cells = 0 ∧ rm.slots = 0) ∧ rm.frames + 1 ≤ R.frames ∧ 8 + (maxL + 11) + rm.locals ≤ R.locals) (hn : As.length = n) (hls : ls.size = nL) (hst : st0 = As.reverse ++ rest) (hro : (rest.map fun v => v.category).sum ≤ 8) (hd : decode cc pc = .ok (.invokestatic ix, 3)) (hf : cells ≤ R.cells ∧ slots ≤ R.slots)
    (kk : ∀ (r : Int32) (H1 : Heap) (locs1 : List Loc), va_P D vwCl ws H1 → va_S A H0 H1 locs1 → post r → W p l e R s m args below meth c H1 locs1 cells slots Q (F0 m (pc + 3) ls (.int r :: rest))) : W p l e R s m args below meth c H locs cells slots Q (F0 m pc ls st0) := by
  have cw := va_cwS (R := R) (s := s) (args := args) (own := own) (index := ix) (ret := ret) (rm := rm) (mc := 0) (ms := 0) n hW (gd_S hl M) rfl hR.1.1 hR.1.2 M.2.2.2 hR.2
  refine va_calli (A0 := A) (A1 := fun q => H.size ≤ q) (free := fun q => H.size ≤ q) (va_runS (Ts := WS) (mc := 0) (ms := 0) ⟨hx, hb, hml, hown, hW⟩ (hM H.size) cw ⟨fun a U g mk q => ⟨q.1, q.2⟩, fun U hU hW => ⟨rfl, congrArg Array.size hU⟩⟩ rfl hn hls hst (lv_room hro) hd ⟨hf.1, hf.2⟩) hS (fun q h1 h2 => absurd h1 (Nat.not_lt.mpr h2)) (fun q h => hA q (Nat.le_trans hS.1 h)) (fun r u t H1 locs1 ht hvm hw hB hz1 hk1 hS1 => ?_)
  exact kk r H1 locs1 (fun k q hk => (hP k q hk).kept (hk1 q.1 (hP k q hk).lt (Nat.not_le.mpr (hP k q hk).lt))) hS1 hw
theorem start0_i {post : Int32 → Prop} (hy : plainName y.cls = true) (body : ∀ (p : Program) (e : Env) (s : State) (m : MethodId) (args : Array Value) (below : List Frame) (meth : Method) (c : Code), p.tables.exec = Jvm.exec → c.code = bytes → s.vm.findClass y.cls = some m.cls → (∀ w ∈ WS, w.before args s = true) → meth.sig.returnType = ret → meth.locks = false → c.maxLocals = maxL → va_S (fun q => s.heap.size ≤ q) s.heap s.heap [] →
    W p l e rm s m args below meth c s.heap [] 0 0 (MQ below (va_Qi (fun r (_ : Unit) => post r) (fun _ _ => True) (fun q => s.heap.size ≤ q)) args s 0 0 (fun q => s.heap.size ≤ q)) (entryFrame m As.toArray maxL)) : M0i l y bytes maxL ret rm As post := by
  intro sz
  refine Met.ofW (cc := bytes) (maxL := maxL) (ret := ret) hy rfl ?_
  intro p e s m args below meth c s₁ B hml hv
  obtain ⟨rfl, hsz⟩ := hv
  subst hsz
  exact body p e s m _ below meth c B.exec B.bytes (findClass_of_methodNamed B.named) (fun w h => atoms_spec (ws := Cond.code y bytes maxL ret :: WS) B.pre w (List.mem_cons_of_mem _ h)) B.returns B.notSynchronized hml va_S.rf
def M0l (l : Launch) (y : MethodName) (bytes : ByteArray) (maxL : Nat) (ret : Option FieldType) (rm : Room) (As : List Value) (post : Int64 → Prop) : Prop := ∀ sz : Nat, Met l y (Cond.code y bytes maxL ret :: WS) rm (va_Pc As (fun U => U.heap.size = sz)) (va_Ql (fun r (_ : Unit) => post r) (fun _ _ => True) (fun q => sz ≤ q)) 0 0 (fun q => sz ≤ q)
theorem c0_l {ws : va_W} {post : Int64 → Prop} (hx : p.tables.exec = Jvm.exec) (hb : c.code = cc) (hml : c.maxLocals = nL) (hown : s.vm.findClass own = some m.cls) (hW : ∀ w ∈ WS, w.before args s = true) (hP : va_P D vwCl ws H) (hS : va_S A H0 H locs) (hA : ∀ q, H0.size ≤ q → A q) (hM : M0l l y bytes maxL ret rm As post) (hl : Cond.methodLink own ix y ∈ WS) (M : MS y bytes maxL ret n) (hR : (rm.cells = 0 ∧ rm.slots = 0) ∧ rm.frames + 1 ≤ R.frames ∧ 8 + (maxL + 11) + rm.locals ≤ R.locals) (hn : As.length = n) (hls : ls.size = nL) (hst : st0 = As.reverse ++ rest) (hro : (rest.map fun v => v.category).sum ≤ 8) (hd : decode cc pc = .ok (.invokestatic ix, 3)) (hf : cells ≤ R.cells ∧ slots ≤ R.slots)
    (kk : ∀ (r : Int64) (H1 : Heap) (locs1 : List Loc), va_P D vwCl ws H1 → va_S A H0 H1 locs1 → post r → W p l e R s m args below meth c H1 locs1 cells slots Q (F0 m (pc + 3) ls (.long r :: rest))) : W p l e R s m args below meth c H locs cells slots Q (F0 m pc ls st0) := by
  have cw := va_cwS (R := R) (s := s) (args := args) (own := own) (index := ix) (ret := ret) (rm := rm) (mc := 0) (ms := 0) n hW (gd_S hl M) rfl hR.1.1 hR.1.2 M.2.2.2 hR.2
  refine va_calll (A0 := A) (A1 := fun q => H.size ≤ q) (free := fun q => H.size ≤ q) (va_runS (Ts := WS) (mc := 0) (ms := 0) ⟨hx, hb, hml, hown, hW⟩ (hM H.size) cw ⟨fun a U g mk q => ⟨q.1, q.2⟩, fun U hU hW => ⟨rfl, congrArg Array.size hU⟩⟩ rfl hn hls hst (lv_room hro) hd ⟨hf.1, hf.2⟩) hS (fun q h1 h2 => absurd h1 (Nat.not_lt.mpr h2)) (fun q h => hA q (Nat.le_trans hS.1 h)) (fun r u t H1 locs1 ht hvm hw hB hz1 hk1 hS1 => ?_)
  exact kk r H1 locs1 (fun k q hk => (hP k q hk).kept (hk1 q.1 (hP k q hk).lt (Nat.not_le.mpr (hP k q hk).lt))) hS1 hw
theorem start0_l {post : Int64 → Prop} (hy : plainName y.cls = true) (body : ∀ (p : Program) (e : Env) (s : State) (m : MethodId) (args : Array Value) (below : List Frame) (meth : Method) (c : Code), p.tables.exec = Jvm.exec → c.code = bytes → s.vm.findClass y.cls = some m.cls → (∀ w ∈ WS, w.before args s = true) → meth.sig.returnType = ret → meth.locks = false → c.maxLocals = maxL → va_S (fun q => s.heap.size ≤ q) s.heap s.heap [] →
    W p l e rm s m args below meth c s.heap [] 0 0 (MQ below (va_Ql (fun r (_ : Unit) => post r) (fun _ _ => True) (fun q => s.heap.size ≤ q)) args s 0 0 (fun q => s.heap.size ≤ q)) (entryFrame m As.toArray maxL)) : M0l l y bytes maxL ret rm As post := by
  intro sz
  refine Met.ofW (cc := bytes) (maxL := maxL) (ret := ret) hy rfl ?_
  intro p e s m args below meth c s₁ B hml hv
  obtain ⟨rfl, hsz⟩ := hv
  subst hsz
  exact body p e s m _ below meth c B.exec B.bytes (findClass_of_methodNamed B.named) (fun w h => atoms_spec (ws := Cond.code y bytes maxL ret :: WS) B.pre w (List.mem_cons_of_mem _ h)) B.returns B.notSynchronized hml va_S.rf
theorem ret0_i {post : Int32 → Prop} {v : Int32} (hx : p.tables.exec = Jvm.exec) (hb : c.code = cc) (hr : meth.sig.returnType = some .int) (hlk : meth.locks = false) (hS : va_S (fun q => s.heap.size ≤ q) s.heap H locs) (h : post v) (hd : decode cc pc = .ok (.ireturn, 1)) : W p l e R s m args below meth c H locs 0 0 (MQ below (va_Qi (fun r (_ : Unit) => post r) (fun _ _ => True) (fun q => s.heap.size ≤ q)) args s 0 0 (fun q => s.heap.size ≤ q)) (F0 m pc ls [.int v]) := W.iret hx hb hr (fun t ht hW => ⟨⟨v, (), rfl, h, trivial⟩, hS.F ht⟩) hS.2.2 hd hlk
theorem ret0_z {post : Int32 → Prop} {v : Int32} {ty : FieldType} (hx : p.tables.exec = Jvm.exec) (hb : c.code = cc) (hr : meth.sig.returnType = some ty) (hlk : meth.locks = false) (hS : va_S (fun q => s.heap.size ≤ q) s.heap H locs) (hz : narrow ty (.int v) = .int v) (h : post v) (hd : decode cc pc = .ok (.ireturn, 1)) : W p l e R s m args below meth c H locs 0 0 (MQ below (va_Qi (fun r (_ : Unit) => post r) (fun _ _ => True) (fun q => s.heap.size ≤ q)) args s 0 0 (fun q => s.heap.size ≤ q)) (F0 m pc ls [.int v]) := W.zret hx hb hr hz (fun t ht hW => ⟨⟨v, (), rfl, h, trivial⟩, hS.F ht⟩) hS.2.2 hd hlk
theorem ret0_l {post : Int64 → Prop} {v : Int64} (hx : p.tables.exec = Jvm.exec) (hb : c.code = cc) (hr : meth.sig.returnType = some .long) (hlk : meth.locks = false) (hS : va_S (fun q => s.heap.size ≤ q) s.heap H locs) (h : post v) (hd : decode cc pc = .ok (.lreturn, 1)) : W p l e R s m args below meth c H locs 0 0 (MQ below (va_Ql (fun r (_ : Unit) => post r) (fun _ _ => True) (fun q => s.heap.size ≤ q)) args s 0 0 (fun q => s.heap.size ≤ q)) (F0 m pc ls [.long v]) := W.lret hx hb hr (fun t ht hW => ⟨⟨v, (), rfl, h, trivial⟩, hS.F ht⟩) hS.2.2 hd hlk
def AC (G : Gd) (sz : Nat) : Nat → Prop := fun q => q ∈ (List.range 30).map G.1 ∨ sz ≤ q
theorem wC_A {G : Gd} {u : St} {sz k : Nat} {q : Nat × va_E} (h : (wC G u)[k]? = some q) : AC G sz q.1 := Or.inl (by
  have e : (wC G u).map Prod.fst = (List.range 30).map G.1 := rfl
  rw [← e]
  exact List.mem_map.mpr ⟨q, List.mem_of_getElem? h, rfl⟩)
theorem wC_self {A : Nat → Prop} {G : Gd} {u : St} {sz : Nat} (h : va_D A (wC G u)) : va_D (AC G sz) (wC G u) := ⟨h.1, fun _ _ hk => wC_A hk⟩
theorem wC_free {A : Nat → Prop} {G : Gd} {u : St} {sz : Nat} (h : va_D A (wC G u)) (hA : ∀ q, sz ≤ q → A q) : ∀ q, AC G sz q → A q := by
  intro q hq
  rcases hq with hq | hq
  · have e : (wC G u).map Prod.fst = (List.range 30).map G.1 := rfl
    rw [← e] at hq
    obtain ⟨z, hz, rfl⟩ := List.mem_map.mp hq
    obtain ⟨i, hi⟩ := List.getElem?_of_mem hz
    exact h.2 i z hi
  · exact hA q hq
def PC (D : va_G) (G : Gd) (u : St) (sz : Nat) : State → Prop := fun U => U.heap.size = sz ∧ va_P D vwCl (wC G u) U.heap ∧ va_K D vwCl (tyC G) U ∧ va_D (AC G sz) (wC G u)
def BC (D : va_G) (G : Gd) (sz : Nat) (u : St) (t : State) : Prop := va_P D vwCl (wC G u) t.heap ∧ va_K D vwCl (tyC G) t ∧ va_D (AC G sz) (wC G u)
def MCi (l : Launch) (D : va_G) (G : Gd) (y : MethodName) (bytes : ByteArray) (maxL : Nat) (ret : Option FieldType) (rm : Room) (As : List Value) (u : St) (post : Int32 → St → Prop) : Prop := ∀ sz : Nat, Met l y (Cond.code y bytes maxL ret :: WS) rm (va_Pc As (PC D G u sz)) (va_Qi post (BC D G sz) (AC G sz)) 0 0 (AC G sz)
theorem cC_i {post : Int32 → St → Prop} {ci q0 b : Nat} {fs : List Value} {T : u_T} {Nf : Nat} (E : Ev D (tyC G) p s m c cc own args) (hml : c.maxLocals = nL) (hP : va_P D vwCl (wC G u) H) (hD : va_D A (wC G u)) (hS : va_S A H0 H locs) (hA : ∀ q, H0.size ≤ q → A q) (hM : MCi l D G y bytes maxL ret rm (.ref b :: As) u post) (hl : Cond.methodLink own ix y ∈ WS) (M : MW C y bytes maxL ret n) (hc : vwCl[ci]? = some (C, T, Nf)) (he : (wC G u)[q0]? = some (b, .inr (ci, fs))) (hR : (rm.cells = 0 ∧ rm.slots = 0) ∧ rm.frames + 1 ≤ R.frames ∧ 8 + (maxL + 11) + rm.locals ≤ R.locals) (hn : As.length = n) (hls : ls.size = nL) (hst : st0 = As.reverse ++ .ref b :: rest) (hro : (rest.map fun v => v.category).sum ≤ 8) (hd : decode cc pc = .ok (.invokevirtual ix, 3)) (hf : cells ≤ R.cells ∧ slots ≤ R.slots)
    (kk : ∀ (r : Int32) (u1 : St) (H1 : Heap) (locs1 : List Loc), va_P D vwCl (wC G u1) H1 → va_D A (wC G u1) → va_S A H0 H1 locs1 → post r u1 → W p l e R s m args below meth c H1 locs1 cells slots Q (F0 m (pc + 3) ls (.int r :: rest))) : W p l e R s m args below meth c H locs cells slots Q (F0 m pc ls st0) := by
  obtain ⟨hx, hb, hown, hW, hK⟩ := E
  have cw := cwV (R := R) (s := s) (args := args) (own := own) (index := ix) (ret := ret) (rm := rm) (mc := 0) (ms := 0) n hW (gd_V hl M) rfl hR.1.1 hR.1.2 M.2.2.2.2 hR.2
  have hF : ∀ q, AC G H.size q → A q := wC_free hD (fun q h => hA q (Nat.le_trans hS.1 h))
  refine va_calli (A0 := A) (A1 := AC G H.size) (free := AC G H.size) (va_runV (Ts := WS) (mc := 0) (ms := 0) ⟨hx, hb, hml, hown, hW⟩ (hM H.size) cw ⟨fun a U g mk q => by obtain ⟨q0, q1, qP, qK, qD⟩ := q; exact ⟨q0, q1, qP, va_K.moved (u := U) (U := U.calling g mk a) (Vm.Alike.refl U.vm) qK, qD⟩, va_recv hK hP hc he, fun U hU hW => ⟨rfl, by rw [hU], by rw [hU]; exact hP, va_K.moved hW.alike hK, wC_self hD⟩⟩ rfl hn hls hst (lv_room hro) hd ⟨hf.1, hf.2⟩) hS (fun q _ h => hF q h) hF (fun r u1 t H1 locs1 ht hvm hw hB hz1 hk1 hS1 => ?_)
  obtain ⟨hP1, hK1, hD1⟩ := hB
  rw [ht] at hP1
  exact kk r u1 H1 locs1 hP1 (hD1.weaken (fun _ q _ h => hF q.1 h)) hS1 hw
theorem startC_i {post : Int32 → St → Prop} (hy : plainName y.cls = true) (body : ∀ (p : Program) (e : Env) (s : State) (m : MethodId) (args : Array Value) (below : List Frame) (meth : Method) (c : Code), Ev D (tyC G) p s m c bytes y.cls args → meth.sig.returnType = ret → meth.locks = false → c.maxLocals = maxL → va_P D vwCl (wC G u) s.heap → va_D (AC G s.heap.size) (wC G u) → va_S (AC G s.heap.size) s.heap s.heap [] → (∀ q, s.heap.size ≤ q → AC G s.heap.size q) →
    W p l e rm s m args below meth c s.heap [] 0 0 (MQ below (va_Qi post (BC D G s.heap.size) (AC G s.heap.size)) args s 0 0 (AC G s.heap.size)) (entryFrame m As.toArray maxL)) : MCi l D G y bytes maxL ret rm As u post := by
  intro sz
  refine Met.ofW (cc := bytes) (maxL := maxL) (ret := ret) hy rfl ?_
  intro p e s m args below meth c s₁ B hml hv
  obtain ⟨rfl, hsz, hP, hK, hD⟩ := hv
  subst hsz
  exact body p e s m _ below meth c ⟨B.exec, B.bytes, findClass_of_methodNamed B.named, fun w h => atoms_spec (ws := Cond.code y bytes maxL ret :: WS) B.pre w (List.mem_cons_of_mem _ h), hK⟩ B.returns B.notSynchronized hml hP hD va_S.rf (fun q h => Or.inr h)
theorem retC_i {post : Int32 → St → Prop} {v : Int32} (E : Ev D (tyC G) p s m c cc own args) (hr : meth.sig.returnType = some .int) (hlk : meth.locks = false) (hP : va_P D vwCl (wC G u) H) (hD : va_D (AC G s.heap.size) (wC G u)) (hS : va_S (AC G s.heap.size) s.heap H locs) (h : post v u) (hd : decode cc pc = .ok (.ireturn, 1)) : W p l e R s m args below meth c H locs 0 0 (MQ below (va_Qi post (BC D G s.heap.size) (AC G s.heap.size)) args s 0 0 (AC G s.heap.size)) (F0 m pc ls [.int v]) := W.iret E.1 E.2.1 hr (fun t ht hW => ⟨⟨v, u, rfl, h, by rw [ht]; exact hP, va_K.moved hW.alike E.2.2.2.2, hD⟩, hS.F ht⟩) hS.2.2 hd hlk
theorem retC_z {post : Int32 → St → Prop} {v : Int32} {ty : FieldType} (E : Ev D (tyC G) p s m c cc own args) (hr : meth.sig.returnType = some ty) (hlk : meth.locks = false) (hP : va_P D vwCl (wC G u) H) (hD : va_D (AC G s.heap.size) (wC G u)) (hS : va_S (AC G s.heap.size) s.heap H locs) (hz : narrow ty (.int v) = .int v) (h : post v u) (hd : decode cc pc = .ok (.ireturn, 1)) : W p l e R s m args below meth c H locs 0 0 (MQ below (va_Qi post (BC D G s.heap.size) (AC G s.heap.size)) args s 0 0 (AC G s.heap.size)) (F0 m pc ls [.int v]) := W.zret E.1 E.2.1 hr hz (fun t ht hW => ⟨⟨v, u, rfl, h, by rw [ht]; exact hP, va_K.moved hW.alike E.2.2.2.2, hD⟩, hS.F ht⟩) hS.2.2 hd hlk
def MCl (l : Launch) (D : va_G) (G : Gd) (y : MethodName) (bytes : ByteArray) (maxL : Nat) (ret : Option FieldType) (rm : Room) (As : List Value) (u : St) (post : Int64 → St → Prop) : Prop := ∀ sz : Nat, Met l y (Cond.code y bytes maxL ret :: WS) rm (va_Pc As (PC D G u sz)) (va_Ql post (BC D G sz) (AC G sz)) 0 0 (AC G sz)
theorem cC_l {post : Int64 → St → Prop} {ci q0 b : Nat} {fs : List Value} {T : u_T} {Nf : Nat} (E : Ev D (tyC G) p s m c cc own args) (hml : c.maxLocals = nL) (hP : va_P D vwCl (wC G u) H) (hD : va_D A (wC G u)) (hS : va_S A H0 H locs) (hA : ∀ q, H0.size ≤ q → A q) (hM : MCl l D G y bytes maxL ret rm (.ref b :: As) u post) (hl : Cond.methodLink own ix y ∈ WS) (M : MW C y bytes maxL ret n) (hc : vwCl[ci]? = some (C, T, Nf)) (he : (wC G u)[q0]? = some (b, .inr (ci, fs))) (hR : (rm.cells = 0 ∧ rm.slots = 0) ∧ rm.frames + 1 ≤ R.frames ∧ 8 + (maxL + 11) + rm.locals ≤ R.locals) (hn : As.length = n) (hls : ls.size = nL) (hst : st0 = As.reverse ++ .ref b :: rest) (hro : (rest.map fun v => v.category).sum ≤ 8) (hd : decode cc pc = .ok (.invokevirtual ix, 3)) (hf : cells ≤ R.cells ∧ slots ≤ R.slots)
    (kk : ∀ (r : Int64) (u1 : St) (H1 : Heap) (locs1 : List Loc), va_P D vwCl (wC G u1) H1 → va_D A (wC G u1) → va_S A H0 H1 locs1 → post r u1 → W p l e R s m args below meth c H1 locs1 cells slots Q (F0 m (pc + 3) ls (.long r :: rest))) : W p l e R s m args below meth c H locs cells slots Q (F0 m pc ls st0) := by
  obtain ⟨hx, hb, hown, hW, hK⟩ := E
  have cw := cwV (R := R) (s := s) (args := args) (own := own) (index := ix) (ret := ret) (rm := rm) (mc := 0) (ms := 0) n hW (gd_V hl M) rfl hR.1.1 hR.1.2 M.2.2.2.2 hR.2
  have hF : ∀ q, AC G H.size q → A q := wC_free hD (fun q h => hA q (Nat.le_trans hS.1 h))
  refine va_calll (A0 := A) (A1 := AC G H.size) (free := AC G H.size) (va_runV (Ts := WS) (mc := 0) (ms := 0) ⟨hx, hb, hml, hown, hW⟩ (hM H.size) cw ⟨fun a U g mk q => by obtain ⟨q0, q1, qP, qK, qD⟩ := q; exact ⟨q0, q1, qP, va_K.moved (u := U) (U := U.calling g mk a) (Vm.Alike.refl U.vm) qK, qD⟩, va_recv hK hP hc he, fun U hU hW => ⟨rfl, by rw [hU], by rw [hU]; exact hP, va_K.moved hW.alike hK, wC_self hD⟩⟩ rfl hn hls hst (lv_room hro) hd ⟨hf.1, hf.2⟩) hS (fun q _ h => hF q h) hF (fun r u1 t H1 locs1 ht hvm hw hB hz1 hk1 hS1 => ?_)
  obtain ⟨hP1, hK1, hD1⟩ := hB
  rw [ht] at hP1
  exact kk r u1 H1 locs1 hP1 (hD1.weaken (fun _ q _ h => hF q.1 h)) hS1 hw
theorem startC_l {post : Int64 → St → Prop} (hy : plainName y.cls = true) (body : ∀ (p : Program) (e : Env) (s : State) (m : MethodId) (args : Array Value) (below : List Frame) (meth : Method) (c : Code), Ev D (tyC G) p s m c bytes y.cls args → meth.sig.returnType = ret → meth.locks = false → c.maxLocals = maxL → va_P D vwCl (wC G u) s.heap → va_D (AC G s.heap.size) (wC G u) → va_S (AC G s.heap.size) s.heap s.heap [] → (∀ q, s.heap.size ≤ q → AC G s.heap.size q) →
    W p l e rm s m args below meth c s.heap [] 0 0 (MQ below (va_Ql post (BC D G s.heap.size) (AC G s.heap.size)) args s 0 0 (AC G s.heap.size)) (entryFrame m As.toArray maxL)) : MCl l D G y bytes maxL ret rm As u post := by
  intro sz
  refine Met.ofW (cc := bytes) (maxL := maxL) (ret := ret) hy rfl ?_
  intro p e s m args below meth c s₁ B hml hv
  obtain ⟨rfl, hsz, hP, hK, hD⟩ := hv
  subst hsz
  exact body p e s m _ below meth c ⟨B.exec, B.bytes, findClass_of_methodNamed B.named, fun w h => atoms_spec (ws := Cond.code y bytes maxL ret :: WS) B.pre w (List.mem_cons_of_mem _ h), hK⟩ B.returns B.notSynchronized hml hP hD va_S.rf (fun q h => Or.inr h)
theorem retC_l {post : Int64 → St → Prop} {v : Int64} (E : Ev D (tyC G) p s m c cc own args) (hr : meth.sig.returnType = some .long) (hlk : meth.locks = false) (hP : va_P D vwCl (wC G u) H) (hD : va_D (AC G s.heap.size) (wC G u)) (hS : va_S (AC G s.heap.size) s.heap H locs) (h : post v u) (hd : decode cc pc = .ok (.lreturn, 1)) : W p l e R s m args below meth c H locs 0 0 (MQ below (va_Ql post (BC D G s.heap.size) (AC G s.heap.size)) args s 0 0 (AC G s.heap.size)) (F0 m pc ls [.long v]) := W.lret E.1 E.2.1 hr (fun t ht hW => ⟨⟨v, u, rfl, h, by rw [ht]; exact hP, va_K.moved hW.alike E.2.2.2.2, hD⟩, hS.F ht⟩) hS.2.2 hd hlk
def MCv (l : Launch) (D : va_G) (G : Gd) (y : MethodName) (bytes : ByteArray) (maxL : Nat) (ret : Option FieldType) (rm : Room) (As : List Value) (u : St) (post : St → Prop) : Prop := ∀ sz : Nat, Met l y (Cond.code y bytes maxL ret :: WS) rm (va_Pc As (PC D G u sz)) (va_Qv post (BC D G sz) (AC G sz)) 0 0 (AC G sz)
theorem cC_v {post : St → Prop} {ci q0 b : Nat} {fs : List Value} {T : u_T} {Nf : Nat} (E : Ev D (tyC G) p s m c cc own args) (hml : c.maxLocals = nL) (hP : va_P D vwCl (wC G u) H) (hD : va_D A (wC G u)) (hS : va_S A H0 H locs) (hA : ∀ q, H0.size ≤ q → A q) (hM : MCv l D G y bytes maxL ret rm (.ref b :: As) u post) (hl : Cond.methodLink own ix y ∈ WS) (M : MW C y bytes maxL ret n) (hc : vwCl[ci]? = some (C, T, Nf)) (he : (wC G u)[q0]? = some (b, .inr (ci, fs))) (hR : (rm.cells = 0 ∧ rm.slots = 0) ∧ rm.frames + 1 ≤ R.frames ∧ 8 + (maxL + 11) + rm.locals ≤ R.locals) (hn : As.length = n) (hls : ls.size = nL) (hst : st0 = As.reverse ++ .ref b :: rest) (hro : (rest.map fun v => v.category).sum ≤ 8) (hd : decode cc pc = .ok (.invokevirtual ix, 3)) (hf : cells ≤ R.cells ∧ slots ≤ R.slots)
    (kk : ∀ (u1 : St) (H1 : Heap) (locs1 : List Loc), va_P D vwCl (wC G u1) H1 → va_D A (wC G u1) → va_S A H0 H1 locs1 → post u1 → W p l e R s m args below meth c H1 locs1 cells slots Q (F0 m (pc + 3) ls rest)) : W p l e R s m args below meth c H locs cells slots Q (F0 m pc ls st0) := by
  obtain ⟨hx, hb, hown, hW, hK⟩ := E
  have cw := cwV (R := R) (s := s) (args := args) (own := own) (index := ix) (ret := ret) (rm := rm) (mc := 0) (ms := 0) n hW (gd_V hl M) rfl hR.1.1 hR.1.2 M.2.2.2.2 hR.2
  have hF : ∀ q, AC G H.size q → A q := wC_free hD (fun q h => hA q (Nat.le_trans hS.1 h))
  refine va_callv (A0 := A) (A1 := AC G H.size) (free := AC G H.size) (va_runV (Ts := WS) (mc := 0) (ms := 0) ⟨hx, hb, hml, hown, hW⟩ (hM H.size) cw ⟨fun a U g mk q => by obtain ⟨q0, q1, qP, qK, qD⟩ := q; exact ⟨q0, q1, qP, va_K.moved (u := U) (U := U.calling g mk a) (Vm.Alike.refl U.vm) qK, qD⟩, va_recv hK hP hc he, fun U hU hW => ⟨rfl, by rw [hU], by rw [hU]; exact hP, va_K.moved hW.alike hK, wC_self hD⟩⟩ rfl hn hls hst (lv_room hro) hd ⟨hf.1, hf.2⟩) hS (fun q _ h => hF q h) hF (fun u1 t H1 locs1 ht hvm hw hB hz1 hk1 hS1 => ?_)
  obtain ⟨hP1, hK1, hD1⟩ := hB
  rw [ht] at hP1
  exact kk u1 H1 locs1 hP1 (hD1.weaken (fun _ q _ h => hF q.1 h)) hS1 hw
theorem startC_v {post : St → Prop} (hy : plainName y.cls = true) (body : ∀ (p : Program) (e : Env) (s : State) (m : MethodId) (args : Array Value) (below : List Frame) (meth : Method) (c : Code), Ev D (tyC G) p s m c bytes y.cls args → meth.sig.returnType = ret → meth.locks = false → c.maxLocals = maxL → va_P D vwCl (wC G u) s.heap → va_D (AC G s.heap.size) (wC G u) → va_S (AC G s.heap.size) s.heap s.heap [] → (∀ q, s.heap.size ≤ q → AC G s.heap.size q) →
    W p l e rm s m args below meth c s.heap [] 0 0 (MQ below (va_Qv post (BC D G s.heap.size) (AC G s.heap.size)) args s 0 0 (AC G s.heap.size)) (entryFrame m As.toArray maxL)) : MCv l D G y bytes maxL ret rm As u post := by
  intro sz
  refine Met.ofW (cc := bytes) (maxL := maxL) (ret := ret) hy rfl ?_
  intro p e s m args below meth c s₁ B hml hv
  obtain ⟨rfl, hsz, hP, hK, hD⟩ := hv
  subst hsz
  exact body p e s m _ below meth c ⟨B.exec, B.bytes, findClass_of_methodNamed B.named, fun w h => atoms_spec (ws := Cond.code y bytes maxL ret :: WS) B.pre w (List.mem_cons_of_mem _ h), hK⟩ B.returns B.notSynchronized hml hP hD va_S.rf (fun q h => Or.inr h)
theorem retC_v {post : St → Prop} (E : Ev D (tyC G) p s m c cc own args) (hr : meth.sig.returnType = none) (hlk : meth.locks = false) (hP : va_P D vwCl (wC G u) H) (hD : va_D (AC G s.heap.size) (wC G u)) (hS : va_S (AC G s.heap.size) s.heap H locs) (h : post u) (hd : decode cc pc = .ok (.return_, 1)) : W p l e R s m args below meth c H locs 0 0 (MQ below (va_Qv post (BC D G s.heap.size) (AC G s.heap.size)) args s 0 0 (AC G s.heap.size)) (F0 m pc ls []) := W.vret E.1 E.2.1 hr (fun t ht hW => ⟨⟨u, rfl, h, by rw [ht]; exact hP, va_K.moved hW.alike E.2.2.2.2, hD⟩, hS.F ht⟩) hS.2.2 hd hlk
def AR (G : Gd) (sz : Nat) : Nat → Prop := fun q => q ∈ (List.range 20).map G.1 ∨ sz ≤ q
theorem wR_A {G : Gd} {u : St} {sz k : Nat} {q : Nat × va_E} (h : (wR G u)[k]? = some q) : AR G sz q.1 := Or.inl (by
  have e : (wR G u).map Prod.fst = (List.range 20).map G.1 := rfl
  rw [← e]
  exact List.mem_map.mpr ⟨q, List.mem_of_getElem? h, rfl⟩)
theorem wR_self {A : Nat → Prop} {G : Gd} {u : St} {sz : Nat} (h : va_D A (wR G u)) : va_D (AR G sz) (wR G u) := ⟨h.1, fun _ _ hk => wR_A hk⟩
theorem wR_free {A : Nat → Prop} {G : Gd} {u : St} {sz : Nat} (h : va_D A (wR G u)) (hA : ∀ q, sz ≤ q → A q) : ∀ q, AR G sz q → A q := by
  intro q hq
  rcases hq with hq | hq
  · have e : (wR G u).map Prod.fst = (List.range 20).map G.1 := rfl
    rw [← e] at hq
    obtain ⟨z, hz, rfl⟩ := List.mem_map.mp hq
    obtain ⟨i, hi⟩ := List.getElem?_of_mem hz
    exact h.2 i z hi
  · exact hA q hq
def PR (D : va_G) (G : Gd) (u : St) (sz : Nat) : State → Prop := fun U => U.heap.size = sz ∧ va_P D vwCl (wR G u) U.heap ∧ va_K D vwCl (tyR G) U ∧ va_D (AR G sz) (wR G u)
def BR (D : va_G) (G : Gd) (sz : Nat) (u : St) (t : State) : Prop := va_P D vwCl (wR G u) t.heap ∧ va_K D vwCl (tyR G) t ∧ va_D (AR G sz) (wR G u)
def MRi (l : Launch) (D : va_G) (G : Gd) (y : MethodName) (bytes : ByteArray) (maxL : Nat) (ret : Option FieldType) (rm : Room) (As : List Value) (u : St) (post : Int32 → St → Prop) : Prop := ∀ sz : Nat, Met l y (Cond.code y bytes maxL ret :: WS) rm (va_Pc As (PR D G u sz)) (va_Qi post (BR D G sz) (AR G sz)) 0 0 (AR G sz)
theorem cR_i {post : Int32 → St → Prop} {ci q0 b : Nat} {fs : List Value} {T : u_T} {Nf : Nat} (E : Ev D (tyR G) p s m c cc own args) (hml : c.maxLocals = nL) (hP : va_P D vwCl (wR G u) H) (hD : va_D A (wR G u)) (hS : va_S A H0 H locs) (hA : ∀ q, H0.size ≤ q → A q) (hM : MRi l D G y bytes maxL ret rm (.ref b :: As) u post) (hl : Cond.methodLink own ix y ∈ WS) (M : MW C y bytes maxL ret n) (hc : vwCl[ci]? = some (C, T, Nf)) (he : (wR G u)[q0]? = some (b, .inr (ci, fs))) (hR : (rm.cells = 0 ∧ rm.slots = 0) ∧ rm.frames + 1 ≤ R.frames ∧ 8 + (maxL + 11) + rm.locals ≤ R.locals) (hn : As.length = n) (hls : ls.size = nL) (hst : st0 = As.reverse ++ .ref b :: rest) (hro : (rest.map fun v => v.category).sum ≤ 8) (hd : decode cc pc = .ok (.invokevirtual ix, 3)) (hf : cells ≤ R.cells ∧ slots ≤ R.slots)
    (kk : ∀ (r : Int32) (u1 : St) (H1 : Heap) (locs1 : List Loc), va_P D vwCl (wR G u1) H1 → va_D A (wR G u1) → va_S A H0 H1 locs1 → post r u1 → W p l e R s m args below meth c H1 locs1 cells slots Q (F0 m (pc + 3) ls (.int r :: rest))) : W p l e R s m args below meth c H locs cells slots Q (F0 m pc ls st0) := by
  obtain ⟨hx, hb, hown, hW, hK⟩ := E
  have cw := cwV (R := R) (s := s) (args := args) (own := own) (index := ix) (ret := ret) (rm := rm) (mc := 0) (ms := 0) n hW (gd_V hl M) rfl hR.1.1 hR.1.2 M.2.2.2.2 hR.2
  have hF : ∀ q, AR G H.size q → A q := wR_free hD (fun q h => hA q (Nat.le_trans hS.1 h))
  refine va_calli (A0 := A) (A1 := AR G H.size) (free := AR G H.size) (va_runV (Ts := WS) (mc := 0) (ms := 0) ⟨hx, hb, hml, hown, hW⟩ (hM H.size) cw ⟨fun a U g mk q => by obtain ⟨q0, q1, qP, qK, qD⟩ := q; exact ⟨q0, q1, qP, va_K.moved (u := U) (U := U.calling g mk a) (Vm.Alike.refl U.vm) qK, qD⟩, va_recv hK hP hc he, fun U hU hW => ⟨rfl, by rw [hU], by rw [hU]; exact hP, va_K.moved hW.alike hK, wR_self hD⟩⟩ rfl hn hls hst (lv_room hro) hd ⟨hf.1, hf.2⟩) hS (fun q _ h => hF q h) hF (fun r u1 t H1 locs1 ht hvm hw hB hz1 hk1 hS1 => ?_)
  obtain ⟨hP1, hK1, hD1⟩ := hB
  rw [ht] at hP1
  exact kk r u1 H1 locs1 hP1 (hD1.weaken (fun _ q _ h => hF q.1 h)) hS1 hw
theorem startR_i {post : Int32 → St → Prop} (hy : plainName y.cls = true) (body : ∀ (p : Program) (e : Env) (s : State) (m : MethodId) (args : Array Value) (below : List Frame) (meth : Method) (c : Code), Ev D (tyR G) p s m c bytes y.cls args → meth.sig.returnType = ret → meth.locks = false → c.maxLocals = maxL → va_P D vwCl (wR G u) s.heap → va_D (AR G s.heap.size) (wR G u) → va_S (AR G s.heap.size) s.heap s.heap [] → (∀ q, s.heap.size ≤ q → AR G s.heap.size q) →
    W p l e rm s m args below meth c s.heap [] 0 0 (MQ below (va_Qi post (BR D G s.heap.size) (AR G s.heap.size)) args s 0 0 (AR G s.heap.size)) (entryFrame m As.toArray maxL)) : MRi l D G y bytes maxL ret rm As u post := by
  intro sz
  refine Met.ofW (cc := bytes) (maxL := maxL) (ret := ret) hy rfl ?_
  intro p e s m args below meth c s₁ B hml hv
  obtain ⟨rfl, hsz, hP, hK, hD⟩ := hv
  subst hsz
  exact body p e s m _ below meth c ⟨B.exec, B.bytes, findClass_of_methodNamed B.named, fun w h => atoms_spec (ws := Cond.code y bytes maxL ret :: WS) B.pre w (List.mem_cons_of_mem _ h), hK⟩ B.returns B.notSynchronized hml hP hD va_S.rf (fun q h => Or.inr h)
theorem retR_i {post : Int32 → St → Prop} {v : Int32} (E : Ev D (tyR G) p s m c cc own args) (hr : meth.sig.returnType = some .int) (hlk : meth.locks = false) (hP : va_P D vwCl (wR G u) H) (hD : va_D (AR G s.heap.size) (wR G u)) (hS : va_S (AR G s.heap.size) s.heap H locs) (h : post v u) (hd : decode cc pc = .ok (.ireturn, 1)) : W p l e R s m args below meth c H locs 0 0 (MQ below (va_Qi post (BR D G s.heap.size) (AR G s.heap.size)) args s 0 0 (AR G s.heap.size)) (F0 m pc ls [.int v]) := W.iret E.1 E.2.1 hr (fun t ht hW => ⟨⟨v, u, rfl, h, by rw [ht]; exact hP, va_K.moved hW.alike E.2.2.2.2, hD⟩, hS.F ht⟩) hS.2.2 hd hlk
theorem retR_z {post : Int32 → St → Prop} {v : Int32} {ty : FieldType} (E : Ev D (tyR G) p s m c cc own args) (hr : meth.sig.returnType = some ty) (hlk : meth.locks = false) (hP : va_P D vwCl (wR G u) H) (hD : va_D (AR G s.heap.size) (wR G u)) (hS : va_S (AR G s.heap.size) s.heap H locs) (hz : narrow ty (.int v) = .int v) (h : post v u) (hd : decode cc pc = .ok (.ireturn, 1)) : W p l e R s m args below meth c H locs 0 0 (MQ below (va_Qi post (BR D G s.heap.size) (AR G s.heap.size)) args s 0 0 (AR G s.heap.size)) (F0 m pc ls [.int v]) := W.zret E.1 E.2.1 hr hz (fun t ht hW => ⟨⟨v, u, rfl, h, by rw [ht]; exact hP, va_K.moved hW.alike E.2.2.2.2, hD⟩, hS.F ht⟩) hS.2.2 hd hlk
def MRl (l : Launch) (D : va_G) (G : Gd) (y : MethodName) (bytes : ByteArray) (maxL : Nat) (ret : Option FieldType) (rm : Room) (As : List Value) (u : St) (post : Int64 → St → Prop) : Prop := ∀ sz : Nat, Met l y (Cond.code y bytes maxL ret :: WS) rm (va_Pc As (PR D G u sz)) (va_Ql post (BR D G sz) (AR G sz)) 0 0 (AR G sz)
theorem cR_l {post : Int64 → St → Prop} {ci q0 b : Nat} {fs : List Value} {T : u_T} {Nf : Nat} (E : Ev D (tyR G) p s m c cc own args) (hml : c.maxLocals = nL) (hP : va_P D vwCl (wR G u) H) (hD : va_D A (wR G u)) (hS : va_S A H0 H locs) (hA : ∀ q, H0.size ≤ q → A q) (hM : MRl l D G y bytes maxL ret rm (.ref b :: As) u post) (hl : Cond.methodLink own ix y ∈ WS) (M : MW C y bytes maxL ret n) (hc : vwCl[ci]? = some (C, T, Nf)) (he : (wR G u)[q0]? = some (b, .inr (ci, fs))) (hR : (rm.cells = 0 ∧ rm.slots = 0) ∧ rm.frames + 1 ≤ R.frames ∧ 8 + (maxL + 11) + rm.locals ≤ R.locals) (hn : As.length = n) (hls : ls.size = nL) (hst : st0 = As.reverse ++ .ref b :: rest) (hro : (rest.map fun v => v.category).sum ≤ 8) (hd : decode cc pc = .ok (.invokevirtual ix, 3)) (hf : cells ≤ R.cells ∧ slots ≤ R.slots)
    (kk : ∀ (r : Int64) (u1 : St) (H1 : Heap) (locs1 : List Loc), va_P D vwCl (wR G u1) H1 → va_D A (wR G u1) → va_S A H0 H1 locs1 → post r u1 → W p l e R s m args below meth c H1 locs1 cells slots Q (F0 m (pc + 3) ls (.long r :: rest))) : W p l e R s m args below meth c H locs cells slots Q (F0 m pc ls st0) := by
  obtain ⟨hx, hb, hown, hW, hK⟩ := E
  have cw := cwV (R := R) (s := s) (args := args) (own := own) (index := ix) (ret := ret) (rm := rm) (mc := 0) (ms := 0) n hW (gd_V hl M) rfl hR.1.1 hR.1.2 M.2.2.2.2 hR.2
  have hF : ∀ q, AR G H.size q → A q := wR_free hD (fun q h => hA q (Nat.le_trans hS.1 h))
  refine va_calll (A0 := A) (A1 := AR G H.size) (free := AR G H.size) (va_runV (Ts := WS) (mc := 0) (ms := 0) ⟨hx, hb, hml, hown, hW⟩ (hM H.size) cw ⟨fun a U g mk q => by obtain ⟨q0, q1, qP, qK, qD⟩ := q; exact ⟨q0, q1, qP, va_K.moved (u := U) (U := U.calling g mk a) (Vm.Alike.refl U.vm) qK, qD⟩, va_recv hK hP hc he, fun U hU hW => ⟨rfl, by rw [hU], by rw [hU]; exact hP, va_K.moved hW.alike hK, wR_self hD⟩⟩ rfl hn hls hst (lv_room hro) hd ⟨hf.1, hf.2⟩) hS (fun q _ h => hF q h) hF (fun r u1 t H1 locs1 ht hvm hw hB hz1 hk1 hS1 => ?_)
  obtain ⟨hP1, hK1, hD1⟩ := hB
  rw [ht] at hP1
  exact kk r u1 H1 locs1 hP1 (hD1.weaken (fun _ q _ h => hF q.1 h)) hS1 hw
theorem startR_l {post : Int64 → St → Prop} (hy : plainName y.cls = true) (body : ∀ (p : Program) (e : Env) (s : State) (m : MethodId) (args : Array Value) (below : List Frame) (meth : Method) (c : Code), Ev D (tyR G) p s m c bytes y.cls args → meth.sig.returnType = ret → meth.locks = false → c.maxLocals = maxL → va_P D vwCl (wR G u) s.heap → va_D (AR G s.heap.size) (wR G u) → va_S (AR G s.heap.size) s.heap s.heap [] → (∀ q, s.heap.size ≤ q → AR G s.heap.size q) →
    W p l e rm s m args below meth c s.heap [] 0 0 (MQ below (va_Ql post (BR D G s.heap.size) (AR G s.heap.size)) args s 0 0 (AR G s.heap.size)) (entryFrame m As.toArray maxL)) : MRl l D G y bytes maxL ret rm As u post := by
  intro sz
  refine Met.ofW (cc := bytes) (maxL := maxL) (ret := ret) hy rfl ?_
  intro p e s m args below meth c s₁ B hml hv
  obtain ⟨rfl, hsz, hP, hK, hD⟩ := hv
  subst hsz
  exact body p e s m _ below meth c ⟨B.exec, B.bytes, findClass_of_methodNamed B.named, fun w h => atoms_spec (ws := Cond.code y bytes maxL ret :: WS) B.pre w (List.mem_cons_of_mem _ h), hK⟩ B.returns B.notSynchronized hml hP hD va_S.rf (fun q h => Or.inr h)
theorem retR_l {post : Int64 → St → Prop} {v : Int64} (E : Ev D (tyR G) p s m c cc own args) (hr : meth.sig.returnType = some .long) (hlk : meth.locks = false) (hP : va_P D vwCl (wR G u) H) (hD : va_D (AR G s.heap.size) (wR G u)) (hS : va_S (AR G s.heap.size) s.heap H locs) (h : post v u) (hd : decode cc pc = .ok (.lreturn, 1)) : W p l e R s m args below meth c H locs 0 0 (MQ below (va_Ql post (BR D G s.heap.size) (AR G s.heap.size)) args s 0 0 (AR G s.heap.size)) (F0 m pc ls [.long v]) := W.lret E.1 E.2.1 hr (fun t ht hW => ⟨⟨v, u, rfl, h, by rw [ht]; exact hP, va_K.moved hW.alike E.2.2.2.2, hD⟩, hS.F ht⟩) hS.2.2 hd hlk
def MRv (l : Launch) (D : va_G) (G : Gd) (y : MethodName) (bytes : ByteArray) (maxL : Nat) (ret : Option FieldType) (rm : Room) (As : List Value) (u : St) (post : St → Prop) : Prop := ∀ sz : Nat, Met l y (Cond.code y bytes maxL ret :: WS) rm (va_Pc As (PR D G u sz)) (va_Qv post (BR D G sz) (AR G sz)) 0 0 (AR G sz)
theorem cR_v {post : St → Prop} {ci q0 b : Nat} {fs : List Value} {T : u_T} {Nf : Nat} (E : Ev D (tyR G) p s m c cc own args) (hml : c.maxLocals = nL) (hP : va_P D vwCl (wR G u) H) (hD : va_D A (wR G u)) (hS : va_S A H0 H locs) (hA : ∀ q, H0.size ≤ q → A q) (hM : MRv l D G y bytes maxL ret rm (.ref b :: As) u post) (hl : Cond.methodLink own ix y ∈ WS) (M : MW C y bytes maxL ret n) (hc : vwCl[ci]? = some (C, T, Nf)) (he : (wR G u)[q0]? = some (b, .inr (ci, fs))) (hR : (rm.cells = 0 ∧ rm.slots = 0) ∧ rm.frames + 1 ≤ R.frames ∧ 8 + (maxL + 11) + rm.locals ≤ R.locals) (hn : As.length = n) (hls : ls.size = nL) (hst : st0 = As.reverse ++ .ref b :: rest) (hro : (rest.map fun v => v.category).sum ≤ 8) (hd : decode cc pc = .ok (.invokevirtual ix, 3)) (hf : cells ≤ R.cells ∧ slots ≤ R.slots)
    (kk : ∀ (u1 : St) (H1 : Heap) (locs1 : List Loc), va_P D vwCl (wR G u1) H1 → va_D A (wR G u1) → va_S A H0 H1 locs1 → post u1 → W p l e R s m args below meth c H1 locs1 cells slots Q (F0 m (pc + 3) ls rest)) : W p l e R s m args below meth c H locs cells slots Q (F0 m pc ls st0) := by
  obtain ⟨hx, hb, hown, hW, hK⟩ := E
  have cw := cwV (R := R) (s := s) (args := args) (own := own) (index := ix) (ret := ret) (rm := rm) (mc := 0) (ms := 0) n hW (gd_V hl M) rfl hR.1.1 hR.1.2 M.2.2.2.2 hR.2
  have hF : ∀ q, AR G H.size q → A q := wR_free hD (fun q h => hA q (Nat.le_trans hS.1 h))
  refine va_callv (A0 := A) (A1 := AR G H.size) (free := AR G H.size) (va_runV (Ts := WS) (mc := 0) (ms := 0) ⟨hx, hb, hml, hown, hW⟩ (hM H.size) cw ⟨fun a U g mk q => by obtain ⟨q0, q1, qP, qK, qD⟩ := q; exact ⟨q0, q1, qP, va_K.moved (u := U) (U := U.calling g mk a) (Vm.Alike.refl U.vm) qK, qD⟩, va_recv hK hP hc he, fun U hU hW => ⟨rfl, by rw [hU], by rw [hU]; exact hP, va_K.moved hW.alike hK, wR_self hD⟩⟩ rfl hn hls hst (lv_room hro) hd ⟨hf.1, hf.2⟩) hS (fun q _ h => hF q h) hF (fun u1 t H1 locs1 ht hvm hw hB hz1 hk1 hS1 => ?_)
  obtain ⟨hP1, hK1, hD1⟩ := hB
  rw [ht] at hP1
  exact kk u1 H1 locs1 hP1 (hD1.weaken (fun _ q _ h => hF q.1 h)) hS1 hw
theorem startR_v {post : St → Prop} (hy : plainName y.cls = true) (body : ∀ (p : Program) (e : Env) (s : State) (m : MethodId) (args : Array Value) (below : List Frame) (meth : Method) (c : Code), Ev D (tyR G) p s m c bytes y.cls args → meth.sig.returnType = ret → meth.locks = false → c.maxLocals = maxL → va_P D vwCl (wR G u) s.heap → va_D (AR G s.heap.size) (wR G u) → va_S (AR G s.heap.size) s.heap s.heap [] → (∀ q, s.heap.size ≤ q → AR G s.heap.size q) →
    W p l e rm s m args below meth c s.heap [] 0 0 (MQ below (va_Qv post (BR D G s.heap.size) (AR G s.heap.size)) args s 0 0 (AR G s.heap.size)) (entryFrame m As.toArray maxL)) : MRv l D G y bytes maxL ret rm As u post := by
  intro sz
  refine Met.ofW (cc := bytes) (maxL := maxL) (ret := ret) hy rfl ?_
  intro p e s m args below meth c s₁ B hml hv
  obtain ⟨rfl, hsz, hP, hK, hD⟩ := hv
  subst hsz
  exact body p e s m _ below meth c ⟨B.exec, B.bytes, findClass_of_methodNamed B.named, fun w h => atoms_spec (ws := Cond.code y bytes maxL ret :: WS) B.pre w (List.mem_cons_of_mem _ h), hK⟩ B.returns B.notSynchronized hml hP hD va_S.rf (fun q h => Or.inr h)
theorem retR_v {post : St → Prop} (E : Ev D (tyR G) p s m c cc own args) (hr : meth.sig.returnType = none) (hlk : meth.locks = false) (hP : va_P D vwCl (wR G u) H) (hD : va_D (AR G s.heap.size) (wR G u)) (hS : va_S (AR G s.heap.size) s.heap H locs) (h : post u) (hd : decode cc pc = .ok (.return_, 1)) : W p l e R s m args below meth c H locs 0 0 (MQ below (va_Qv post (BR D G s.heap.size) (AR G s.heap.size)) args s 0 0 (AR G s.heap.size)) (F0 m pc ls []) := W.vret E.1 E.2.1 hr (fun t ht hW => ⟨⟨u, rfl, h, by rw [ht]; exact hP, va_K.moved hW.alike E.2.2.2.2, hD⟩, hS.F ht⟩) hS.2.2 hd hlk
def AN (G : Gd) (sz : Nat) : Nat → Prop := fun q => q ∈ (List.range 3).map G.1 ∨ sz ≤ q
theorem wN_A {G : Gd} {u : St} {sz k : Nat} {q : Nat × va_E} (h : (wN G u)[k]? = some q) : AN G sz q.1 := Or.inl (by
  have e : (wN G u).map Prod.fst = (List.range 3).map G.1 := rfl
  rw [← e]
  exact List.mem_map.mpr ⟨q, List.mem_of_getElem? h, rfl⟩)
theorem wN_self {A : Nat → Prop} {G : Gd} {u : St} {sz : Nat} (h : va_D A (wN G u)) : va_D (AN G sz) (wN G u) := ⟨h.1, fun _ _ hk => wN_A hk⟩
theorem wN_free {A : Nat → Prop} {G : Gd} {u : St} {sz : Nat} (h : va_D A (wN G u)) (hA : ∀ q, sz ≤ q → A q) : ∀ q, AN G sz q → A q := by
  intro q hq
  rcases hq with hq | hq
  · have e : (wN G u).map Prod.fst = (List.range 3).map G.1 := rfl
    rw [← e] at hq
    obtain ⟨z, hz, rfl⟩ := List.mem_map.mp hq
    obtain ⟨i, hi⟩ := List.getElem?_of_mem hz
    exact h.2 i z hi
  · exact hA q hq
def PN (D : va_G) (G : Gd) (u : St) (sz : Nat) : State → Prop := fun U => U.heap.size = sz ∧ va_P D vwCl (wN G u) U.heap ∧ va_K D vwCl (tyN G) U ∧ va_D (AN G sz) (wN G u)
def BN (D : va_G) (G : Gd) (sz : Nat) (u : St) (t : State) : Prop := va_P D vwCl (wN G u) t.heap ∧ va_K D vwCl (tyN G) t ∧ va_D (AN G sz) (wN G u)
def MNi (l : Launch) (D : va_G) (G : Gd) (y : MethodName) (bytes : ByteArray) (maxL : Nat) (ret : Option FieldType) (rm : Room) (As : List Value) (u : St) (post : Int32 → St → Prop) : Prop := ∀ sz : Nat, Met l y (Cond.code y bytes maxL ret :: WS) rm (va_Pc As (PN D G u sz)) (va_Qi post (BN D G sz) (AN G sz)) 0 0 (AN G sz)
theorem cN_i {post : Int32 → St → Prop} {ci q0 b : Nat} {fs : List Value} {T : u_T} {Nf : Nat} (E : Ev D (tyN G) p s m c cc own args) (hml : c.maxLocals = nL) (hP : va_P D vwCl (wN G u) H) (hD : va_D A (wN G u)) (hS : va_S A H0 H locs) (hA : ∀ q, H0.size ≤ q → A q) (hM : MNi l D G y bytes maxL ret rm (.ref b :: As) u post) (hl : Cond.methodLink own ix y ∈ WS) (M : MW C y bytes maxL ret n) (hc : vwCl[ci]? = some (C, T, Nf)) (he : (wN G u)[q0]? = some (b, .inr (ci, fs))) (hR : (rm.cells = 0 ∧ rm.slots = 0) ∧ rm.frames + 1 ≤ R.frames ∧ 8 + (maxL + 11) + rm.locals ≤ R.locals) (hn : As.length = n) (hls : ls.size = nL) (hst : st0 = As.reverse ++ .ref b :: rest) (hro : (rest.map fun v => v.category).sum ≤ 8) (hd : decode cc pc = .ok (.invokevirtual ix, 3)) (hf : cells ≤ R.cells ∧ slots ≤ R.slots)
    (kk : ∀ (r : Int32) (u1 : St) (H1 : Heap) (locs1 : List Loc), va_P D vwCl (wN G u1) H1 → va_D A (wN G u1) → va_S A H0 H1 locs1 → post r u1 → W p l e R s m args below meth c H1 locs1 cells slots Q (F0 m (pc + 3) ls (.int r :: rest))) : W p l e R s m args below meth c H locs cells slots Q (F0 m pc ls st0) := by
  obtain ⟨hx, hb, hown, hW, hK⟩ := E
  have cw := cwV (R := R) (s := s) (args := args) (own := own) (index := ix) (ret := ret) (rm := rm) (mc := 0) (ms := 0) n hW (gd_V hl M) rfl hR.1.1 hR.1.2 M.2.2.2.2 hR.2
  have hF : ∀ q, AN G H.size q → A q := wN_free hD (fun q h => hA q (Nat.le_trans hS.1 h))
  refine va_calli (A0 := A) (A1 := AN G H.size) (free := AN G H.size) (va_runV (Ts := WS) (mc := 0) (ms := 0) ⟨hx, hb, hml, hown, hW⟩ (hM H.size) cw ⟨fun a U g mk q => by obtain ⟨q0, q1, qP, qK, qD⟩ := q; exact ⟨q0, q1, qP, va_K.moved (u := U) (U := U.calling g mk a) (Vm.Alike.refl U.vm) qK, qD⟩, va_recv hK hP hc he, fun U hU hW => ⟨rfl, by rw [hU], by rw [hU]; exact hP, va_K.moved hW.alike hK, wN_self hD⟩⟩ rfl hn hls hst (lv_room hro) hd ⟨hf.1, hf.2⟩) hS (fun q _ h => hF q h) hF (fun r u1 t H1 locs1 ht hvm hw hB hz1 hk1 hS1 => ?_)
  obtain ⟨hP1, hK1, hD1⟩ := hB
  rw [ht] at hP1
  exact kk r u1 H1 locs1 hP1 (hD1.weaken (fun _ q _ h => hF q.1 h)) hS1 hw
theorem startN_i {post : Int32 → St → Prop} (hy : plainName y.cls = true) (body : ∀ (p : Program) (e : Env) (s : State) (m : MethodId) (args : Array Value) (below : List Frame) (meth : Method) (c : Code), Ev D (tyN G) p s m c bytes y.cls args → meth.sig.returnType = ret → meth.locks = false → c.maxLocals = maxL → va_P D vwCl (wN G u) s.heap → va_D (AN G s.heap.size) (wN G u) → va_S (AN G s.heap.size) s.heap s.heap [] → (∀ q, s.heap.size ≤ q → AN G s.heap.size q) →
    W p l e rm s m args below meth c s.heap [] 0 0 (MQ below (va_Qi post (BN D G s.heap.size) (AN G s.heap.size)) args s 0 0 (AN G s.heap.size)) (entryFrame m As.toArray maxL)) : MNi l D G y bytes maxL ret rm As u post := by
  intro sz
  refine Met.ofW (cc := bytes) (maxL := maxL) (ret := ret) hy rfl ?_
  intro p e s m args below meth c s₁ B hml hv
  obtain ⟨rfl, hsz, hP, hK, hD⟩ := hv
  subst hsz
  exact body p e s m _ below meth c ⟨B.exec, B.bytes, findClass_of_methodNamed B.named, fun w h => atoms_spec (ws := Cond.code y bytes maxL ret :: WS) B.pre w (List.mem_cons_of_mem _ h), hK⟩ B.returns B.notSynchronized hml hP hD va_S.rf (fun q h => Or.inr h)
theorem retN_i {post : Int32 → St → Prop} {v : Int32} (E : Ev D (tyN G) p s m c cc own args) (hr : meth.sig.returnType = some .int) (hlk : meth.locks = false) (hP : va_P D vwCl (wN G u) H) (hD : va_D (AN G s.heap.size) (wN G u)) (hS : va_S (AN G s.heap.size) s.heap H locs) (h : post v u) (hd : decode cc pc = .ok (.ireturn, 1)) : W p l e R s m args below meth c H locs 0 0 (MQ below (va_Qi post (BN D G s.heap.size) (AN G s.heap.size)) args s 0 0 (AN G s.heap.size)) (F0 m pc ls [.int v]) := W.iret E.1 E.2.1 hr (fun t ht hW => ⟨⟨v, u, rfl, h, by rw [ht]; exact hP, va_K.moved hW.alike E.2.2.2.2, hD⟩, hS.F ht⟩) hS.2.2 hd hlk
theorem retN_z {post : Int32 → St → Prop} {v : Int32} {ty : FieldType} (E : Ev D (tyN G) p s m c cc own args) (hr : meth.sig.returnType = some ty) (hlk : meth.locks = false) (hP : va_P D vwCl (wN G u) H) (hD : va_D (AN G s.heap.size) (wN G u)) (hS : va_S (AN G s.heap.size) s.heap H locs) (hz : narrow ty (.int v) = .int v) (h : post v u) (hd : decode cc pc = .ok (.ireturn, 1)) : W p l e R s m args below meth c H locs 0 0 (MQ below (va_Qi post (BN D G s.heap.size) (AN G s.heap.size)) args s 0 0 (AN G s.heap.size)) (F0 m pc ls [.int v]) := W.zret E.1 E.2.1 hr hz (fun t ht hW => ⟨⟨v, u, rfl, h, by rw [ht]; exact hP, va_K.moved hW.alike E.2.2.2.2, hD⟩, hS.F ht⟩) hS.2.2 hd hlk
def MNl (l : Launch) (D : va_G) (G : Gd) (y : MethodName) (bytes : ByteArray) (maxL : Nat) (ret : Option FieldType) (rm : Room) (As : List Value) (u : St) (post : Int64 → St → Prop) : Prop := ∀ sz : Nat, Met l y (Cond.code y bytes maxL ret :: WS) rm (va_Pc As (PN D G u sz)) (va_Ql post (BN D G sz) (AN G sz)) 0 0 (AN G sz)
theorem cN_l {post : Int64 → St → Prop} {ci q0 b : Nat} {fs : List Value} {T : u_T} {Nf : Nat} (E : Ev D (tyN G) p s m c cc own args) (hml : c.maxLocals = nL) (hP : va_P D vwCl (wN G u) H) (hD : va_D A (wN G u)) (hS : va_S A H0 H locs) (hA : ∀ q, H0.size ≤ q → A q) (hM : MNl l D G y bytes maxL ret rm (.ref b :: As) u post) (hl : Cond.methodLink own ix y ∈ WS) (M : MW C y bytes maxL ret n) (hc : vwCl[ci]? = some (C, T, Nf)) (he : (wN G u)[q0]? = some (b, .inr (ci, fs))) (hR : (rm.cells = 0 ∧ rm.slots = 0) ∧ rm.frames + 1 ≤ R.frames ∧ 8 + (maxL + 11) + rm.locals ≤ R.locals) (hn : As.length = n) (hls : ls.size = nL) (hst : st0 = As.reverse ++ .ref b :: rest) (hro : (rest.map fun v => v.category).sum ≤ 8) (hd : decode cc pc = .ok (.invokevirtual ix, 3)) (hf : cells ≤ R.cells ∧ slots ≤ R.slots)
    (kk : ∀ (r : Int64) (u1 : St) (H1 : Heap) (locs1 : List Loc), va_P D vwCl (wN G u1) H1 → va_D A (wN G u1) → va_S A H0 H1 locs1 → post r u1 → W p l e R s m args below meth c H1 locs1 cells slots Q (F0 m (pc + 3) ls (.long r :: rest))) : W p l e R s m args below meth c H locs cells slots Q (F0 m pc ls st0) := by
  obtain ⟨hx, hb, hown, hW, hK⟩ := E
  have cw := cwV (R := R) (s := s) (args := args) (own := own) (index := ix) (ret := ret) (rm := rm) (mc := 0) (ms := 0) n hW (gd_V hl M) rfl hR.1.1 hR.1.2 M.2.2.2.2 hR.2
  have hF : ∀ q, AN G H.size q → A q := wN_free hD (fun q h => hA q (Nat.le_trans hS.1 h))
  refine va_calll (A0 := A) (A1 := AN G H.size) (free := AN G H.size) (va_runV (Ts := WS) (mc := 0) (ms := 0) ⟨hx, hb, hml, hown, hW⟩ (hM H.size) cw ⟨fun a U g mk q => by obtain ⟨q0, q1, qP, qK, qD⟩ := q; exact ⟨q0, q1, qP, va_K.moved (u := U) (U := U.calling g mk a) (Vm.Alike.refl U.vm) qK, qD⟩, va_recv hK hP hc he, fun U hU hW => ⟨rfl, by rw [hU], by rw [hU]; exact hP, va_K.moved hW.alike hK, wN_self hD⟩⟩ rfl hn hls hst (lv_room hro) hd ⟨hf.1, hf.2⟩) hS (fun q _ h => hF q h) hF (fun r u1 t H1 locs1 ht hvm hw hB hz1 hk1 hS1 => ?_)
  obtain ⟨hP1, hK1, hD1⟩ := hB
  rw [ht] at hP1
  exact kk r u1 H1 locs1 hP1 (hD1.weaken (fun _ q _ h => hF q.1 h)) hS1 hw
theorem startN_l {post : Int64 → St → Prop} (hy : plainName y.cls = true) (body : ∀ (p : Program) (e : Env) (s : State) (m : MethodId) (args : Array Value) (below : List Frame) (meth : Method) (c : Code), Ev D (tyN G) p s m c bytes y.cls args → meth.sig.returnType = ret → meth.locks = false → c.maxLocals = maxL → va_P D vwCl (wN G u) s.heap → va_D (AN G s.heap.size) (wN G u) → va_S (AN G s.heap.size) s.heap s.heap [] → (∀ q, s.heap.size ≤ q → AN G s.heap.size q) →
    W p l e rm s m args below meth c s.heap [] 0 0 (MQ below (va_Ql post (BN D G s.heap.size) (AN G s.heap.size)) args s 0 0 (AN G s.heap.size)) (entryFrame m As.toArray maxL)) : MNl l D G y bytes maxL ret rm As u post := by
  intro sz
  refine Met.ofW (cc := bytes) (maxL := maxL) (ret := ret) hy rfl ?_
  intro p e s m args below meth c s₁ B hml hv
  obtain ⟨rfl, hsz, hP, hK, hD⟩ := hv
  subst hsz
  exact body p e s m _ below meth c ⟨B.exec, B.bytes, findClass_of_methodNamed B.named, fun w h => atoms_spec (ws := Cond.code y bytes maxL ret :: WS) B.pre w (List.mem_cons_of_mem _ h), hK⟩ B.returns B.notSynchronized hml hP hD va_S.rf (fun q h => Or.inr h)
theorem retN_l {post : Int64 → St → Prop} {v : Int64} (E : Ev D (tyN G) p s m c cc own args) (hr : meth.sig.returnType = some .long) (hlk : meth.locks = false) (hP : va_P D vwCl (wN G u) H) (hD : va_D (AN G s.heap.size) (wN G u)) (hS : va_S (AN G s.heap.size) s.heap H locs) (h : post v u) (hd : decode cc pc = .ok (.lreturn, 1)) : W p l e R s m args below meth c H locs 0 0 (MQ below (va_Ql post (BN D G s.heap.size) (AN G s.heap.size)) args s 0 0 (AN G s.heap.size)) (F0 m pc ls [.long v]) := W.lret E.1 E.2.1 hr (fun t ht hW => ⟨⟨v, u, rfl, h, by rw [ht]; exact hP, va_K.moved hW.alike E.2.2.2.2, hD⟩, hS.F ht⟩) hS.2.2 hd hlk
def MNv (l : Launch) (D : va_G) (G : Gd) (y : MethodName) (bytes : ByteArray) (maxL : Nat) (ret : Option FieldType) (rm : Room) (As : List Value) (u : St) (post : St → Prop) : Prop := ∀ sz : Nat, Met l y (Cond.code y bytes maxL ret :: WS) rm (va_Pc As (PN D G u sz)) (va_Qv post (BN D G sz) (AN G sz)) 0 0 (AN G sz)
theorem cN_v {post : St → Prop} {ci q0 b : Nat} {fs : List Value} {T : u_T} {Nf : Nat} (E : Ev D (tyN G) p s m c cc own args) (hml : c.maxLocals = nL) (hP : va_P D vwCl (wN G u) H) (hD : va_D A (wN G u)) (hS : va_S A H0 H locs) (hA : ∀ q, H0.size ≤ q → A q) (hM : MNv l D G y bytes maxL ret rm (.ref b :: As) u post) (hl : Cond.methodLink own ix y ∈ WS) (M : MW C y bytes maxL ret n) (hc : vwCl[ci]? = some (C, T, Nf)) (he : (wN G u)[q0]? = some (b, .inr (ci, fs))) (hR : (rm.cells = 0 ∧ rm.slots = 0) ∧ rm.frames + 1 ≤ R.frames ∧ 8 + (maxL + 11) + rm.locals ≤ R.locals) (hn : As.length = n) (hls : ls.size = nL) (hst : st0 = As.reverse ++ .ref b :: rest) (hro : (rest.map fun v => v.category).sum ≤ 8) (hd : decode cc pc = .ok (.invokevirtual ix, 3)) (hf : cells ≤ R.cells ∧ slots ≤ R.slots)
    (kk : ∀ (u1 : St) (H1 : Heap) (locs1 : List Loc), va_P D vwCl (wN G u1) H1 → va_D A (wN G u1) → va_S A H0 H1 locs1 → post u1 → W p l e R s m args below meth c H1 locs1 cells slots Q (F0 m (pc + 3) ls rest)) : W p l e R s m args below meth c H locs cells slots Q (F0 m pc ls st0) := by
  obtain ⟨hx, hb, hown, hW, hK⟩ := E
  have cw := cwV (R := R) (s := s) (args := args) (own := own) (index := ix) (ret := ret) (rm := rm) (mc := 0) (ms := 0) n hW (gd_V hl M) rfl hR.1.1 hR.1.2 M.2.2.2.2 hR.2
  have hF : ∀ q, AN G H.size q → A q := wN_free hD (fun q h => hA q (Nat.le_trans hS.1 h))
  refine va_callv (A0 := A) (A1 := AN G H.size) (free := AN G H.size) (va_runV (Ts := WS) (mc := 0) (ms := 0) ⟨hx, hb, hml, hown, hW⟩ (hM H.size) cw ⟨fun a U g mk q => by obtain ⟨q0, q1, qP, qK, qD⟩ := q; exact ⟨q0, q1, qP, va_K.moved (u := U) (U := U.calling g mk a) (Vm.Alike.refl U.vm) qK, qD⟩, va_recv hK hP hc he, fun U hU hW => ⟨rfl, by rw [hU], by rw [hU]; exact hP, va_K.moved hW.alike hK, wN_self hD⟩⟩ rfl hn hls hst (lv_room hro) hd ⟨hf.1, hf.2⟩) hS (fun q _ h => hF q h) hF (fun u1 t H1 locs1 ht hvm hw hB hz1 hk1 hS1 => ?_)
  obtain ⟨hP1, hK1, hD1⟩ := hB
  rw [ht] at hP1
  exact kk u1 H1 locs1 hP1 (hD1.weaken (fun _ q _ h => hF q.1 h)) hS1 hw
theorem startN_v {post : St → Prop} (hy : plainName y.cls = true) (body : ∀ (p : Program) (e : Env) (s : State) (m : MethodId) (args : Array Value) (below : List Frame) (meth : Method) (c : Code), Ev D (tyN G) p s m c bytes y.cls args → meth.sig.returnType = ret → meth.locks = false → c.maxLocals = maxL → va_P D vwCl (wN G u) s.heap → va_D (AN G s.heap.size) (wN G u) → va_S (AN G s.heap.size) s.heap s.heap [] → (∀ q, s.heap.size ≤ q → AN G s.heap.size q) →
    W p l e rm s m args below meth c s.heap [] 0 0 (MQ below (va_Qv post (BN D G s.heap.size) (AN G s.heap.size)) args s 0 0 (AN G s.heap.size)) (entryFrame m As.toArray maxL)) : MNv l D G y bytes maxL ret rm As u post := by
  intro sz
  refine Met.ofW (cc := bytes) (maxL := maxL) (ret := ret) hy rfl ?_
  intro p e s m args below meth c s₁ B hml hv
  obtain ⟨rfl, hsz, hP, hK, hD⟩ := hv
  subst hsz
  exact body p e s m _ below meth c ⟨B.exec, B.bytes, findClass_of_methodNamed B.named, fun w h => atoms_spec (ws := Cond.code y bytes maxL ret :: WS) B.pre w (List.mem_cons_of_mem _ h), hK⟩ B.returns B.notSynchronized hml hP hD va_S.rf (fun q h => Or.inr h)
theorem retN_v {post : St → Prop} (E : Ev D (tyN G) p s m c cc own args) (hr : meth.sig.returnType = none) (hlk : meth.locks = false) (hP : va_P D vwCl (wN G u) H) (hD : va_D (AN G s.heap.size) (wN G u)) (hS : va_S (AN G s.heap.size) s.heap H locs) (h : post u) (hd : decode cc pc = .ok (.return_, 1)) : W p l e R s m args below meth c H locs 0 0 (MQ below (va_Qv post (BN D G s.heap.size) (AN G s.heap.size)) args s 0 0 (AN G s.heap.size)) (F0 m pc ls []) := W.vret E.1 E.2.1 hr (fun t ht hW => ⟨⟨u, rfl, h, by rw [ht]; exact hP, va_K.moved hW.alike E.2.2.2.2, hD⟩, hS.F ht⟩) hS.2.2 hd hlk
end
theorem mwyX0_cellOf : MW RX0 yX0_cellOf cX0_cellOf 3 (some .int) 1 := ⟨ki_yX0_cellOf, kv_yX0_cellOf, kz_X0, kk_yX0_cellOf, by decide +kernel⟩
theorem mwyX0_car : MW RX0 yX0_car cX0_car 4 (some .long) 1 := ⟨ki_yX0_car, kv_yX0_car, kz_X0, kk_yX0_car, by decide +kernel⟩
theorem mwyX0_cdr : MW RX0 yX0_cdr cX0_cdr 4 (some .long) 1 := ⟨ki_yX0_cdr, kv_yX0_cdr, kz_X0, kk_yX0_cdr, by decide +kernel⟩
theorem mwyX0_setCdr : MW RX0 yX0_setCdr cX0_setCdr 6 none 2 := ⟨ki_yX0_setCdr, kv_yX0_setCdr, kz_X0, kk_yX0_setCdr, by decide +kernel⟩
theorem mwyX0_newPair : MW RX0 yX0_newPair cX0_newPair 6 (some .long) 2 := ⟨ki_yX0_newPair, kv_yX0_newPair, kz_X0, kk_yX0_newPair, by decide +kernel⟩
theorem mwyX0_isListOf : MW RX0 yX0_isListOf cX0_isListOf 7 (some .boolean) 2 := ⟨ki_yX0_isListOf, kv_yX0_isListOf, kz_X0, kk_yX0_isListOf, by decide +kernel⟩
theorem mwyX0_isListOfNames : MW RX0 yX0_isListOfNames cX0_isListOfNames 7 (some .boolean) 2 := ⟨ki_yX0_isListOfNames, kv_yX0_isListOfNames, kz_X0, kk_yX0_isListOfNames, by decide +kernel⟩
theorem mwyX0_beginMarking : MW RX0 yX0_beginMarking cX0_beginMarking 1 none 0 := ⟨ki_yX0_beginMarking, kv_yX0_beginMarking, kz_X0, kk_yX0_beginMarking, by decide +kernel⟩
theorem mwyX0_mark : MW RX0 yX0_mark cX0_mark 10 none 2 := ⟨ki_yX0_mark, kv_yX0_mark, kz_X0, kk_yX0_mark, by decide +kernel⟩
theorem mwyX0_sweep : MW RX0 yX0_sweep cX0_sweep 2 none 0 := ⟨ki_yX0_sweep, kv_yX0_sweep, kz_X0, kk_yX0_sweep, by decide +kernel⟩
theorem mwyX1_pairsOfGlobals : MW RX1 yX1_pairsOfGlobals cX1_pairsOfGlobals 1 (some .int) 0 := ⟨ki_yX1_pairsOfGlobals, kv_yX1_pairsOfGlobals, kz_X1, kk_yX1_pairsOfGlobals, by decide +kernel⟩
theorem mwyX1_hasRoom : MW RX1 yX1_hasRoom cX1_hasRoom 8 (some .boolean) 5 := ⟨ki_yX1_hasRoom, kv_yX1_hasRoom, kz_X1, kk_yX1_hasRoom, by decide +kernel⟩
theorem mwyX2_evaluate : MW RX2 yX2_evaluate cX2_evaluate 5 (some .int) 1 := ⟨ki_yX2_evaluate, kv_yX2_evaluate, kz_X2, kk_yX2_evaluate, by decide +kernel⟩
theorem mwyX2_beginEvaluating : MW RX2 yX2_beginEvaluating cX2_beginEvaluating 5 none 2 := ⟨ki_yX2_beginEvaluating, kv_yX2_beginEvaluating, kz_X2, kk_yX2_beginEvaluating, by decide +kernel⟩
theorem mwyX2_beginApplying : MW RX2 yX2_beginApplying cX2_beginApplying 3 none 1 := ⟨ki_yX2_beginApplying, kv_yX2_beginApplying, kz_X2, kk_yX2_beginApplying, by decide +kernel⟩
theorem mwyX2_answer : MW RX2 yX2_answer cX2_answer 3 none 1 := ⟨ki_yX2_answer, kv_yX2_answer, kz_X2, kk_yX2_answer, by decide +kernel⟩
theorem mwyX2_answerTruth : MW RX2 yX2_answerTruth cX2_answerTruth 2 none 1 := ⟨ki_yX2_answerTruth, kv_yX2_answerTruth, kz_X2, kk_yX2_answerTruth, by decide +kernel⟩
theorem mwyX2_boundTo : MW RX2 yX2_boundTo cX2_boundTo 8 (some .long) 1 := ⟨ki_yX2_boundTo, kv_yX2_boundTo, kz_X2, kk_yX2_boundTo, by decide +kernel⟩
theorem mwyX2_evaluateAtom : MW RX2 yX2_evaluateAtom cX2_evaluateAtom 3 none 0 := ⟨ki_yX2_evaluateAtom, kv_yX2_evaluateAtom, kz_X2, kk_yX2_evaluateAtom, by decide +kernel⟩
theorem mwyX2_evaluatePair : MW RX2 yX2_evaluatePair cX2_evaluatePair 3 none 0 := ⟨ki_yX2_evaluatePair, kv_yX2_evaluatePair, kz_X2, kk_yX2_evaluatePair, by decide +kernel⟩
theorem mwyX2_evaluateQuote : MW RX2 yX2_evaluateQuote cX2_evaluateQuote 1 none 0 := ⟨ki_yX2_evaluateQuote, kv_yX2_evaluateQuote, kz_X2, kk_yX2_evaluateQuote, by decide +kernel⟩
theorem mwyX2_evaluateDefine : MW RX2 yX2_evaluateDefine cX2_evaluateDefine 3 none 0 := ⟨ki_yX2_evaluateDefine, kv_yX2_evaluateDefine, kz_X2, kk_yX2_evaluateDefine, by decide +kernel⟩
theorem mwyX2_choose : MW RX2 yX2_choose cX2_choose 3 none 0 := ⟨ki_yX2_choose, kv_yX2_choose, kz_X2, kk_yX2_choose, by decide +kernel⟩
theorem mwyX2_evaluateCall : MW RX2 yX2_evaluateCall cX2_evaluateCall 5 none 2 := ⟨ki_yX2_evaluateCall, kv_yX2_evaluateCall, kz_X2, kk_yX2_evaluateCall, by decide +kernel⟩
theorem mwyX2_handBack : MW RX2 yX2_handBack cX2_handBack 1 none 0 := ⟨ki_yX2_handBack, kv_yX2_handBack, kz_X2, kk_yX2_handBack, by decide +kernel⟩
theorem mwyX2_goOnWithCall : MW RX2 yX2_goOnWithCall cX2_goOnWithCall 3 none 0 := ⟨ki_yX2_goOnWithCall, kv_yX2_goOnWithCall, kz_X2, kk_yX2_goOnWithCall, by decide +kernel⟩
theorem mwyX2_goOnWithChoice : MW RX2 yX2_goOnWithChoice cX2_goOnWithChoice 3 none 0 := ⟨ki_yX2_goOnWithChoice, kv_yX2_goOnWithChoice, kz_X2, kk_yX2_goOnWithChoice, by decide +kernel⟩
theorem mwyX2_applyPair : MW RX2 yX2_applyPair cX2_applyPair 3 none 0 := ⟨ki_yX2_applyPair, kv_yX2_applyPair, kz_X2, kk_yX2_applyPair, by decide +kernel⟩
theorem mwyX2_applyAtom : MW RX2 yX2_applyAtom cX2_applyAtom 5 none 0 := ⟨ki_yX2_applyAtom, kv_yX2_applyAtom, kz_X2, kk_yX2_applyAtom, by decide +kernel⟩
theorem mwyX2_applyLambda : MW RX2 yX2_applyLambda cX2_applyLambda 5 none 0 := ⟨ki_yX2_applyLambda, kv_yX2_applyLambda, kz_X2, kk_yX2_applyLambda, by decide +kernel⟩
theorem mwyX2_bindAll : MW RX2 yX2_bindAll cX2_bindAll 12 (some .long) 1 := ⟨ki_yX2_bindAll, kv_yX2_bindAll, kz_X2, kk_yX2_bindAll, by decide +kernel⟩
theorem mwyX2_applyLabel : MW RX2 yX2_applyLabel cX2_applyLabel 5 none 0 := ⟨ki_yX2_applyLabel, kv_yX2_applyLabel, kz_X2, kk_yX2_applyLabel, by decide +kernel⟩
theorem mwyX2_valuesOf : MS yX2_valuesOf cX2_valuesOf 1 (some .int) 1 := ⟨ks_yX2_valuesOf, kz_X2, kk_yX2_valuesOf, by decide +kernel⟩
theorem mwyX2_applyBuiltIn : MW RX2 yX2_applyBuiltIn cX2_applyBuiltIn 2 none 1 := ⟨ki_yX2_applyBuiltIn, kv_yX2_applyBuiltIn, kz_X2, kk_yX2_applyBuiltIn, by decide +kernel⟩
theorem mwyX2_takePart : MW RX2 yX2_takePart cX2_takePart 4 none 2 := ⟨ki_yX2_takePart, kv_yX2_takePart, kz_X2, kk_yX2_takePart, by decide +kernel⟩
theorem mwyX2_makePair : MW RX2 yX2_makePair cX2_makePair 1 none 0 := ⟨ki_yX2_makePair, kv_yX2_makePair, kz_X2, kk_yX2_makePair, by decide +kernel⟩
theorem mwyX2_compareAtoms : MW RX2 yX2_compareAtoms cX2_compareAtoms 5 none 2 := ⟨ki_yX2_compareAtoms, kv_yX2_compareAtoms, kz_X2, kk_yX2_compareAtoms, by decide +kernel⟩
theorem mwyX2_reckon : MW RX2 yX2_reckon cX2_reckon 8 none 3 := ⟨ki_yX2_reckon, kv_yX2_reckon, kz_X2, kk_yX2_reckon, by decide +kernel⟩
theorem mwyX3_digitOf : MS yX3_digitOf cX3_digitOf 1 (some .int) 1 := ⟨ks_yX3_digitOf, kz_X3, kk_yX3_digitOf, by decide +kernel⟩
theorem mwyX3_characterOf : MS yX3_characterOf cX3_characterOf 1 (some .char) 1 := ⟨ks_yX3_characterOf, kz_X3, kk_yX3_characterOf, by decide +kernel⟩
theorem mwyX3_wordOf : MW RX3 yX3_wordOf cX3_wordOf 4 (some .long) 1 := ⟨ki_yX3_wordOf, kv_yX3_wordOf, kz_X3, kk_yX3_wordOf, by decide +kernel⟩
theorem mwyX3_spellingOf : MW RX3 yX3_spellingOf cX3_spellingOf 3 (some .long) 1 := ⟨ki_yX3_spellingOf, kv_yX3_spellingOf, kz_X3, kk_yX3_spellingOf, by decide +kernel⟩
theorem mwyX3_globalOf : MW RX3 yX3_globalOf cX3_globalOf 3 (some .long) 1 := ⟨ki_yX3_globalOf, kv_yX3_globalOf, kz_X3, kk_yX3_globalOf, by decide +kernel⟩
theorem mwyX3_makeGlobal : MW RX3 yX3_makeGlobal cX3_makeGlobal 5 none 2 := ⟨ki_yX3_makeGlobal, kv_yX3_makeGlobal, kz_X3, kk_yX3_makeGlobal, by decide +kernel⟩
theorem mwyX3_isKnown : MW RX3 yX3_isKnown cX3_isKnown 3 (some .boolean) 1 := ⟨ki_yX3_isKnown, kv_yX3_isKnown, kz_X3, kk_yX3_isKnown, by decide +kernel⟩
theorem mwyX4_print : MW RX4 yX4_print cX4_print 6 none 1 := ⟨ki_yX4_print, kv_yX4_print, kz_X4, kk_yX4_print, by decide +kernel⟩
theorem mwyX4_printBeginning : MW RX4 yX4_printBeginning cX4_printBeginning 3 none 1 := ⟨ki_yX4_printBeginning, kv_yX4_printBeginning, kz_X4, kk_yX4_printBeginning, by decide +kernel⟩
theorem mwyX4_printEnd : MW RX4 yX4_printEnd cX4_printEnd 3 none 1 := ⟨ki_yX4_printEnd, kv_yX4_printEnd, kz_X4, kk_yX4_printEnd, by decide +kernel⟩
theorem mwyX4_printAtom : MW RX4 yX4_printAtom cX4_printAtom 3 none 1 := ⟨ki_yX4_printAtom, kv_yX4_printAtom, kz_X4, kk_yX4_printAtom, by decide +kernel⟩
theorem mwyX4_printNumber : MW RX4 yX4_printNumber cX4_printNumber 6 none 1 := ⟨ki_yX4_printNumber, kv_yX4_printNumber, kz_X4, kk_yX4_printNumber, by decide +kernel⟩
theorem mwyX4_printName : MW RX4 yX4_printName cX4_printName 6 none 1 := ⟨ki_yX4_printName, kv_yX4_printName, kz_X4, kk_yX4_printName, by decide +kernel⟩
theorem mwyX4_putBackwards : MW RX4 yX4_putBackwards cX4_putBackwards 3 none 1 := ⟨ki_yX4_putBackwards, kv_yX4_putBackwards, kz_X4, kk_yX4_putBackwards, by decide +kernel⟩
theorem mwyX4_put : MW RX4 yX4_put cX4_put 2 none 1 := ⟨ki_yX4_put, kv_yX4_put, kz_X4, kk_yX4_put, by decide +kernel⟩
theorem mwyX5_read : MW RX5 yX5_read cX5_read 2 (some .int) 0 := ⟨ki_yX5_read, kv_yX5_read, kz_X5, kk_yX5_read, by decide +kernel⟩
theorem mwyX5_scan : MW RX5 yX5_scan cX5_scan 2 (some .boolean) 0 := ⟨ki_yX5_scan, kv_yX5_scan, kz_X5, kk_yX5_scan, by decide +kernel⟩
theorem mwyX5_takeToken : MW RX5 yX5_takeToken cX5_takeToken 2 (some .boolean) 1 := ⟨ki_yX5_takeToken, kv_yX5_takeToken, kz_X5, kk_yX5_takeToken, by decide +kernel⟩
theorem mwyX5_isDigit : MS yX5_isDigit cX5_isDigit 1 (some .boolean) 1 := ⟨ks_yX5_isDigit, kz_X5, kk_yX5_isDigit, by decide +kernel⟩
theorem mwyX5_state : MW RX5 yX5_state cX5_state 1 (some .int) 0 := ⟨ki_yX5_state, kv_yX5_state, kz_X5, kk_yX5_state, by decide +kernel⟩
theorem mwyX5_takeOpen : MW RX5 yX5_takeOpen cX5_takeOpen 1 (some .boolean) 0 := ⟨ki_yX5_takeOpen, kv_yX5_takeOpen, kz_X5, kk_yX5_takeOpen, by decide +kernel⟩
theorem mwyX5_takeClose : MW RX5 yX5_takeClose cX5_takeClose 1 (some .boolean) 0 := ⟨ki_yX5_takeClose, kv_yX5_takeClose, kz_X5, kk_yX5_takeClose, by decide +kernel⟩
theorem mwyX5_takeDot : MW RX5 yX5_takeDot cX5_takeDot 1 (some .boolean) 0 := ⟨ki_yX5_takeDot, kv_yX5_takeDot, kz_X5, kk_yX5_takeDot, by decide +kernel⟩
theorem mwyX5_takeNumber : MW RX5 yX5_takeNumber cX5_takeNumber 4 (some .boolean) 1 := ⟨ki_yX5_takeNumber, kv_yX5_takeNumber, kz_X5, kk_yX5_takeNumber, by decide +kernel⟩
theorem mwyX5_takeName : MW RX5 yX5_takeName cX5_takeName 4 (some .boolean) 0 := ⟨ki_yX5_takeName, kv_yX5_takeName, kz_X5, kk_yX5_takeName, by decide +kernel⟩
theorem mwyX5_noteExpression : MW RX5 yX5_noteExpression cX5_noteExpression 1 none 0 := ⟨ki_yX5_noteExpression, kv_yX5_noteExpression, kz_X5, kk_yX5_noteExpression, by decide +kernel⟩
theorem mwyX5_keep : MW RX5 yX5_keep cX5_keep 3 (some .boolean) 1 := ⟨ki_yX5_keep, kv_yX5_keep, kz_X5, kk_yX5_keep, by decide +kernel⟩
theorem mwyX5_build : MW RX5 yX5_build cX5_build 4 none 0 := ⟨ki_yX5_build, kv_yX5_build, kz_X5, kk_yX5_build, by decide +kernel⟩
theorem mwyX5_openList : MW RX5 yX5_openList cX5_openList 1 none 0 := ⟨ki_yX5_openList, kv_yX5_openList, kz_X5, kk_yX5_openList, by decide +kernel⟩
theorem mwyX5_markDot : MW RX5 yX5_markDot cX5_markDot 1 none 0 := ⟨ki_yX5_markDot, kv_yX5_markDot, kz_X5, kk_yX5_markDot, by decide +kernel⟩
theorem mwyX5_closeList : MW RX5 yX5_closeList cX5_closeList 1 none 0 := ⟨ki_yX5_closeList, kv_yX5_closeList, kz_X5, kk_yX5_closeList, by decide +kernel⟩
theorem mwyX5_attach : MW RX5 yX5_attach cX5_attach 6 none 1 := ⟨ki_yX5_attach, kv_yX5_attach, kz_X5, kk_yX5_attach, by decide +kernel⟩
theorem mwyX6_append : MW RX6 yX6_append cX6_append 6 (some .boolean) 1 := ⟨ki_yX6_append, kv_yX6_append, kz_X6, kk_yX6_append, by decide +kernel⟩
theorem mwyX6_isCharacter : MS yX6_isCharacter cX6_isCharacter 1 (some .boolean) 1 := ⟨ks_yX6_isCharacter, kz_X6, kk_yX6_isCharacter, by decide +kernel⟩
theorem mwyX6_at : MW RX6 yX6_at cX6_at 2 (some .int) 1 := ⟨ki_yX6_at, kv_yX6_at, kz_X6, kk_yX6_at, by decide +kernel⟩
theorem mwyX6_behindBlanks : MW RX6 yX6_behindBlanks cX6_behindBlanks 3 (some .int) 1 := ⟨ki_yX6_behindBlanks, kv_yX6_behindBlanks, kz_X6, kk_yX6_behindBlanks, by decide +kernel⟩
theorem mwyX7_push : MW RX7 yX7_push cX7_push 10 (some .boolean) 4 := ⟨ki_yX7_push, kv_yX7_push, kz_X7, kk_yX7_push, by decide +kernel⟩
theorem mwyX7_pop : MW RX7 yX7_pop cX7_pop 1 none 0 := ⟨ki_yX7_pop, kv_yX7_pop, kz_X7, kk_yX7_pop, by decide +kernel⟩
theorem mwyX7_kindOnTop : MW RX7 yX7_kindOnTop cX7_kindOnTop 1 (some .int) 0 := ⟨ki_yX7_kindOnTop, kv_yX7_kindOnTop, kz_X7, kk_yX7_kindOnTop, by decide +kernel⟩
theorem mwyX7_valuesOnTop : MW RX7 yX7_valuesOnTop cX7_valuesOnTop 1 (some .int) 0 := ⟨ki_yX7_valuesOnTop, kv_yX7_valuesOnTop, kz_X7, kk_yX7_valuesOnTop, by decide +kernel⟩
theorem mwyX7_part : MW RX7 yX7_part cX7_part 2 (some .long) 1 := ⟨ki_yX7_part, kv_yX7_part, kz_X7, kk_yX7_part, by decide +kernel⟩
theorem mwyX7_setRest : MW RX7 yX7_setRest cX7_setRest 3 none 1 := ⟨ki_yX7_setRest, kv_yX7_setRest, kz_X7, kk_yX7_setRest, by decide +kernel⟩
theorem mwyX7_addValue : MW RX7 yX7_addValue cX7_addValue 4 none 1 := ⟨ki_yX7_addValue, kv_yX7_addValue, kz_X7, kk_yX7_addValue, by decide +kernel⟩
theorem mwyX7_putValues : MW RX7 yX7_putValues cX7_putValues 4 none 2 := ⟨ki_yX7_putValues, kv_yX7_putValues, kz_X7, kk_yX7_putValues, by decide +kernel⟩
theorem mwyX7_takeValues : MW RX7 yX7_takeValues cX7_takeValues 3 (some .int) 1 := ⟨ki_yX7_takeValues, kv_yX7_takeValues, kz_X7, kk_yX7_takeValues, by decide +kernel⟩
theorem mwyX8_isNumber : MS yX8_isNumber cX8_isNumber 2 (some .boolean) 1 := ⟨ks_yX8_isNumber, kz_X8, kk_yX8_isNumber, by decide +kernel⟩
theorem mwyX8_isName : MS yX8_isName cX8_isName 2 (some .boolean) 1 := ⟨ks_yX8_isName, kz_X8, kk_yX8_isName, by decide +kernel⟩
theorem mwyX8_isPair : MS yX8_isPair cX8_isPair 2 (some .boolean) 1 := ⟨ks_yX8_isPair, kz_X8, kk_yX8_isPair, by decide +kernel⟩
theorem mwyX8_isFixed : MS yX8_isFixed cX8_isFixed 2 (some .boolean) 1 := ⟨ks_yX8_isFixed, kz_X8, kk_yX8_isFixed, by decide +kernel⟩
theorem mwyX9_within : MS yX9_within cX9_within 4 (some .int) 4 := ⟨ks_yX9_within, kz_X9, kk_yX9_within, by decide +kernel⟩
theorem mwyX9_write : MW RX9 yX9_write cX9_write 3 (some .boolean) 1 := ⟨ki_yX9_write, kv_yX9_write, kz_X9, kk_yX9_write, by decide +kernel⟩
theorem mwyX9_clear : MW RX9 yX9_clear cX9_clear 1 none 0 := ⟨ki_yX9_clear, kv_yX9_clear, kz_X9, kk_yX9_clear, by decide +kernel⟩
theorem mwyX9_next : MW RX9 yX9_next cX9_next 1 (some .int) 0 := ⟨ki_yX9_next, kv_yX9_next, kz_X9, kk_yX9_next, by decide +kernel⟩
theorem mwyX9_fault : MW RX9 yX9_fault cX9_fault 1 (some .int) 0 := ⟨ki_yX9_fault, kv_yX9_fault, kz_X9, kk_yX9_fault, by decide +kernel⟩
theorem mwyX9_place : MW RX9 yX9_place cX9_place 1 (some .int) 0 := ⟨ki_yX9_place, kv_yX9_place, kz_X9, kk_yX9_place, by decide +kernel⟩
theorem mwyX9_size : MW RX9 yX9_size cX9_size 1 (some .int) 0 := ⟨ki_yX9_size, kv_yX9_size, kz_X9, kk_yX9_size, by decide +kernel⟩
theorem mwyX9_out : MW RX9 yX9_out cX9_out 2 (some .int) 1 := ⟨ki_yX9_out, kv_yX9_out, kz_X9, kk_yX9_out, by decide +kernel⟩
theorem mwyX9_count : MW RX9 yX9_count cX9_count 2 (some .int) 1 := ⟨ki_yX9_count, kv_yX9_count, kz_X9, kk_yX9_count, by decide +kernel⟩
theorem mwyX10_digitOf : MS yX10_digitOf cX10_digitOf 1 (some .int) 1 := ⟨ks_yX10_digitOf, kz_X10, kk_yX10_digitOf, by decide +kernel⟩
theorem mwyX10_known : MW RX10 yX10_known cX10_known 7 none 1 := ⟨ki_yX10_known, kv_yX10_known, kz_X10, kk_yX10_known, by decide +kernel⟩
theorem mwyX10_isName : MS yX10_isName cX10_isName 2 (some .boolean) 1 := ⟨ks_yX10_isName, kz_X10, kk_yX10_isName, by decide +kernel⟩
theorem mwyX10_isPair : MS yX10_isPair cX10_isPair 2 (some .boolean) 1 := ⟨ks_yX10_isPair, kz_X10, kk_yX10_isPair, by decide +kernel⟩
theorem mwyX10_isNumber : MS yX10_isNumber cX10_isNumber 2 (some .boolean) 1 := ⟨ks_yX10_isNumber, kz_X10, kk_yX10_isNumber, by decide +kernel⟩
theorem mwyX10_number : MS yX10_number cX10_number 1 (some .long) 1 := ⟨ks_yX10_number, kz_X10, kk_yX10_number, by decide +kernel⟩
theorem mwyX10_first : MW RX10 yX10_first cX10_first 3 (some .long) 1 := ⟨ki_yX10_first, kv_yX10_first, kz_X10, kk_yX10_first, by decide +kernel⟩
theorem mwyX10_behind : MW RX10 yX10_behind cX10_behind 3 (some .long) 1 := ⟨ki_yX10_behind, kv_yX10_behind, kz_X10, kk_yX10_behind, by decide +kernel⟩
theorem mwyX10_hold : MW RX10 yX10_hold cX10_hold 4 none 1 := ⟨ki_yX10_hold, kv_yX10_hold, kz_X10, kk_yX10_hold, by decide +kernel⟩
theorem mwyX10_holdAll : MW RX10 yX10_holdAll cX10_holdAll 3 none 0 := ⟨ki_yX10_holdAll, kv_yX10_holdAll, kz_X10, kk_yX10_holdAll, by decide +kernel⟩
theorem mwyX10_holdGlobals : MW RX10 yX10_holdGlobals cX10_holdGlobals 2 none 0 := ⟨ki_yX10_holdGlobals, kv_yX10_holdGlobals, kz_X10, kk_yX10_holdGlobals, by decide +kernel⟩
theorem mwyX10_holdWaiting : MW RX10 yX10_holdWaiting cX10_holdWaiting 3 none 0 := ⟨ki_yX10_holdWaiting, kv_yX10_holdWaiting, kz_X10, kk_yX10_holdWaiting, by decide +kernel⟩
theorem mwyX10_room : MW RX10 yX10_room cX10_room 2 (some .boolean) 1 := ⟨ki_yX10_room, kv_yX10_room, kz_X10, kk_yX10_room, by decide +kernel⟩
theorem mwyX10_pair : MW RX10 yX10_pair cX10_pair 6 (some .long) 2 := ⟨ki_yX10_pair, kv_yX10_pair, kz_X10, kk_yX10_pair, by decide +kernel⟩
theorem mwyX10_charAt : MW RX10 yX10_charAt cX10_charAt 2 (some .int) 1 := ⟨ki_yX10_charAt, kv_yX10_charAt, kz_X10, kk_yX10_charAt, by decide +kernel⟩
theorem mwyX10_blank : MS yX10_blank cX10_blank 1 (some .boolean) 1 := ⟨ks_yX10_blank, kz_X10, kk_yX10_blank, by decide +kernel⟩
theorem mwyX10_digit : MS yX10_digit cX10_digit 1 (some .boolean) 1 := ⟨ks_yX10_digit, kz_X10, kk_yX10_digit, by decide +kernel⟩
theorem mwyX10_atom : MW RX10 yX10_atom cX10_atom 7 (some .int) 1 := ⟨ki_yX10_atom, kv_yX10_atom, kz_X10, kk_yX10_atom, by decide +kernel⟩
theorem mwyX10_placeOf : MW RX10 yX10_placeOf cX10_placeOf 4 (some .int) 1 := ⟨ki_yX10_placeOf, kv_yX10_placeOf, kz_X10, kk_yX10_placeOf, by decide +kernel⟩
theorem mwyX10_meets : MW RX10 yX10_meets cX10_meets 4 none 1 := ⟨ki_yX10_meets, kv_yX10_meets, kz_X10, kk_yX10_meets, by decide +kernel⟩
theorem mwyX10_comes : MW RX10 yX10_comes cX10_comes 7 none 2 := ⟨ki_yX10_comes, kv_yX10_comes, kz_X10, kk_yX10_comes, by decide +kernel⟩
theorem mwyX10_reads : MW RX10 yX10_reads cX10_reads 8 (some .int) 2 := ⟨ki_yX10_reads, kv_yX10_reads, kz_X10, kk_yX10_reads, by decide +kernel⟩
theorem mwyX10_readAll : MW RX10 yX10_readAll cX10_readAll 4 (some .int) 2 := ⟨ki_yX10_readAll, kv_yX10_readAll, kz_X10, kk_yX10_readAll, by decide +kernel⟩
theorem mwyX10_fails : MW RX10 yX10_fails cX10_fails 2 none 1 := ⟨ki_yX10_fails, kv_yX10_fails, kz_X10, kk_yX10_fails, by decide +kernel⟩
theorem mwyX10_begins : MW RX10 yX10_begins cX10_begins 1 (some .boolean) 0 := ⟨ki_yX10_begins, kv_yX10_begins, kz_X10, kk_yX10_begins, by decide +kernel⟩
theorem mwyX10_waits : MW RX10 yX10_waits cX10_waits 6 (some .boolean) 3 := ⟨ki_yX10_waits, kv_yX10_waits, kz_X10, kk_yX10_waits, by decide +kernel⟩
theorem mwyX10_gives : MW RX10 yX10_gives cX10_gives 3 none 1 := ⟨ki_yX10_gives, kv_yX10_gives, kz_X10, kk_yX10_gives, by decide +kernel⟩
theorem mwyX10_lookUp : MW RX10 yX10_lookUp cX10_lookUp 7 (some .long) 1 := ⟨ki_yX10_lookUp, kv_yX10_lookUp, kz_X10, kk_yX10_lookUp, by decide +kernel⟩
theorem mwyX10_listOf : MW RX10 yX10_listOf cX10_listOf 7 (some .boolean) 2 := ⟨ki_yX10_listOf, kv_yX10_listOf, kz_X10, kk_yX10_listOf, by decide +kernel⟩
theorem mwyX10_condition : MW RX10 yX10_condition cX10_condition 3 none 1 := ⟨ki_yX10_condition, kv_yX10_condition, kz_X10, kk_yX10_condition, by decide +kernel⟩
theorem mwyX10_evaluate : MW RX10 yX10_evaluate cX10_evaluate 8 none 0 := ⟨ki_yX10_evaluate, kv_yX10_evaluate, kz_X10, kk_yX10_evaluate, by decide +kernel⟩
theorem mwyX10_back : MW RX10 yX10_back cX10_back 4 none 0 := ⟨ki_yX10_back, kv_yX10_back, kz_X10, kk_yX10_back, by decide +kernel⟩
theorem mwyX10_primitive : MW RX10 yX10_primitive cX10_primitive 9 none 1 := ⟨ki_yX10_primitive, kv_yX10_primitive, kz_X10, kk_yX10_primitive, by decide +kernel⟩
theorem mwyX10_namesIn : MW RX10 yX10_namesIn cX10_namesIn 6 (some .int) 1 := ⟨ki_yX10_namesIn, kv_yX10_namesIn, kz_X10, kk_yX10_namesIn, by decide +kernel⟩
theorem mwyX10_holdForBinding : MW RX10 yX10_holdForBinding cX10_holdForBinding 4 none 1 := ⟨ki_yX10_holdForBinding, kv_yX10_holdForBinding, kz_X10, kk_yX10_holdForBinding, by decide +kernel⟩
theorem mwyX10_lambda : MW RX10 yX10_lambda cX10_lambda 11 none 1 := ⟨ki_yX10_lambda, kv_yX10_lambda, kz_X10, kk_yX10_lambda, by decide +kernel⟩
theorem mwyX10_label : MW RX10 yX10_label cX10_label 5 none 1 := ⟨ki_yX10_label, kv_yX10_label, kz_X10, kk_yX10_label, by decide +kernel⟩
theorem mwyX10_apply : MW RX10 yX10_apply cX10_apply 4 none 0 := ⟨ki_yX10_apply, kv_yX10_apply, kz_X10, kk_yX10_apply, by decide +kernel⟩
theorem mwyX10_evaluateAll : MW RX10 yX10_evaluateAll cX10_evaluateAll 3 none 1 := ⟨ki_yX10_evaluateAll, kv_yX10_evaluateAll, kz_X10, kk_yX10_evaluateAll, by decide +kernel⟩
theorem mwyX10_put : MW RX10 yX10_put cX10_put 2 none 1 := ⟨ki_yX10_put, kv_yX10_put, kz_X10, kk_yX10_put, by decide +kernel⟩
theorem mwyX10_putAtom : MW RX10 yX10_putAtom cX10_putAtom 8 none 1 := ⟨ki_yX10_putAtom, kv_yX10_putAtom, kz_X10, kk_yX10_putAtom, by decide +kernel⟩
theorem mwyX10_printAll : MW RX10 yX10_printAll cX10_printAll 10 none 1 := ⟨ki_yX10_printAll, kv_yX10_printAll, kz_X10, kk_yX10_printAll, by decide +kernel⟩
theorem mwyX10_thrown : MW RX10 yX10_thrown cX10_thrown 1 (some .int) 0 := ⟨ki_yX10_thrown, kv_yX10_thrown, kz_X10, kk_yX10_thrown, by decide +kernel⟩
theorem mwyX10_write : MW RX10 yX10_write cX10_write 6 (some .boolean) 1 := ⟨ki_yX10_write, kv_yX10_write, kz_X10, kk_yX10_write, by decide +kernel⟩
theorem mwyX10_clear : MW RX10 yX10_clear cX10_clear 1 none 0 := ⟨ki_yX10_clear, kv_yX10_clear, kz_X10, kk_yX10_clear, by decide +kernel⟩
theorem mwyX10_next : MW RX10 yX10_next cX10_next 4 (some .int) 0 := ⟨ki_yX10_next, kv_yX10_next, kz_X10, kk_yX10_next, by decide +kernel⟩
theorem mwyX10_fault : MW RX10 yX10_fault cX10_fault 1 (some .int) 0 := ⟨ki_yX10_fault, kv_yX10_fault, kz_X10, kk_yX10_fault, by decide +kernel⟩
theorem mwyX10_place : MW RX10 yX10_place cX10_place 1 (some .int) 0 := ⟨ki_yX10_place, kv_yX10_place, kz_X10, kk_yX10_place, by decide +kernel⟩
theorem mwyX10_size : MW RX10 yX10_size cX10_size 1 (some .int) 0 := ⟨ki_yX10_size, kv_yX10_size, kz_X10, kk_yX10_size, by decide +kernel⟩
theorem mwyX10_out : MW RX10 yX10_out cX10_out 2 (some .int) 1 := ⟨ki_yX10_out, kv_yX10_out, kz_X10, kk_yX10_out, by decide +kernel⟩
theorem mwyX10_count : MW RX10 yX10_count cX10_count 2 (some .int) 1 := ⟨ki_yX10_count, kv_yX10_count, kz_X10, kk_yX10_count, by decide +kernel⟩
