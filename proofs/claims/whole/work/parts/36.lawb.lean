def wL (G K : Gd) (u v : St) (o : Nat) (cy : ClassId) (g : Nat → Int64) : va_W := wC G u ++ (wR K v ++ [(o, .inl (cy, 1, .inr (.inl g)))])
def tyL (G K : Gd) (cy : ClassId) : List (ClassId × FieldType) := tyC G ++ (tyR K ++ [(cy, .long)])
theorem wC_iff {G : Gd} {u : St} {sz q : Nat} : AC G sz q ↔ va_A (wC G u) sz q := by
  have e : (wC G u).map Prod.fst = (List.range 30).map G.1 := rfl
  refine ⟨fun h => ?_, fun h => ?_⟩
  · rcases h with h | h
    · rw [← e] at h
      obtain ⟨z, hz, rfl⟩ := List.mem_map.mp h
      obtain ⟨i, hi⟩ := List.getElem?_of_mem hz
      exact Or.inl ⟨i, z.2, hi⟩
    · exact Or.inr h
  · rcases h with ⟨k, e9, hk⟩ | h
    · exact wC_A hk
    · exact Or.inr h
theorem wR_iff {G : Gd} {u : St} {sz q : Nat} : AR G sz q ↔ va_A (wR G u) sz q := by
  have e : (wR G u).map Prod.fst = (List.range 20).map G.1 := rfl
  refine ⟨fun h => ?_, fun h => ?_⟩
  · rcases h with h | h
    · rw [← e] at h
      obtain ⟨z, hz, rfl⟩ := List.mem_map.mp h
      obtain ⟨i, hi⟩ := List.getElem?_of_mem hz
      exact Or.inl ⟨i, z.2, hi⟩
    · exact Or.inr h
  · rcases h with ⟨k, e9, hk⟩ | h
    · exact wR_A hk
    · exact Or.inr h
section
variable {p : Program} {l : Launch} {e : Env} {R : Room} {s : State} {m : MethodId} {args : Array Value} {below : List Frame} {meth : Method} {c : Code} {H : Heap} {locs : List Loc} {cells slots : Nat} {Q : State → Prop} {D : va_G} {A : Nat → Prop} {cc bytes : ByteArray} {own : String} {pc ix nL maxL n : Nat} {ls : Array Slot} {rest st0 As : List Value} {G K : Gd} {u v : St} {o : Nat} {cy : ClassId} {g : Nat → Int64} {y : MethodName} {rm : Room} {ret : Option FieldType}
theorem lJ_C {u1 : St} {H1 : Heap} (hP : va_P D vwCl (wL G K u v o cy g) H) (hD : va_D A (wL G K u v o cy g)) (hF : ∀ q, AC G H.size q → A q) (hk1 : ∀ q : Nat, q < H.size → ¬ AC G H.size q → H1[q]? = H[q]?) (hP1 : va_P D vwCl (wC G u1) H1) (hD1 : va_D (AC G H.size) (wC G u1)) : va_P D vwCl (wL G K u1 v o cy g) H1 ∧ va_D A (wL G K u1 v o cy g) := by
  obtain ⟨hP3, hD3⟩ := va_join (wc := wC G u) (wr := wR K v ++ [(o, .inl (cy, 1, .inr (.inl g)))]) (w1 := wC G u1) hP hD [0, 1, 2, 3, 4, 5, 6, 7, 8, 9, 10, 11, 12, 13, 14, 15, 16, 17, 18, 19, 20, 21, 22, 23, 24, 25, 26, 27, 28, 29] [30, 31, 32, 33, 34, 35, 36, 37, 38, 39, 40, 41, 42, 43, 44, 45, 46, 47, 48, 49, 50] rfl rfl (by decide) (by decide) (fun q h1 h2 => hk1 q h1 (fun h3 => h2 (wC_iff.mp h3))) (fun q h => hF q (wC_iff.mpr h)) hP1 (hD1.weaken (fun _ _ _ h => wC_iff.mp h))
  exact ⟨hP3.sub (ws' := wL G K u1 v o cy g) [21, 22, 23, 24, 25, 26, 27, 28, 29, 30, 31, 32, 33, 34, 35, 36, 37, 38, 39, 40, 41, 42, 43, 44, 45, 46, 47, 48, 49, 50, 0, 1, 2, 3, 4, 5, 6, 7, 8, 9, 10, 11, 12, 13, 14, 15, 16, 17, 18, 19, 20] rfl, hD3.sub (ws' := wL G K u1 v o cy g) [21, 22, 23, 24, 25, 26, 27, 28, 29, 30, 31, 32, 33, 34, 35, 36, 37, 38, 39, 40, 41, 42, 43, 44, 45, 46, 47, 48, 49, 50, 0, 1, 2, 3, 4, 5, 6, 7, 8, 9, 10, 11, 12, 13, 14, 15, 16, 17, 18, 19, 20] (by decide) rfl⟩
theorem lC_i {post : Int32 → St → Prop} (hx : p.tables.exec = Jvm.exec) (hb : c.code = cc) (hml : c.maxLocals = nL) (hown : s.vm.findClass own = some m.cls) (hW : ∀ w ∈ WS, w.before args s = true) (hK : va_K D vwCl (tyL G K cy) s) (hP : va_P D vwCl (wL G K u v o cy g) H) (hD : va_D A (wL G K u v o cy g)) (hS : va_S A s.heap H locs) (hA : ∀ q, s.heap.size ≤ q → A q) (hM : MCi l D G y bytes maxL ret rm (.ref (G.1 0) :: As) u post) (hl : Cond.methodLink own ix y ∈ WS) (M : MW RX9 y bytes maxL ret n) (hR : (rm.cells = 0 ∧ rm.slots = 0) ∧ rm.frames + 1 ≤ R.frames ∧ 8 + (maxL + 11) + rm.locals ≤ R.locals) (hn : As.length = n) (hls : ls.size = nL) (hst : st0 = As.reverse ++ .ref (G.1 0) :: rest) (hro : (rest.map fun v => v.category).sum ≤ 8) (hd : decode cc pc = .ok (.invokevirtual ix, 3)) (hf : cells ≤ R.cells ∧ slots ≤ R.slots)
    (kk : ∀ (r : Int32) (u1 : St) (H1 : Heap) (locs1 : List Loc), va_P D vwCl (wL G K u1 v o cy g) H1 → va_D A (wL G K u1 v o cy g) → va_S A s.heap H1 locs1 → post r u1 → W p l e R s m args below meth c H1 locs1 cells slots Q (F0 m (pc + 3) ls (.int r :: rest))) : W p l e R s m args below meth c H locs cells slots Q (F0 m pc ls st0) := by
  have hPc := hP.sub (ws' := wC G u) [0, 1, 2, 3, 4, 5, 6, 7, 8, 9, 10, 11, 12, 13, 14, 15, 16, 17, 18, 19, 20, 21, 22, 23, 24, 25, 26, 27, 28, 29] rfl
  have hDc := hD.sub (ws' := wC G u) [0, 1, 2, 3, 4, 5, 6, 7, 8, 9, 10, 11, 12, 13, 14, 15, 16, 17, 18, 19, 20, 21, 22, 23, 24, 25, 26, 27, 28, 29] (by decide) rfl
  have hKc := hK.sub (tys' := tyC G) [0, 1, 2, 3, 4, 5, 6, 7, 8, 9, 10, 11, 12, 13, 14, 15, 16, 17, 18, 19, 20] rfl
  have cw := cwV (R := R) (s := s) (args := args) (own := own) (index := ix) (ret := ret) (rm := rm) (mc := 0) (ms := 0) n hW (gd_V hl M) rfl hR.1.1 hR.1.2 M.2.2.2.2 hR.2
  have hF : ∀ q, AC G H.size q → A q := wC_free hDc (fun q h => hA q (Nat.le_trans hS.1 h))
  refine va_calli (A0 := A) (A1 := AC G H.size) (free := AC G H.size) (va_runV (Ts := WS) (mc := 0) (ms := 0) ⟨hx, hb, hml, hown, hW⟩ (hM H.size) cw ⟨fun a U g mk q => by obtain ⟨q0, q1, qP, qK, qD⟩ := q; exact ⟨q0, q1, qP, va_K.moved (u := U) (U := U.calling g mk a) (Vm.Alike.refl U.vm) qK, qD⟩, va_recv hKc hPc (ci := 8) (q0 := 0) rfl rfl, fun U hU hW => ⟨rfl, by rw [hU], by rw [hU]; exact hPc, va_K.moved hW.alike hKc, wC_self hDc⟩⟩ rfl hn hls hst (lv_room hro) hd ⟨hf.1, hf.2⟩) hS (fun q _ h => hF q h) hF (fun r u1 t H1 locs1 ht hvm hw hB hz1 hk1 hS1 => ?_)
  obtain ⟨hP1, hK1, hD1⟩ := hB
  rw [ht] at hP1
  obtain ⟨hP2, hD2⟩ := lJ_C hP hD hF hk1 hP1 hD1
  exact kk r u1 H1 locs1 hP2 hD2 hS1 hw
theorem lC_v {post : St → Prop} (hx : p.tables.exec = Jvm.exec) (hb : c.code = cc) (hml : c.maxLocals = nL) (hown : s.vm.findClass own = some m.cls) (hW : ∀ w ∈ WS, w.before args s = true) (hK : va_K D vwCl (tyL G K cy) s) (hP : va_P D vwCl (wL G K u v o cy g) H) (hD : va_D A (wL G K u v o cy g)) (hS : va_S A s.heap H locs) (hA : ∀ q, s.heap.size ≤ q → A q) (hM : MCv l D G y bytes maxL ret rm (.ref (G.1 0) :: As) u post) (hl : Cond.methodLink own ix y ∈ WS) (M : MW RX9 y bytes maxL ret n) (hR : (rm.cells = 0 ∧ rm.slots = 0) ∧ rm.frames + 1 ≤ R.frames ∧ 8 + (maxL + 11) + rm.locals ≤ R.locals) (hn : As.length = n) (hls : ls.size = nL) (hst : st0 = As.reverse ++ .ref (G.1 0) :: rest) (hro : (rest.map fun v => v.category).sum ≤ 8) (hd : decode cc pc = .ok (.invokevirtual ix, 3)) (hf : cells ≤ R.cells ∧ slots ≤ R.slots)
    (kk : ∀ (u1 : St) (H1 : Heap) (locs1 : List Loc), va_P D vwCl (wL G K u1 v o cy g) H1 → va_D A (wL G K u1 v o cy g) → va_S A s.heap H1 locs1 → post u1 → W p l e R s m args below meth c H1 locs1 cells slots Q (F0 m (pc + 3) ls rest)) : W p l e R s m args below meth c H locs cells slots Q (F0 m pc ls st0) := by
  have hPc := hP.sub (ws' := wC G u) [0, 1, 2, 3, 4, 5, 6, 7, 8, 9, 10, 11, 12, 13, 14, 15, 16, 17, 18, 19, 20, 21, 22, 23, 24, 25, 26, 27, 28, 29] rfl
  have hDc := hD.sub (ws' := wC G u) [0, 1, 2, 3, 4, 5, 6, 7, 8, 9, 10, 11, 12, 13, 14, 15, 16, 17, 18, 19, 20, 21, 22, 23, 24, 25, 26, 27, 28, 29] (by decide) rfl
  have hKc := hK.sub (tys' := tyC G) [0, 1, 2, 3, 4, 5, 6, 7, 8, 9, 10, 11, 12, 13, 14, 15, 16, 17, 18, 19, 20] rfl
  have cw := cwV (R := R) (s := s) (args := args) (own := own) (index := ix) (ret := ret) (rm := rm) (mc := 0) (ms := 0) n hW (gd_V hl M) rfl hR.1.1 hR.1.2 M.2.2.2.2 hR.2
  have hF : ∀ q, AC G H.size q → A q := wC_free hDc (fun q h => hA q (Nat.le_trans hS.1 h))
  refine va_callv (A0 := A) (A1 := AC G H.size) (free := AC G H.size) (va_runV (Ts := WS) (mc := 0) (ms := 0) ⟨hx, hb, hml, hown, hW⟩ (hM H.size) cw ⟨fun a U g mk q => by obtain ⟨q0, q1, qP, qK, qD⟩ := q; exact ⟨q0, q1, qP, va_K.moved (u := U) (U := U.calling g mk a) (Vm.Alike.refl U.vm) qK, qD⟩, va_recv hKc hPc (ci := 8) (q0 := 0) rfl rfl, fun U hU hW => ⟨rfl, by rw [hU], by rw [hU]; exact hPc, va_K.moved hW.alike hKc, wC_self hDc⟩⟩ rfl hn hls hst (lv_room hro) hd ⟨hf.1, hf.2⟩) hS (fun q _ h => hF q h) hF (fun u1 t H1 locs1 ht hvm hw hB hz1 hk1 hS1 => ?_)
  obtain ⟨hP1, hK1, hD1⟩ := hB
  rw [ht] at hP1
  obtain ⟨hP2, hD2⟩ := lJ_C hP hD hF hk1 hP1 hD1
  exact kk u1 H1 locs1 hP2 hD2 hS1 hw
theorem lJ_R {u1 : St} {H1 : Heap} (hP : va_P D vwCl (wL G K u v o cy g) H) (hD : va_D A (wL G K u v o cy g)) (hF : ∀ q, AR K H.size q → A q) (hk1 : ∀ q : Nat, q < H.size → ¬ AR K H.size q → H1[q]? = H[q]?) (hP1 : va_P D vwCl (wR K u1) H1) (hD1 : va_D (AR K H.size) (wR K u1)) : va_P D vwCl (wL G K u u1 o cy g) H1 ∧ va_D A (wL G K u u1 o cy g) := by
  obtain ⟨hP3, hD3⟩ := va_join (wc := wR K v) (wr := wC G u ++ [(o, .inl (cy, 1, .inr (.inl g)))]) (w1 := wR K u1) hP hD [30, 31, 32, 33, 34, 35, 36, 37, 38, 39, 40, 41, 42, 43, 44, 45, 46, 47, 48, 49] [0, 1, 2, 3, 4, 5, 6, 7, 8, 9, 10, 11, 12, 13, 14, 15, 16, 17, 18, 19, 20, 21, 22, 23, 24, 25, 26, 27, 28, 29, 50] rfl rfl (by decide) (by decide) (fun q h1 h2 => hk1 q h1 (fun h3 => h2 (wR_iff.mp h3))) (fun q h => hF q (wR_iff.mpr h)) hP1 (hD1.weaken (fun _ _ _ h => wR_iff.mp h))
  exact ⟨hP3.sub (ws' := wL G K u u1 o cy g) [0, 1, 2, 3, 4, 5, 6, 7, 8, 9, 10, 11, 12, 13, 14, 15, 16, 17, 18, 19, 20, 21, 22, 23, 24, 25, 26, 27, 28, 29, 31, 32, 33, 34, 35, 36, 37, 38, 39, 40, 41, 42, 43, 44, 45, 46, 47, 48, 49, 50, 30] rfl, hD3.sub (ws' := wL G K u u1 o cy g) [0, 1, 2, 3, 4, 5, 6, 7, 8, 9, 10, 11, 12, 13, 14, 15, 16, 17, 18, 19, 20, 21, 22, 23, 24, 25, 26, 27, 28, 29, 31, 32, 33, 34, 35, 36, 37, 38, 39, 40, 41, 42, 43, 44, 45, 46, 47, 48, 49, 50, 30] (by decide) rfl⟩
theorem lR_i {post : Int32 → St → Prop} (hx : p.tables.exec = Jvm.exec) (hb : c.code = cc) (hml : c.maxLocals = nL) (hown : s.vm.findClass own = some m.cls) (hW : ∀ w ∈ WS, w.before args s = true) (hK : va_K D vwCl (tyL G K cy) s) (hP : va_P D vwCl (wL G K u v o cy g) H) (hD : va_D A (wL G K u v o cy g)) (hS : va_S A s.heap H locs) (hA : ∀ q, s.heap.size ≤ q → A q) (hM : MRi l D K y bytes maxL ret rm (.ref (K.1 0) :: As) v post) (hl : Cond.methodLink own ix y ∈ WS) (M : MW RX10 y bytes maxL ret n) (hR : (rm.cells = 0 ∧ rm.slots = 0) ∧ rm.frames + 1 ≤ R.frames ∧ 8 + (maxL + 11) + rm.locals ≤ R.locals) (hn : As.length = n) (hls : ls.size = nL) (hst : st0 = As.reverse ++ .ref (K.1 0) :: rest) (hro : (rest.map fun v => v.category).sum ≤ 8) (hd : decode cc pc = .ok (.invokevirtual ix, 3)) (hf : cells ≤ R.cells ∧ slots ≤ R.slots)
    (kk : ∀ (r : Int32) (u1 : St) (H1 : Heap) (locs1 : List Loc), va_P D vwCl (wL G K u u1 o cy g) H1 → va_D A (wL G K u u1 o cy g) → va_S A s.heap H1 locs1 → post r u1 → W p l e R s m args below meth c H1 locs1 cells slots Q (F0 m (pc + 3) ls (.int r :: rest))) : W p l e R s m args below meth c H locs cells slots Q (F0 m pc ls st0) := by
  have hPc := hP.sub (ws' := wR K v) [30, 31, 32, 33, 34, 35, 36, 37, 38, 39, 40, 41, 42, 43, 44, 45, 46, 47, 48, 49] rfl
  have hDc := hD.sub (ws' := wR K v) [30, 31, 32, 33, 34, 35, 36, 37, 38, 39, 40, 41, 42, 43, 44, 45, 46, 47, 48, 49] (by decide) rfl
  have hKc := hK.sub (tys' := tyR K) [21, 22, 23, 24, 25, 26, 27, 28, 29, 30, 31, 32, 33, 34, 35, 36, 37, 38, 39] rfl
  have cw := cwV (R := R) (s := s) (args := args) (own := own) (index := ix) (ret := ret) (rm := rm) (mc := 0) (ms := 0) n hW (gd_V hl M) rfl hR.1.1 hR.1.2 M.2.2.2.2 hR.2
  have hF : ∀ q, AR K H.size q → A q := wR_free hDc (fun q h => hA q (Nat.le_trans hS.1 h))
  refine va_calli (A0 := A) (A1 := AR K H.size) (free := AR K H.size) (va_runV (Ts := WS) (mc := 0) (ms := 0) ⟨hx, hb, hml, hown, hW⟩ (hM H.size) cw ⟨fun a U g mk q => by obtain ⟨q0, q1, qP, qK, qD⟩ := q; exact ⟨q0, q1, qP, va_K.moved (u := U) (U := U.calling g mk a) (Vm.Alike.refl U.vm) qK, qD⟩, va_recv hKc hPc (ci := 9) (q0 := 0) rfl rfl, fun U hU hW => ⟨rfl, by rw [hU], by rw [hU]; exact hPc, va_K.moved hW.alike hKc, wR_self hDc⟩⟩ rfl hn hls hst (lv_room hro) hd ⟨hf.1, hf.2⟩) hS (fun q _ h => hF q h) hF (fun r u1 t H1 locs1 ht hvm hw hB hz1 hk1 hS1 => ?_)
  obtain ⟨hP1, hK1, hD1⟩ := hB
  rw [ht] at hP1
  obtain ⟨hP2, hD2⟩ := lJ_R hP hD hF hk1 hP1 hD1
  exact kk r u1 H1 locs1 hP2 hD2 hS1 hw
theorem lR_v {post : St → Prop} (hx : p.tables.exec = Jvm.exec) (hb : c.code = cc) (hml : c.maxLocals = nL) (hown : s.vm.findClass own = some m.cls) (hW : ∀ w ∈ WS, w.before args s = true) (hK : va_K D vwCl (tyL G K cy) s) (hP : va_P D vwCl (wL G K u v o cy g) H) (hD : va_D A (wL G K u v o cy g)) (hS : va_S A s.heap H locs) (hA : ∀ q, s.heap.size ≤ q → A q) (hM : MRv l D K y bytes maxL ret rm (.ref (K.1 0) :: As) v post) (hl : Cond.methodLink own ix y ∈ WS) (M : MW RX10 y bytes maxL ret n) (hR : (rm.cells = 0 ∧ rm.slots = 0) ∧ rm.frames + 1 ≤ R.frames ∧ 8 + (maxL + 11) + rm.locals ≤ R.locals) (hn : As.length = n) (hls : ls.size = nL) (hst : st0 = As.reverse ++ .ref (K.1 0) :: rest) (hro : (rest.map fun v => v.category).sum ≤ 8) (hd : decode cc pc = .ok (.invokevirtual ix, 3)) (hf : cells ≤ R.cells ∧ slots ≤ R.slots)
    (kk : ∀ (u1 : St) (H1 : Heap) (locs1 : List Loc), va_P D vwCl (wL G K u u1 o cy g) H1 → va_D A (wL G K u u1 o cy g) → va_S A s.heap H1 locs1 → post u1 → W p l e R s m args below meth c H1 locs1 cells slots Q (F0 m (pc + 3) ls rest)) : W p l e R s m args below meth c H locs cells slots Q (F0 m pc ls st0) := by
  have hPc := hP.sub (ws' := wR K v) [30, 31, 32, 33, 34, 35, 36, 37, 38, 39, 40, 41, 42, 43, 44, 45, 46, 47, 48, 49] rfl
  have hDc := hD.sub (ws' := wR K v) [30, 31, 32, 33, 34, 35, 36, 37, 38, 39, 40, 41, 42, 43, 44, 45, 46, 47, 48, 49] (by decide) rfl
  have hKc := hK.sub (tys' := tyR K) [21, 22, 23, 24, 25, 26, 27, 28, 29, 30, 31, 32, 33, 34, 35, 36, 37, 38, 39] rfl
  have cw := cwV (R := R) (s := s) (args := args) (own := own) (index := ix) (ret := ret) (rm := rm) (mc := 0) (ms := 0) n hW (gd_V hl M) rfl hR.1.1 hR.1.2 M.2.2.2.2 hR.2
  have hF : ∀ q, AR K H.size q → A q := wR_free hDc (fun q h => hA q (Nat.le_trans hS.1 h))
  refine va_callv (A0 := A) (A1 := AR K H.size) (free := AR K H.size) (va_runV (Ts := WS) (mc := 0) (ms := 0) ⟨hx, hb, hml, hown, hW⟩ (hM H.size) cw ⟨fun a U g mk q => by obtain ⟨q0, q1, qP, qK, qD⟩ := q; exact ⟨q0, q1, qP, va_K.moved (u := U) (U := U.calling g mk a) (Vm.Alike.refl U.vm) qK, qD⟩, va_recv hKc hPc (ci := 9) (q0 := 0) rfl rfl, fun U hU hW => ⟨rfl, by rw [hU], by rw [hU]; exact hPc, va_K.moved hW.alike hKc, wR_self hDc⟩⟩ rfl hn hls hst (lv_room hro) hd ⟨hf.1, hf.2⟩) hS (fun q _ h => hF q h) hF (fun u1 t H1 locs1 ht hvm hw hB hz1 hk1 hS1 => ?_)
  obtain ⟨hP1, hK1, hD1⟩ := hB
  rw [ht] at hP1
  obtain ⟨hP2, hD2⟩ := lJ_R hP hD hF hk1 hP1 hD1
  exact kk u1 H1 locs1 hP2 hD2 hS1 hw
theorem lNx {Qp : Int32 → Int64 → St → Prop} {a1 a2 : Nat} (hst0 : l.stackTraces = false) (hx : p.tables.exec = Jvm.exec) (hb : c.code = cc) (hml : c.maxLocals = nL) (hown : s.vm.findClass own = some m.cls) (hW : ∀ w ∈ WS, w.before args s = true) (hK : va_K D vwCl (tyL G K cy) s) (hP : va_P D vwCl (wL G K u v o cy g) H) (hD : va_D A (wL G K u v o cy g)) (hS : va_S A s.heap H locs) (hA : ∀ q, s.heap.size ≤ q → A q) (hTF : TF a1 a2 A s s.heap) (hNc : va_Nc xIS xIA s) (h : wp_L_next G.2.1 u (g 0) Qp) (hl : Cond.methodLink own ix yL_next ∈ WS) (hR : rm_L_next.frames + 1 ≤ R.frames ∧ 8 + (3 + 11) + rm_L_next.locals ≤ R.locals) (hls : ls.size = nL) (hro : (rest.map fun v => v.category).sum ≤ 8) (hd : decode cc pc = .ok (.invokestatic ix, 3)) (hf : cells + 1 ≤ R.cells ∧ slots + 6 ≤ R.slots)
    (kk : ∀ (r : Int32) (g1 : Nat → Int64) (u1 : St) (H1 : Heap) (locs1 : List Loc), va_P D vwCl (wL G K u1 v o cy g1) H1 → va_D A (wL G K u1 v o cy g1) → va_S A s.heap H1 locs1 → Qp r (g1 0) u1 → W p l e R s m args below meth c H1 locs1 (cells + 1) (slots + 6) Q (F0 m (pc + 3) ls (.int r :: rest))) : W p l e R s m args below meth c H locs cells slots Q (F0 m pc ls (.ref o :: .ref (G.1 0) :: rest)) := by
  have hPc := hP.sub (ws' := wO G u o cy g) [0, 1, 2, 3, 4, 5, 6, 7, 8, 9, 10, 11, 12, 13, 14, 15, 16, 17, 18, 19, 20, 21, 22, 23, 24, 25, 26, 27, 28, 29, 50] rfl
  have hDc := hD.sub (ws' := wO G u o cy g) [0, 1, 2, 3, 4, 5, 6, 7, 8, 9, 10, 11, 12, 13, 14, 15, 16, 17, 18, 19, 20, 21, 22, 23, 24, 25, 26, 27, 28, 29, 50] (by decide) rfl
  have hKc := hK.sub (tys' := tyC G ++ [(cy, .long)]) [0, 1, 2, 3, 4, 5, 6, 7, 8, 9, 10, 11, 12, 13, 14, 15, 16, 17, 18, 19, 20, 40] rfl
  have hF := va_free (wc := wO G u o cy g) hD hS hA [0, 1, 2, 3, 4, 5, 6, 7, 8, 9, 10, 11, 12, 13, 14, 15, 16, 17, 18, 19, 20, 21, 22, 23, 24, 25, 26, 27, 28, 29, 50] rfl
  have hG : GoodIn WS (va_wsS own ix yL_next (Cond.codeWith yL_next cL_next 3 (some .int) hhN :: WS)) := fun w h => by
    have key : w ∈ WS := by
      rcases List.mem_append.mp h with h | h
      · simp only [List.mem_cons, List.not_mem_nil, or_false] at h
        rcases h with rfl | rfl | rfl
        · exact hl
        · exact kq_sN
        · exact kq_zRL
      · rcases List.mem_cons.mp h with rfl | h
        · exact kq_cN
        · exact h
    exact ⟨key, WS_good _ key⟩
  have cw := vx_cwSW (R := R) (s := s) (args := args) (own := own) (index := ix) (ret := some .int) (rm := rm_L_next) (mc := 1) (ms := 6) 2 hW hG rfl rfl rfl (by decide +kernel) hR
  refine va_calli (A0 := A) (A1 := va_A (wO G u o cy g) H.size) (free := va_A (wO G u o cy g) H.size) (vx_runSW (Ts := WS) (As := [.ref (G.1 0), .ref o]) (rest := rest) (mc := 1) (ms := 6) ⟨hx, hb, hml, hown, hW⟩ (t_L_next l hst0 D G u o a1 a2 cy g Qp h H.size) cw ⟨fun a U g mk q => by obtain ⟨q0, q1, qP, qK, qD, qT, qN⟩ := q; exact ⟨q0, q1, qP, va_K.moved (u := U) (U := U.calling g mk a) (Vm.Alike.refl U.vm) qK, qD, qT.calling g mk a, va_Nc.moved (u := U) (U := U.calling g mk a) (Vm.Alike.refl U.vm) qN⟩, fun U hU hW => ⟨rfl, by rw [hU], by rw [hU]; exact hPc, va_K.moved hW.alike hKc, hDc.weaken (fun _ _ _ _ => trivial), by rw [hU]; exact ((hTF.kept hS.2.1).narrow hF).warm hW, va_Nc.moved hW.alike hNc⟩⟩ rfl rfl hls rfl (lv_room hro) hd hf) hS (fun q _ h => hF q h) hF (fun r z t H1 locs1 ht hvm hw hB hz1 hk1 hS1 => ?_)
  obtain ⟨hP1, hK1, hD1⟩ := hB
  rw [ht] at hP1
  obtain ⟨hP3, hD3⟩ := va_join (wc := wO G u o cy g) (wr := wR K v) (w1 := wO G z.2 o cy z.1) hP hD [0, 1, 2, 3, 4, 5, 6, 7, 8, 9, 10, 11, 12, 13, 14, 15, 16, 17, 18, 19, 20, 21, 22, 23, 24, 25, 26, 27, 28, 29, 50] [30, 31, 32, 33, 34, 35, 36, 37, 38, 39, 40, 41, 42, 43, 44, 45, 46, 47, 48, 49] rfl rfl (by decide) (by decide) hk1 hF hP1 hD1
  exact kk r z.1 z.2 H1 locs1 (hP3.sub (ws' := wL G K z.2 v o cy z.1) [20, 21, 22, 23, 24, 25, 26, 27, 28, 29, 30, 31, 32, 33, 34, 35, 36, 37, 38, 39, 40, 41, 42, 43, 44, 45, 46, 47, 48, 49, 0, 1, 2, 3, 4, 5, 6, 7, 8, 9, 10, 11, 12, 13, 14, 15, 16, 17, 18, 19, 50] rfl) (hD3.sub (ws' := wL G K z.2 v o cy z.1) [20, 21, 22, 23, 24, 25, 26, 27, 28, 29, 30, 31, 32, 33, 34, 35, 36, 37, 38, 39, 40, 41, 42, 43, 44, 45, 46, 47, 48, 49, 0, 1, 2, 3, 4, 5, 6, 7, 8, 9, 10, 11, 12, 13, 14, 15, 16, 17, 18, 19, 50] (by decide) rfl) hS1 hw
end
/-- what the two sides owe each other, call by call -/
def Obl (N : Nat → Nat) (Inv : Nat → St → St → Prop) : Prop :=
  (∀ (i : Nat) (u v : St), i < 512 → Inv i u v → Inv (i + 1) u v) ∧
  (∀ (i : Nat) (u v : St) (x : Int64), i < 512 → Inv i u v → wp_X9_write N x u (fun r u1 => wp_X10_write x v (fun r2 v1 => r = r2 ∧ Inv (i + 1) u1 v1))) ∧
  (∀ (i : Nat) (u v : St), i < 512 → Inv i u v → wp_X9_clear N u (fun u1 => wp_X10_clear v (fun v1 => Inv (i + 1) u1 v1))) ∧
  (∀ (i : Nat) (u v : St) (g0 : Int64), i < 512 → Inv i u v → wp_L_next N u g0 (fun k x u1 => wp_X10_next v (fun b v1 => wp_X10_thrown v1 (fun t v2 => t = k ∧ (k = 0 → x = b.toInt64) ∧ Inv (i + 1) u1 v2)))) ∧
  (∀ (i : Nat) (u v : St), i < 512 → Inv i u v → wp_X9_fault N u (fun r u1 => wp_X10_fault v (fun r2 v1 => r = r2 ∧ Inv (i + 1) u1 v1))) ∧
  (∀ (i : Nat) (u v : St), i < 512 → Inv i u v → wp_X9_place N u (fun r u1 => wp_X10_place v (fun r2 v1 => r = r2 ∧ Inv (i + 1) u1 v1))) ∧
  (∀ (i : Nat) (u v : St), i < 512 → Inv i u v → wp_X9_size N u (fun r u1 => wp_X10_size v (fun r2 v1 => r = r2 ∧ Inv (i + 1) u1 v1))) ∧
  (∀ (i : Nat) (u v : St) (k : Int32), i < 512 → Inv i u v → wp_X9_out N k u (fun r u1 => wp_X10_out k v (fun r2 v1 => r = r2 ∧ Inv (i + 1) u1 v1))) ∧
  (∀ (i : Nat) (u v : St) (k : Int32), i < 512 → Inv i u v → wp_X9_count N k u (fun r u1 => wp_X10_count k v (fun r2 v1 => r = r2 ∧ Inv (i + 1) u1 v1)))
