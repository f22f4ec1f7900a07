theorem kq_cL : Cond.code yL_cell cL_cell 2 (some .int) ∈ WS := WS_of (by decide +kernel) (by decide +kernel)
theorem kq_sL : Cond.static yL_cell ∈ WS := WS_of (by decide +kernel) (by decide +kernel)
theorem kq_zRL : Cond.initialized RL ∈ WS := WS_of (by decide +kernel) (by decide +kernel)
theorem mwyL_cell : MS yL_cell cL_cell 2 (some .int) 2 := ⟨kq_sL, kq_zRL, kq_cL, by decide +kernel⟩
abbrev hhN : List (Nat × Nat × Nat × Nat) := [(0, 8, 11, 13), (0, 8, 14, 15)]
theorem kq_cN : Cond.codeWith yL_next cL_next 3 (some .int) hhN ∈ WS := WS_of (by decide +kernel) (by decide +kernel)
theorem kq_sN : Cond.static yL_next ∈ WS := WS_of (by decide +kernel) (by decide +kernel)
theorem kn_L13 : Cond.classLink RL 13 xIA ∈ WS := WS_of (by decide +kernel) (by decide +kernel)
theorem kn_L15 : Cond.classLink RL 15 xIS ∈ WS := WS_of (by decide +kernel) (by decide +kernel)
set_option maxHeartbeats 4000000 in
theorem tc_cell (l : Launch) (b L : Nat) (xs : Nat → Int32) (k : Nat) (hk : k < 2 ^ 31) (hL : L < 2 ^ 31) (sz : Nat) : Met l yL_cell (Cond.code yL_cell cL_cell 2 (some .int) :: WS) rj0 (va_Pc [.ref b, .int (nI k)] (fun U => U.heap.size = sz ∧ va_X b L xs U U.heap ∧ b < sz)) (va_Qi (fun r (_ : Unit) => r = if k < L then xs k else 0) (fun _ _ => True) (fun q => sz ≤ q)) 0 0 (fun q => sz ≤ q) := by
  refine Met.ofW (cc := cL_cell) (maxL := 2) (ret := some .int) (by decide) rfl ?_
  intro p e s m args below meth c s₁ B hml hv
  obtain ⟨rfl, hsz, hX, hbl⟩ := hv
  subst hsz
  have hx := B.exec
  have hb := B.bytes
  have hr := B.returns
  have hlk := B.notSynchronized
  have hS : va_S (fun q => s.heap.size ≤ q) s.heap s.heap [] := va_S.rf
  have hbA : ¬ (fun q : Nat => s.heap.size ≤ q) b := Nat.not_le.mpr hbl
  have hl := lv_entry ([.ref b, .int (nI k)]) (n := 2) (Nat.le_of_ble_eq_true rfl)
  rw [lg_entry_eq]
  generalize (lg_sl ([.ref b, .int (nI k)]) ++ List.replicate (2 - (lg_sl ([.ref b, .int (nI k)])).length) Slot.unset).toArray = ls at hl ⊢
  have hl : lv_has ls 2 [(0, .ref b), (1, .int (nI k))] := hl
  refine lv_iload_n hx hb dL_cell_0 rfl (lv_at hl 1 rfl) ?_
  refine lv_aload_n hx hb dL_cell_1 rfl (lv_at hl 0 rfl) ?_
  refine va_slen hx hb hX hbl hbA hS dL_cell_2 ?_
  refine lv_icmp_ge (tgt := 12) hx hb dL_cell_3 (by decide) (fun hc => ?_) (fun hc => ?_)
  · refine lv_iconst (v := 0) hx hb dL_cell_12 (by decide) ?_
    have hn : ¬ k < L := fun h => nI_ge h hL hc
    exact W.iret hx hb hr (fun t ht hW => ⟨⟨_, (), rfl, by rw [if_neg hn], trivial⟩, hS.F ht⟩) hS.2.2 dL_cell_13 hlk
  · have hn : k < L := by
      rcases Nat.lt_or_ge k L with h | h
      · exact h
      · exact absurd (nI_le h hk) hc
    refine lv_aload_n hx hb dL_cell_6 rfl (lv_at hl 0 rfl) ?_
    refine lv_iload_n hx hb dL_cell_7 rfl (lv_at hl 1 rfl) ?_
    refine va_sld hx hb hX hbl hbA hS (vp_in_nI hn hL) dL_cell_8 ?_
    refine lv_goto (tgt := 13) hx hb dL_cell_9 (by decide) ?_
    exact W.iret hx hb hr (fun t ht hW => ⟨⟨_, (), rfl, by rw [if_pos hn, nI_clamp hk], trivial⟩, hS.F ht⟩) hS.2.2 dL_cell_13 hlk
theorem mt_ofWH {l : Launch} {y : MethodName} {ws ws' : List Cond} {rm : Room} {Pc : Array Value → State → Prop} {Qc : Array Value → State → Outcome → State → Prop} {mc ms : Nat} {free : Addr → Prop} {cc : ByteArray} {maxL : Nat} {ret : Option FieldType} {hh : List (Nat × Nat × Nat × Nat)}
    (hy : plainName y.cls = true) (hw : ws = Cond.codeWith y cc maxL ret hh :: ws')
    (body : ∀ p e s m args below meth c s₁, BodyLoose p l y (headSpec ws rm) cc maxL ret e s m args below meth c s₁ → c.maxLocals = maxL → Pc args s →
      W p l e (headSpec ws rm).room s m args below meth c s.heap [] 0 0 (MQ below Qc args s mc ms free) (entryFrame m args maxL)) : Met l y ws rm Pc Qc mc ms free := by
  refine MetFree.of_bodyS (code := cc) (maxLocals := maxL) (ret := ret) hy ?_ ?_
  · intro args s m h hn
    obtain ⟨m9, meth, c, hn9, h1, h2, h3, h4, -, h5, h6, -⟩ := Cond.codeWith_spec (atoms_spec (ws := ws) h _ (by rw [hw]; exact List.mem_cons_self))
    cases hn.symm.trans hn9
    exact ⟨meth, c, h1, h2, h3, h4, h5, h6⟩
  · intro p e s m args below meth c s₁ B hml hP _
    have hh0 : s₁.heap = s.heap := by rw [B.state]; rfl
    obtain ⟨t, a1, o, b1, b2, b3⟩ := body p e s m args below meth c s₁ B hml hP s₁ hh0 (Stand.of_body B)
    exact ⟨t, o, a1, b1, b2, ⟨b3.1, b3.2⟩⟩
def wO (G : Gd) (u : St) (o : Nat) (cy : ClassId) (g : Nat → Int64) : va_W := wC G u ++ [(o, .inl (cy, 1, .inr (.inl g)))]
def wp_L_next (N : Nat → Nat) (u : St) (g0 : Int64) (Q : Int32 → Int64 → St → Prop) : Prop := wp_X9_next N u (fun r u' => Q 0 r.toInt64 u') (fun k u' => (k = 1 → Q 1 g0 u') ∧ (¬ k = 1 → Q 2 g0 u'))
abbrev rm_L_next : Room := { frames := 7, cells := 1, slots := 6, locals := 168 }
set_option maxHeartbeats 4000000 in
set_option maxRecDepth 100000 in
theorem t_L_next (l : Launch) (hst : l.stackTraces = false) (D : va_G) (G : Gd) (u : St) (o a1 a2 : Nat) (cy : ClassId) (g : Nat → Int64) (Q : Int32 → Int64 → St → Prop) (h : wp_L_next G.2.1 u (g 0) Q) (sz : Nat) : Met l yL_next (Cond.codeWith yL_next cL_next 3 (some .int) hhN :: WS) rm_L_next (va_Pc [.ref (G.1 0), .ref o] (fun U => U.heap.size = sz ∧ va_P D vwCl (wO G u o cy g) U.heap ∧ va_K D vwCl (tyC G ++ [(cy, .long)]) U ∧ va_D (fun _ => True) (wO G u o cy g) ∧ TF a1 a2 (va_A (wO G u o cy g) sz) U U.heap ∧ va_Nc xIS xIA U)) (va_Qi (fun r (z : (Nat → Int64) × St) => Q r (z.1 0) z.2) (fun z t => va_P D vwCl (wO G z.2 o cy z.1) t.heap ∧ va_K D vwCl (tyC G ++ [(cy, .long)]) t ∧ va_D (va_A (wO G u o cy g) sz) (wO G z.2 o cy z.1)) (va_A (wO G u o cy g) sz)) 1 6 (va_A (wO G u o cy g) sz) := by
  refine mt_ofWH (cc := cL_next) (maxL := 3) (ret := some .int) (hh := hhN) (by decide) rfl ?_
  intro p e s m args below meth c s₁ B hml hv
  obtain ⟨rfl, hsz, hP, hK, hD0, hTF, hNc⟩ := hv
  subst hsz
  have hx := B.exec
  have hb := B.bytes
  have hr := B.returns
  have hlk := B.notSynchronized
  have hW0 := atoms_spec (ws := Cond.codeWith yL_next cL_next 3 (some .int) hhN :: WS) B.pre
  have hW : ∀ w ∈ WS, w.before _ s = true := fun w h => hW0 w (List.mem_cons_of_mem _ h)
  have hown : s.vm.findClass RL = some m.cls := findClass_of_methodNamed B.named
  have htab : c.exceptionTable.toList = tableOf hhN := vx_table (x := yL_next) B (hW0 _ List.mem_cons_self)
  have hD := hD0.self (sz := s.heap.size)
  generalize hAe : va_A (wO G u o cy g) s.heap.size = A at hD hTF ⊢
  have hA : ∀ q : Nat, s.heap.size ≤ q → A q := fun q h => by rw [← hAe]; exact Or.inr h
  have hS : va_S A s.heap s.heap [] := va_S.rf
  have hl := lv_entry ([.ref (G.1 0), .ref o]) (n := 3) (Nat.le_of_ble_eq_true rfl)
  rw [lg_entry_eq]
  generalize (lg_sl ([.ref (G.1 0), .ref o]) ++ List.replicate (3 - (lg_sl ([.ref (G.1 0), .ref o])).length) Slot.unset).toArray = ls at hl ⊢
  have hl : lv_has ls 3 [(0, .ref (G.1 0)), (1, .ref o)] := hl
  refine lv_aload_n hx hb dL_next_0 rfl (lv_at hl 1 rfl) ?_
  refine lv_iconst (v := 0) hx hb dL_next_1 (by decide) ?_
  refine lv_aload_n hx hb dL_next_2 rfl (lv_at hl 0 rfl) ?_
  have hPc := hP.sub (ws' := wC G u) [0, 1, 2, 3, 4, 5, 6, 7, 8, 9, 10, 11, 12, 13, 14, 15, 16, 17, 18, 19, 20, 21, 22, 23, 24, 25, 26, 27, 28, 29] rfl
  have hDc := hD.sub (ws' := wC G u) [0, 1, 2, 3, 4, 5, 6, 7, 8, 9, 10, 11, 12, 13, 14, 15, 16, 17, 18, 19, 20, 21, 22, 23, 24, 25, 26, 27, 28, 29] (by decide) rfl
  have hKc := hK.sub (tys' := tyC G) [0, 1, 2, 3, 4, 5, 6, 7, 8, 9, 10, 11, 12, 13, 14, 15, 16, 17, 18, 19, 20] rfl
  have hF : ∀ q, AC G s.heap.size q → A q := wC_free hDc hA
  have hFa : ∀ q, va_A (wC G u) s.heap.size q → AC G s.heap.size q := by
    intro q hq
    rcases hq with ⟨k, e9, hk⟩ | hq
    · exact wC_A hk
    · exact Or.inr hq
  have cw := cwV (R := rm_L_next) (s := s) (own := RL) (index := 7) (ret := some .int) (rm := rm_X9_next) (mc := 1) (ms := 6) 0 hW (gd_V kmL_7 mwyX9_next) rfl rfl rfl mwyX9_next.2.2.2.2 ⟨Nat.le_of_ble_eq_true rfl, Nat.le_of_ble_eq_true rfl⟩
  have join : ∀ (u1 : St) (H1 : Heap), (∀ q : Nat, q < s.heap.size → ¬ AC G s.heap.size q → H1[q]? = s.heap[q]?) → va_P D vwCl (wC G u1) H1 → va_D (AC G s.heap.size) (wC G u1) → va_P D vwCl (wO G u1 o cy g) H1 ∧ va_D A (wO G u1 o cy g) := by
    intro u1 H1 hk1 hP1 hD1
    have hD2 : va_D (va_A (wC G u) s.heap.size) (wC G u1) := ⟨hD1.1, fun k q hk => by
      have e : (wC G u1).map Prod.fst = (wC G u).map Prod.fst := rfl
      have h1 : ((wC G u1).map Prod.fst)[k]? = some q.1 := by rw [List.getElem?_map, hk]; rfl
      rw [e, List.getElem?_map] at h1
      cases h2 : (wC G u)[k]? with
      | none => rw [h2] at h1; cases h1
      | some q0 => rw [h2] at h1; exact Or.inl ⟨k, q0.2, by rw [h2]; rw [← Option.some.inj h1]⟩⟩
    have hk2 : ∀ q : Nat, q < s.heap.size → ¬ va_A (wC G u) s.heap.size q → H1[q]? = s.heap[q]? := fun q h1 h2 => hk1 q h1 (fun h3 => h2 (by
      rcases h3 with h3 | h3
      · have e : (List.range 30).map G.1 = (wC G u).map Prod.fst := rfl
        rw [e] at h3
        obtain ⟨z, hz, rfl⟩ := List.mem_map.mp h3
        obtain ⟨i, hi⟩ := List.getElem?_of_mem hz
        exact Or.inl ⟨i, z.2, hi⟩
      · exact Or.inr h3))
    obtain ⟨hP3, hD3⟩ := va_join (wr := [(o, .inl (cy, 1, .inr (.inl g)))]) (w1 := wC G u1) hP hD [0, 1, 2, 3, 4, 5, 6, 7, 8, 9, 10, 11, 12, 13, 14, 15, 16, 17, 18, 19, 20, 21, 22, 23, 24, 25, 26, 27, 28, 29] [30] rfl rfl (by decide) (by decide) hk2 (fun q h => hF q (hFa q h)) hP1 hD2
    exact ⟨hP3.sub (ws' := wO G u1 o cy g) [1, 2, 3, 4, 5, 6, 7, 8, 9, 10, 11, 12, 13, 14, 15, 16, 17, 18, 19, 20, 21, 22, 23, 24, 25, 26, 27, 28, 29, 30, 0] rfl, hD3.sub (ws' := wO G u1 o cy g) [1, 2, 3, 4, 5, 6, 7, 8, 9, 10, 11, 12, 13, 14, 15, 16, 17, 18, 19, 20, 21, 22, 23, 24, 25, 26, 27, 28, 29, 30, 0] (by decide) rfl⟩
  unfold wp_L_next at h
  refine vx_calli (A0 := A) (A1 := AC G s.heap.size) (AX := AC G s.heap.size) (free := AC G s.heap.size) (vx_runV (Ts := WS) (As := []) (rest := [.int 0, .ref o]) (mc := 1) (ms := 6) ⟨hx, hb, hml, hown, hW⟩ (t_X9_next l hst D G u a1 a2 _ _ h s.heap.size) cw ⟨fun a U g mk q => by obtain ⟨q0, ⟨q1, qP, qK, qD⟩, qT⟩ := q; exact ⟨q0, ⟨q1, qP, va_K.moved (u := U) (U := U.calling g mk a) (Vm.Alike.refl U.vm) qK, qD⟩, qT.calling g mk a⟩, va_recv hKc hPc (ci := 8) (q0 := 0) rfl rfl, fun U hU hW => ⟨rfl, ⟨by rw [hU], by rw [hU]; exact hPc, va_K.moved hW.alike hKc, wC_self hDc⟩, by rw [hU]; exact (hTF.narrow hF).warm hW⟩⟩ rfl rfl hl.1 rfl (lv_room (Nat.le_of_ble_eq_true rfl)) dL_next_3 ⟨Nat.le_of_ble_eq_true rfl, Nat.le_of_ble_eq_true rfl⟩) hS (fun q _ h => hF q h) hF (fun q _ h => hF q h) (fun E ce q9 z t H1 locs1 ht hvm hw hB hz1 hk1 hS hce hcv hcl => ?_) (fun r u1 t H1 locs1 ht hvm hw hB hz1 hk1 hS => ?_)
  · obtain ⟨eE, hP1, hK1, hD1⟩ := hB
    rw [ht] at hP1
    obtain ⟨hP, hD⟩ := join z.2 H1 hk1 hP1 hD1
    by_cases hz : z.1 = 1
    · have hQ := hw.1 hz
      have eE : E = xIA := by rw [eE, exN, if_pos hz]
      subst eE
      refine vx_catch (own := RL) (name := xIA) hown [] ⟨0, 8, 11, 13⟩ [⟨0, 8, 14, 15⟩] htab (fun z h => by cases h) (by decide) (by decide) (hW _ kn_L13) (va_Nw.use rfl hTF.2.2.1) hce hcv hcl ?_
      refine lv_astore_n (lv' := [(2, .ref q9), (0, .ref (G.1 0)), (1, .ref o)]) hx hb dL_next_11 rfl hl (by decide) rfl (fun ls hl => ?_)
      refine lv_iconst (v := 1) hx hb dL_next_12 (by decide) ?_
      exact W.iret hx hb hr (fun t ht hW => ⟨⟨_, (g, z.2), rfl, hQ, by rw [ht]; exact hP, va_K.moved hW.alike hK, hD⟩, hS.F ht⟩) hS.2.2 dL_next_13 hlk
    · have hQ := hw.2 hz
      have eE : E = xIS := by rw [eE, exN, if_neg hz]
      subst eE
      refine vx_catch (own := RL) (name := xIS) hown [⟨0, 8, 11, 13⟩] ⟨0, 8, 14, 15⟩ [] htab (fun z h => Or.inr (by cases List.mem_singleton.mp h; exact ⟨by decide, xIA, hW _ kn_L13, hNc⟩)) (by decide) (by decide) (hW _ kn_L15) (va_Nw.use rfl hTF.2.2.2.1) hce hcv hcl ?_
      refine lv_astore_n (lv' := [(2, .ref q9), (0, .ref (G.1 0)), (1, .ref o)]) hx hb dL_next_14 rfl hl (by decide) rfl (fun ls hl => ?_)
      refine lv_iconst (v := 2) hx hb dL_next_15 (by decide) ?_
      exact W.iret hx hb hr (fun t ht hW => ⟨⟨_, (g, z.2), rfl, hQ, by rw [ht]; exact hP, va_K.moved hW.alike hK, hD⟩, hS.F ht⟩) hS.2.2 dL_next_16 hlk
  · obtain ⟨hP1, hK1, hD1⟩ := hB
    rw [ht] at hP1
    obtain ⟨hP, hD⟩ := join u1 H1 hk1 hP1 hD1
    refine lv_i2l hx hb dL_next_6 rfl ?_
    refine va_last hx hb hK hP hD hS 30 21 rfl rfl (by unfold vp_in; decide) dL_next_7 (fun H locs hP hD hS => ?_)
    have hP : va_P D vwCl (wO G u1 o cy (vp_updL g (0 : Int32).toNatClampNeg r.toInt64)) H := hP
    have hD : va_D A (wO G u1 o cy (vp_updL g (0 : Int32).toNatClampNeg r.toInt64)) := hD
    refine lv_goto (tgt := 17) hx hb dL_next_8 (by decide) ?_
    refine lv_iconst (v := 0) hx hb dL_next_17 (by decide) ?_
    exact W.iret hx hb hr (fun t ht hW => ⟨⟨_, (vp_updL g (0 : Int32).toNatClampNeg r.toInt64, u1), rfl, hw, by rw [ht]; exact hP, va_K.moved hW.alike hK, hD⟩, hS.F ht⟩) hS.2.2 dL_next_18 hlk
