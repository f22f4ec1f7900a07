def fnL : List Int32 := [78, 73, 76, 32, 84, 32, 81, 85, 79, 84, 69, 32, 67, 79, 78, 68, 32, 68, 69, 70, 73, 78, 69, 32, 76, 65, 77, 66, 68, 65, 32, 76, 65, 66, 69, 76, 32, 67, 65, 82, 32, 67, 68, 82, 32, 67, 79, 78, 83, 32, 65, 84, 79, 77, 32, 69, 81, 32, 78, 85, 76, 76, 32, 78, 85, 77, 66, 69, 82, 80, 32, 80, 76, 85, 83, 32, 68, 73, 70, 70, 69, 82, 69, 78, 67, 69, 32, 84, 73, 77, 69, 83, 32, 76, 69, 83, 83, 80, 32]
def fnB (k : Nat) : Int32 := fnL.getD k 0
def chF (i : Int32) : Int32 := ((fnB i.toNatClampNeg &&& 255).toUInt32 % 65536).toInt32
def wNh (h0 : Nat) (G : Gd) (u : St) : va_W := [(h0, .inr (3, [.ref (G.1 1), .ref (G.1 2), .int (gI u 2), .int (gI u 3)])), (G.1 1, .inl (G.2.2 1, 150, .inr (.inl (gB u 0)))), (G.1 2, .inl (G.2.2 2, 150, .inr (.inl (gB u 1))))]
abbrev fnT : String := "NIL T QUOTE COND DEFINE LAMBDA LABEL CAR CDR CONS ATOM EQ NULL NUMBERP PLUS DIFFERENCE TIMES LESSP "
section
variable {p : Program} {l : Launch} {e : Env} {R : Room} {s : State} {m : MethodId} {args : Array Value} {below : List Frame} {meth : Method} {c : Code} {H : Heap} {locs : List Loc} {cells slots : Nat} {Q : State → Prop} {D : va_G} {A : Nat → Prop} {cc : ByteArray} {own : String} {pc ix nL a v n : Nat} {ls : Array Slot} {rest : List Value} {ws : va_W}
theorem cS_len {f : Nat → Int32} (hx : p.tables.exec = Jvm.exec) (hb : c.code = cc) (hml : c.maxLocals = nL) (hown : s.vm.findClass own = some m.cls) (hW : ∀ w ∈ WS, w.before args s = true) (hP : va_P D vwCl ws H) (hS : va_S A s.heap H locs) (hA : ∀ q, s.heap.size ≤ q → A q) (hF : SF a v n f A s s.heap) (hn : n < 2 ^ 31) (hl : Cond.methodLink own ix yJ0_length_8abf5 ∈ WS) (hR1 : 1 + 1 ≤ R.frames) (hR2 : 8 + (1 + 11) + 22 ≤ R.locals) (hls : ls.size = nL) (hro : (rest.map fun v => v.category).sum ≤ 8) (hd : decode cc pc = .ok (.invokevirtual ix, 3)) (hf : cells ≤ R.cells ∧ slots ≤ R.slots)
    (kk : ∀ (H1 : Heap) (locs1 : List Loc), va_P D vwCl ws H1 → va_S A s.heap H1 locs1 → W p l e R s m args below meth c H1 locs1 cells slots Q (F0 m (pc + 3) ls (.int (nI n) :: rest))) : W p l e R s m args below meth c H locs cells slots Q (F0 m pc ls (.ref a :: rest)) := by
  have hsz : ∀ q, H.size ≤ q → A q := fun q h => hA q (Nat.le_trans hS.1 h)
  have hF1 := (hF.kept hS.2.1).narrow hsz
  have cw := cwV (R := R) (s := s) (args := args) (own := own) (index := ix) (ret := some .int) (rm := rj1) (mc := 0) (ms := 0) 0 hW (gd_V hl mwyJ0_length_8abf5) rfl rfl rfl mwyJ0_length_8abf5.2.2.2.2 ⟨hR1, hR2⟩
  refine va_calli (A0 := A) (A1 := fun q => H.size ≤ q) (free := fun q => H.size ≤ q) (va_runV (Ts := WS) (As := []) (rest := rest) (mc := 0) (ms := 0) ⟨hx, hb, hml, hown, hW⟩ (tj_len l a v n f hn H.size) cw ⟨fun a U g mk q => ⟨q.1, q.2.1, SF.moved (u := U) (U := U.calling g mk a) (Vm.Alike.refl U.vm) q.2.2⟩, (by obtain ⟨cell, h1, h2, h3, -⟩ := hF1.1; exact ⟨cell, h1, h2, h3⟩), fun U hU hW => ⟨rfl, congrArg Array.size hU, by rw [hU]; exact SF.moved hW.alike hF1⟩⟩ rfl rfl hls rfl (lv_room hro) hd ⟨hf.1, hf.2⟩) hS (fun q h1 h2 => absurd h1 (Nat.not_lt.mpr h2)) (fun q h => hsz q h) (fun r u t H1 locs1 ht hvm hw hB hz1 hk1 hS1 => ?_)
  subst hw
  exact kk H1 locs1 (fun k q hk => (hP k q hk).kept (hk1 q.1 (hP k q hk).lt (Nat.not_le.mpr (hP k q hk).lt))) hS1
theorem cS_chr {i : Int32} (hx : p.tables.exec = Jvm.exec) (hb : c.code = cc) (hml : c.maxLocals = nL) (hown : s.vm.findClass own = some m.cls) (hW : ∀ w ∈ WS, w.before args s = true) (hP : va_P D vwCl ws H) (hS : va_S A s.heap H locs) (hA : ∀ q, s.heap.size ≤ q → A q) (hF : SF a v n fnB A s s.heap) (hin : vp_in i n) (hn : n < 2 ^ 31) (hl : Cond.methodLink own ix yJ0_charAt_5068e ∈ WS) (hR1 : 3 + 1 ≤ R.frames) (hR2 : 8 + (2 + 11) + 64 ≤ R.locals) (hls : ls.size = nL) (hro : (rest.map fun v => v.category).sum ≤ 8) (hd : decode cc pc = .ok (.invokevirtual ix, 3)) (hf : cells ≤ R.cells ∧ slots ≤ R.slots)
    (kk : ∀ (H1 : Heap) (locs1 : List Loc), va_P D vwCl ws H1 → va_S A s.heap H1 locs1 → W p l e R s m args below meth c H1 locs1 cells slots Q (F0 m (pc + 3) ls (.int (chF i) :: rest))) : W p l e R s m args below meth c H locs cells slots Q (F0 m pc ls (.int i :: .ref a :: rest)) := by
  have hsz : ∀ q, H.size ≤ q → A q := fun q h => hA q (Nat.le_trans hS.1 h)
  have hF1 := (hF.kept hS.2.1).narrow hsz
  have cw := cwV (R := R) (s := s) (args := args) (own := own) (index := ix) (ret := some .char) (rm := rj3) (mc := 0) (ms := 0) 1 hW (gd_V hl mwyJ0_charAt_5068e) rfl rfl rfl mwyJ0_charAt_5068e.2.2.2.2 ⟨hR1, hR2⟩
  refine va_calli (A0 := A) (A1 := fun q => H.size ≤ q) (free := fun q => H.size ≤ q) (va_runV (Ts := WS) (As := [.int i]) (rest := rest) (mc := 0) (ms := 0) ⟨hx, hb, hml, hown, hW⟩ (tj_chr l a v n fnB i hin hn H.size) cw ⟨fun a U g mk q => ⟨q.1, q.2.1, SF.moved (u := U) (U := U.calling g mk a) (Vm.Alike.refl U.vm) q.2.2⟩, (by obtain ⟨cell, h1, h2, h3, -⟩ := hF1.1; exact ⟨cell, h1, h2, h3⟩), fun U hU hW => ⟨rfl, congrArg Array.size hU, by rw [hU]; exact SF.moved hW.alike hF1⟩⟩ rfl rfl hls rfl (lv_room hro) hd ⟨hf.1, hf.2⟩) hS (fun q h1 h2 => absurd h1 (Nat.not_lt.mpr h2)) (fun q h => hsz q h) (fun r u t H1 locs1 ht hvm hw hB hz1 hk1 hS1 => ?_)
  subst hw
  exact kk H1 locs1 (fun k q hk => (hP k q hk).kept (hk1 q.1 (hP k q hk).lt (Nat.not_le.mpr (hP k q hk).lt))) hS1
end
def u0N : St := (fun _ => 0, fun _ => 0, fun _ _ => 0, fun _ _ => 0)
def l_X3_init_34  (K : St → Prop) : Nat → Int32 → St → Prop
  | 0, _, _ => False
  | n + 1, x1, u => (((150 : Int32) ≤ x1 → K u) ∧ (¬ (150 : Int32) ≤ x1 → vp_in x1 150 ∧ l_X3_init_34  K n (x1 + (1 : Int32)) (sB u 1 (vp_updL (gB u 1) (x1).toNatClampNeg (3298534883331 : Int64)))))
def l_X3_init_60  (K : St → Prop) : Nat → Int64 → Int32 → St → Prop
  | 0, _, _, _ => False
  | n + 1, x1, x3, u => (((nI 99) ≤ x3 → K u) ∧ (¬ (nI 99) ≤ x3 → vp_in x3 99 ∧ wp_X3_digitOf (chF x3) (fun (r2 : Int32) => ((r2 = 0 → wp_X3_wordOf_N x1 u (fun (r3 : Int64) (u4 : St) => l_X3_init_60  K n (0 : Int64) (x3 + (1 : Int32)) u4)) ∧ (¬ r2 = 0 → l_X3_init_60  K n ((x1 * (37 : Int64)) + (r2).toInt64) (x3 + (1 : Int32)) u)))))
def wp_X3_init (Q : St → Prop) : Prop := (∃ k7 : Nat, l_X3_init_34   (fun (u1 : St) => (∃ k6 : Nat, l_X3_init_60   (fun (u5 : St) => Q u5) k6 (0 : Int64) (0 : Int32) u1)) k7 (0 : Int32) u0N)
abbrev rmi_X3 : Room := { frames := 4, cells := 2, slots := 300, locals := 85 }
set_option maxHeartbeats 4000000 in
set_option maxRecDepth 100000 in
theorem ti_X3 (l : Launch) (D : va_G) (h0 sa sv : Nat) (Q : St → Prop) (h : wp_X3_init Q) (sz : Nat) : Met l yX3_init (Cond.code yX3_init cX3_init 5 none :: WS) rmi_X3 (va_Pc [.ref h0] (fun U => U.heap.size = sz ∧ va_P D vwCl [(h0, .inr (3, [.null, .null, .int 0, .int 0]))] U.heap ∧ va_K D vwCl [] U ∧ va_D (fun _ => True) [(h0, .inr (3, [.null, .null, .int 0, .int 0]))] ∧ SF sa sv 99 fnB (va_A [(h0, .inr (3, [.null, .null, .int 0, .int 0]))] sz) U U.heap ∧ vk_R RX3 28 fnT sa U)) (va_Qv (fun z : Gd × St => z.1.1 0 = h0 ∧ Q z.2) (fun z t => va_P D vwCl (wNh h0 z.1 z.2) t.heap ∧ va_K D vwCl [(z.1.2.2 1, .long), (z.1.2.2 2, .long)] t ∧ va_D (va_A [(h0, .inr (3, [.null, .null, .int 0, .int 0]))] sz) (wNh h0 z.1 z.2)) (va_A [(h0, .inr (3, [.null, .null, .int 0, .int 0]))] sz)) 2 300 (va_A [(h0, .inr (3, [.null, .null, .int 0, .int 0]))] sz) := by
  refine Met.ofW (cc := cX3_init) (maxL := 5) (ret := none) (by decide) rfl ?_
  intro p e s m args below meth c s₁ B hml hv
  obtain ⟨rfl, hsz, hP, hK, hD0, hSF, hStr⟩ := hv
  have hx := B.exec
  have hb := B.bytes
  have hr := B.returns
  have hW : ∀ w ∈ WS, w.before _ s = true := fun w h => atoms_spec (ws := Cond.code yX3_init cX3_init 5 none :: WS) B.pre w (List.mem_cons_of_mem _ h)
  have hown : s.vm.findClass RX3 = some m.cls := findClass_of_methodNamed B.named
  have hlocks := B.notSynchronized
  have hin : meth.name = "<init>" := (name_of_methodNamed B.named B.method).1
  subst hsz
  have hD := hD0.self (sz := s.heap.size)
  generalize hAe : va_A [(h0, .inr (3, [.null, .null, .int 0, .int 0]))] s.heap.size = A at hD hSF ⊢
  have hA : ∀ q : Nat, s.heap.size ≤ q → A q := fun q h => by rw [← hAe]; exact Or.inr h
  have hS : va_S A s.heap s.heap [] := va_S.rf
  have hl := lv_entry ([.ref h0]) (n := 5) (Nat.le_of_ble_eq_true rfl)
  rw [lg_entry_eq]
  generalize (lg_sl ([.ref h0]) ++ List.replicate (5 - (lg_sl ([.ref h0])).length) Slot.unset).toArray = ls at hl ⊢
  have hl : lv_has ls 5 [(0, .ref h0)] := hl
  refine lv_aload_n hx hb dX3_init_0 rfl (lv_at hl 0 rfl) ?_
  refine W.objInit hx hb hown (hW _ kmX3_3) (hW _ ki_obj) (hW _ kk_obj) rfl (by rw [hml]; exact hl.1) rfl dX3_init_1 (Nat.le_of_ble_eq_true rfl) (Nat.le_of_ble_eq_true rfl) ?_
  refine W.eq (g2 := F0 m 4 ls []) rfl ?_
  refine lv_aload_n hx hb dX3_init_4 rfl (lv_at hl 0 rfl) ?_
  refine lv_sipush (v := (150 : Int32)) hx hb dX3_init_5 (by decide) ?_
  refine va_newa (N' := 150) (a0 := (150, .inr (.inl (fun _ => 0)))) (atype := .long) hx hb (hW _ ka_long) rfl hK hP hD hS hA (nw_long _) ((⟨by decide +kernel, by decide +kernel⟩ : ¬ (150 : Int32) < 0 ∧ (150 : Int32).toNatClampNeg = 150)).1 ((⟨by decide +kernel, by decide +kernel⟩ : ¬ (150 : Int32) < 0 ∧ (150 : Int32).toNatClampNeg = 150)).2 (by show 150 * 8 ≤ 536870912; omega) (Nat.le_of_ble_eq_true rfl) (by show 0 + 150 ≤ 300; omega) dX3_init_8 (fun q1 cy1 H hK hP hD hS => ?_)
  have hP : va_P D vwCl [(h0, .inr (3, [.null, .null, .int 0, .int 0])), (q1, .inl (cy1, 150, .inr (.inl (fun _ => 0))))] H := hP
  have hD : va_D A [(h0, .inr (3, [.null, .null, .int 0, .int 0])), (q1, .inl (cy1, 150, .inr (.inl (fun _ => 0))))] := hD
  have hK : va_K D vwCl [(cy1, .long)] s := hK
  refine W.widen (k := 1) (n := 150) (by omega) (by omega) ?_
  refine va_putF (D := D) (ci := 3) (v := .ref q1) (ty := .array .long) (C := RX3) (T := TX3) (N := 4) hx hb hW kl_X3 tyX3 tyX3_ok nmX3 hown hK hP hD hS 0 rfl rfl 0 (by decide) (hW _ kfX3_9) (fun _ h9 => h9) rfl hin rfl (by decide +kernel) rfl rfl (Nat.le_of_ble_eq_true rfl) dX3_init_10 (fun H locs hP hD hS => ?_)
  have hP : va_P D vwCl [(h0, .inr (3, [.ref q1, .null, .int 0, .int 0])), (q1, .inl (cy1, 150, .inr (.inl (fun _ => 0))))] H := hP
  have hD : va_D A [(h0, .inr (3, [.ref q1, .null, .int 0, .int 0])), (q1, .inl (cy1, 150, .inr (.inl (fun _ => 0))))] := hD
  refine lv_aload_n hx hb dX3_init_13 rfl (lv_at hl 0 rfl) ?_
  refine lv_sipush (v := (150 : Int32)) hx hb dX3_init_14 (by decide) ?_
  refine va_newa (N' := 150) (a0 := (150, .inr (.inl (fun _ => 0)))) (atype := .long) hx hb (hW _ ka_long) rfl hK hP hD hS hA (nw_long _) ((⟨by decide +kernel, by decide +kernel⟩ : ¬ (150 : Int32) < 0 ∧ (150 : Int32).toNatClampNeg = 150)).1 ((⟨by decide +kernel, by decide +kernel⟩ : ¬ (150 : Int32) < 0 ∧ (150 : Int32).toNatClampNeg = 150)).2 (by show 150 * 8 ≤ 536870912; omega) (Nat.le_of_ble_eq_true rfl) (by show 150 + 150 ≤ 300; omega) dX3_init_17 (fun q2 cy2 H hK hP hD hS => ?_)
  have hP : va_P D vwCl [(h0, .inr (3, [.ref q1, .null, .int 0, .int 0])), (q1, .inl (cy1, 150, .inr (.inl (fun _ => 0)))), (q2, .inl (cy2, 150, .inr (.inl (fun _ => 0))))] H := hP
  have hD : va_D A [(h0, .inr (3, [.ref q1, .null, .int 0, .int 0])), (q1, .inl (cy1, 150, .inr (.inl (fun _ => 0)))), (q2, .inl (cy2, 150, .inr (.inl (fun _ => 0))))] := hD
  have hK : va_K D vwCl [(cy1, .long), (cy2, .long)] s := hK
  refine W.widen (k := 2) (n := 300) (by omega) (by omega) ?_
  refine va_putF (D := D) (ci := 3) (v := .ref q2) (ty := .array .long) (C := RX3) (T := TX3) (N := 4) hx hb hW kl_X3 tyX3 tyX3_ok nmX3 hown hK hP hD hS 0 rfl rfl 1 (by decide) (hW _ kfX3_15) (fun _ h9 => h9) rfl hin rfl (by decide +kernel) rfl rfl (Nat.le_of_ble_eq_true rfl) dX3_init_19 (fun H locs hP hD hS => ?_)
  have hP : va_P D vwCl [(h0, .inr (3, [.ref q1, .ref q2, .int 0, .int 0])), (q1, .inl (cy1, 150, .inr (.inl (fun _ => 0)))), (q2, .inl (cy2, 150, .inr (.inl (fun _ => 0))))] H := hP
  have hD : va_D A [(h0, .inr (3, [.ref q1, .ref q2, .int 0, .int 0])), (q1, .inl (cy1, 150, .inr (.inl (fun _ => 0)))), (q2, .inl (cy2, 150, .inr (.inl (fun _ => 0))))] := hD
  refine lv_aload_n hx hb dX3_init_22 rfl (lv_at hl 0 rfl) ?_
  refine lv_iconst (v := (0 : Int32)) hx hb dX3_init_23 (by decide) ?_
  refine va_put (D := D) (ci := 3) (v := .int (0 : Int32)) (ty := .int) (C := RX3) (T := TX3) (N := 4) hx hb hW kl_X3 tyX3 tyX3_ok nmX3 hown hK hP hD hS 0 rfl rfl 2 (by decide) (hW _ kfX3_18) (fun _ h9 => h9) rfl (by decide +kernel) rfl rfl (Nat.le_of_ble_eq_true rfl) dX3_init_24 (fun H locs hP hD hS => ?_)
  have hP : va_P D vwCl [(h0, .inr (3, [.ref q1, .ref q2, .int (0 : Int32), .int 0])), (q1, .inl (cy1, 150, .inr (.inl (fun _ => 0)))), (q2, .inl (cy2, 150, .inr (.inl (fun _ => 0))))] H := hP
  have hD : va_D A [(h0, .inr (3, [.ref q1, .ref q2, .int (0 : Int32), .int 0])), (q1, .inl (cy1, 150, .inr (.inl (fun _ => 0)))), (q2, .inl (cy2, 150, .inr (.inl (fun _ => 0))))] := hD
  refine lv_aload_n hx hb dX3_init_27 rfl (lv_at hl 0 rfl) ?_
  refine lv_iconst (v := (0 : Int32)) hx hb dX3_init_28 (by decide) ?_
  refine va_put (D := D) (ci := 3) (v := .int (0 : Int32)) (ty := .boolean) (C := RX3) (T := TX3) (N := 4) hx hb hW kl_X3 tyX3 tyX3_ok nmX3 hown hK hP hD hS 0 rfl rfl 3 (by decide) (hW _ kfX3_22) (fun _ h9 => h9) rfl (by decide +kernel) rfl rfl (Nat.le_of_ble_eq_true rfl) dX3_init_29 (fun H locs hP hD hS => ?_)
  have hP : va_P D vwCl [(h0, .inr (3, [.ref q1, .ref q2, .int (0 : Int32), .int (0 : Int32)])), (q1, .inl (cy1, 150, .inr (.inl (fun _ => 0)))), (q2, .inl (cy2, 150, .inr (.inl (fun _ => 0))))] H := hP
  have hD : va_D A [(h0, .inr (3, [.ref q1, .ref q2, .int (0 : Int32), .int (0 : Int32)])), (q1, .inl (cy1, 150, .inr (.inl (fun _ => 0)))), (q2, .inl (cy2, 150, .inr (.inl (fun _ => 0))))] := hD
  obtain ⟨G, hG⟩ : ∃ G : Gd, G = ((fun k : Nat => if k = 0 then h0 else if k = 1 then q1 else if k = 2 then q2 else 0), (fun _ => 0), (fun k : Nat => if k = 1 then cy1 else if k = 2 then cy2 else 0)) := ⟨_, rfl⟩
  have hP : va_P D vwCl (wN G u0N) H := by subst hG; exact hP
  have hD : va_D A (wN G u0N) := by subst hG; exact hD
  have hK : va_K D vwCl (tyN G) s := by subst hG; exact hK
  have eh : h0 = G.1 0 := by subst hG; rfl
  generalize hQ : MQ below _ _ s _ _ _ = Z
  have hl : lv_has ls 5 [(0, .ref (G.1 0))] := by rw [← eh]; exact hl
  generalize hargs : ([.ref h0] : List Value).toArray = args at *
  have E : Ev D (tyN G) p s m c cX3_init RX3 args := ⟨hx, hb, hown, hW, hK⟩
  have L_34 : ∀  (K : St → Prop), (∀  (u : St) (H : Heap) (locs : List Loc) (ls : Array Slot), K  u → va_P D vwCl (wN G u) H → va_D A (wN G u) → va_S A s.heap H locs → lv_has ls 5 [(0, .ref (G.1 0))] → W p l e rmi_X3 s m args below meth c H locs 2 300 Z (F0 m 56 ls [])) → ∀ (n : Nat) (x1 : Int32) (u : St) (H : Heap) (locs : List Loc) (ls : Array Slot), l_X3_init_34  K n x1 u → va_P D vwCl (wN G u) H → va_D A (wN G u) → va_S A s.heap H locs → lv_has ls 5 [(0, .ref (G.1 0)), (1, .int x1)] → W p l e rmi_X3 s m args below meth c H locs 2 300 Z (F0 m 34 ls []) := by
    intro  K hK n
    induction n with
    | zero => intro x1 u H locs ls h; exact False.elim h
    | succ n ih =>
      intro x1 u H locs ls h hP hD hS hl
      unfold l_X3_init_34 at h
      refine lv_iload_n hx hb dX3_init_34 rfl (lv_at hl 1 rfl) ?_
      refine lv_sipush (v := (150 : Int32)) hx hb dX3_init_35 (by decide) ?_
      refine lv_icmp_ge (tgt := 56) hx hb dX3_init_38 (by decide) (fun hc => ?_) (fun hc => ?_)
      · have h := h.1 hc
        exact hK u _ _ _ h hP hD hS (lv_sub hl [0] rfl)
      · have h := h.2 hc
        refine lv_aload_n hx hb dX3_init_41 rfl (lv_at hl 0 rfl) ?_
        refine gN_1 E hP kfX3_15 dX3_init_42 ?_
        refine lv_iload_n hx hb dX3_init_45 rfl (lv_at hl 1 rfl) ?_
        refine lv_ldc2 (v := (3298534883331 : Int64)) hx hb hown (hW _ kcX3_26) dX3_init_46 ?_
        obtain ⟨h9, h⟩ := h
        refine yN_1 E hP hD hS h9 (f := (gB u 1)) rfl dX3_init_49 (fun H locs hP hD hS => ?_)
        refine lv_iinc (v := (x1 + (1 : Int32))) (lv' := [(1, .int (x1 + (1 : Int32))), (0, .ref (G.1 0))]) hx hb dX3_init_50 hl (k := 1) rfl rfl (by decide) rfl (fun ls hl => ?_)
        refine lv_goto (tgt := 34) hx hb dX3_init_53 (by decide) ?_
        exact ih (x1 + (1 : Int32)) (sB u 1 (vp_updL (gB u 1) (x1).toNatClampNeg (3298534883331 : Int64))) _ _ _ h hP hD hS (lv_sub hl [1, 0] rfl)
  have L_60 : ∀  (K : St → Prop), (∀  (u : St) (H : Heap) (locs : List Loc) (ls : Array Slot), K  u → va_P D vwCl (wN G u) H → va_D A (wN G u) → va_S A s.heap H locs → lv_has ls 5 [] → W p l e rmi_X3 s m args below meth c H locs 2 300 Z (F0 m 112 ls [])) → ∀ (n : Nat) (x1 : Int64) (x3 : Int32) (u : St) (H : Heap) (locs : List Loc) (ls : Array Slot), l_X3_init_60  K n x1 x3 u → va_P D vwCl (wN G u) H → va_D A (wN G u) → va_S A s.heap H locs → lv_has ls 5 [(0, .ref (G.1 0)), (1, .long x1), (3, .int x3)] → W p l e rmi_X3 s m args below meth c H locs 2 300 Z (F0 m 60 ls []) := by
    intro  K hK n
    induction n with
    | zero => intro x1 x3 u H locs ls h; exact False.elim h
    | succ n ih =>
      intro x1 x3 u H locs ls h hP hD hS hl
      unfold l_X3_init_60 at h
      refine lv_iload_n hx hb dX3_init_60 rfl (lv_at hl 2 rfl) ?_
      refine va_ldcS hx hb hown hStr dX3_init_61 ?_
      refine cS_len (n := 99) (rest := [.int x3]) hx hb hml hown hW hP hS hA hSF (by decide) kmX3_30 (Nat.le_of_ble_eq_true rfl) (Nat.le_of_ble_eq_true rfl) hl.1 (Nat.le_of_ble_eq_true rfl) dX3_init_63 ⟨Nat.le_of_ble_eq_true rfl, Nat.le_of_ble_eq_true rfl⟩ (fun H locs hP hS => ?_)
      refine lv_icmp_ge (tgt := 112) hx hb dX3_init_66 (by decide) (fun hc => ?_) (fun hc => ?_)
      · have h := h.1 hc
        exact hK u _ _ _ h hP hD hS (lv_sub hl [] rfl)
      · have h := h.2 hc
        refine va_ldcS hx hb hown hStr dX3_init_69 ?_
        refine lv_iload_n hx hb dX3_init_71 rfl (lv_at hl 2 rfl) ?_
        obtain ⟨h9, h⟩ := h
        refine cS_chr (n := 99) (i := x3) (rest := []) hx hb hml hown hW hP hS hA hSF h9 (by decide) kmX3_36 (Nat.le_of_ble_eq_true rfl) (Nat.le_of_ble_eq_true rfl) hl.1 (Nat.le_of_ble_eq_true rfl) dX3_init_72 ⟨Nat.le_of_ble_eq_true rfl, Nat.le_of_ble_eq_true rfl⟩ (fun H locs hP hS => ?_)
        refine c0_i (As := [.int (chF x3)]) (rest := []) hx hb hml hown hW hP hS hA (t_X3_digitOf l (chF x3) _ h) kmX3_40 mwyX3_digitOf ⟨⟨rfl, rfl⟩, Nat.le_of_ble_eq_true rfl, Nat.le_of_ble_eq_true rfl⟩ rfl hl.1 rfl (Nat.le_of_ble_eq_true rfl) dX3_init_75 ⟨Nat.le_of_ble_eq_true rfl, Nat.le_of_ble_eq_true rfl⟩ (fun r2 H locs hP hS h => ?_)
        refine lv_istore (lv' := [(4, .int r2), (0, .ref (G.1 0)), (1, .long x1), (3, .int x3)]) hx hb dX3_init_78 hl (by decide) rfl (fun ls hl => ?_)
        refine lv_iload hx hb dX3_init_80 (lv_at hl 0 rfl) ?_
        refine lv_if_ne (tgt := 96) hx hb dX3_init_82 (by decide) (fun hc => ?_) (fun hc => ?_)
        · have h := h.2 hc
          refine lv_lload_n hx hb dX3_init_96 rfl (lv_at hl 2 rfl) ?_
          refine lv_ldc2 (v := (37 : Int64)) hx hb hown (hW _ kcX3_48) dX3_init_97 ?_
          refine lv_lmul hx hb dX3_init_100 ?_
          refine lv_iload hx hb dX3_init_101 (lv_at hl 0 rfl) ?_
          refine lv_i2l (v := (r2).toInt64) hx hb dX3_init_103 rfl ?_
          refine lv_ladd hx hb dX3_init_104 ?_
          refine lv_lstore_n (lv' := [(1, .long ((x1 * (37 : Int64)) + (r2).toInt64)), (4, .int r2), (0, .ref (G.1 0)), (3, .int x3)]) hx hb dX3_init_105 rfl hl (by decide) rfl (fun ls hl => ?_)
          refine lv_iinc (v := (x3 + (1 : Int32))) (lv' := [(3, .int (x3 + (1 : Int32))), (1, .long ((x1 * (37 : Int64)) + (r2).toInt64)), (4, .int r2), (0, .ref (G.1 0))]) hx hb dX3_init_106 hl (k := 3) rfl rfl (by decide) rfl (fun ls hl => ?_)
          refine lv_goto (tgt := 60) hx hb dX3_init_109 (by decide) ?_
          exact ih ((x1 * (37 : Int64)) + (r2).toInt64) (x3 + (1 : Int32)) u _ _ _ h hP hD hS (lv_sub hl [3, 1, 0] rfl)
        · have h := h.1 hc
          refine lv_aload_n hx hb dX3_init_85 rfl (lv_at hl 1 rfl) ?_
          refine lv_lload_n hx hb dX3_init_86 rfl (lv_at hl 2 rfl) ?_
          refine cN_l (ci := 3) (q0 := 0) (As := [.long x1]) (rest := []) E hml hP hD hS hA (t_X3_wordOf_N l D G x1 u _ h) kmX3_44 mwyX3_wordOf rfl rfl ⟨⟨rfl, rfl⟩, Nat.le_of_ble_eq_true rfl, Nat.le_of_ble_eq_true rfl⟩ rfl hl.1 rfl (Nat.le_of_ble_eq_true rfl) dX3_init_87 ⟨Nat.le_of_ble_eq_true rfl, Nat.le_of_ble_eq_true rfl⟩ (fun r3 u4 H locs hP hD hS h => ?_)
          refine lv_pop2_2 hx hb dX3_init_90 rfl ?_
          refine lv_lconst (v := (0 : Int64)) hx hb dX3_init_91 (by decide) ?_
          refine lv_lstore_n (lv' := [(1, .long (0 : Int64)), (4, .int r2), (0, .ref (G.1 0)), (3, .int x3)]) hx hb dX3_init_92 rfl hl (by decide) rfl (fun ls hl => ?_)
          refine lv_goto (tgt := 106) hx hb dX3_init_93 (by decide) ?_
          refine lv_iinc (v := (x3 + (1 : Int32))) (lv' := [(3, .int (x3 + (1 : Int32))), (1, .long (0 : Int64)), (4, .int r2), (0, .ref (G.1 0))]) hx hb dX3_init_106 hl (k := 3) rfl rfl (by decide) rfl (fun ls hl => ?_)
          refine lv_goto (tgt := 60) hx hb dX3_init_109 (by decide) ?_
          exact ih (0 : Int64) (x3 + (1 : Int32)) u4 _ _ _ h hP hD hS (lv_sub hl [3, 1, 0] rfl)
  unfold wp_X3_init at h
  refine lv_iconst (v := (0 : Int32)) hx hb dX3_init_32 (by decide) ?_
  refine lv_istore_n (lv' := [(1, .int (0 : Int32)), (0, .ref (G.1 0))]) hx hb dX3_init_33 rfl hl (by decide) rfl (fun ls hl => ?_)
  obtain ⟨n, h⟩ := h
  refine L_34  _ (fun u1 H locs ls h hP hD hS hl => ?_) n (0 : Int32) u0N _ _ _ h hP hD hS (lv_sub hl [1, 0] rfl)
  refine lv_lconst (v := (0 : Int64)) hx hb dX3_init_56 (by decide) ?_
  refine lv_lstore_n (lv' := [(1, .long (0 : Int64)), (0, .ref (G.1 0))]) hx hb dX3_init_57 rfl hl (by decide) rfl (fun ls hl => ?_)
  refine lv_iconst (v := (0 : Int32)) hx hb dX3_init_58 (by decide) ?_
  refine lv_istore_n (lv' := [(3, .int (0 : Int32)), (1, .long (0 : Int64)), (0, .ref (G.1 0))]) hx hb dX3_init_59 rfl hl (by decide) rfl (fun ls hl => ?_)
  obtain ⟨n, h⟩ := h
  refine L_60  _ (fun u5 H locs ls h hP hD hS hl => ?_) n (0 : Int64) (0 : Int32) u1 _ _ _ h hP hD hS (lv_sub hl [2, 1, 0] rfl)
  subst hQ; exact W.vret hx hb hr (fun t ht hW => ⟨⟨(G, _), rfl, ⟨eh.symm, h⟩, by rw [ht, eh]; exact hP, va_K.moved hW.alike hK, by rw [eh]; exact hD⟩, hS.F ht⟩) hS.2.2 dX3_init_112
