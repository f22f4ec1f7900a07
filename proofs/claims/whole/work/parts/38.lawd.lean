section
variable {p : Program} {l : Launch} {e : Env} {R : Room} {s : State} {m : MethodId} {args : Array Value} {below : List Frame} {meth : Method} {c : Code} {H : Heap} {locs : List Loc} {cells slots : Nat} {Q : State → Prop} {D : va_G} {A : Nat → Prop} {cc : ByteArray} {own : String} {pc ix nL b L : Nat} {xs : Nat → Int32} {ls : Array Slot} {rest : List Value} {ws : va_W}
theorem lCell (k : Nat) (hk : k < 2 ^ 31) (hL : L < 2 ^ 31) (hx : p.tables.exec = Jvm.exec) (hb : c.code = cc) (hml : c.maxLocals = nL) (hown : s.vm.findClass own = some m.cls) (hW : ∀ w ∈ WS, w.before args s = true) (hP : va_P D vwCl ws H) (hS : va_S A s.heap H locs) (hA : ∀ q, s.heap.size ≤ q → A q) (hX : va_X b L xs s s.heap) (hbl : b < s.heap.size) (hbA : ¬ A b) (hl : Cond.methodLink own ix yL_cell ∈ WS) (hR : 0 + 1 ≤ R.frames ∧ 8 + (2 + 11) + 0 ≤ R.locals) (hls : ls.size = nL) (hro : (rest.map fun v => v.category).sum ≤ 8) (hd : decode cc pc = .ok (.invokestatic ix, 3)) (hf : cells ≤ R.cells ∧ slots ≤ R.slots)
    (kk : ∀ (H1 : Heap) (locs1 : List Loc), va_P D vwCl ws H1 → va_S A s.heap H1 locs1 → W p l e R s m args below meth c H1 locs1 cells slots Q (F0 m (pc + 3) ls (.int (if k < L then xs k else 0) :: rest))) : W p l e R s m args below meth c H locs cells slots Q (F0 m pc ls (.int (nI k) :: .ref b :: rest)) := by
  have hX1 := hX.kept (hS.2.1 b hbl hbA)
  have cw := va_cwS (R := R) (s := s) (args := args) (own := own) (index := ix) (ret := some .int) (rm := rj0) (mc := 0) (ms := 0) 2 hW (gd_S hl mwyL_cell) rfl rfl rfl mwyL_cell.2.2.2 hR
  refine va_calli (A0 := A) (A1 := fun q => H.size ≤ q) (free := fun q => H.size ≤ q) (va_runS (Ts := WS) (As := [.ref b, .int (nI k)]) (rest := rest) (mc := 0) (ms := 0) ⟨hx, hb, hml, hown, hW⟩ (tc_cell l b L xs k hk hL H.size) cw ⟨fun a U g mk q => ⟨q.1, q.2.1, va_X.moved (u := U) (U := U.calling g mk a) (Vm.Alike.refl U.vm) q.2.2.1, q.2.2.2⟩, fun U hU hW => ⟨rfl, congrArg Array.size hU, by rw [hU]; exact va_X.moved hW.alike hX1, Nat.lt_of_lt_of_le hbl hS.1⟩⟩ rfl rfl hls rfl (lv_room hro) hd ⟨hf.1, hf.2⟩) hS (fun q h1 h2 => absurd h1 (Nat.not_lt.mpr h2)) (fun q h => hA q (Nat.le_trans hS.1 h)) (fun r u t H1 locs1 ht hvm hw hB hz1 hk1 hS1 => ?_)
  subst hw
  exact kk H1 locs1 (fun k q hk => (hP k q hk).kept (hk1 q.1 (hP k q hk).lt (Nat.not_le.mpr (hP k q hk).lt))) hS1
end
/-- what is left to show: of the two sides' words alone -/
def Pure : Prop := ∃ QN : St → Prop, wp_X3_init QN ∧ ∀ p0 p1 p2 : Int32, wp_X10_init p0 p1 p2 (fun v => ∀ (n8 n3 n6 : Nat) (f : Nat → Int32) (uN : St), wi p0 16 1000 300 n8 → wi p1 4 200 100 n3 → wi p2 10 20000 5000 n6 → (∀ j, j < n8 → f j = nI j) → QN uN → ∃ Inv : Nat → St → St → Prop, Obl (l0C n8 n3) Inv ∧ Inv 0 (u0C n8 n6 f uN) v)
def m1L : List Int32 := [97, 32, 102, 97, 117, 108, 116, 32, 111, 102, 32, 114, 101, 97, 100, 105, 110, 103]
def m2L : List Int32 := [97, 32, 102, 97, 117, 108, 116, 32, 111, 102, 32, 101, 118, 97, 108, 117, 97, 116, 105, 110, 103]
set_option maxHeartbeats 4000000 in
set_option maxRecDepth 100000 in
theorem so_n {args : Array Value} {s : State} {A : Nat → Prop} (hs : ∀ c ∈ flatC (Jvm.Cond.and given_1 narrow_1), c.before args s = true) (hts : ∀ w ∈ lw_tbl, w.before args s = true) (hA : ∀ a : Nat, a < s.heap.size → ¬ A a) : ∃ sa sv : Nat, vk_R "ConsHouse$Names" 28 "NIL T QUOTE COND DEFINE LAMBDA LABEL CAR CDR CONS ATOM EQ NULL NUMBERP PLUS DIFFERENCE TIMES LESSP " sa s ∧ va_O "java/lang/String" sa A s s.heap ∧ va_OF "java/lang/String" "coder" "B" (.int 0) sa A s s.heap ∧ va_OF "java/lang/String" "value" "[B" (.ref sv) sa A s s.heap ∧ va_T .byte sv 99 (fun j => .int (fnL.getD j 0)) A s s.heap := by
  obtain ⟨adK, adV, h1, h2⟩ := vk_Sof (args := args) (s := s) (N := 1) (tm := fun _ => Term.string "ConsHouse$Names" 28) (len := [99]) (byt := [fnL]) (A := A)
    (fun i hi => by obtain rfl : i = 0 := by omega
                    decide)
    (fun i hi => hs _ (by decide +kernel))
    (fun i hi => hs _ (by decide +kernel))
    (fun i hi => hs _ (by decide +kernel))
    (fun i hi => by obtain rfl : i = 0 := by omega
                    exact hs _ (by decide +kernel))
    (fun i hi j hj => by obtain rfl : i = 0 := by omega
                         exact hs _ ((by decide +kernel : ∀ j, j < 99 → Cond.eq (.elem (.field (Term.string "ConsHouse$Names" 28) "java/lang/String" "value" "[B") (.int (Int32.ofNat j))) (.int (fnL.getD j 0)) ∈ flatC (Jvm.Cond.and given_1 narrow_1)) j hj))
    (fun i j hi hj hij => absurd (show i = j by omega) hij) hA
  exact ⟨adK 0, adV 0, vk_R.of (hts _ (by decide +kernel)) (h2 0 (by omega)), (h1.1 0 (by omega)).1, (h1.1 0 (by omega)).2.1, (h1.1 0 (by omega)).2.2.1, (h1.1 0 (by omega)).2.2.2⟩
set_option maxHeartbeats 4000000 in
set_option maxRecDepth 100000 in
theorem so_r {args : Array Value} {s : State} {A : Nat → Prop} (hs : ∀ c ∈ flatC (Jvm.Cond.and given_1 narrow_1), c.before args s = true) (hts : ∀ w ∈ lw_tbl, w.before args s = true) (hA : ∀ a : Nat, a < s.heap.size → ¬ A a) : ∃ sa sv : Nat, vk_R "ConsHouse" 112 "a fault of reading" sa s ∧ va_O "java/lang/String" sa A s s.heap ∧ va_OF "java/lang/String" "coder" "B" (.int 0) sa A s s.heap ∧ va_OF "java/lang/String" "value" "[B" (.ref sv) sa A s s.heap ∧ va_T .byte sv 18 (fun j => .int (m1L.getD j 0)) A s s.heap := by
  obtain ⟨adK, adV, h1, h2⟩ := vk_Sof (args := args) (s := s) (N := 1) (tm := fun _ => Term.string "ConsHouse" 112) (len := [18]) (byt := [m1L]) (A := A)
    (fun i hi => by obtain rfl : i = 0 := by omega
                    decide)
    (fun i hi => hs _ (by decide +kernel))
    (fun i hi => hs _ (by decide +kernel))
    (fun i hi => hs _ (by decide +kernel))
    (fun i hi => by obtain rfl : i = 0 := by omega
                    exact hs _ (by decide +kernel))
    (fun i hi j hj => by obtain rfl : i = 0 := by omega
                         exact hs _ ((by decide +kernel : ∀ j, j < 18 → Cond.eq (.elem (.field (Term.string "ConsHouse" 112) "java/lang/String" "value" "[B") (.int (Int32.ofNat j))) (.int (m1L.getD j 0)) ∈ flatC (Jvm.Cond.and given_1 narrow_1)) j hj))
    (fun i j hi hj hij => absurd (show i = j by omega) hij) hA
  exact ⟨adK 0, adV 0, vk_R.of (hts _ (by decide +kernel)) (h2 0 (by omega)), (h1.1 0 (by omega)).1, (h1.1 0 (by omega)).2.1, (h1.1 0 (by omega)).2.2.1, (h1.1 0 (by omega)).2.2.2⟩
set_option maxHeartbeats 4000000 in
set_option maxRecDepth 100000 in
theorem so_e {args : Array Value} {s : State} {A : Nat → Prop} (hs : ∀ c ∈ flatC (Jvm.Cond.and given_1 narrow_1), c.before args s = true) (hts : ∀ w ∈ lw_tbl, w.before args s = true) (hA : ∀ a : Nat, a < s.heap.size → ¬ A a) : ∃ sa sv : Nat, vk_R "ConsHouse" 127 "a fault of evaluating" sa s ∧ va_O "java/lang/String" sa A s s.heap ∧ va_OF "java/lang/String" "coder" "B" (.int 0) sa A s s.heap ∧ va_OF "java/lang/String" "value" "[B" (.ref sv) sa A s s.heap ∧ va_T .byte sv 21 (fun j => .int (m2L.getD j 0)) A s s.heap := by
  obtain ⟨adK, adV, h1, h2⟩ := vk_Sof (args := args) (s := s) (N := 1) (tm := fun _ => Term.string "ConsHouse" 127) (len := [21]) (byt := [m2L]) (A := A)
    (fun i hi => by obtain rfl : i = 0 := by omega
                    decide)
    (fun i hi => hs _ (by decide +kernel))
    (fun i hi => hs _ (by decide +kernel))
    (fun i hi => hs _ (by decide +kernel))
    (fun i hi => by obtain rfl : i = 0 := by omega
                    exact hs _ (by decide +kernel))
    (fun i hi j hj => by obtain rfl : i = 0 := by omega
                         exact hs _ ((by decide +kernel : ∀ j, j < 21 → Cond.eq (.elem (.field (Term.string "ConsHouse" 127) "java/lang/String" "value" "[B") (.int (Int32.ofNat j))) (.int (m2L.getD j 0)) ∈ flatC (Jvm.Cond.and given_1 narrow_1)) j hj))
    (fun i j hi hj hij => absurd (show i = j by omega) hij) hA
  exact ⟨adK 0, adV 0, vk_R.of (hts _ (by decide +kernel)) (h2 0 (by omega)), (h1.1 0 (by omega)).1, (h1.1 0 (by omega)).2.1, (h1.1 0 (by omega)).2.2.1, (h1.1 0 (by omega)).2.2.2⟩
