/-! THE CLAIM OUT OF ONE WALK OF THE LAW'S BODY. Your part is whole_start (and what it stands on); all else here is the same for every law, but numbers. -/
def R_law : String := "ConsHouseLaw"
def lw_P (b : Addr) (xs : List Int32) (args : Array Value) (s : State) : Prop := args = #[.ref b] ∧ s.IntsAt b xs ∧ xs.length ≤ 1539 ∧ (Jvm.Cond.and given_1 narrow_1).before args s = true
def lw_Q (_ : Array Value) (s : State) (o : Outcome) (t : State) : Prop := o = .returned (some (.int 1)) ∧ Framed s o t [] 601024 7292999
def lw_Z (below : List Frame) (a : Array Value) (s : State) : State → Prop := fun t => ∃ o, t.status = .running ∧ Ended t below o ∧ lw_Q a s o t
/-- the law's own end, with 1 on the stack, nothing written that was there before, its room as the claim has it -/
theorem lw_ret {p : Program} {l : Launch} {e : Env} {s : State} {m : MethodId} {below : List Frame} {meth : Method} {c : Code} {b : Nat} (hx : p.tables.exec = Jvm.exec) (hb : c.code = code) (hr : meth.sig.returnType = ret) (hlocks : meth.locks = false) {pc : Nat} {H : Heap} {ls : Array Slot} (hdg : decode code pc = .ok (.ireturn, 1)) : W p l e room_1 s m #[Value.ref b] below meth c H [] 601024 7292999 (lw_Z below #[Value.ref b] s) (F0 m pc ls [.int 1]) := by
  intro T hT X
  obtain ⟨fs, hret, hrun, hended, hW, hframe⟩ := X.leave (v := some (.int 1)) (hlocks := hlocks) (fun h => by rw [hr] at h; cases h)
  have hmeth' : T.vm.method? m = some meth := X.method'
  refine ⟨T.setFrames fs, ?_, .returned (some (.int 1)), hrun, hended, rfl, ⟨_, rfl⟩, hW, hframe⟩
  jvm_step X.here [X.here.top, hx, hb, hdg, hmeth', hr, ret, narrow_b1]
  (try refine ⟨rfl, ?_⟩); (try refine ⟨rfl, ?_⟩)
  first | (intro acts; rw [hret _ acts rfl rfl rfl]) | rw [hret _ _ rfl rfl rfl]
  exact Steps.refl _
/-- what holds at the law's entry: the machine, the code, the tables' words (any of lw_tbl by 'hts w (by decide +kernel)'), the script of L ints xs at the cell b, what the Statement gives of the start (any of its parts by flat_of_before) -/
def lw_At (p : Program) (s : State) (m : MethodId) (meth : Method) (c : Code) (b L : Nat) (xs : Nat → Int32) : Prop :=
  p.tables.exec = Jvm.exec ∧ c.code = code ∧ meth.sig.returnType = ret ∧ c.maxLocals = 7 ∧ s.vm.findClass R_law = some m.cls ∧ (∀ w ∈ lw_tbl, w.before #[Value.ref b] s = true) ∧ va_X b L xs s s.heap ∧ b < s.heap.size ∧ meth.locks = false ∧ (Jvm.Cond.and given_1 narrow_1).before #[Value.ref b] s = true
set_option maxHeartbeats 4000000 in
set_option maxRecDepth 100000 in
theorem law_loop {p : Program} {l : Launch} {e : Env} {s : State} {m : MethodId} {below : List Frame} {meth : Method} {c : Code} {D : va_G} {G K : Gd} {b L o a1 a2 : Nat} {cy : ClassId} {xs : Nat → Int32} (hst : l.stackTraces = false) (hL : L ≤ 1539) (C0 : lw_At p s m meth c b L xs) (hK : va_K D vwCl (tyL G K cy) s) (hTF : TF a1 a2 (fun q : Nat => s.heap.size ≤ q) s s.heap) (hNc : va_Nc xIS xIA s) (Inv : Nat → St → St → Prop) (hO : Obl G.2.1 Inv) (c0 s0 : Nat) (hc0 : c0 + 513 ≤ 601024) (hs0 : s0 + 6 * 513 ≤ 7292999) :
    ∀ (n j : Nat) (u v : St) (g : Nat → Int64) (H : Heap) (locs : List Loc) (ls : Array Slot) (x4 : Int32), j ≤ 512 → 512 < j + n → x4 = nI (3 * j + 3) → Inv j u v → va_P D vwCl (wL G K u v o cy g) H → va_D (fun q : Nat => s.heap.size ≤ q) (wL G K u v o cy g) → va_S (fun q : Nat => s.heap.size ≤ q) s.heap H locs → lv_has ls 7 [(0, .ref b), (1, .ref (G.1 0)), (2, .ref (K.1 0)), (3, .ref o), (4, .int x4)] → W p l e room_1 s m #[Value.ref b] below meth c H locs (c0 + j) (s0 + 6 * j) (lw_Z below #[Value.ref b] s) (F0 m 53 ls []) := by
  obtain ⟨hx, hb, hr, hml, hown, hts, hX, hbl, hlocks, hgv⟩ := C0
  have hW : ∀ w ∈ WS, w.before #[Value.ref b] s = true := fun w h => hts w (WS_in w h)
  have hA : ∀ q : Nat, s.heap.size ≤ q → (fun q : Nat => s.heap.size ≤ q) q := fun _ h => h
  have hbA : ¬ (fun q : Nat => s.heap.size ≤ q) b := Nat.not_le.mpr hbl
  intro n
  induction n with
  | zero => intro j u v g H locs ls x4 h1 h2; exact absurd h2 (by omega)
  | succ n ih =>
    intro j u v g H locs ls x4 hj hjn ex4 hI hP hD hS hl
    have eL : (Int32.ofNat L - (3 : Int32)).toInt = (L : Int) - 3 := pk_sub_toInt (a := L) (b := 3) (by omega) (by omega)
    have e4 : x4.toInt = 3 * (j : Int) + 3 := by rw [ex4, nI_toInt (by omega)]; omega
    refine lv_iload hx hb dL_law_53 (lv_at hl 4 rfl) ?_
    refine lv_aload_n hx hb dL_law_55 rfl (lv_at hl 0 rfl) ?_
    refine va_slen hx hb hX hbl hbA hS dL_law_56 ?_
    refine lv_iconst (v := 3) hx hb dL_law_57 (by decide) ?_
    refine lv_isub hx hb dL_law_58 ?_
    refine lv_icmp_gt (tgt := 323) hx hb dL_law_59 (by decide) (fun hc => ?_) (fun hc => ?_)
    · refine lv_iconst (v := 1) hx hb dL_law_323 (by decide) ?_
      refine va_forget (fun q hq => hS.2.2 q hq) ?_
      refine W.widen (k := 601024) (n := 7292999) (by omega) (by omega) ?_
      exact lw_ret hx hb hr hlocks dL_law_324
    rw [Int32.lt_iff_toInt_lt, eL, e4] at hc
    have hj512 : j < 512 := by omega
    have h3 : 3 * j + 6 ≤ L := by omega
    have hi0 : vp_in x4 L := by rw [ex4]; exact vp_in_nI (by omega) (by omega)
    have hi1 : vp_in (x4 + (1 : Int32)) L := by rw [ex4, nI_1]; exact vp_in_nI (by omega) (by omega)
    have hi2 : vp_in (x4 + (2 : Int32)) L := by rw [ex4, show (2 : Int32) = nI 2 from rfl, nI_add]; exact vp_in_nI (by omega) (by omega)
    have J : ∀ (u v : St) (g : Nat → Int64) (H : Heap) (locs : List Loc) (ls : Array Slot), Inv (j + 1) u v → va_P D vwCl (wL G K u v o cy g) H → va_D (fun q : Nat => s.heap.size ≤ q) (wL G K u v o cy g) → va_S (fun q : Nat => s.heap.size ≤ q) s.heap H locs → lv_has ls 7 [(0, .ref b), (1, .ref (G.1 0)), (2, .ref (K.1 0)), (3, .ref o), (4, .int x4)] → W p l e room_1 s m #[Value.ref b] below meth c H locs (c0 + (j + 1)) (s0 + 6 * (j + 1)) (lw_Z below #[Value.ref b] s) (F0 m 317 ls []) := by
      intro u v g H locs ls hI hP hD hS hl
      refine lv_iinc (v := x4 + (3 : Int32)) (lv' := [(4, .int (x4 + (3 : Int32))), (0, .ref b), (1, .ref (G.1 0)), (2, .ref (K.1 0)), (3, .ref o)]) hx hb dL_law_317 hl (k := 4) rfl rfl (by decide) rfl (fun ls hl => ?_)
      refine lv_goto (tgt := 53) hx hb dL_law_320 (by decide) ?_
      exact ih (j + 1) u v g H locs ls (x4 + (3 : Int32)) (by omega) (by omega) (by rw [ex4, show (3 : Int32) = nI 3 from rfl, nI_add]; congr 1) hI hP hD hS (lv_sub hl [1, 2, 3, 4, 0] rfl)
    refine lv_aload_n hx hb dL_law_62 rfl (lv_at hl 0 rfl) ?_
    refine lv_iload hx hb dL_law_63 (lv_at hl 4 rfl) ?_
    refine va_sld hx hb hX hbl hbA hS hi0 dL_law_65 ?_
    refine lv_bipush (v := 7) hx hb dL_law_66 (by decide) ?_
    refine lv_iand hx hb dL_law_68 ?_
    generalize (xs x4.toNatClampNeg &&& 7) = w
    rcases Decidable.em (w = (0 : Int32)) with hc0 | hc0
    · refine lv_tableIn (off := (47 : Int)) (tgt := 116) hx hb dL_law_69 (by rw [hc0]; decide) (by rw [hc0]; decide) (by rw [hc0]; decide) (by decide) ?_
      have h := hO.2.1 j u v ((xs (x4 + (1 : Int32)).toNatClampNeg).toInt64 <<< (((32 : Int32)).toInt64 &&& 63) ||| (xs (x4 + (2 : Int32)).toNatClampNeg).toInt64 &&& (4294967295 : Int64)) hj512 hI
      refine lv_aload_n hx hb dL_law_116 rfl (lv_at hl 1 rfl) ?_
      refine lv_aload_n hx hb dL_law_117 rfl (lv_at hl 0 rfl) ?_
      refine lv_iload hx hb dL_law_118 (lv_at hl 4 rfl) ?_
      refine lv_iconst (v := (1 : Int32)) hx hb dL_law_120 (by decide) ?_
      refine lv_iadd hx hb dL_law_121 ?_
      refine va_sld hx hb hX hbl hbA hS hi1 dL_law_122 ?_
      refine lv_i2l hx hb dL_law_123 rfl ?_
      refine lv_bipush (v := (32 : Int32)) hx hb dL_law_124 (by decide) ?_
      refine lv_lshl hx hb dL_law_126 rfl ?_
      refine lv_aload_n hx hb dL_law_127 rfl (lv_at hl 0 rfl) ?_
      refine lv_iload hx hb dL_law_128 (lv_at hl 4 rfl) ?_
      refine lv_iconst (v := (2 : Int32)) hx hb dL_law_130 (by decide) ?_
      refine lv_iadd hx hb dL_law_131 ?_
      refine va_sld hx hb hX hbl hbA hS hi2 dL_law_132 ?_
      refine lv_i2l hx hb dL_law_133 rfl ?_
      refine lv_ldc2 (v := (4294967295 : Int64)) hx hb hown (hW _ kcL_29) dL_law_134 ?_
      refine lv_land hx hb dL_law_137 ?_
      refine lv_lor hx hb dL_law_138 ?_
      refine lC_i (As := [.long ((((xs (x4 + (1 : Int32)).toNatClampNeg)).toInt64 <<< (((32 : Int32)).toInt64 &&& 63)) ||| (((xs (x4 + (2 : Int32)).toNatClampNeg)).toInt64 &&& (4294967295 : Int64)))]) (rest := []) hx hb hml hown hW hK hP hD hS hA (t_X9_write l D G (((((xs (x4 + (1 : Int32)).toNatClampNeg)).toInt64 <<< (((32 : Int32)).toInt64 &&& 63)) ||| (((xs (x4 + (2 : Int32)).toNatClampNeg)).toInt64 &&& (4294967295 : Int64)))) u _ h) kmL_31 mwyX9_write ⟨⟨rfl, rfl⟩, Nat.le_of_ble_eq_true rfl, Nat.le_of_ble_eq_true rfl⟩ rfl hl.1 rfl (Nat.le_of_ble_eq_true rfl) dL_law_139 ⟨by show c0 + j ≤ 601024; omega, by show s0 + 6 * j ≤ 7292999; omega⟩ (fun r1 u1 H locs hP hD hS h => ?_)
      refine lv_aload_n hx hb dL_law_142 rfl (lv_at hl 2 rfl) ?_
      refine lv_aload_n hx hb dL_law_143 rfl (lv_at hl 0 rfl) ?_
      refine lv_iload hx hb dL_law_144 (lv_at hl 4 rfl) ?_
      refine lv_iconst (v := (1 : Int32)) hx hb dL_law_146 (by decide) ?_
      refine lv_iadd hx hb dL_law_147 ?_
      refine va_sld hx hb hX hbl hbA hS hi1 dL_law_148 ?_
      refine lv_i2l hx hb dL_law_149 rfl ?_
      refine lv_bipush (v := (32 : Int32)) hx hb dL_law_150 (by decide) ?_
      refine lv_lshl hx hb dL_law_152 rfl ?_
      refine lv_aload_n hx hb dL_law_153 rfl (lv_at hl 0 rfl) ?_
      refine lv_iload hx hb dL_law_154 (lv_at hl 4 rfl) ?_
      refine lv_iconst (v := (2 : Int32)) hx hb dL_law_156 (by decide) ?_
      refine lv_iadd hx hb dL_law_157 ?_
      refine va_sld hx hb hX hbl hbA hS hi2 dL_law_158 ?_
      refine lv_i2l hx hb dL_law_159 rfl ?_
      refine lv_ldc2 (v := (4294967295 : Int64)) hx hb hown (hW _ kcL_29) dL_law_160 ?_
      refine lv_land hx hb dL_law_163 ?_
      refine lv_lor hx hb dL_law_164 ?_
      refine lR_i (As := [.long ((((xs (x4 + (1 : Int32)).toNatClampNeg)).toInt64 <<< (((32 : Int32)).toInt64 &&& 63)) ||| (((xs (x4 + (2 : Int32)).toNatClampNeg)).toInt64 &&& (4294967295 : Int64)))]) (rest := [.int r1]) hx hb hml hown hW hK hP hD hS hA (t_X10_write l D K (((((xs (x4 + (1 : Int32)).toNatClampNeg)).toInt64 <<< (((32 : Int32)).toInt64 &&& 63)) ||| (((xs (x4 + (2 : Int32)).toNatClampNeg)).toInt64 &&& (4294967295 : Int64)))) v _ h) kmL_35 mwyX10_write ⟨⟨rfl, rfl⟩, Nat.le_of_ble_eq_true rfl, Nat.le_of_ble_eq_true rfl⟩ rfl hl.1 rfl (Nat.le_of_ble_eq_true rfl) dL_law_165 ⟨by show c0 + j ≤ 601024; omega, by show s0 + 6 * j ≤ 7292999; omega⟩ (fun r2 v2 H locs hP hD hS h => ?_)
      refine lv_icmp_eq (tgt := 317) hx hb dL_law_168 (by decide) (fun hc => ?_) (fun hc => absurd h.1 hc)
      refine W.widen (k := c0 + (j + 1)) (n := s0 + 6 * (j + 1)) (by omega) (by omega) ?_
      exact J u1 v2 g _ _ _ h.2 hP hD hS (lv_sub hl [0, 1, 2, 3, 4] rfl)
    · skip
      rcases Decidable.em (w = (1 : Int32)) with hc1 | hc1
      · refine lv_tableIn (off := (104 : Int)) (tgt := 173) hx hb dL_law_69 (by rw [hc1]; decide) (by rw [hc1]; decide) (by rw [hc1]; decide) (by decide) ?_
        have h := hO.2.2.1 j u v hj512 hI
        refine lv_aload_n hx hb dL_law_173 rfl (lv_at hl 1 rfl) ?_
        refine lC_v (As := []) (rest := []) hx hb hml hown hW hK hP hD hS hA (t_X9_clear l D G  u _ h) kmL_36 mwyX9_clear ⟨⟨rfl, rfl⟩, Nat.le_of_ble_eq_true rfl, Nat.le_of_ble_eq_true rfl⟩ rfl hl.1 rfl (Nat.le_of_ble_eq_true rfl) dL_law_174 ⟨by show c0 + j ≤ 601024; omega, by show s0 + 6 * j ≤ 7292999; omega⟩ (fun u1 H locs hP hD hS h => ?_)
        refine lv_aload_n hx hb dL_law_177 rfl (lv_at hl 2 rfl) ?_
        refine lR_v (As := []) (rest := []) hx hb hml hown hW hK hP hD hS hA (t_X10_clear l D K  v _ h) kmL_39 mwyX10_clear ⟨⟨rfl, rfl⟩, Nat.le_of_ble_eq_true rfl, Nat.le_of_ble_eq_true rfl⟩ rfl hl.1 rfl (Nat.le_of_ble_eq_true rfl) dL_law_178 ⟨by show c0 + j ≤ 601024; omega, by show s0 + 6 * j ≤ 7292999; omega⟩ (fun v2 H locs hP hD hS h => ?_)
        refine lv_goto (tgt := 317) hx hb dL_law_181 (by decide) ?_
        refine W.widen (k := c0 + (j + 1)) (n := s0 + 6 * (j + 1)) (by omega) (by omega) ?_
        exact J u1 v2 g _ _ _ h hP hD hS (lv_sub hl [0, 1, 2, 3, 4] rfl)
      · skip
        rcases Decidable.em (w = (2 : Int32)) with hc2 | hc2
        · refine lv_tableIn (off := (115 : Int)) (tgt := 184) hx hb dL_law_69 (by rw [hc2]; decide) (by rw [hc2]; decide) (by rw [hc2]; decide) (by decide) ?_
          have h := hO.2.2.2.1 j u v (g 0) hj512 hI
          refine lv_aload_n hx hb dL_law_184 rfl (lv_at hl 1 rfl) ?_
          refine lv_aload_n hx hb dL_law_185 rfl (lv_at hl 3 rfl) ?_
          refine lNx (rest := []) hst hx hb hml hown hW hK hP hD hS hA hTF hNc h kmL_40 ⟨Nat.le_of_ble_eq_true rfl, Nat.le_of_ble_eq_true rfl⟩ hl.1 (Nat.le_of_ble_eq_true rfl) dL_law_186 ⟨by show c0 + j + 1 ≤ 601024; omega, by show s0 + 6 * j + 6 ≤ 7292999; omega⟩ (fun rk g1 u1 H locs hP hD hS h => ?_)
          refine lv_istore (lv' := [(5, .int rk), (0, .ref b), (1, .ref (G.1 0)), (2, .ref (K.1 0)), (3, .ref o), (4, .int x4)]) hx hb dL_law_189 hl (by decide) rfl (fun ls hl => ?_)
          refine lv_aload_n hx hb dL_law_191 rfl (lv_at hl 3 rfl) ?_
          refine lR_i (As := []) (rest := []) hx hb hml hown hW hK hP hD hS hA (t_X10_next l D K  v _ h) kmL_43 mwyX10_next ⟨⟨rfl, rfl⟩, Nat.le_of_ble_eq_true rfl, Nat.le_of_ble_eq_true rfl⟩ rfl hl.1 rfl (Nat.le_of_ble_eq_true rfl) dL_law_192 ⟨by show c0 + j + 1 ≤ 601024; omega, by show s0 + 6 * j + 6 ≤ 7292999; omega⟩ (fun r1 v1 H locs hP hD hS h => ?_)
          refine lv_istore (lv' := [(6, .int r1), (5, .int rk), (0, .ref b), (1, .ref (G.1 0)), (2, .ref (K.1 0)), (3, .ref o), (4, .int x4)]) hx hb dL_law_195 hl (by decide) rfl (fun ls hl => ?_)
          refine lv_aload_n hx hb dL_law_197 rfl (lv_at hl 4 rfl) ?_
          refine lR_i (As := []) (rest := []) hx hb hml hown hW hK hP hD hS hA (t_X10_thrown l D K  v1 _ h) kmL_44 mwyX10_thrown ⟨⟨rfl, rfl⟩, Nat.le_of_ble_eq_true rfl, Nat.le_of_ble_eq_true rfl⟩ rfl hl.1 rfl (Nat.le_of_ble_eq_true rfl) dL_law_198 ⟨by show c0 + j + 1 ≤ 601024; omega, by show s0 + 6 * j + 6 ≤ 7292999; omega⟩ (fun r2 v2 H locs hP hD hS h => ?_)
          refine lv_iload hx hb dL_law_201 (lv_at hl 1 rfl) ?_
          refine lv_icmp_eq (tgt := 208) hx hb dL_law_203 (by decide) (fun hc => ?_) (fun hc => absurd h.1 hc)
          refine lv_iload hx hb dL_law_208 (lv_at hl 1 rfl) ?_
          refine lv_if_ne (tgt := 225) hx hb dL_law_210 (by decide) (fun hc => ?_) (fun hc => ?_)
          · refine lv_goto (tgt := 317) hx hb dL_law_225 (by decide) ?_
            refine W.widen (k := c0 + (j + 1)) (n := s0 + 6 * (j + 1)) (by omega) (by omega) ?_
            exact J u1 v2 g1 _ _ _ h.2.2 hP hD hS (lv_sub hl [2, 3, 4, 5, 6] rfl)
          refine lv_aload_n hx hb dL_law_213 rfl (lv_at hl 5 rfl) ?_
          refine lv_iconst (v := (0 : Int32)) hx hb dL_law_214 (by decide) ?_
          refine va_lald hx hb hK hP 50 40 rfl rfl (by unfold vp_in; decide) dL_law_215 ?_
          refine lv_iload hx hb dL_law_216 (lv_at hl 0 rfl) ?_
          refine lv_i2l hx hb dL_law_218 rfl ?_
          refine lq_eq (tgt := 225) hx hb dL_law_219 dL_law_220 (by decide) (fun hc => ?_) (fun hc2 => absurd (h.2.1 hc) hc2)
          refine lv_goto (tgt := 317) hx hb dL_law_225 (by decide) ?_
          refine W.widen (k := c0 + (j + 1)) (n := s0 + 6 * (j + 1)) (by omega) (by omega) ?_
          exact J u1 v2 g1 _ _ _ h.2.2 hP hD hS (lv_sub hl [2, 3, 4, 5, 6] rfl)
        · skip
          rcases Decidable.em (w = (3 : Int32)) with hc3 | hc3
          · refine lv_tableIn (off := (159 : Int)) (tgt := 228) hx hb dL_law_69 (by rw [hc3]; decide) (by rw [hc3]; decide) (by rw [hc3]; decide) (by decide) ?_
            have h := hO.2.2.2.2.1 j u v hj512 hI
            refine lv_aload_n hx hb dL_law_228 rfl (lv_at hl 1 rfl) ?_
            refine lC_i (As := []) (rest := []) hx hb hml hown hW hK hP hD hS hA (t_X9_fault l D G  u _ h) kmL_47 mwyX9_fault ⟨⟨rfl, rfl⟩, Nat.le_of_ble_eq_true rfl, Nat.le_of_ble_eq_true rfl⟩ rfl hl.1 rfl (Nat.le_of_ble_eq_true rfl) dL_law_229 ⟨by show c0 + j ≤ 601024; omega, by show s0 + 6 * j ≤ 7292999; omega⟩ (fun r1 u1 H locs hP hD hS h => ?_)
            refine lv_aload_n hx hb dL_law_232 rfl (lv_at hl 2 rfl) ?_
            refine lR_i (As := []) (rest := [.int r1]) hx hb hml hown hW hK hP hD hS hA (t_X10_fault l D K  v _ h) kmL_50 mwyX10_fault ⟨⟨rfl, rfl⟩, Nat.le_of_ble_eq_true rfl, Nat.le_of_ble_eq_true rfl⟩ rfl hl.1 rfl (Nat.le_of_ble_eq_true rfl) dL_law_233 ⟨by show c0 + j ≤ 601024; omega, by show s0 + 6 * j ≤ 7292999; omega⟩ (fun r2 v2 H locs hP hD hS h => ?_)
            refine lv_icmp_eq (tgt := 317) hx hb dL_law_236 (by decide) (fun hc => ?_) (fun hc => absurd h.1 hc)
            refine W.widen (k := c0 + (j + 1)) (n := s0 + 6 * (j + 1)) (by omega) (by omega) ?_
            exact J u1 v2 g _ _ _ h.2 hP hD hS (lv_sub hl [0, 1, 2, 3, 4] rfl)
          · skip
            rcases Decidable.em (w = (4 : Int32)) with hc4 | hc4
            · refine lv_tableIn (off := (172 : Int)) (tgt := 241) hx hb dL_law_69 (by rw [hc4]; decide) (by rw [hc4]; decide) (by rw [hc4]; decide) (by decide) ?_
              have h := hO.2.2.2.2.2.1 j u v hj512 hI
              refine lv_aload_n hx hb dL_law_241 rfl (lv_at hl 1 rfl) ?_
              refine lC_i (As := []) (rest := []) hx hb hml hown hW hK hP hD hS hA (t_X9_place l D G  u _ h) kmL_51 mwyX9_place ⟨⟨rfl, rfl⟩, Nat.le_of_ble_eq_true rfl, Nat.le_of_ble_eq_true rfl⟩ rfl hl.1 rfl (Nat.le_of_ble_eq_true rfl) dL_law_242 ⟨by show c0 + j ≤ 601024; omega, by show s0 + 6 * j ≤ 7292999; omega⟩ (fun r1 u1 H locs hP hD hS h => ?_)
              refine lv_aload_n hx hb dL_law_245 rfl (lv_at hl 2 rfl) ?_
              refine lR_i (As := []) (rest := [.int r1]) hx hb hml hown hW hK hP hD hS hA (t_X10_place l D K  v _ h) kmL_54 mwyX10_place ⟨⟨rfl, rfl⟩, Nat.le_of_ble_eq_true rfl, Nat.le_of_ble_eq_true rfl⟩ rfl hl.1 rfl (Nat.le_of_ble_eq_true rfl) dL_law_246 ⟨by show c0 + j ≤ 601024; omega, by show s0 + 6 * j ≤ 7292999; omega⟩ (fun r2 v2 H locs hP hD hS h => ?_)
              refine lv_icmp_eq (tgt := 317) hx hb dL_law_249 (by decide) (fun hc => ?_) (fun hc => absurd h.1 hc)
              refine W.widen (k := c0 + (j + 1)) (n := s0 + 6 * (j + 1)) (by omega) (by omega) ?_
              exact J u1 v2 g _ _ _ h.2 hP hD hS (lv_sub hl [0, 1, 2, 3, 4] rfl)
            · skip
              rcases Decidable.em (w = (5 : Int32)) with hc5 | hc5
              · refine lv_tableIn (off := (185 : Int)) (tgt := 254) hx hb dL_law_69 (by rw [hc5]; decide) (by rw [hc5]; decide) (by rw [hc5]; decide) (by decide) ?_
                have h := hO.2.2.2.2.2.2.1 j u v hj512 hI
                refine lv_aload_n hx hb dL_law_254 rfl (lv_at hl 1 rfl) ?_
                refine lC_i (As := []) (rest := []) hx hb hml hown hW hK hP hD hS hA (t_X9_size l D G  u _ h) kmL_55 mwyX9_size ⟨⟨rfl, rfl⟩, Nat.le_of_ble_eq_true rfl, Nat.le_of_ble_eq_true rfl⟩ rfl hl.1 rfl (Nat.le_of_ble_eq_true rfl) dL_law_255 ⟨by show c0 + j ≤ 601024; omega, by show s0 + 6 * j ≤ 7292999; omega⟩ (fun r1 u1 H locs hP hD hS h => ?_)
                refine lv_aload_n hx hb dL_law_258 rfl (lv_at hl 2 rfl) ?_
                refine lR_i (As := []) (rest := [.int r1]) hx hb hml hown hW hK hP hD hS hA (t_X10_size l D K  v _ h) kmL_58 mwyX10_size ⟨⟨rfl, rfl⟩, Nat.le_of_ble_eq_true rfl, Nat.le_of_ble_eq_true rfl⟩ rfl hl.1 rfl (Nat.le_of_ble_eq_true rfl) dL_law_259 ⟨by show c0 + j ≤ 601024; omega, by show s0 + 6 * j ≤ 7292999; omega⟩ (fun r2 v2 H locs hP hD hS h => ?_)
                refine lv_icmp_eq (tgt := 317) hx hb dL_law_262 (by decide) (fun hc => ?_) (fun hc => absurd h.1 hc)
                refine W.widen (k := c0 + (j + 1)) (n := s0 + 6 * (j + 1)) (by omega) (by omega) ?_
                exact J u1 v2 g _ _ _ h.2 hP hD hS (lv_sub hl [0, 1, 2, 3, 4] rfl)
              · skip
                rcases Decidable.em (w = (6 : Int32)) with hc6 | hc6
                · refine lv_tableIn (off := (198 : Int)) (tgt := 267) hx hb dL_law_69 (by rw [hc6]; decide) (by rw [hc6]; decide) (by rw [hc6]; decide) (by decide) ?_
                  have h := hO.2.2.2.2.2.2.2.1 j u v (xs (x4 + (1 : Int32)).toNatClampNeg) hj512 hI
                  refine lv_aload_n hx hb dL_law_267 rfl (lv_at hl 1 rfl) ?_
                  refine lv_aload_n hx hb dL_law_268 rfl (lv_at hl 0 rfl) ?_
                  refine lv_iload hx hb dL_law_269 (lv_at hl 4 rfl) ?_
                  refine lv_iconst (v := (1 : Int32)) hx hb dL_law_271 (by decide) ?_
                  refine lv_iadd hx hb dL_law_272 ?_
                  refine va_sld hx hb hX hbl hbA hS hi1 dL_law_273 ?_
                  refine lC_i (As := [.int (xs (x4 + (1 : Int32)).toNatClampNeg)]) (rest := []) hx hb hml hown hW hK hP hD hS hA (t_X9_out l D G ((xs (x4 + (1 : Int32)).toNatClampNeg)) u _ h) kmL_59 mwyX9_out ⟨⟨rfl, rfl⟩, Nat.le_of_ble_eq_true rfl, Nat.le_of_ble_eq_true rfl⟩ rfl hl.1 rfl (Nat.le_of_ble_eq_true rfl) dL_law_274 ⟨by show c0 + j ≤ 601024; omega, by show s0 + 6 * j ≤ 7292999; omega⟩ (fun r1 u1 H locs hP hD hS h => ?_)
                  refine lv_aload_n hx hb dL_law_277 rfl (lv_at hl 2 rfl) ?_
                  refine lv_aload_n hx hb dL_law_278 rfl (lv_at hl 0 rfl) ?_
                  refine lv_iload hx hb dL_law_279 (lv_at hl 4 rfl) ?_
                  refine lv_iconst (v := (1 : Int32)) hx hb dL_law_281 (by decide) ?_
                  refine lv_iadd hx hb dL_law_282 ?_
                  refine va_sld hx hb hX hbl hbA hS hi1 dL_law_283 ?_
                  refine lR_i (As := [.int (xs (x4 + (1 : Int32)).toNatClampNeg)]) (rest := [.int r1]) hx hb hml hown hW hK hP hD hS hA (t_X10_out l D K ((xs (x4 + (1 : Int32)).toNatClampNeg)) v _ h) kmL_63 mwyX10_out ⟨⟨rfl, rfl⟩, Nat.le_of_ble_eq_true rfl, Nat.le_of_ble_eq_true rfl⟩ rfl hl.1 rfl (Nat.le_of_ble_eq_true rfl) dL_law_284 ⟨by show c0 + j ≤ 601024; omega, by show s0 + 6 * j ≤ 7292999; omega⟩ (fun r2 v2 H locs hP hD hS h => ?_)
                  refine lv_icmp_eq (tgt := 317) hx hb dL_law_287 (by decide) (fun hc => ?_) (fun hc => absurd h.1 hc)
                  refine W.widen (k := c0 + (j + 1)) (n := s0 + 6 * (j + 1)) (by omega) (by omega) ?_
                  exact J u1 v2 g _ _ _ h.2 hP hD hS (lv_sub hl [0, 1, 2, 3, 4] rfl)
                · skip
                  rcases Decidable.em (w = (7 : Int32)) with hc7 | hc7
                  · refine lv_tableIn (off := (223 : Int)) (tgt := 292) hx hb dL_law_69 (by rw [hc7]; decide) (by rw [hc7]; decide) (by rw [hc7]; decide) (by decide) ?_
                    have h := hO.2.2.2.2.2.2.2.2 j u v (xs (x4 + (1 : Int32)).toNatClampNeg) hj512 hI
                    refine lv_aload_n hx hb dL_law_292 rfl (lv_at hl 1 rfl) ?_
                    refine lv_aload_n hx hb dL_law_293 rfl (lv_at hl 0 rfl) ?_
                    refine lv_iload hx hb dL_law_294 (lv_at hl 4 rfl) ?_
                    refine lv_iconst (v := (1 : Int32)) hx hb dL_law_296 (by decide) ?_
                    refine lv_iadd hx hb dL_law_297 ?_
                    refine va_sld hx hb hX hbl hbA hS hi1 dL_law_298 ?_
                    refine lC_i (As := [.int (xs (x4 + (1 : Int32)).toNatClampNeg)]) (rest := []) hx hb hml hown hW hK hP hD hS hA (t_X9_count l D G ((xs (x4 + (1 : Int32)).toNatClampNeg)) u _ h) kmL_64 mwyX9_count ⟨⟨rfl, rfl⟩, Nat.le_of_ble_eq_true rfl, Nat.le_of_ble_eq_true rfl⟩ rfl hl.1 rfl (Nat.le_of_ble_eq_true rfl) dL_law_299 ⟨by show c0 + j ≤ 601024; omega, by show s0 + 6 * j ≤ 7292999; omega⟩ (fun r1 u1 H locs hP hD hS h => ?_)
                    refine lv_aload_n hx hb dL_law_302 rfl (lv_at hl 2 rfl) ?_
                    refine lv_aload_n hx hb dL_law_303 rfl (lv_at hl 0 rfl) ?_
                    refine lv_iload hx hb dL_law_304 (lv_at hl 4 rfl) ?_
                    refine lv_iconst (v := (1 : Int32)) hx hb dL_law_306 (by decide) ?_
                    refine lv_iadd hx hb dL_law_307 ?_
                    refine va_sld hx hb hX hbl hbA hS hi1 dL_law_308 ?_
                    refine lR_i (As := [.int (xs (x4 + (1 : Int32)).toNatClampNeg)]) (rest := [.int r1]) hx hb hml hown hW hK hP hD hS hA (t_X10_count l D K ((xs (x4 + (1 : Int32)).toNatClampNeg)) v _ h) kmL_67 mwyX10_count ⟨⟨rfl, rfl⟩, Nat.le_of_ble_eq_true rfl, Nat.le_of_ble_eq_true rfl⟩ rfl hl.1 rfl (Nat.le_of_ble_eq_true rfl) dL_law_309 ⟨by show c0 + j ≤ 601024; omega, by show s0 + 6 * j ≤ 7292999; omega⟩ (fun r2 v2 H locs hP hD hS h => ?_)
                    refine lv_icmp_eq (tgt := 317) hx hb dL_law_312 (by decide) (fun hc => ?_) (fun hc => absurd h.1 hc)
                    refine W.widen (k := c0 + (j + 1)) (n := s0 + 6 * (j + 1)) (by omega) (by omega) ?_
                    exact J u1 v2 g _ _ _ h.2 hP hD hS (lv_sub hl [0, 1, 2, 3, 4] rfl)
                  · skip
                    refine lv_tableOut (tgt := 317) hx hb dL_law_69 (i32_out (lo := 0) (hi := 7) (fun z h1 h2 => by rcases (show z = 0 ∨ z = 1 ∨ z = 2 ∨ z = 3 ∨ z = 4 ∨ z = 5 ∨ z = 6 ∨ z = 7 by omega) with rfl | rfl | rfl | rfl | rfl | rfl | rfl | rfl <;> first | exact i32_ne (by decide) hc0 | exact i32_ne (by decide) hc1 | exact i32_ne (by decide) hc2 | exact i32_ne (by decide) hc3 | exact i32_ne (by decide) hc4 | exact i32_ne (by decide) hc5 | exact i32_ne (by decide) hc6 | exact i32_ne (by decide) hc7)) (by decide) ?_
                    refine W.widen (k := c0 + (j + 1)) (n := s0 + 6 * (j + 1)) (by omega) (by omega) ?_
                    exact J u v g _ _ _ (hO.1 j u v hj512 hI) hP hD hS hl
