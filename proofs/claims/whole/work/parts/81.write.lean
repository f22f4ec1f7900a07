/-! PURE: write, on both sides -/
def byt (x : Int64) (k : Nat) : Nat := x.toBitVec.toNat / 2 ^ k % 256
theorem byt_lt (x : Int64) (k : Nat) : byt x k < 256 := Nat.mod_lt _ (by omega)
theorem and255 (m : Nat) : nI m &&& (255 : Int32) = nI (m % 256) := by
  apply Int32.toBitVec_inj.mp
  show BitVec.ofNat 32 m &&& BitVec.ofNat 32 255 = BitVec.ofNat 32 (m % 256)
  apply BitVec.eq_of_toNat_eq
  rw [BitVec.toNat_and, BitVec.toNat_ofNat, BitVec.toNat_ofNat, BitVec.toNat_ofNat]
  rw [show (255 : Nat) % 2 ^ 32 = 2 ^ 8 - 1 from by decide, Nat.and_two_pow_sub_one_eq_mod, Nat.mod_eq_of_lt (show m % 256 < 2 ^ 32 by omega)]
  omega
theorem cByte (x : Int64) {k : Nat} (hk : k < 64) : ((((x).toUInt64 >>> ((nI k).toInt64.toUInt64 &&& Int64.toUInt64 63)).toInt64).toInt32 &&& (255 : Int32)) = nI (byt x k) := by
  obtain ⟨X, hX, rfl⟩ := wb_of x
  rw [wb_shr hX hk, lN_i, and255]
  unfold byt
  rw [wb_tn hX]
theorem rByte (x : Int64) {k : Nat} (hk : k ≤ 56) : (((x >>> ((nI k).toInt64 &&& 63))).toInt32 &&& (255 : Int32)) = nI (byt x k) := by
  rw [wb_c k (by omega)]
  apply Int32.toBitVec_inj.mp
  rw [Int32.toBitVec_and, Int64.toBitVec_toInt32, Int64.toBitVec_shiftRight, wb_tb, wb_sm k (by omega), BitVec.signExtend_eq_setWidth_of_le _ (by decide)]
  show BitVec.setWidth 32 (x.toBitVec.sshiftRight' (BitVec.ofNat 64 k)) &&& BitVec.ofNat 32 255 = BitVec.ofNat 32 (byt x k)
  have hk2 : (BitVec.ofNat 64 k).toNat = k := by rw [BitVec.toNat_ofNat, Nat.mod_eq_of_lt (by omega)]
  apply BitVec.eq_of_getLsbD_eq
  intro i hi
  rw [BitVec.getLsbD_and, BitVec.getLsbD_setWidth, BitVec.sshiftRight_eq', hk2, BitVec.getLsbD_sshiftRight, BitVec.getLsbD_ofNat, BitVec.getLsbD_ofNat]
  unfold byt
  rw [show (256 : Nat) = 2 ^ 8 from by decide, Nat.testBit_mod_two_pow, Nat.testBit_div_two_pow, show (255 : Nat) = 2 ^ 8 - 1 from by decide, Nat.testBit_two_pow_sub_one]
  by_cases h8 : i < 8
  · have : k + i < 64 := by omega
    simp [h8, hi, this, BitVec.getLsbD, Nat.add_comm]
    omega
  · simp [h8]
def okc (c : Nat) : Prop := c = 10 ∨ (32 ≤ c ∧ c ≤ 126)
/-- the characters of x from the j-th on -/
def nz (x : Int64) : Nat → Nat → List Nat
  | 0, _ => []
  | d + 1, j => if byt x (56 - 8 * j) = 0 then nz x d (j + 1) else byt x (56 - 8 * j) :: nz x d (j + 1)
theorem sh_e {j d : Nat} (h : j + (d + 1) = 8) : nI (56 - 8 * j) + (-8 : Int32) = if d = 0 then (-8 : Int32) else nI (56 - 8 * (j + 1)) := by
  have hj : j < 8 := by omega
  have : ∀ j, j < 8 → nI (56 - 8 * j) + (-8 : Int32) = if 7 - j = 0 then (-8 : Int32) else nI (56 - 8 * (j + 1)) := by decide
  have h9 := this j hj
  rw [show 7 - j = d from by omega] at h9
  exact h9
/-- the shift's number: below 0 behind the last -/
def shf (j : Nat) : Int32 := if j = 8 then (-8 : Int32) else nI (56 - 8 * j)
theorem shf_n {j d : Nat} (h : j + (d + 1) = 8) : shf j = nI (56 - 8 * j) ∧ shf j + (-8 : Int32) = shf (j + 1) := by
  have h1 : shf j = nI (56 - 8 * j) := if_neg (by omega)
  refine ⟨h1, ?_⟩
  rw [h1, sh_e h]
  unfold shf
  by_cases hd : d = 0
  · rw [if_pos hd, if_pos (by omega)]
  · rw [if_neg hd, if_neg (by omega)]
theorem ischar_1 {c : Nat} {Q : Int32 → Prop} (hc : c < 256) (h : okc c) (hQ : Q 1) : wp_X6_isCharacter (nI c) Q := by
  refine ⟨fun _ => hQ, fun e => ?_⟩
  have h9 : 32 ≤ c ∧ c ≤ 126 := h.resolve_left (fun e2 => e (by rw [e2]; rfl))
  exact sf (nI_nlt (b := 32) h9.1 (by omega)) (sf (nI_nlt (a := 126) h9.2 (by omega)) hQ)
theorem ischar_0 {c : Nat} {Q : Int32 → Prop} (hc : c < 256) (h : ¬ okc c) (hQ : Q 0) : wp_X6_isCharacter (nI c) Q := by
  refine sf (fun e => h (Or.inl ((nI_eq (b := 10) (by omega) (by omega)).mp e))) ⟨fun _ => hQ, fun h1 => ⟨fun _ => hQ, fun h2 => ?_⟩⟩
  exfalso
  apply h
  right
  exact ⟨Classical.byContradiction (fun h3 => h1 (nI_lt (b := 32) (by omega) (by omega))), Classical.byContradiction (fun h3 => h2 (nI_lt (a := 126) (by omega) (by omega)))⟩
def gdT (x : Int64) (d j e : Nat) : Prop := (∀ c ∈ nz x d j, okc c) ∧ e + (nz x d j).length ≤ 2000
theorem app_C {N : Nat → Nat} {x : Int64} : ∀ (d j e : Nat) (u : St), j + d = 8 → e ≤ 2000 → ∃ u1, (∀ k, gI u1 k = gI u k) ∧ (∀ k, gJ u1 k = gJ u k) ∧ (∀ k, k ≠ 100 → gA u1 k = gA u k) ∧ (∀ k, gB u1 k = gB u k) ∧ (∀ k, k < e → gA u1 100 k = gA u 100 k) ∧ (gdT x d j e → ∀ m, m < (nz x d j).length → gA u1 100 (e + m) = nI ((nz x d j).getD m 0)) ∧ (∀ (Q : Int32 → St → Prop) (K : Int32 → St → Prop), (gdT x d j e → K (nI (e + (nz x d j).length)) u1) → (¬ gdT x d j e → Q 0 u1) → l_X6_append_9 N Q x K (d + 1) (nI e) (shf j) u) := by
  intro d
  induction d with
  | zero =>
    intro j e u hj he
    obtain rfl : j = 8 := by omega
    refine ⟨u, fun _ => rfl, fun _ => rfl, fun _ _ => rfl, fun _ => rfl, fun _ _ => rfl, fun _ m hm => absurd hm (by simp [nz]), fun Q K hK _ => ?_⟩
    unfold l_X6_append_9
    exact sq (by decide) (hK ⟨fun c hc => absurd hc (by simp [nz]), by simp [nz]; exact he⟩)
  | succ d ih =>
    intro j e u hj he
    obtain ⟨s1, s2⟩ := shf_n hj
    have hb := byt_lt x (56 - 8 * j)
    have hun : ∀ (Q K : Int32 → St → Prop) (f : Nat), ((nI (byt x (56 - 8 * j)) = 0 → l_X6_append_9 N Q x K f (nI e) (shf (j + 1)) u) ∧ (¬ nI (byt x (56 - 8 * j)) = 0 → wp_X6_isCharacter (nI (byt x (56 - 8 * j))) (fun (r1 : Int32) => ((r1 = 0 → Q (0 : Int32) u) ∧ (¬ r1 = 0 → ((nI e < (2000 : Int32) → vp_in (nI e) 2000 ∧ l_X6_append_9 N Q x K f (nI (e + 1)) (shf (j + 1)) (sA u 100 (upd (gA u 100) e (vp_nar .char (((nI (byt x (56 - 8 * j))).toUInt32 % 65536).toInt32))))) ∧ (¬ nI e < (2000 : Int32) → Q (0 : Int32) u))))))) → l_X6_append_9 N Q x K (f + 1) (nI e) (shf j) u := fun Q K f hq => by
      unfold l_X6_append_9
      rw [s2, s1, cByte x (by omega), nI_clamp (show e < 2 ^ 31 by omega), nI_1]
      exact sf (nI_pos (by omega)) hq
    by_cases hz : byt x (56 - 8 * j) = 0
    · have en : nz x (d + 1) j = nz x d (j + 1) := if_pos hz
      obtain ⟨u1, a1, a2, a3, a4, a5, a6, a7⟩ := ih (j + 1) e u (by omega) he
      have eg : gdT x (d + 1) j e ↔ gdT x d (j + 1) e := by unfold gdT; rw [en]
      rw [en, eg]
      exact ⟨u1, a1, a2, a3, a4, a5, a6, fun Q K hK hQ => hun Q K _ (sq (by rw [hz]; rfl) (a7 Q K hK hQ))⟩
    · have en : nz x (d + 1) j = byt x (56 - 8 * j) :: nz x d (j + 1) := if_neg hz
      have hnz : ¬ nI (byt x (56 - 8 * j)) = 0 := nI_ne0 (by omega) (by omega)
      by_cases hok : okc (byt x (56 - 8 * j))
      · by_cases hfull : e < 2000
        · have hc128 : byt x (56 - 8 * j) < 128 := by unfold okc at hok; omega
          obtain ⟨u1, a1, a2, a3, a4, a5, a6, a7⟩ := ih (j + 1) (e + 1) (sA u 100 (upd (gA u 100) e (nI (byt x (56 - 8 * j))))) (by omega) (by omega)
          have eg : gdT x (d + 1) j e ↔ gdT x d (j + 1) (e + 1) := by
            unfold gdT
            rw [en]
            simp only [List.mem_cons, List.length_cons]
            constructor
            · intro h; exact ⟨fun c hc => h.1 c (Or.inr hc), by omega⟩
            · intro h; exact ⟨fun c hc => by
                rcases hc with rfl | hc
                · exact hok
                · exact h.1 c hc, by omega⟩
          rw [en, eg]
          refine ⟨u1, a1, a2, fun k hk => (a3 k hk).trans (by rw [gA_sA, if_neg hk]), a4, fun k hk => (a5 k (by omega)).trans (pk_un (by omega)), fun hg m hm => ?_, fun Q K hK hQ => hun Q K _ (sf hnz (ischar_1 hb hok (sf (by decide) (sq (nI_lt (b := 2000) hfull (by omega)) ⟨vp_in_nI hfull (by omega), ?_⟩))))⟩
          · cases m with
            | zero => exact (a5 e (by omega)).trans pk_us
            | succ m =>
              have := a6 hg m (by simpa using hm)
              rw [show e + (m + 1) = e + 1 + m from by omega]
              simpa using this
          · rw [ch_mod _ hc128, ch_nar _ hc128]
            refine a7 Q K (fun hg => ?_) hQ
            have := hK hg
            simp only [List.length_cons] at this
            rw [show e + 1 + (nz x d (j + 1)).length = e + ((nz x d (j + 1)).length + 1) from by omega]
            exact this
        · have hng : ¬ gdT x (d + 1) j e := fun hg => by
            have := hg.2
            rw [en] at this
            simp only [List.length_cons] at this
            omega
          exact ⟨u, fun _ => rfl, fun _ => rfl, fun _ _ => rfl, fun _ => rfl, fun _ _ => rfl, fun h => absurd h hng, fun Q K _ hQ => hun Q K _ (sf hnz (ischar_1 hb hok (sf (by decide) (sf (nI_nlt (b := 2000) (by omega) (by omega)) (hQ hng)))))⟩
      · have hng : ¬ gdT x (d + 1) j e := fun hg => hok (hg.1 _ (by rw [en]; exact List.mem_cons_self))
        exact ⟨u, fun _ => rfl, fun _ => rfl, fun _ _ => rfl, fun _ => rfl, fun _ _ => rfl, fun h => absurd h hng, fun Q K _ hQ => hun Q K _ (sf hnz (ischar_0 hb hok (sq rfl (hQ hng))))⟩
theorem wr_chk {x : Int64} {v : St} : ∀ (d j c : Nat), j + d = 8 → c + d ≤ 20 → ∃ f, ∀ (Q : Int32 → St → Prop) (K : Int32 → St → Prop), ((∀ b ∈ nz x d j, okc b) → K (nI (c + (nz x d j).length)) v) → (¬ (∀ b ∈ nz x d j, okc b) → Q 0 v) → l_X10_write_11 Q x K f (nI c) (shf j) v := by
  intro d
  induction d with
  | zero =>
    intro j c hj hc
    obtain rfl : j = 8 := by omega
    refine ⟨1, fun Q K hK _ => ?_⟩
    unfold l_X10_write_11
    exact sq (by decide) (hK (fun b hb => absurd hb (by simp [nz])))
  | succ d ih =>
    intro j c hj hc
    obtain ⟨s1, s2⟩ := shf_n hj
    have hb := byt_lt x (56 - 8 * j)
    by_cases hz : byt x (56 - 8 * j) = 0
    · have en : nz x (d + 1) j = nz x d (j + 1) := if_pos hz
      obtain ⟨f, hf⟩ := ih (j + 1) c (by omega) (by omega)
      rw [en]
      refine ⟨f + 1, fun Q K hK hQ => ?_⟩
      unfold l_X10_write_11
      rw [s2, s1, rByte x (by omega), hz, show nI c + (0 : Int32) = nI c from nI_add c 0]
      exact sf (nI_pos (by omega)) (sq rfl (sq rfl (hf Q K hK hQ)))
    · have en : nz x (d + 1) j = byt x (56 - 8 * j) :: nz x d (j + 1) := if_neg hz
      have hnz : ¬ nI (byt x (56 - 8 * j)) = 0 := nI_ne0 (by omega) (by omega)
      obtain ⟨f, hf⟩ := ih (j + 1) (c + 1) (by omega) (by omega)
      rw [en]
      refine ⟨f + 1, fun Q K hK hQ => ?_⟩
      unfold l_X10_write_11
      rw [s2, s1, rByte x (by omega), nI_1]
      by_cases hok : okc (byt x (56 - 8 * j))
      · have hgo : l_X10_write_11 Q x K f (nI (c + 1)) (shf (j + 1)) v := hf Q K (fun h => by
          have := hK (fun b hb => by
            rcases List.mem_cons.mp hb with rfl | hb
            · exact hok
            · exact h b hb)
          simp only [List.length_cons] at this
          rw [show c + 1 + (nz x d (j + 1)).length = c + ((nz x d (j + 1)).length + 1) from by omega]
          exact this) (fun h => hQ (fun h2 => h (fun b hb => h2 b (List.mem_cons_of_mem _ hb))))
        refine sf (nI_pos (by omega)) (sf hnz ⟨fun _ => sf hnz hgo, fun e => ?_⟩)
        have h9 : 32 ≤ byt x (56 - 8 * j) ∧ byt x (56 - 8 * j) ≤ 126 := hok.resolve_left (fun e2 => e (by rw [e2]; rfl))
        exact sf (nI_nlt (b := 32) h9.1 (by omega)) (sq (nI_le (b := 126) h9.2 (by omega)) (sf hnz hgo))
      · have hbad : Q 0 v := hQ (fun h => hok (h _ List.mem_cons_self))
        refine sf (nI_pos (by omega)) (sf hnz (sf (fun e => hok (Or.inl ((nI_eq (b := 10) (by omega) (by omega)).mp e))) ⟨fun _ => hbad, fun h1 => ⟨fun h2 => ?_, fun _ => hbad⟩⟩))
        exfalso
        apply hok
        right
        refine ⟨Classical.byContradiction (fun h3 => h1 (nI_lt (b := 32) (by omega) (by omega))), ?_⟩
        exact (nI_leI (b := 126) (by omega) (by omega)).mp h2
theorem wr_put {x : Int64} : ∀ (d j e : Nat) (v : St), j + d = 8 → gI v 5 = nI e → e + (nz x d j).length ≤ 2000 → ∃ v1 f, gI v1 5 = nI (e + (nz x d j).length) ∧ (∀ k, k ≠ 5 → gI v1 k = gI v k) ∧ (∀ k, gJ v1 k = gJ v k) ∧ (∀ k, k ≠ 4 → gA v1 k = gA v k) ∧ (∀ k, gB v1 k = gB v k) ∧ (∀ k, k < e → gA v1 4 k = gA v 4 k) ∧ (∀ m, m < (nz x d j).length → gA v1 4 (e + m) = nI ((nz x d j).getD m 0)) ∧ (∀ K : St → Prop, K v1 → l_X10_write_92 x K f (shf j) v) := by
  intro d
  induction d with
  | zero =>
    intro j e v hj h5 hl
    obtain rfl : j = 8 := by omega
    refine ⟨v, 1, by simpa [nz] using h5, fun _ _ => rfl, fun _ => rfl, fun _ _ => rfl, fun _ => rfl, fun _ _ => rfl, fun m hm => absurd hm (by simp [nz]), fun K hK => ?_⟩
    unfold l_X10_write_92
    exact sq (by decide) hK
  | succ d ih =>
    intro j e v hj h5 hl
    obtain ⟨s1, s2⟩ := shf_n hj
    have hb := byt_lt x (56 - 8 * j)
    by_cases hz : byt x (56 - 8 * j) = 0
    · have en : nz x (d + 1) j = nz x d (j + 1) := if_pos hz
      rw [en] at hl ⊢
      obtain ⟨v1, f, a1, a2, a3, a4, a5, a6, a7, a8⟩ := ih (j + 1) e v (by omega) h5 hl
      refine ⟨v1, f + 1, a1, a2, a3, a4, a5, a6, a7, fun K hK => ?_⟩
      unfold l_X10_write_92
      rw [s2, s1, rByte x (by omega), hz]
      exact sf (nI_pos (by omega)) (sq rfl (a8 K hK))
    · have en : nz x (d + 1) j = byt x (56 - 8 * j) :: nz x d (j + 1) := if_neg hz
      have hnz : ¬ nI (byt x (56 - 8 * j)) = 0 := nI_ne0 (by omega) (by omega)
      rw [en] at hl ⊢
      simp only [List.length_cons] at hl ⊢
      obtain ⟨v1, f, a1, a2, a3, a4, a5, a6, a7, a8⟩ := ih (j + 1) (e + 1) (sI (sA v 4 (upd (gA v 4) e (nI (byt x (56 - 8 * j))))) 5 (nI (e + 1))) (by omega) rfl (by omega)
      refine ⟨v1, f + 1, by rw [a1]; congr 1; omega, fun k hk => (a2 k hk).trans (by rw [gI_sI, if_neg hk]; rfl), a3, fun k hk => (a4 k hk).trans (by rw [gA_sI, gA_sA, if_neg hk]), a5, fun k hk => (a6 k (by omega)).trans (pk_un (by omega)), fun m hm => ?_, fun K hK => ?_⟩
      · cases m with
        | zero => exact (a6 e (by omega)).trans pk_us
        | succ m =>
          have := a7 m (by omega)
          rw [show e + (m + 1) = e + 1 + m from by omega]
          simpa using this
      · unfold l_X10_write_92
        rw [s2, s1, rByte x (by omega), h5, nI_clamp (show e < 2 ^ 31 by omega), nI_1]
        exact sf (nI_pos (by omega)) (sf hnz ⟨vp_in_nI (by omega) (by omega), a8 K hK⟩)
theorem nz_len (x : Int64) : ∀ d j, (nz x d j).length ≤ d := by
  intro d
  induction d with
  | zero => intro j; simp [nz]
  | succ d ih =>
    intro j
    have := ih (j + 1)
    unfold nz
    split
    · omega
    · simp only [List.length_cons]; omega
theorem write_both {N : Nat → Nat} {n t s i u v} {x : Int64} (h : Inv0 n t s i u v) : ∃ (b : Int32) (u1 v1 : St), Inv0 n t s (i + 1) u1 v1 ∧ (∀ Q : Int32 → St → Prop, Q b u1 → wp_X9_write N x u Q) ∧ (∀ Q : Int32 → St → Prop, Q b v1 → wp_X10_write x v Q) := by
  obtain ⟨r, A, T, tx, L, p, B, hC, hFd, ⟨R, hR, hRi⟩, ⟨k1, k2, k3⟩, hNm, hAbs, hX, hXR, ⟨p1, p2, p3⟩, hpl, ⟨f1, f2, f3⟩, hO, hOR⟩ := h
  have hL := hX.2.1
  have hlen := nz_len x 8 0
  obtain ⟨u1, a1, a2, a3, a4, a5, a6, a7⟩ := app_C (N := N) (x := x) 8 0 L u (by omega) hL
  obtain ⟨f, hf⟩ := wr_chk (x := x) (v := sI v 0 0) 8 0 0 (by omega) (by omega)
  have hCc : ∀ (u9 v9 : St), (∀ k, k ≠ 101 → gI u9 k = gI u k) → (∀ k, gB u9 k = gB u k) → (∀ k, k ≠ 5 → k ≠ 0 → gI v9 k = gI v k) → (∀ k, gB v9 k = gB v k) → Core r A T n u9 v9 := fun u9 v9 z1 z2 z3 z4 => Core_grow hC (Nat.le_refl _) hC.2.2.2.2.1.2.2.2 (z2 800) (z2 801) (z2 201) ((z1 202 (by decide)).trans hC.2.2.2.2.1.1) hAbs (z4 13) (z4 14) (fun k _ => congrFun (z4 20) k) (fun k h1 h2 => by omega) ((z3 21 (by decide) (by decide)).trans hC.2.2.2.2.1.2.1) (z3 1 (by decide) (by decide))
  have mk : ∀ (u9 v9 : St) (tx9 : Nat → Nat) (L9 : Nat), L ≤ L9 → (∀ k, k ≠ 101 → gI u9 k = gI u k) → (∀ k, k ≠ 100 → gA u9 k = gA u k) → (∀ k, gB u9 k = gB u k) → (∀ k, k ≠ 5 → k ≠ 0 → gI v9 k = gI v k) → (∀ k, k ≠ 4 → gA v9 k = gA v k) → (∀ k, gB v9 k = gB v k) → TX tx9 L9 u9 → TXR tx9 L9 v9 → Inv0 n t s (i + 1) u9 v9 := fun u9 v9 tx9 L9 hL9 z1 z2 z3 z4 z5 z6 z7 z8 => by
    refine ⟨r, A, T, tx9, L9, p, B, hCc u9 v9 z1 z3 z4 z6, ?_, ⟨R, RI_cg hR (z1 806 (by decide)) (z2 802 (by decide)), RB0 hRi⟩, ⟨(z1 604 (by decide)).trans k1, (z4 3 (by decide) (by decide)).trans k2, (z4 2 (by decide) (by decide)).trans k3⟩, ?_, fun k h1 h2 => (congrFun (z3 201) k).trans (hAbs k h1 h2), z7, z8, ⟨(z1 102 (by decide)).trans p1, (z4 6 (by decide) (by decide)).trans p2, by omega⟩, ?_, ⟨(z1 7 (by decide)).trans (f1.trans (z4 8 (by decide) (by decide)).symm), (z1 607 (by decide)).trans (f2.trans (z4 9 (by decide) (by decide)).symm), (z1 304 (by decide)).trans (f3.trans (z4 10 (by decide) (by decide)).symm)⟩, ?_, ?_⟩
    · obtain ⟨FL, hF, hdis⟩ := hFd
      exact ⟨FL, FR_cg hF (z1 805 (by decide)) (z2 804 (by decide)), hdis⟩
    · unfold NmR; rw [z3 200, z6 19]; exact hNm
    · rw [z1 103 (by decide), z4 7 (by decide) (by decide)]; exact hpl
    · unfold OutC; rw [z1 706 (by decide), z2 702 (by decide)]; exact hO
    · unfold OutR; rw [z4 12 (by decide) (by decide), z5 11 (by decide)]; exact hOR
  have hrunC : ∀ (Q : Int32 → St → Prop), (gdT x 8 0 L → Q 1 (sI u1 101 (nI (L + (nz x 8 0).length)))) → (¬ gdT x 8 0 L → Q 0 u1) → wp_X9_write N x u Q := fun Q h1 h2 => by
    refine ⟨8 + 1, ?_⟩
    rw [hX.1]
    exact a7 _ _ (fun hg => ⟨vz_1, h1 hg⟩) (fun hg => ⟨vz_0, h2 hg⟩)
  by_cases hg : gdT x 8 0 L
  · obtain ⟨v1, f2', b1, b2, b3, b4, b5, b6, b7, b8⟩ := wr_put (x := x) 8 0 L (sI v 0 0) (by omega) hXR.1 hg.2
    have hch : ∀ k, L ≤ k → k < L + (nz x 8 0).length → (nz x 8 0).getD (k - L) 0 < 128 := fun k h1 h2 => by
      have hlt : k - L < (nz x 8 0).length := by omega
      have hm : (nz x 8 0)[k - L] ∈ nz x 8 0 := List.getElem_mem hlt
      have h9 := hg.1 _ hm
      rw [List.getD_eq_getElem?_getD, List.getElem?_eq_getElem hlt]
      unfold okc at h9
      simp only [Option.getD_some]
      omega
    refine ⟨1, sI u1 101 (nI (L + (nz x 8 0).length)), v1, mk _ _ (fun k => if k < L then tx k else (nz x 8 0).getD (k - L) 0) (L + (nz x 8 0).length) (by omega) (fun k hk => by rw [gI_sI, if_neg hk]; exact a1 k) (fun k hk => a3 k hk) a4 (fun k hk h0 => (b2 k hk).trans (by rw [gI_sI, if_neg h0])) (fun k hk => b4 k hk) b5 ⟨rfl, hg.2, fun k hk => ?_⟩ ⟨b1, hg.2, fun k hk => ?_⟩, fun Q hQ => hrunC Q (fun _ => hQ) (fun h => absurd hg h), fun Q hQ => ⟨f, hf _ _ (fun _ => sq ?_ ⟨f2', b8 _ hQ⟩) (fun h => absurd hg.1 h)⟩⟩
    · show gA u1 100 k = _ ∧ _
      by_cases hk2 : k < L
      · simp only [if_pos hk2]; exact ⟨(a5 k hk2).trans (hX.2.2 k hk2).1, (hX.2.2 k hk2).2⟩
      · simp only [if_neg hk2]
        have := a6 hg (k - L) (by omega)
        rw [show L + (k - L) = k from by omega] at this
        exact ⟨this, hch k (by omega) hk⟩
    · by_cases hk2 : k < L
      · simp only [if_pos hk2]; exact ⟨(b6 k hk2).trans (hXR.2.2 k hk2).1, (hXR.2.2 k hk2).2⟩
      · simp only [if_neg hk2]
        have := b7 (k - L) (by omega)
        rw [show L + (k - L) = k from by omega] at this
        exact ⟨this, hch k (by omega) hk⟩
    · show gI v 5 + nI (0 + (nz x 8 0).length) ≤ (2000 : Int32)
      rw [hXR.1, nI_add, Nat.zero_add]
      exact nI_le (b := 2000) hg.2 (by omega)
  · refine ⟨0, u1, sI v 0 0, mk _ _ tx L (Nat.le_refl _) (fun k _ => a1 k) a3 a4 (fun k _ h0 => by rw [gI_sI, if_neg h0]) (fun _ _ => rfl) (fun _ => rfl) ⟨(a1 101).trans hX.1, hL, fun k hk => ⟨(a5 k hk).trans (hX.2.2 k hk).1, (hX.2.2 k hk).2⟩⟩ hXR, fun Q hQ => hrunC Q (fun h => absurd h hg) (fun _ => hQ), fun Q hQ => ⟨f, hf _ _ (fun hgood => sf ?_ hQ) (fun _ => hQ)⟩⟩
    show ¬ gI v 5 + nI (0 + (nz x 8 0).length) ≤ (2000 : Int32)
    rw [hXR.1, nI_add, Nat.zero_add]
    exact nI_ge (a := 2000) (Classical.byContradiction (fun h9 => hg ⟨hgood, by omega⟩)) (by omega)
