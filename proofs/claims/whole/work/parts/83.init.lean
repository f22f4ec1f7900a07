/-! PURE: the names that are there from the start -/
def SPL : List Nat := [19511, 20, 32945730, 173016, 287063395, 834663021, 22543520, 4162, 4273, 173031, 78601, 202, 738347, 37400865749, 827672, 552044640614079, 37957098, 22769927]
def CHL : List Nat := [78, 73, 76, 32, 84, 32, 81, 85, 79, 84, 69, 32, 67, 79, 78, 68, 32, 68, 69, 70, 73, 78, 69, 32, 76, 65, 77, 66, 68, 65, 32, 76, 65, 66, 69, 76, 32, 67, 65, 82, 32, 67, 68, 82, 32, 67, 79, 78, 83, 32, 65, 84, 79, 77, 32, 69, 81, 32, 78, 85, 76, 76, 32, 78, 85, 77, 66, 69, 82, 80, 32, 80, 76, 85, 83, 32, 68, 73, 70, 70, 69, 82, 69, 78, 67, 69, 32, 84, 73, 77, 69, 83, 32, 76, 69, 83, 83, 80, 32]
theorem chl_ok : ∀ i, i < 99 → chF (nI i) = nI (CHL.getD i 0) ∧ CHL.getD i 0 < 128 := by decide +kernel
def prc : List Nat → Nat → List Nat → List Nat
  | [], _, nm => nm
  | c :: cs, a, nm => if dv c = 0 then prc cs 0 (nm ++ [a]) else prc cs (a * 37 + dv c) nm
def pgd : List Nat → Nat → List Nat → Bool
  | [], _, _ => true
  | c :: cs, a, nm => if dv c = 0 then decide (a ∉ nm) && decide (nm.length < 150) && pgd cs 0 (nm ++ [a]) else decide (a * 37 + dv c < 2 ^ 62) && pgd cs (a * 37 + dv c) nm
def NS (u : St) (nm : List Nat) : Prop := gI u 2 = nI nm.length ∧ (∀ j, j < nm.length → gB u 0 j = lN (nm.getD j 0)) ∧ (∀ a ∈ nm, a < 2 ^ 62)
theorem wordN_n {Q : Int64 → St → Prop} {x : Int64} {K : St → Prop} {u : St} {M : Nat} (hM : gI u 2 = nI M) (hM2 : M ≤ 150) (hn : ∀ j, j < M → gB u 0 j ≠ x) (hK : K u) : ∀ (d i : Nat), i + d = M → l_X3_wordOf_N_2 Q x K (d + 1) (nI i) u := by
  intro d
  induction d with
  | zero =>
    intro i hi
    obtain rfl : i = M := by omega
    unfold l_X3_wordOf_N_2
    rw [hM]
    exact sq (nI_le (Nat.le_refl _) (by omega)) hK
  | succ d ih =>
    intro i hi
    unfold l_X3_wordOf_N_2
    rw [hM, nI_clamp (show i < 2 ^ 31 by omega), nI_1]
    exact sf (nI_ge (by omega) (by omega)) ⟨vp_in_nI (by omega) (by omega), sf (hn i (by omega)) (ih (i + 1) (by omega))⟩
theorem nloop : ∀ (cs : List Nat) (i a : Nat) (nm : List Nat) (u : St), i + cs.length = 99 → (∀ j, j < cs.length → chF (nI (i + j)) = nI (cs.getD j 0) ∧ cs.getD j 0 < 128) → a < 2 ^ 62 → NS u nm → pgd cs a nm = true → ∃ u1, NS u1 (prc cs a nm) ∧ gB u1 1 = gB u 1 ∧ gI u1 3 = gI u 3 ∧ ∀ K : St → Prop, K u1 → l_X3_init_60 K (cs.length + 1) (lN a) (nI i) u := by
  intro cs
  induction cs with
  | nil =>
    intro i a nm u hi _ _ hN _
    simp only [List.length_nil, Nat.add_zero] at hi
    subst hi
    refine ⟨u, hN, rfl, rfl, fun K hK => ?_⟩
    unfold l_X3_init_60
    exact sq (nI_le (Nat.le_refl _) (by omega)) hK
  | cons c cs ih =>
    intro i a nm u hi hch ha hN hg
    simp only [List.length_cons] at hi
    have h0 := hch 0 (by simp)
    rw [Nat.add_zero] at h0
    have hc : c < 128 := by simpa using h0.2
    have e0 : chF (nI i) = nI c := by simpa using h0.1
    have hch2 : ∀ j, j < cs.length → chF (nI (i + 1 + j)) = nI (cs.getD j 0) ∧ cs.getD j 0 < 128 := fun j hj => by
      have h9 := hch (j + 1) (by simp; omega)
      rw [show i + 1 + j = i + (j + 1) from by omega]
      simpa using h9
    have hdl := dv_lt c
    unfold pgd at hg
    by_cases hd : dv c = 0
    · rw [if_pos hd] at hg
      simp only [Bool.and_eq_true, decide_eq_true_eq] at hg
      obtain ⟨⟨g1, g2⟩, g3⟩ := hg
      obtain ⟨m1, m2, m3⟩ := hN
      have hno : ∀ j, j < nm.length → gB u 0 j ≠ lN a := fun j hj e => by
        rw [m2 j hj] at e
        have hm : nm[j] ∈ nm := List.getElem_mem hj
        have h9 := m3 _ hm
        rw [List.getD_eq_getElem?_getD, List.getElem?_eq_getElem hj] at e
        simp only [Option.getD_some] at e
        have := (pk_lEQ (by omega) (by omega)).mp e
        exact g1 (this ▸ hm)
      let u2 := sI (sB u 0 (vp_updL (gB u 0) nm.length (lN a))) 2 (nI (nm.length + 1))
      have hN2 : NS u2 (nm ++ [a]) := by
        refine ⟨by simp [u2, gI_sI], fun j hj => ?_, fun b hb => ?_⟩
        · show vp_updL (gB u 0) nm.length (lN a) j = _
          rw [List.length_append] at hj
          simp only [List.length_cons, List.length_nil] at hj
          by_cases e : j = nm.length
          · subst e; rw [pk_uLs]; simp
          · rw [pk_uLn e, m2 j (by omega), List.getD_eq_getElem?_getD, List.getD_eq_getElem?_getD, List.getElem?_append_left (by omega)]
        · rcases List.mem_append.mp hb with hb | hb
          · exact m3 b hb
          · rw [List.mem_singleton.mp hb]; exact ha
      obtain ⟨u1, a1, a2, a3, a4⟩ := ih (i + 1) 0 (nm ++ [a]) u2 (by omega) hch2 (by omega) hN2 g3
      have ep : prc (c :: cs) a nm = prc cs 0 (nm ++ [a]) := if_pos hd
      rw [ep]
      refine ⟨u1, a1, a2, a3, fun K hK => ?_⟩
      show l_X3_init_60 K (cs.length + 1 + 1) (lN a) (nI i) u
      unfold l_X3_init_60
      rw [e0, nI_1]
      refine sf (nI_ge (by omega) (by omega)) ⟨vp_in_nI (by omega) (by omega), digitOf_C hc (sq (by rw [hd]; rfl) ⟨nm.length + 1, wordN_n m1 (by omega) hno ?_ nm.length 0 (by omega)⟩)⟩
      rw [m1, nI_clamp (show nm.length < 2 ^ 31 by omega), nI_1]
      exact sq (nI_lt (b := 150) g2 (by omega)) ⟨vp_in_nI (by omega) (by omega), a4 K hK⟩
    · rw [if_neg hd] at hg
      simp only [Bool.and_eq_true, decide_eq_true_eq] at hg
      obtain ⟨g1, g2⟩ := hg
      obtain ⟨u1, a1, a2, a3, a4⟩ := ih (i + 1) (a * 37 + dv c) nm u (by omega) hch2 g1 hN g2
      have ep : prc (c :: cs) a nm = prc cs (a * 37 + dv c) nm := if_neg hd
      rw [ep]
      refine ⟨u1, a1, a2, a3, fun K hK => ?_⟩
      show l_X3_init_60 K (cs.length + 1 + 1) (lN a) (nI i) u
      unfold l_X3_init_60
      rw [e0, nI_1]
      refine sf (nI_ge (by omega) (by omega)) ⟨vp_in_nI (by omega) (by omega), digitOf_C hc (sf (nI_ne0 (by omega) (by omega)) ?_)⟩
      rw [nI_l (by omega), show lN a * (37 : Int64) = lN (a * 37) from lN_mul a 37, lN_add]
      exact a4 K hK
theorem abs_loop : ∀ (d i : Nat) (u : St), i + d = 150 → (∀ k, k < i → gB u 1 k = (3298534883331 : Int64)) → ∃ u1, (∀ k, k < 150 → gB u1 1 k = (3298534883331 : Int64)) ∧ (∀ k, gI u1 k = gI u k) ∧ gB u1 0 = gB u 0 ∧ ∀ K : St → Prop, K u1 → l_X3_init_34 K (d + 1) (nI i) u := by
  intro d
  induction d with
  | zero =>
    intro i u hi h
    obtain rfl : i = 150 := by omega
    refine ⟨u, h, fun _ => rfl, rfl, fun K hK => ?_⟩
    unfold l_X3_init_34
    exact sq (nI_le (a := 150) (Nat.le_refl _) (by omega)) hK
  | succ d ih =>
    intro i u hi h
    obtain ⟨u1, a1, a2, a3, a4⟩ := ih (i + 1) (sB u 1 (vp_updL (gB u 1) i (3298534883331 : Int64))) (by omega) (fun k hk => by
      show vp_updL (gB u 1) i (3298534883331 : Int64) k = _
      by_cases e : k = i
      · subst e; exact pk_uLs
      · rw [pk_uLn e]; exact h k (by omega))
    refine ⟨u1, a1, a2, a3, fun K hK => ?_⟩
    unfold l_X3_init_34
    rw [nI_clamp (show i < 2 ^ 31 by omega), nI_1]
    exact sf (nI_ge (a := i) (b := 150) (by omega) (by omega)) ⟨vp_in_nI (by omega) (by omega), a4 K hK⟩
theorem chl_prc : prc CHL 0 [] = SPL := by decide +kernel
theorem chl_pgd : pgd CHL 0 [] = true := by decide +kernel
theorem chl_len : CHL.length = 99 := by decide +kernel
theorem spl_len : SPL.length = 18 := by decide +kernel
theorem spl_ok : ∀ a ∈ SPL, 0 < a ∧ a < 37 ^ 12 := by decide +kernel
def QN0 (u : St) : Prop := NS u SPL ∧ (∀ k, k < 150 → gB u 1 k = (3298534883331 : Int64)) ∧ gI u 3 = 0
theorem initN_ok : wp_X3_init QN0 := by
  obtain ⟨u1, a1, a2, a3, a4⟩ := abs_loop 150 0 u0N (by omega) (fun k hk => absurd hk (by omega))
  have hN1 : NS u1 [] := ⟨a2 2, fun j hj => absurd hj (by simp), fun a ha => absurd ha List.not_mem_nil⟩
  obtain ⟨u2, b1, b2, b3, b4⟩ := nloop CHL 0 0 [] u1 (by rw [chl_len]) (fun j hj => by rw [Nat.zero_add]; exact chl_ok j (by rw [chl_len] at hj; exact hj)) (by omega) hN1 chl_pgd
  rw [chl_prc] at b1
  exact ⟨150 + 1, a4 _ ⟨CHL.length + 1, b4 _ ⟨b1, fun k hk => by rw [b2]; exact a1 k hk, b3.trans (a2 3)⟩⟩⟩
/-! the reference -/
def kv (x : Int64) : Nat → Nat → Nat → Nat
  | 0, _, a => a
  | d + 1, j, a => if byt x (56 - 8 * j) = 0 then kv x d (j + 1) a else kv x d (j + 1) (a * 37 + dv (byt x (56 - 8 * j)))
theorem kn_loop {x : Int64} {v : St} (hx : ∀ j, j < 8 → byt x (56 - 8 * j) < 128) : ∀ (d j a : Nat), j + d = 8 → ∀ K : Int64 → St → Prop, K (lN (kv x d j a)) v → l_X10_known_6 x K (d + 1) (lN a) (shf j) v := by
  intro d
  induction d with
  | zero =>
    intro j a hj K hK
    obtain rfl : j = 8 := by omega
    unfold l_X10_known_6
    exact sq (by decide) hK
  | succ d ih =>
    intro j a hj K hK
    obtain ⟨s1, s2⟩ := shf_n hj
    have hb := hx j (by omega)
    unfold l_X10_known_6
    rw [s2, s1, rByte x (by omega)]
    unfold kv at hK
    by_cases hz : byt x (56 - 8 * j) = 0
    · rw [if_pos hz] at hK
      exact sf (nI_pos (by omega)) (sq (by rw [hz]; rfl) (ih (j + 1) a (by omega) K hK))
    · rw [if_neg hz] at hK
      have hdl := dv_lt (byt x (56 - 8 * j))
      refine sf (nI_pos (by omega)) (sf (nI_ne0 (by omega) (by omega)) (digitOf_R hb ?_))
      rw [nI_l (by omega), show lN a * (37 : Int64) = lN (a * 37) from lN_mul a 37, lN_add]
      exact ih (j + 1) _ (by omega) K hK
def NSR (v : St) (nm : List Nat) : Prop := gI v 21 = nI nm.length ∧ ∀ j, j < nm.length → gB v 19 j = lN (nm.getD j 0) ∧ gB v 20 j = -1
def frQ (v w : St) : Prop := (∀ k, k ≠ 21 → gI w k = gI v k) ∧ (∀ k, gJ w k = gJ v k) ∧ (∀ k, gA w k = gA v k) ∧ (∀ k, k ≠ 19 → k ≠ 20 → gB w k = gB v k)
theorem frQ_tr {u v w : St} (h1 : frQ u v) (h2 : frQ v w) : frQ u w := ⟨fun k a => (h2.1 k a).trans (h1.1 k a), fun k => (h2.2.1 k).trans (h1.2.1 k), fun k => (h2.2.2.1 k).trans (h1.2.2.1 k), fun k a b => (h2.2.2.2 k a b).trans (h1.2.2.2 k a b)⟩
theorem known_ex {x : Int64} {v : St} {nm : List Nat} (V : Nat) (hx : ∀ j, j < 8 → byt x (56 - 8 * j) < 128) (hV : kv x 8 0 0 = V) (h : NSR v nm) (hl : nm.length < 150) : ∃ v1, NSR v1 (nm ++ [V]) ∧ frQ v v1 ∧ ∀ Q : St → Prop, Q v1 → wp_X10_known x v Q := by
  obtain ⟨m1, m2⟩ := h
  refine ⟨sI (sB (sB v 19 (vp_updL (gB v 19) nm.length (lN V))) 20 (vp_updL (gB v 20) nm.length (-1))) 21 (nI (nm.length + 1)), ⟨by simp [gI_sI], fun j hj => ?_⟩, ⟨fun k hk => by rw [gI_sI, if_neg hk]; rfl, fun _ => rfl, fun _ => rfl, fun k h1 h2 => by rw [gB_sI, gB_sB, if_neg h2, gB_sB, if_neg h1]⟩, fun Q hQ => ⟨8 + 1, kn_loop hx 8 0 0 (by omega) _ ?_⟩⟩
  · show vp_updL (gB v 19) nm.length (lN V) j = _ ∧ vp_updL (gB v 20) nm.length (-1) j = -1
    rw [List.length_append] at hj
    simp only [List.length_cons, List.length_nil] at hj
    by_cases e : j = nm.length
    · subst e; rw [pk_uLs, pk_uLs]; exact ⟨by simp, rfl⟩
    · rw [pk_uLn e, pk_uLn e, (m2 j (by omega)).1, List.getD_eq_getElem?_getD, List.getD_eq_getElem?_getD, List.getElem?_append_left (by omega)]
      exact ⟨rfl, (m2 j (by omega)).2⟩
  · rw [hV, m1, nI_clamp (show nm.length < 2 ^ 31 by omega), nI_1]
    exact ⟨vp_in_nI (by omega) (by omega), vp_in_nI (by omega) (by omega), hQ⟩
theorem kb_0 : ∀ j, j < 8 → byt (5130572 : Int64) (56 - 8 * j) < 128 := by decide +kernel
theorem kV_0 : kv (5130572 : Int64) 8 0 0 = 19511 := by decide +kernel
theorem kb_1 : ∀ j, j < 8 → byt (84 : Int64) (56 - 8 * j) < 128 := by decide +kernel
theorem kV_1 : kv (84 : Int64) 8 0 0 = 20 := by decide +kernel
theorem kb_2 : ∀ j, j < 8 → byt (349323613253 : Int64) (56 - 8 * j) < 128 := by decide +kernel
theorem kV_2 : kv (349323613253 : Int64) 8 0 0 = 32945730 := by decide +kernel
theorem kb_3 : ∀ j, j < 8 → byt (1129270852 : Int64) (56 - 8 * j) < 128 := by decide +kernel
theorem kV_3 : kv (1129270852 : Int64) 8 0 0 = 173016 := by decide +kernel
theorem kb_4 : ∀ j, j < 8 → byt (75064322641477 : Int64) (56 - 8 * j) < 128 := by decide +kernel
theorem kV_4 : kv (75064322641477 : Int64) 8 0 0 = 287063395 := by decide +kernel
theorem kb_5 : ∀ j, j < 8 → byt (83843352773697 : Int64) (56 - 8 * j) < 128 := by decide +kernel
theorem kV_5 : kv (83843352773697 : Int64) 8 0 0 = 834663021 := by decide +kernel
theorem kb_6 : ∀ j, j < 8 → byt (327512376652 : Int64) (56 - 8 * j) < 128 := by decide +kernel
theorem kV_6 : kv (327512376652 : Int64) 8 0 0 = 22543520 := by decide +kernel
theorem kb_7 : ∀ j, j < 8 → byt (4407634 : Int64) (56 - 8 * j) < 128 := by decide +kernel
theorem kV_7 : kv (4407634 : Int64) 8 0 0 = 4162 := by decide +kernel
theorem kb_8 : ∀ j, j < 8 → byt (4408402 : Int64) (56 - 8 * j) < 128 := by decide +kernel
theorem kV_8 : kv (4408402 : Int64) 8 0 0 = 4273 := by decide +kernel
theorem kb_9 : ∀ j, j < 8 → byt (1129270867 : Int64) (56 - 8 * j) < 128 := by decide +kernel
theorem kV_9 : kv (1129270867 : Int64) 8 0 0 = 173031 := by decide +kernel
theorem kb_10 : ∀ j, j < 8 → byt (1096044365 : Int64) (56 - 8 * j) < 128 := by decide +kernel
theorem kV_10 : kv (1096044365 : Int64) 8 0 0 = 78601 := by decide +kernel
theorem kb_11 : ∀ j, j < 8 → byt (17745 : Int64) (56 - 8 * j) < 128 := by decide +kernel
theorem kV_11 : kv (17745 : Int64) 8 0 0 = 202 := by decide +kernel
theorem kb_12 : ∀ j, j < 8 → byt (1314212940 : Int64) (56 - 8 * j) < 128 := by decide +kernel
theorem kV_12 : kv (1314212940 : Int64) 8 0 0 = 738347 := by decide +kernel
theorem kb_13 : ∀ j, j < 8 → byt (22048838496113232 : Int64) (56 - 8 * j) < 128 := by decide +kernel
theorem kV_13 : kv (22048838496113232 : Int64) 8 0 0 = 37400865749 := by decide +kernel
theorem kb_14 : ∀ j, j < 8 → byt (1347179859 : Int64) (56 - 8 * j) < 128 := by decide +kernel
theorem kV_14 : kv (1347179859 : Int64) 8 0 0 = 827672 := by decide +kernel
theorem kb_15 : ∀ j, j < 8 → byt (4920541335503652174 : Int64) (56 - 8 * j) < 128 := by decide +kernel
theorem kV_15 : kv (4920541335503652174 : Int64) 8 0 0 = 403246633027 := by decide +kernel
theorem kb_16 : ∀ j, j < 8 → byt (362007053651 : Int64) (56 - 8 * j) < 128 := by decide +kernel
theorem kV_16 : kv (362007053651 : Int64) 8 0 0 = 37957098 := by decide +kernel
theorem kb_17 : ∀ j, j < 8 → byt (327580603216 : Int64) (56 - 8 * j) < 128 := by decide +kernel
theorem kV_17 : kv (327580603216 : Int64) 8 0 0 = 22769927 := by decide +kernel
def RLL : List Nat := [19511, 20, 32945730, 173016, 287063395, 834663021, 22543520, 4162, 4273, 173031, 78601, 202, 738347, 37400865749, 827672, 403246633027, 37957098, 22769927]
theorem rll_spl : ∀ j, j < 18 → (if j = 15 then RLL.getD 15 0 * 37 * 37 + 111 + 5 else RLL.getD j 0) = SPL.getD j 0 := by decide +kernel
theorem init354 {u : St} (h : gI u 21 = 0) : ∃ v, (gI v 21 = nI 18 ∧ ∀ j, j < 18 → gB v 19 j = lN (SPL.getD j 0) ∧ gB v 20 j = -1) ∧ frQ u v ∧ ∀ Q : St → Prop, Q v → j_X10_init_354 Q u := by
  have h0 : NSR u [] := ⟨h, fun j hj => absurd hj (by simp)⟩
  obtain ⟨v1, h1, g1, q1⟩ := known_ex 19511 kb_0 kV_0 h0 (by simp)
  obtain ⟨v2, h2, g2, q2⟩ := known_ex 20 kb_1 kV_1 h1 (by simp)
  obtain ⟨v3, h3, g3, q3⟩ := known_ex 32945730 kb_2 kV_2 h2 (by simp)
  obtain ⟨v4, h4, g4, q4⟩ := known_ex 173016 kb_3 kV_3 h3 (by simp)
  obtain ⟨v5, h5, g5, q5⟩ := known_ex 287063395 kb_4 kV_4 h4 (by simp)
  obtain ⟨v6, h6, g6, q6⟩ := known_ex 834663021 kb_5 kV_5 h5 (by simp)
  obtain ⟨v7, h7, g7, q7⟩ := known_ex 22543520 kb_6 kV_6 h6 (by simp)
  obtain ⟨v8, h8, g8, q8⟩ := known_ex 4162 kb_7 kV_7 h7 (by simp)
  obtain ⟨v9, h9, g9, q9⟩ := known_ex 4273 kb_8 kV_8 h8 (by simp)
  obtain ⟨v10, h10, g10, q10⟩ := known_ex 173031 kb_9 kV_9 h9 (by simp)
  obtain ⟨v11, h11, g11, q11⟩ := known_ex 78601 kb_10 kV_10 h10 (by simp)
  obtain ⟨v12, h12, g12, q12⟩ := known_ex 202 kb_11 kV_11 h11 (by simp)
  obtain ⟨v13, h13, g13, q13⟩ := known_ex 738347 kb_12 kV_12 h12 (by simp)
  obtain ⟨v14, h14, g14, q14⟩ := known_ex 37400865749 kb_13 kV_13 h13 (by simp)
  obtain ⟨v15, h15, g15, q15⟩ := known_ex 827672 kb_14 kV_14 h14 (by simp)
  obtain ⟨v16, h16, g16, q16⟩ := known_ex 403246633027 kb_15 kV_15 h15 (by simp)
  obtain ⟨v17, h17, g17, q17⟩ := known_ex 37957098 kb_16 kV_16 h16 (by simp)
  obtain ⟨v18, h18, g18, q18⟩ := known_ex 22769927 kb_17 kV_17 h17 (by simp)
  have gg := g1
  have gg := frQ_tr gg g2
  have gg := frQ_tr gg g3
  have gg := frQ_tr gg g4
  have gg := frQ_tr gg g5
  have gg := frQ_tr gg g6
  have gg := frQ_tr gg g7
  have gg := frQ_tr gg g8
  have gg := frQ_tr gg g9
  have gg := frQ_tr gg g10
  have gg := frQ_tr gg g11
  have gg := frQ_tr gg g12
  have gg := frQ_tr gg g13
  have gg := frQ_tr gg g14
  have gg := frQ_tr gg g15
  have gg := frQ_tr gg g16
  have gg := frQ_tr gg g17
  have gg := frQ_tr gg g18
  have e18 : NSR v18 RLL := h18
  have e15 : gB v18 19 15 = lN (RLL.getD 15 0) := (e18.2 15 (by decide)).1
  have ee : ((gB v18 19 15 * (37 : Int64)) * (37 : Int64) + (111 : Int64)) + (5 : Int64) = lN (RLL.getD 15 0 * 37 * 37 + 111 + 5) := by
    rw [e15, show lN (RLL.getD 15 0) * (37 : Int64) = lN (RLL.getD 15 0 * 37) from lN_mul _ 37, show lN (RLL.getD 15 0 * 37) * (37 : Int64) = lN (RLL.getD 15 0 * 37 * 37) from lN_mul _ 37, show lN (RLL.getD 15 0 * 37 * 37) + (111 : Int64) = lN (RLL.getD 15 0 * 37 * 37 + 111) from lN_add _ 111]
    exact lN_add _ 5
  refine ⟨sB v18 19 (vp_updL (gB v18 19) 15 (((gB v18 19 15 * (37 : Int64)) * (37 : Int64) + (111 : Int64)) + (5 : Int64))), ⟨e18.1, fun j hj => ⟨?_, (e18.2 j hj).2⟩⟩, frQ_tr gg ⟨fun _ _ => rfl, fun _ => rfl, fun _ => rfl, fun k h1 _ => by rw [gB_sB, if_neg h1]⟩, fun Q hQ => q1 _ (q2 _ (q3 _ (q4 _ (q5 _ (q6 _ (q7 _ (q8 _ (q9 _ (q10 _ (q11 _ (q12 _ (q13 _ (q14 _ (q15 _ (q16 _ (q17 _ (q18 _ hQ)))))))))))))))))⟩
  show vp_updL (gB v18 19) 15 _ j = _
  rw [← rll_spl j hj]
  by_cases e : j = 15
  · subst e; rw [pk_uLs, if_pos rfl]; exact ee
  · rw [pk_uLn e, if_neg e]; exact (e18.2 j hj).1
