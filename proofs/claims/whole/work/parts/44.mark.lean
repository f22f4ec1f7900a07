/-! PURE: one turn of marking -/
theorem isC_of {n : Nat} (hn : n ≤ 1000) {w : Int64} (h1 : ¬ w < (2199023255552 : Int64)) (h2 : ¬ lN (2199023255552 + n) ≤ w) : ∃ c, c < n ∧ w = pC c := by
  obtain ⟨k, hk, rfl⟩ := pk_lOf (x := w) (fun h => h1 (Int64.lt_trans h (by decide)))
  have a1 : ¬ k < 2199023255552 := fun h => h1 ((pk_lLT (b := 2199023255552) hk (by omega)).mpr h)
  have a2 : ¬ 2199023255552 + n ≤ k := fun h => h2 ((pk_lLE (by omega) hk).mpr h)
  exact ⟨k - 2199023255552, by omega, by unfold pC; rw [show 2199023255552 + (k - 2199023255552) = k from by omega]⟩
def mkS (u : St) (k c : Nat) : St := sB (sB (sI (sA u 802 (upd (gA u 802) c (gI u 806))) 807 (gI u 807 + 1)) 803 (vp_updL (gB u 803) k (gB u 801 c))) 803 (vp_updL (vp_updL (gB u 803) k (gB u 801 c)) (k + 1) (gB u 800 c))
theorem mk_e {N : Nat → Nat} {n t0 : Nat} (hN : LN N n t0) : (2 : Int32) * Int32.ofNat (N 800) = nI (2 * n) ∧ (2199023255552 : Int64) + (Int32.ofNat (N 800)).toInt64 = lN (2199023255552 + n) := by
  have hn := hN.2.2.2.2.2.2.2.2.1
  rw [hN.1]
  refine ⟨pk_mul 2 n, ?_⟩
  rw [show (Int32.ofNat n).toInt64 = lN n from nI_l (by omega)]
  exact lN_add _ _
theorem mk_skip_11 {N : Nat → Nat} {n t0 k t m : Nat} {u : St} {c2 c3 : Int32} {K : St → Prop} (hN : LN N n t0) (ht : t ≤ 2 * n) (hk : k < n + 1) (hw : ∀ c, c < n → gB u 803 k = pC c → gA u 802 c = gI u 806) (h : l_X0_mark_11_28 N c2 c3 K m (nI k) (nI (t + 1)) u) : l_X0_mark_11_28 N c2 c3 K (m + 1) (nI (k + 1)) (nI t) u := by
  have hn := hN.2.2.2.2.2.2.2.2.1
  obtain ⟨e1, e4⟩ := mk_e hN
  unfold l_X0_mark_11_28
  rw [e1, e4, show nI (k + 1) + (-1 : Int32) = nI k from pk_m1 k, show nI t + (1 : Int32) = nI (t + 1) from nI_1 t, nI_clamp (show k < 2 ^ 31 by omega), hN.2.2.1, hN.2.2.2.1]
  refine ⟨fun c => absurd c (nI_nlt ht (by omega)), fun _ => ⟨fun c => absurd c (nI_nle (by omega) (by omega)), fun _ => ⟨vp_in_nI hk (by omega), fun _ => h, fun c1 => ⟨fun _ => h, fun d1 => ?_⟩⟩⟩⟩
  obtain ⟨c, hc, e⟩ := isC_of hn c1 d1
  rw [e, pC_cell (by omega), nI_clamp (by omega)]
  exact ⟨vp_in_nI hc (by omega), fun _ => h, fun hne => absurd (hw c hc e) hne⟩
theorem mk_push_11 {N : Nat → Nat} {n t0 k t m c : Nat} {u : St} {c2 c3 : Int32} {K : St → Prop} (hN : LN N n t0) (ht : t ≤ 2 * n) (hk : k + 1 ≤ n) (hc : c < n) (e : gB u 803 k = pC c) (hne : ¬ gA u 802 c = gI u 806) (h : l_X0_mark_11_28 N c2 c3 K m (nI (k + 2)) (nI (t + 1)) (mkS u k c)) : l_X0_mark_11_28 N c2 c3 K (m + 1) (nI (k + 1)) (nI t) u := by
  have hn := hN.2.2.2.2.2.2.2.2.1
  obtain ⟨e1, e4⟩ := mk_e hN
  unfold l_X0_mark_11_28
  rw [e1, e4, show nI (k + 1) + (-1 : Int32) = nI k from pk_m1 k, show nI t + (1 : Int32) = nI (t + 1) from nI_1 t, show nI k + (1 : Int32) = nI (k + 1) from nI_1 k, show nI k + (2 : Int32) = nI (k + 2) from nI_add k 2, nI_clamp (show k < 2 ^ 31 by omega), nI_clamp (show k + 1 < 2 ^ 31 by omega), hN.2.2.1, hN.2.2.2.1, hN.1, hN.2.1, e, pC_cell (by omega), nI_clamp (show c < 2 ^ 31 by omega)]
  refine ⟨fun c => absurd c (nI_nlt ht (by omega)), fun _ => ⟨fun c => absurd c (nI_nle (by omega) (by omega)), fun _ => ⟨vp_in_nI (by omega) (by omega), fun d => absurd d (pC_nlt (m := 2199023255552) (by omega) (by omega)), fun _ => ⟨fun d => ?_, fun _ => ⟨vp_in_nI hc (by omega), fun d => absurd d hne, fun _ => ⟨fun d => absurd d (nI_ge (by omega) (by omega)), fun _ => ⟨vp_in_nI hc (by omega), vp_in_nI hc (by omega), vp_in_nI (by omega) (by omega), vp_in_nI hc (by omega), vp_in_nI (by omega) (by omega), h⟩⟩⟩⟩⟩⟩⟩
  have := (pk_lLE (a := 2199023255552 + n) (b := 2199023255552 + c) (by omega) (by omega)).mp d
  omega
theorem mk_skip_14 {N : Nat → Nat} {n t0 k t m : Nat} {u : St} {c2 c3 : Int32} {K : St → Prop} (hN : LN N n t0) (ht : t ≤ 2 * n) (hk : k < n + 1) (hw : ∀ c, c < n → gB u 803 k = pC c → gA u 802 c = gI u 806) (h : l_X0_mark_14_28 N c2 c3 K m (nI k) (nI (t + 1)) u) : l_X0_mark_14_28 N c2 c3 K (m + 1) (nI (k + 1)) (nI t) u := by
  have hn := hN.2.2.2.2.2.2.2.2.1
  obtain ⟨e1, e4⟩ := mk_e hN
  unfold l_X0_mark_14_28
  rw [e1, e4, show nI (k + 1) + (-1 : Int32) = nI k from pk_m1 k, show nI t + (1 : Int32) = nI (t + 1) from nI_1 t, nI_clamp (show k < 2 ^ 31 by omega), hN.2.2.1, hN.2.2.2.1]
  refine ⟨fun c => absurd c (nI_nlt ht (by omega)), fun _ => ⟨fun c => absurd c (nI_nle (by omega) (by omega)), fun _ => ⟨vp_in_nI hk (by omega), fun _ => h, fun c1 => ⟨fun _ => h, fun d1 => ?_⟩⟩⟩⟩
  obtain ⟨c, hc, e⟩ := isC_of hn c1 d1
  rw [e, pC_cell (by omega), nI_clamp (by omega)]
  exact ⟨vp_in_nI hc (by omega), fun _ => h, fun hne => absurd (hw c hc e) hne⟩
theorem mk_push_14 {N : Nat → Nat} {n t0 k t m c : Nat} {u : St} {c2 c3 : Int32} {K : St → Prop} (hN : LN N n t0) (ht : t ≤ 2 * n) (hk : k + 1 ≤ n) (hc : c < n) (e : gB u 803 k = pC c) (hne : ¬ gA u 802 c = gI u 806) (h : l_X0_mark_14_28 N c2 c3 K m (nI (k + 2)) (nI (t + 1)) (mkS u k c)) : l_X0_mark_14_28 N c2 c3 K (m + 1) (nI (k + 1)) (nI t) u := by
  have hn := hN.2.2.2.2.2.2.2.2.1
  obtain ⟨e1, e4⟩ := mk_e hN
  unfold l_X0_mark_14_28
  rw [e1, e4, show nI (k + 1) + (-1 : Int32) = nI k from pk_m1 k, show nI t + (1 : Int32) = nI (t + 1) from nI_1 t, show nI k + (1 : Int32) = nI (k + 1) from nI_1 k, show nI k + (2 : Int32) = nI (k + 2) from nI_add k 2, nI_clamp (show k < 2 ^ 31 by omega), nI_clamp (show k + 1 < 2 ^ 31 by omega), hN.2.2.1, hN.2.2.2.1, hN.1, hN.2.1, e, pC_cell (by omega), nI_clamp (show c < 2 ^ 31 by omega)]
  refine ⟨fun c => absurd c (nI_nlt ht (by omega)), fun _ => ⟨fun c => absurd c (nI_nle (by omega) (by omega)), fun _ => ⟨vp_in_nI (by omega) (by omega), fun d => absurd d (pC_nlt (m := 2199023255552) (by omega) (by omega)), fun _ => ⟨fun d => ?_, fun _ => ⟨vp_in_nI hc (by omega), fun d => absurd d hne, fun _ => ⟨fun d => absurd d (nI_ge (by omega) (by omega)), fun _ => ⟨vp_in_nI hc (by omega), vp_in_nI hc (by omega), vp_in_nI (by omega) (by omega), vp_in_nI hc (by omega), vp_in_nI (by omega) (by omega), h⟩⟩⟩⟩⟩⟩⟩
  have := (pk_lLE (a := 2199023255552 + n) (b := 2199023255552 + c) (by omega) (by omega)).mp d
  omega
theorem mk_skip_15 {N : Nat → Nat} {n t0 k t m : Nat} {u : St} {c2 c3 : Int32} {K : St → Prop} (hN : LN N n t0) (ht : t ≤ 2 * n) (hk : k < n + 1) (hw : ∀ c, c < n → gB u 803 k = pC c → gA u 802 c = gI u 806) (h : l_X0_mark_15_28 N c2 c3 K m (nI k) (nI (t + 1)) u) : l_X0_mark_15_28 N c2 c3 K (m + 1) (nI (k + 1)) (nI t) u := by
  have hn := hN.2.2.2.2.2.2.2.2.1
  obtain ⟨e1, e4⟩ := mk_e hN
  unfold l_X0_mark_15_28
  rw [e1, e4, show nI (k + 1) + (-1 : Int32) = nI k from pk_m1 k, show nI t + (1 : Int32) = nI (t + 1) from nI_1 t, nI_clamp (show k < 2 ^ 31 by omega), hN.2.2.1, hN.2.2.2.1]
  refine ⟨fun c => absurd c (nI_nlt ht (by omega)), fun _ => ⟨fun c => absurd c (nI_nle (by omega) (by omega)), fun _ => ⟨vp_in_nI hk (by omega), fun _ => h, fun c1 => ⟨fun _ => h, fun d1 => ?_⟩⟩⟩⟩
  obtain ⟨c, hc, e⟩ := isC_of hn c1 d1
  rw [e, pC_cell (by omega), nI_clamp (by omega)]
  exact ⟨vp_in_nI hc (by omega), fun _ => h, fun hne => absurd (hw c hc e) hne⟩
theorem mk_push_15 {N : Nat → Nat} {n t0 k t m c : Nat} {u : St} {c2 c3 : Int32} {K : St → Prop} (hN : LN N n t0) (ht : t ≤ 2 * n) (hk : k + 1 ≤ n) (hc : c < n) (e : gB u 803 k = pC c) (hne : ¬ gA u 802 c = gI u 806) (h : l_X0_mark_15_28 N c2 c3 K m (nI (k + 2)) (nI (t + 1)) (mkS u k c)) : l_X0_mark_15_28 N c2 c3 K (m + 1) (nI (k + 1)) (nI t) u := by
  have hn := hN.2.2.2.2.2.2.2.2.1
  obtain ⟨e1, e4⟩ := mk_e hN
  unfold l_X0_mark_15_28
  rw [e1, e4, show nI (k + 1) + (-1 : Int32) = nI k from pk_m1 k, show nI t + (1 : Int32) = nI (t + 1) from nI_1 t, show nI k + (1 : Int32) = nI (k + 1) from nI_1 k, show nI k + (2 : Int32) = nI (k + 2) from nI_add k 2, nI_clamp (show k < 2 ^ 31 by omega), nI_clamp (show k + 1 < 2 ^ 31 by omega), hN.2.2.1, hN.2.2.2.1, hN.1, hN.2.1, e, pC_cell (by omega), nI_clamp (show c < 2 ^ 31 by omega)]
  refine ⟨fun c => absurd c (nI_nlt ht (by omega)), fun _ => ⟨fun c => absurd c (nI_nle (by omega) (by omega)), fun _ => ⟨vp_in_nI (by omega) (by omega), fun d => absurd d (pC_nlt (m := 2199023255552) (by omega) (by omega)), fun _ => ⟨fun d => ?_, fun _ => ⟨vp_in_nI hc (by omega), fun d => absurd d hne, fun _ => ⟨fun d => absurd d (nI_ge (by omega) (by omega)), fun _ => ⟨vp_in_nI hc (by omega), vp_in_nI hc (by omega), vp_in_nI (by omega) (by omega), vp_in_nI hc (by omega), vp_in_nI (by omega) (by omega), h⟩⟩⟩⟩⟩⟩⟩
  have := (pk_lLE (a := 2199023255552 + n) (b := 2199023255552 + c) (by omega) (by omega)).mp d
  omega
theorem mk_skip_20 {N : Nat → Nat} {n t0 k t m : Nat} {u : St} {c2 c3 : Int32} {K : St → Prop} (hN : LN N n t0) (ht : t ≤ 2 * n) (hk : k < n + 1) (hw : ∀ c, c < n → gB u 803 k = pC c → gA u 802 c = gI u 806) (h : l_X0_mark_20_28 N c2 c3 K m (nI k) (nI (t + 1)) u) : l_X0_mark_20_28 N c2 c3 K (m + 1) (nI (k + 1)) (nI t) u := by
  have hn := hN.2.2.2.2.2.2.2.2.1
  obtain ⟨e1, e4⟩ := mk_e hN
  unfold l_X0_mark_20_28
  rw [e1, e4, show nI (k + 1) + (-1 : Int32) = nI k from pk_m1 k, show nI t + (1 : Int32) = nI (t + 1) from nI_1 t, nI_clamp (show k < 2 ^ 31 by omega), hN.2.2.1, hN.2.2.2.1]
  refine ⟨fun c => absurd c (nI_nlt ht (by omega)), fun _ => ⟨fun c => absurd c (nI_nle (by omega) (by omega)), fun _ => ⟨vp_in_nI hk (by omega), fun _ => h, fun c1 => ⟨fun _ => h, fun d1 => ?_⟩⟩⟩⟩
  obtain ⟨c, hc, e⟩ := isC_of hn c1 d1
  rw [e, pC_cell (by omega), nI_clamp (by omega)]
  exact ⟨vp_in_nI hc (by omega), fun _ => h, fun hne => absurd (hw c hc e) hne⟩
theorem mk_push_20 {N : Nat → Nat} {n t0 k t m c : Nat} {u : St} {c2 c3 : Int32} {K : St → Prop} (hN : LN N n t0) (ht : t ≤ 2 * n) (hk : k + 1 ≤ n) (hc : c < n) (e : gB u 803 k = pC c) (hne : ¬ gA u 802 c = gI u 806) (h : l_X0_mark_20_28 N c2 c3 K m (nI (k + 2)) (nI (t + 1)) (mkS u k c)) : l_X0_mark_20_28 N c2 c3 K (m + 1) (nI (k + 1)) (nI t) u := by
  have hn := hN.2.2.2.2.2.2.2.2.1
  obtain ⟨e1, e4⟩ := mk_e hN
  unfold l_X0_mark_20_28
  rw [e1, e4, show nI (k + 1) + (-1 : Int32) = nI k from pk_m1 k, show nI t + (1 : Int32) = nI (t + 1) from nI_1 t, show nI k + (1 : Int32) = nI (k + 1) from nI_1 k, show nI k + (2 : Int32) = nI (k + 2) from nI_add k 2, nI_clamp (show k < 2 ^ 31 by omega), nI_clamp (show k + 1 < 2 ^ 31 by omega), hN.2.2.1, hN.2.2.2.1, hN.1, hN.2.1, e, pC_cell (by omega), nI_clamp (show c < 2 ^ 31 by omega)]
  refine ⟨fun c => absurd c (nI_nlt ht (by omega)), fun _ => ⟨fun c => absurd c (nI_nle (by omega) (by omega)), fun _ => ⟨vp_in_nI (by omega) (by omega), fun d => absurd d (pC_nlt (m := 2199023255552) (by omega) (by omega)), fun _ => ⟨fun d => ?_, fun _ => ⟨vp_in_nI hc (by omega), fun d => absurd d hne, fun _ => ⟨fun d => absurd d (nI_ge (by omega) (by omega)), fun _ => ⟨vp_in_nI hc (by omega), vp_in_nI hc (by omega), vp_in_nI (by omega) (by omega), vp_in_nI hc (by omega), vp_in_nI (by omega) (by omega), h⟩⟩⟩⟩⟩⟩⟩
  have := (pk_lLE (a := 2199023255552 + n) (b := 2199023255552 + c) (by omega) (by omega)).mp d
  omega
theorem mk_skip_21 {N : Nat → Nat} {n t0 k t m : Nat} {u : St} {c2 c3 : Int32} {K : St → Prop} (hN : LN N n t0) (ht : t ≤ 2 * n) (hk : k < n + 1) (hw : ∀ c, c < n → gB u 803 k = pC c → gA u 802 c = gI u 806) (h : l_X0_mark_21_28 N c2 c3 K m (nI k) (nI (t + 1)) u) : l_X0_mark_21_28 N c2 c3 K (m + 1) (nI (k + 1)) (nI t) u := by
  have hn := hN.2.2.2.2.2.2.2.2.1
  obtain ⟨e1, e4⟩ := mk_e hN
  unfold l_X0_mark_21_28
  rw [e1, e4, show nI (k + 1) + (-1 : Int32) = nI k from pk_m1 k, show nI t + (1 : Int32) = nI (t + 1) from nI_1 t, nI_clamp (show k < 2 ^ 31 by omega), hN.2.2.1, hN.2.2.2.1]
  refine ⟨fun c => absurd c (nI_nlt ht (by omega)), fun _ => ⟨fun c => absurd c (nI_nle (by omega) (by omega)), fun _ => ⟨vp_in_nI hk (by omega), fun _ => h, fun c1 => ⟨fun _ => h, fun d1 => ?_⟩⟩⟩⟩
  obtain ⟨c, hc, e⟩ := isC_of hn c1 d1
  rw [e, pC_cell (by omega), nI_clamp (by omega)]
  exact ⟨vp_in_nI hc (by omega), fun _ => h, fun hne => absurd (hw c hc e) hne⟩
theorem mk_push_21 {N : Nat → Nat} {n t0 k t m c : Nat} {u : St} {c2 c3 : Int32} {K : St → Prop} (hN : LN N n t0) (ht : t ≤ 2 * n) (hk : k + 1 ≤ n) (hc : c < n) (e : gB u 803 k = pC c) (hne : ¬ gA u 802 c = gI u 806) (h : l_X0_mark_21_28 N c2 c3 K m (nI (k + 2)) (nI (t + 1)) (mkS u k c)) : l_X0_mark_21_28 N c2 c3 K (m + 1) (nI (k + 1)) (nI t) u := by
  have hn := hN.2.2.2.2.2.2.2.2.1
  obtain ⟨e1, e4⟩ := mk_e hN
  unfold l_X0_mark_21_28
  rw [e1, e4, show nI (k + 1) + (-1 : Int32) = nI k from pk_m1 k, show nI t + (1 : Int32) = nI (t + 1) from nI_1 t, show nI k + (1 : Int32) = nI (k + 1) from nI_1 k, show nI k + (2 : Int32) = nI (k + 2) from nI_add k 2, nI_clamp (show k < 2 ^ 31 by omega), nI_clamp (show k + 1 < 2 ^ 31 by omega), hN.2.2.1, hN.2.2.2.1, hN.1, hN.2.1, e, pC_cell (by omega), nI_clamp (show c < 2 ^ 31 by omega)]
  refine ⟨fun c => absurd c (nI_nlt ht (by omega)), fun _ => ⟨fun c => absurd c (nI_nle (by omega) (by omega)), fun _ => ⟨vp_in_nI (by omega) (by omega), fun d => absurd d (pC_nlt (m := 2199023255552) (by omega) (by omega)), fun _ => ⟨fun d => ?_, fun _ => ⟨vp_in_nI hc (by omega), fun d => absurd d hne, fun _ => ⟨fun d => absurd d (nI_ge (by omega) (by omega)), fun _ => ⟨vp_in_nI hc (by omega), vp_in_nI hc (by omega), vp_in_nI (by omega) (by omega), vp_in_nI hc (by omega), vp_in_nI (by omega) (by omega), h⟩⟩⟩⟩⟩⟩⟩
  have := (pk_lLE (a := 2199023255552 + n) (b := 2199023255552 + c) (by omega) (by omega)).mp d
  omega
