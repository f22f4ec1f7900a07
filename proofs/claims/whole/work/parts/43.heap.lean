/-! PURE: reading the heaps -/
def LN (N : Nat → Nat) (n t : Nat) : Prop := N 800 = n ∧ N 801 = n ∧ N 802 = n ∧ N 803 = n + 1 ∧ N 804 = n ∧ N 300 = t ∧ N 301 = t ∧ N 302 = t * 11 ∧ n ≤ 1000 ∧ t ≤ 200 ∧ 16 ≤ n ∧ 4 ≤ t
theorem eNIL : (1099511627776 : Int64) = aC 0 := rfl
theorem eT : (1099511627777 : Int64) = aC 1 := rfl
theorem rNIL : (4294967296 : Int64) = aR 0 := rfl
theorem rT : (4294967297 : Int64) = aR 1 := rfl
theorem cellOf_p {N : Nat → Nat} {n t c : Nat} {u : St} {Q : Int32 → St → Prop} (hN : LN N n t) (hc : c < n) (h : Q (nI c) u) : wp_X0_cellOf N (pC c) u Q := by
  have hn := hN.2.2.2.2.2.2.2.2.1
  refine ⟨fun d => absurd d (pC_nlt (m := 2199023255552) (by omega) (by omega)), fun _ => ⟨fun d => ?_, fun _ => ?_⟩⟩
  · exfalso
    rw [hN.1] at d
    have e : (2199023255552 : Int64) + (Int32.ofNat n).toInt64 = lN (2199023255552 + n) := by
      rw [show (Int32.ofNat n).toInt64 = lN n from nI_l (by omega)]
      exact lN_add _ _
    rw [e] at d
    have := (pk_lLE (a := 2199023255552 + n) (b := 2199023255552 + c) (by omega) (by omega)).mp d
    omega
  · rw [pC_cell (by omega)]
    exact h
theorem cellOf_n {N : Nat → Nat} {m : Int32} {u : St} {Q : Int32 → St → Prop} (h : Q (-1) u) : wp_X0_cellOf N (nC m) u Q := ⟨fun _ => h, fun d => absurd (nC_lt m (k := 2199023255552) (by decide) (by decide)) d⟩
theorem cellOf_a {N : Nat → Nat} {k : Nat} (hk : k < 150) {u : St} {Q : Int32 → St → Prop} (h : Q (-1) u) : wp_X0_cellOf N (aC k) u Q := ⟨fun _ => h, fun d => absurd (aC_lt (m := 2199023255552) (by omega) (by omega)) d⟩
theorem car_p {N : Nat → Nat} {n t c : Nat} {u : St} {Q : Int64 → St → Prop} (hN : LN N n t) (hc : c < n) (h : Q (gB u 800 c) u) : wp_X0_car N (pC c) u Q := by
  have hn := hN.2.2.2.2.2.2.2.2.1
  refine cellOf_p hN hc ⟨fun _ => ?_, fun d => absurd (nI_pos' (by omega)) d⟩
  rw [hN.1, nI_clamp (by omega)]
  exact ⟨vp_in_nI hc (by omega), h⟩
theorem car_n {N : Nat → Nat} {m : Int32} {u : St} {Q : Int64 → St → Prop} (h : Q (aC 0) u) : wp_X0_car N (nC m) u Q := cellOf_n ⟨fun d => absurd d (by decide), fun _ => h⟩
theorem car_a {N : Nat → Nat} {k : Nat} (hk : k < 150) {u : St} {Q : Int64 → St → Prop} (h : Q (aC 0) u) : wp_X0_car N (aC k) u Q := cellOf_a hk ⟨fun d => absurd d (by decide), fun _ => h⟩
theorem cdr_p {N : Nat → Nat} {n t c : Nat} {u : St} {Q : Int64 → St → Prop} (hN : LN N n t) (hc : c < n) (h : Q (gB u 801 c) u) : wp_X0_cdr N (pC c) u Q := by
  have hn := hN.2.2.2.2.2.2.2.2.1
  refine cellOf_p hN hc ⟨fun _ => ?_, fun d => absurd (nI_pos' (by omega)) d⟩
  rw [hN.2.1, nI_clamp (by omega)]
  exact ⟨vp_in_nI hc (by omega), h⟩
theorem cdr_n {N : Nat → Nat} {m : Int32} {u : St} {Q : Int64 → St → Prop} (h : Q (aC 0) u) : wp_X0_cdr N (nC m) u Q := cellOf_n ⟨fun d => absurd d (by decide), fun _ => h⟩
theorem cdr_a {N : Nat → Nat} {k : Nat} (hk : k < 150) {u : St} {Q : Int64 → St → Prop} (h : Q (aC 0) u) : wp_X0_cdr N (aC k) u Q := cellOf_a hk ⟨fun d => absurd d (by decide), fun _ => h⟩
theorem setCdr_p {N : Nat → Nat} {n t c : Nat} {x : Int64} {u : St} {Q : St → Prop} (hN : LN N n t) (hc : c < n) (h : Q (sB u 801 (vp_updL (gB u 801) c x))) : wp_X0_setCdr N (pC c) x u Q := by
  have hn := hN.2.2.2.2.2.2.2.2.1
  refine cellOf_p hN hc ⟨fun d => absurd d (nI_pos (by omega)), fun _ => ?_⟩
  rw [hN.2.1, nI_clamp (by omega)]
  exact ⟨vp_in_nI hc (by omega), h⟩
theorem first_p {d : Nat} {u : St} {Q : Int64 → St → Prop} (hd : d < 1000) (h : Q (gB u 13 d) u) : wp_X10_first (pR d) u Q := by
  unfold wp_X10_first
  rw [pR_cell hd, nI_clamp (by omega)]
  exact ⟨vp_in_nI hd (by omega), h⟩
theorem behind_p {d : Nat} {u : St} {Q : Int64 → St → Prop} (hd : d < 1000) (h : Q (gB u 14 d) u) : wp_X10_behind (pR d) u Q := by
  unfold wp_X10_behind
  rw [pR_cell hd, nI_clamp (by omega)]
  exact ⟨vp_in_nI hd (by omega), h⟩
/-- a new pair of the class: the last of the free row -/
theorem newPair_ok {N : Nat → Nat} {n t f c : Nat} {x y : Int64} {u : St} {Q : Int64 → St → Prop} (hN : LN N n t) (hf : gI u 805 = nI (f + 1)) (hfn : f < n) (hc : gA u 804 f = nI c) (hcn : c < n) (h : Q (pC c) (sB (sB (sI u 805 (nI f)) 800 (vp_updL (gB u 800) c x)) 801 (vp_updL (gB u 801) c y))) : wp_X0_newPair N x y u Q := by
  have hn := hN.2.2.2.2.2.2.2.2.1
  have e1 : nI (f + 1) - (1 : Int32) = nI f := nI_pred f
  refine ⟨fun _ => ?_, fun d => absurd (by rw [hf]; exact nI_lt (a := 0) (by omega) (by omega)) d⟩
  rw [hf, e1, hN.2.2.2.2.1, hN.1, hN.2.1, nI_clamp (by omega), hc, nI_clamp (by omega)]
  refine ⟨vp_in_nI (by omega) (by omega), vp_in_nI (by omega) (by omega), vp_in_nI (by omega) (by omega), ?_⟩
  rw [nI_l (by omega), show (2199023255552 : Int64) + lN c = pC c from lN_add _ _]
  exact h
