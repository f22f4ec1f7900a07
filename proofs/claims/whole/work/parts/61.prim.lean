/-! PURE: the built-in functions -/
theorem sf {c A B : Prop} (h : ¬ c) (b : B) : (c → A) ∧ (¬ c → B) := ⟨fun x => absurd x h, fun _ => b⟩
theorem sq {c A B : Prop} (h : c) (a : A) : (c → A) ∧ (¬ c → B) := ⟨fun _ => a, fun x => absurd h x⟩
theorem Mh_mono {r A T n t C C2} {u v : St} (h : Mh r A T n t C u v) (hc : C ≤ C2) : Mh r A T n t C2 u v := ⟨h.1, h.2.1, h.2.2.1.elim (fun R hR => ⟨R, hR.1, Nat.le_trans hR.2 hc⟩), h.2.2.2⟩
theorem Res_mono {T n t s C C2 st u0 v0} {u v : St} (h : Res T n t s C st u0 v0 u v) (hc : C ≤ C2) : Res T n t s C2 st u0 v0 u v := by
  rcases h with ⟨r, A, w, cnt, h1, h2⟩ | ⟨r, A, w, cnt, h1, h2⟩ | ⟨r, A, w, cnt, h1, h2⟩ | ⟨r, A, f, h0, h1, h2⟩
  · exact Or.inl ⟨r, A, w, cnt, Mh_mono h1 hc, h2⟩
  · exact Or.inr (Or.inl ⟨r, A, w, cnt, Mh_mono h1 hc, h2⟩)
  · exact Or.inr (Or.inr (Or.inl ⟨r, A, w, cnt, Mh_mono h1 hc, h2⟩))
  · exact Or.inr (Or.inr (Or.inr ⟨r, A, f, h0, Mh_mono h1 hc, h2⟩))
def PrimR (N : Nat → Nat) (T n t s C st : Nat) (u0 v0 u v : St) (k : Nat) : Prop := ∃ u1 v1, Res T n t s C st u0 v0 u1 v1 ∧ (∀ Q : St → Prop, Q u1 → wp_X2_applyBuiltIn N (nI k) u Q) ∧ (∀ Q : St → Prop, Q v1 → wp_X10_primitive (nI k) v Q)
theorem hold2_ex {v b : St} {root : Int64 → Prop} {HL : List Nat} {x y : Int64} (h : Ho v root b HL 0) (hx : wd x) (hy : wd y) : ∃ (w : St) (HN : List Nat) (k : Nat), Ho v (fun z => (root z ∨ x = z) ∨ y = z) w HN k ∧ ∀ Q : St → Prop, Q w → wp_X10_hold x b (fun u36 => wp_X10_hold y u36 Q) := by
  obtain ⟨w1, H1, k1, h1, q1⟩ := Ho_hold h hx
  obtain ⟨w2, H2, k2, h2, q2⟩ := Ho_hold h1 hy
  exact ⟨w2, H2, k2, h2, fun Q hQ => q1 _ (q2 _ hQ)⟩
theorem prim_7 {N : Nat → Nat} {r A T n t s C st w cnt u0 v0} {u v : St} {m : Nat} (hN : LN N n t) (h : Mh r A T n t C u v) (hW : Wt r A T t w cnt u v) (hR : Rest t s st 0 u0 v0 u v) (hm : m ≤ 8) (hu : gI u 606 = nI m) (hv : gI v 43 = nI m) (hx : ∀ k, k < m → ob r T (gB u 605 k) (gB v 42 k)) : PrimR N T n t s C st u0 v0 u v 7 := by
  have hn := hN.2.2.2.2.2.2.2.2.1
  have hT := h.1.2.2.2.2.1.2.2.2
  have hT18 := h.1.2.2.2.2.1.2.2.1
  have hT0 : 0 < T := by omega
  have hT1 : 1 < T := by omega
  have h8 := hR.2.1.2
  have h1 := h.1.1
  have hfl : ∀ f : Int32, f ≠ 0 → Res T n t s C st u0 v0 (sI u 609 f) (sI v 8 f) := fun f hf => fld_ok f hf h hR
  have hans : ∀ x y : Int64, ob r T x y → Res T n t s C st u0 v0 (sI (sJ u 614 x) 608 3) (sJ (sI v 39 2) 40 y) := fun x y ho => Or.inr (Or.inr (Or.inl ⟨r, A, w, cnt, h, hW, hR, rfl, rfl, ho⟩))
  by_cases hmw : m = 1
  case neg =>
    have hmc : ¬ gI u 606 = (1 : Int32) := by rw [hu]; exact fun e => hmw ((nI_eq (a := m) (b := 1) (by omega) (by omega)).mp e)
    have hmr : ¬ gI v 43 = (1 : Int32) := by rw [hv]; exact fun e => hmw ((nI_eq (a := m) (b := 1) (by omega) (by omega)).mp e)
    exact ⟨_, _, hfl 3 (by decide), fun Q hQ => sq rfl (sf hmc hQ), fun Q hQ => sq rfl (sf hmr (fails_ok h8 hQ))⟩
  have hmc : gI u 606 = (1 : Int32) := by rw [hu, hmw]; rfl
  have hmr : gI v 43 = (1 : Int32) := by rw [hv, hmw]; rfl
  have o0 := hx 0 (by omega)
  rcases id o0 with ⟨z, e1, e2⟩ | ⟨j, hj, e1, e2⟩ | ⟨c, d, hr, e1, e2⟩
  · refine ⟨_, _, hfl 2 (by decide), fun Q hQ => sq rfl (sq hmc (sq rfl (?_))), fun Q hQ => sq rfl (sq hmr (sq rfl (?_)))⟩
    · show wp_X8_isPair (gB u 605 0) _
      rw [e1]; exact isPair_n (sq rfl hQ)
    · show wp_X10_isPair (gB v 42 0) _
      rw [e2]; exact rPair_n (sq rfl (fails_ok h8 hQ))
  · refine ⟨_, _, hfl 2 (by decide), fun Q hQ => sq rfl (sq hmc (sq rfl (?_))), fun Q hQ => sq rfl (sq hmr (sq rfl (?_)))⟩
    · show wp_X8_isPair (gB u 605 0) _
      rw [e1]; exact isPair_a (by omega) (sq rfl hQ)
    · show wp_X10_isPair (gB v 42 0) _
      rw [e2]; exact rPair_a (by omega) (sq rfl (fails_ok h8 hQ))
  · have a1 := h1.1 _ _ hr
    have hp := h1.2.2.2 _ _ hr
    refine ⟨_, _, hans _ _ hp.1, fun Q hQ => sq rfl (sq hmc (sq rfl (?_))), fun Q hQ => sq rfl (sq hmr (sq rfl (?_)))⟩
    · show wp_X8_isPair (gB u 605 0) _
      rw [e1]
      refine isPair_p (by omega) (sf (by decide) (sq rfl ?_))
      show wp_X0_car N (gB u 605 0) _ _
      rw [e1]
      exact car_p hN a1.1 hQ
    · show wp_X10_isPair (gB v 42 0) _
      rw [e2]
      refine rPair_p a1.2 (sf (by decide) (sq rfl ?_))
      show wp_X10_first (gB v 42 0) _ _
      rw [e2]
      exact first_p a1.2 hQ
theorem prim_8 {N : Nat → Nat} {r A T n t s C st w cnt u0 v0} {u v : St} {m : Nat} (hN : LN N n t) (h : Mh r A T n t C u v) (hW : Wt r A T t w cnt u v) (hR : Rest t s st 0 u0 v0 u v) (hm : m ≤ 8) (hu : gI u 606 = nI m) (hv : gI v 43 = nI m) (hx : ∀ k, k < m → ob r T (gB u 605 k) (gB v 42 k)) : PrimR N T n t s C st u0 v0 u v 8 := by
  have hn := hN.2.2.2.2.2.2.2.2.1
  have hT := h.1.2.2.2.2.1.2.2.2
  have hT18 := h.1.2.2.2.2.1.2.2.1
  have hT0 : 0 < T := by omega
  have hT1 : 1 < T := by omega
  have h8 := hR.2.1.2
  have h1 := h.1.1
  have hfl : ∀ f : Int32, f ≠ 0 → Res T n t s C st u0 v0 (sI u 609 f) (sI v 8 f) := fun f hf => fld_ok f hf h hR
  have hans : ∀ x y : Int64, ob r T x y → Res T n t s C st u0 v0 (sI (sJ u 614 x) 608 3) (sJ (sI v 39 2) 40 y) := fun x y ho => Or.inr (Or.inr (Or.inl ⟨r, A, w, cnt, h, hW, hR, rfl, rfl, ho⟩))
  by_cases hmw : m = 1
  case neg =>
    have hmc : ¬ gI u 606 = (1 : Int32) := by rw [hu]; exact fun e => hmw ((nI_eq (a := m) (b := 1) (by omega) (by omega)).mp e)
    have hmr : ¬ gI v 43 = (1 : Int32) := by rw [hv]; exact fun e => hmw ((nI_eq (a := m) (b := 1) (by omega) (by omega)).mp e)
    exact ⟨_, _, hfl 3 (by decide), fun Q hQ => sf (by decide) (sq rfl (sf hmc hQ)), fun Q hQ => sf (by decide) (sq rfl (sf hmr (fails_ok h8 hQ)))⟩
  have hmc : gI u 606 = (1 : Int32) := by rw [hu, hmw]; rfl
  have hmr : gI v 43 = (1 : Int32) := by rw [hv, hmw]; rfl
  have o0 := hx 0 (by omega)
  rcases id o0 with ⟨z, e1, e2⟩ | ⟨j, hj, e1, e2⟩ | ⟨c, d, hr, e1, e2⟩
  · refine ⟨_, _, hfl 2 (by decide), fun Q hQ => sf (by decide) (sq rfl (sq hmc (sf (by decide) (sq rfl (?_))))), fun Q hQ => sf (by decide) (sq rfl (sq hmr (sf (by decide) (sq rfl (?_)))))⟩
    · show wp_X8_isPair (gB u 605 0) _
      rw [e1]; exact isPair_n (sq rfl hQ)
    · show wp_X10_isPair (gB v 42 0) _
      rw [e2]; exact rPair_n (sq rfl (fails_ok h8 hQ))
  · refine ⟨_, _, hfl 2 (by decide), fun Q hQ => sf (by decide) (sq rfl (sq hmc (sf (by decide) (sq rfl (?_))))), fun Q hQ => sf (by decide) (sq rfl (sq hmr (sf (by decide) (sq rfl (?_)))))⟩
    · show wp_X8_isPair (gB u 605 0) _
      rw [e1]; exact isPair_a (by omega) (sq rfl hQ)
    · show wp_X10_isPair (gB v 42 0) _
      rw [e2]; exact rPair_a (by omega) (sq rfl (fails_ok h8 hQ))
  · have a1 := h1.1 _ _ hr
    have hp := h1.2.2.2 _ _ hr
    refine ⟨_, _, hans _ _ hp.2, fun Q hQ => sf (by decide) (sq rfl (sq hmc (sf (by decide) (sq rfl (?_))))), fun Q hQ => sf (by decide) (sq rfl (sq hmr (sf (by decide) (sq rfl (?_)))))⟩
    · show wp_X8_isPair (gB u 605 0) _
      rw [e1]
      refine isPair_p (by omega) (sf (by decide) (sf (by decide) ?_))
      show wp_X0_cdr N (gB u 605 0) _ _
      rw [e1]
      exact cdr_p hN a1.1 hQ
    · show wp_X10_isPair (gB v 42 0) _
      rw [e2]
      refine rPair_p a1.2 (sf (by decide) (sf (by decide) ?_))
      show wp_X10_behind (gB v 42 0) _ _
      rw [e2]
      exact behind_p a1.2 hQ
theorem prim_10 {N : Nat → Nat} {r A T n t s C st w cnt u0 v0} {u v : St} {m : Nat} (hN : LN N n t) (h : Mh r A T n t C u v) (hW : Wt r A T t w cnt u v) (hR : Rest t s st 0 u0 v0 u v) (hm : m ≤ 8) (hu : gI u 606 = nI m) (hv : gI v 43 = nI m) (hx : ∀ k, k < m → ob r T (gB u 605 k) (gB v 42 k)) : PrimR N T n t s C st u0 v0 u v 10 := by
  have hn := hN.2.2.2.2.2.2.2.2.1
  have hT := h.1.2.2.2.2.1.2.2.2
  have hT18 := h.1.2.2.2.2.1.2.2.1
  have hT0 : 0 < T := by omega
  have hT1 : 1 < T := by omega
  have h8 := hR.2.1.2
  have h1 := h.1.1
  have hfl : ∀ f : Int32, f ≠ 0 → Res T n t s C st u0 v0 (sI u 609 f) (sI v 8 f) := fun f hf => fld_ok f hf h hR
  have hans : ∀ x y : Int64, ob r T x y → Res T n t s C st u0 v0 (sI (sJ u 614 x) 608 3) (sJ (sI v 39 2) 40 y) := fun x y ho => Or.inr (Or.inr (Or.inl ⟨r, A, w, cnt, h, hW, hR, rfl, rfl, ho⟩))
  by_cases hmw : m = 1
  case neg =>
    have hmc : ¬ gI u 606 = (1 : Int32) := by rw [hu]; exact fun e => hmw ((nI_eq (a := m) (b := 1) (by omega) (by omega)).mp e)
    have hmr : ¬ gI v 43 = (1 : Int32) := by rw [hv]; exact fun e => hmw ((nI_eq (a := m) (b := 1) (by omega) (by omega)).mp e)
    exact ⟨_, _, hfl 3 (by decide), fun Q hQ => sf (by decide) (sf (by decide) (sf (by decide) (sq rfl (sf hmc hQ)))), fun Q hQ => sf (by decide) (sf (by decide) (sq rfl (sf hmr (fails_ok h8 hQ))))⟩
  have hmc : gI u 606 = (1 : Int32) := by rw [hu, hmw]; rfl
  have hmr : gI v 43 = (1 : Int32) := by rw [hv, hmw]; rfl
  have o0 := hx 0 (by omega)
  rcases id o0 with ⟨z, e1, e2⟩ | ⟨j, hj, e1, e2⟩ | ⟨c, d, hr, e1, e2⟩
  · refine ⟨_, _, hans _ _ (ob_a hT1), fun Q hQ => sf (by decide) (sf (by decide) (sf (by decide) (sq rfl (sq hmc (sf (by decide) (sf (by decide) (sf (by decide) (sq rfl (?_))))))))), fun Q hQ => sf (by decide) (sf (by decide) (sq rfl (sq hmr (sf (by decide) (sf (by decide) (sf (by decide) (sq rfl (?_))))))))⟩
    · show wp_X8_isPair (gB u 605 0) _
      rw [e1]; exact isPair_n (sq rfl (sf (by decide) hQ))
    · show wp_X10_isPair (gB v 42 0) _
      rw [e2]; exact rPair_n (sq rfl hQ)
  · refine ⟨_, _, hans _ _ (ob_a hT1), fun Q hQ => sf (by decide) (sf (by decide) (sf (by decide) (sq rfl (sq hmc (sf (by decide) (sf (by decide) (sf (by decide) (sq rfl (?_))))))))), fun Q hQ => sf (by decide) (sf (by decide) (sq rfl (sq hmr (sf (by decide) (sf (by decide) (sf (by decide) (sq rfl (?_))))))))⟩
    · show wp_X8_isPair (gB u 605 0) _
      rw [e1]; exact isPair_a (by omega) (sq rfl (sf (by decide) hQ))
    · show wp_X10_isPair (gB v 42 0) _
      rw [e2]; exact rPair_a (by omega) (sq rfl hQ)
  · have a1 := h1.1 _ _ hr
    refine ⟨_, _, hans _ _ (ob_a hT0), fun Q hQ => sf (by decide) (sf (by decide) (sf (by decide) (sq rfl (sq hmc (sf (by decide) (sf (by decide) (sf (by decide) (sq rfl (?_))))))))), fun Q hQ => sf (by decide) (sf (by decide) (sq rfl (sq hmr (sf (by decide) (sf (by decide) (sf (by decide) (sq rfl (?_))))))))⟩
    · show wp_X8_isPair (gB u 605 0) _
      rw [e1]; exact isPair_p (by omega) (sf (by decide) (sq rfl hQ))
    · show wp_X10_isPair (gB v 42 0) _
      rw [e2]; exact rPair_p a1.2 (sf (by decide) hQ)
theorem prim_12 {N : Nat → Nat} {r A T n t s C st w cnt u0 v0} {u v : St} {m : Nat} (hN : LN N n t) (h : Mh r A T n t C u v) (hW : Wt r A T t w cnt u v) (hR : Rest t s st 0 u0 v0 u v) (hm : m ≤ 8) (hu : gI u 606 = nI m) (hv : gI v 43 = nI m) (hx : ∀ k, k < m → ob r T (gB u 605 k) (gB v 42 k)) : PrimR N T n t s C st u0 v0 u v 12 := by
  have hn := hN.2.2.2.2.2.2.2.2.1
  have hT := h.1.2.2.2.2.1.2.2.2
  have hT18 := h.1.2.2.2.2.1.2.2.1
  have hT0 : 0 < T := by omega
  have hT1 : 1 < T := by omega
  have h8 := hR.2.1.2
  have h1 := h.1.1
  have hfl : ∀ f : Int32, f ≠ 0 → Res T n t s C st u0 v0 (sI u 609 f) (sI v 8 f) := fun f hf => fld_ok f hf h hR
  have hans : ∀ x y : Int64, ob r T x y → Res T n t s C st u0 v0 (sI (sJ u 614 x) 608 3) (sJ (sI v 39 2) 40 y) := fun x y ho => Or.inr (Or.inr (Or.inl ⟨r, A, w, cnt, h, hW, hR, rfl, rfl, ho⟩))
  by_cases hmw : m = 1
  case neg =>
    have hmc : ¬ gI u 606 = (1 : Int32) := by rw [hu]; exact fun e => hmw ((nI_eq (a := m) (b := 1) (by omega) (by omega)).mp e)
    have hmr : ¬ gI v 43 = (1 : Int32) := by rw [hv]; exact fun e => hmw ((nI_eq (a := m) (b := 1) (by omega) (by omega)).mp e)
    exact ⟨_, _, hfl 3 (by decide), fun Q hQ => sf (by decide) (sf (by decide) (sf (by decide) (sf (by decide) (sf (by decide) (sq rfl (sf hmc hQ)))))), fun Q hQ => sf (by decide) (sf (by decide) (sf (by decide) (sq rfl (sf hmr (fails_ok h8 hQ)))))⟩
  have hmc : gI u 606 = (1 : Int32) := by rw [hu, hmw]; rfl
  have hmr : gI v 43 = (1 : Int32) := by rw [hv, hmw]; rfl
  have o0 := hx 0 (by omega)
  have hE : gB u 605 0 = (1099511627776 : Int64) ↔ gB v 42 0 = (4294967296 : Int64) := obE h1 hT hn o0 (ob_a (k := 0) hT0)
  by_cases hz : gB u 605 0 = (1099511627776 : Int64)
  · exact ⟨_, _, hans _ _ (ob_a hT1), fun Q hQ => sf (by decide) (sf (by decide) (sf (by decide) (sf (by decide) (sf (by decide) (sq rfl (sq hmc (sf (by decide) (sf (by decide) (sf (by decide) (sf (by decide) (sf (by decide) (sq rfl (sq hz (sf (by decide) hQ)))))))))))))), fun Q hQ => sf (by decide) (sf (by decide) (sf (by decide) (sq rfl (sq hmr (sf (by decide) (sf (by decide) (sf (by decide) (sf (by decide) (sf (by decide) (sq rfl (sq (hE.mp hz) hQ)))))))))))⟩
  · exact ⟨_, _, hans _ _ (ob_a hT0), fun Q hQ => sf (by decide) (sf (by decide) (sf (by decide) (sf (by decide) (sf (by decide) (sq rfl (sq hmc (sf (by decide) (sf (by decide) (sf (by decide) (sf (by decide) (sf (by decide) (sq rfl (sf hz (sq rfl hQ)))))))))))))), fun Q hQ => sf (by decide) (sf (by decide) (sf (by decide) (sq rfl (sq hmr (sf (by decide) (sf (by decide) (sf (by decide) (sf (by decide) (sf (by decide) (sq rfl (sf (fun e => hz (hE.mpr e)) hQ)))))))))))⟩
theorem prim_13 {N : Nat → Nat} {r A T n t s C st w cnt u0 v0} {u v : St} {m : Nat} (hN : LN N n t) (h : Mh r A T n t C u v) (hW : Wt r A T t w cnt u v) (hR : Rest t s st 0 u0 v0 u v) (hm : m ≤ 8) (hu : gI u 606 = nI m) (hv : gI v 43 = nI m) (hx : ∀ k, k < m → ob r T (gB u 605 k) (gB v 42 k)) : PrimR N T n t s C st u0 v0 u v 13 := by
  have hn := hN.2.2.2.2.2.2.2.2.1
  have hT := h.1.2.2.2.2.1.2.2.2
  have hT18 := h.1.2.2.2.2.1.2.2.1
  have hT0 : 0 < T := by omega
  have hT1 : 1 < T := by omega
  have h8 := hR.2.1.2
  have h1 := h.1.1
  have hfl : ∀ f : Int32, f ≠ 0 → Res T n t s C st u0 v0 (sI u 609 f) (sI v 8 f) := fun f hf => fld_ok f hf h hR
  have hans : ∀ x y : Int64, ob r T x y → Res T n t s C st u0 v0 (sI (sJ u 614 x) 608 3) (sJ (sI v 39 2) 40 y) := fun x y ho => Or.inr (Or.inr (Or.inl ⟨r, A, w, cnt, h, hW, hR, rfl, rfl, ho⟩))
  by_cases hmw : m = 1
  case neg =>
    have hmc : ¬ gI u 606 = (1 : Int32) := by rw [hu]; exact fun e => hmw ((nI_eq (a := m) (b := 1) (by omega) (by omega)).mp e)
    have hmr : ¬ gI v 43 = (1 : Int32) := by rw [hv]; exact fun e => hmw ((nI_eq (a := m) (b := 1) (by omega) (by omega)).mp e)
    exact ⟨_, _, hfl 3 (by decide), fun Q hQ => sf (by decide) (sf (by decide) (sf (by decide) (sf (by decide) (sf (by decide) (sf (by decide) (sq rfl (sf hmc hQ))))))), fun Q hQ => sf (by decide) (sf (by decide) (sf (by decide) (sf (by decide) (sq rfl (sf hmr (fails_ok h8 hQ))))))⟩
  have hmc : gI u 606 = (1 : Int32) := by rw [hu, hmw]; rfl
  have hmr : gI v 43 = (1 : Int32) := by rw [hv, hmw]; rfl
  have o0 := hx 0 (by omega)
  rcases id o0 with ⟨z, e1, e2⟩ | ⟨j, hj, e1, e2⟩ | ⟨c, d, hr, e1, e2⟩
  · refine ⟨_, _, hans _ _ (ob_a hT1), fun Q hQ => sf (by decide) (sf (by decide) (sf (by decide) (sf (by decide) (sf (by decide) (sf (by decide) (sq rfl (sq hmc (sf (by decide) (sf (by decide) (sf (by decide) (sf (by decide) (sf (by decide) (sf (by decide) (sq rfl (?_))))))))))))))), fun Q hQ => sf (by decide) (sf (by decide) (sf (by decide) (sf (by decide) (sq rfl (sq hmr (sf (by decide) (sf (by decide) (sf (by decide) (sf (by decide) (sf (by decide) (sf (by decide) (sq rfl (?_)))))))))))))⟩
    · show wp_X8_isNumber (gB u 605 0) _
      rw [e1]; exact isNumber_n (sf (by decide) hQ)
    · show wp_X10_isNumber (gB v 42 0) _
      rw [e2]; exact rNumber_n (sf (by decide) hQ)
  · refine ⟨_, _, hans _ _ (ob_a hT0), fun Q hQ => sf (by decide) (sf (by decide) (sf (by decide) (sf (by decide) (sf (by decide) (sf (by decide) (sq rfl (sq hmc (sf (by decide) (sf (by decide) (sf (by decide) (sf (by decide) (sf (by decide) (sf (by decide) (sq rfl (?_))))))))))))))), fun Q hQ => sf (by decide) (sf (by decide) (sf (by decide) (sf (by decide) (sq rfl (sq hmr (sf (by decide) (sf (by decide) (sf (by decide) (sf (by decide) (sf (by decide) (sf (by decide) (sq rfl (?_)))))))))))))⟩
    · show wp_X8_isNumber (gB u 605 0) _
      rw [e1]; exact isNumber_a (by omega) (sq rfl hQ)
    · show wp_X10_isNumber (gB v 42 0) _
      rw [e2]; exact rNumber_a (by omega) (sq rfl hQ)
  · have a1 := h1.1 _ _ hr
    refine ⟨_, _, hans _ _ (ob_a hT0), fun Q hQ => sf (by decide) (sf (by decide) (sf (by decide) (sf (by decide) (sf (by decide) (sf (by decide) (sq rfl (sq hmc (sf (by decide) (sf (by decide) (sf (by decide) (sf (by decide) (sf (by decide) (sf (by decide) (sq rfl (?_))))))))))))))), fun Q hQ => sf (by decide) (sf (by decide) (sf (by decide) (sf (by decide) (sq rfl (sq hmr (sf (by decide) (sf (by decide) (sf (by decide) (sf (by decide) (sf (by decide) (sf (by decide) (sq rfl (?_)))))))))))))⟩
    · show wp_X8_isNumber (gB u 605 0) _
      rw [e1]; exact isNumber_p (by omega) (sq rfl hQ)
    · show wp_X10_isNumber (gB v 42 0) _
      rw [e2]; exact rNumber_p a1.2 (sq rfl hQ)
theorem prim_11 {N : Nat → Nat} {r A T n t s C st w cnt u0 v0} {u v : St} {m : Nat} (hN : LN N n t) (h : Mh r A T n t C u v) (hW : Wt r A T t w cnt u v) (hR : Rest t s st 0 u0 v0 u v) (hm : m ≤ 8) (hu : gI u 606 = nI m) (hv : gI v 43 = nI m) (hx : ∀ k, k < m → ob r T (gB u 605 k) (gB v 42 k)) : PrimR N T n t s C st u0 v0 u v 11 := by
  have hn := hN.2.2.2.2.2.2.2.2.1
  have hT := h.1.2.2.2.2.1.2.2.2
  have hT18 := h.1.2.2.2.2.1.2.2.1
  have hT0 : 0 < T := by omega
  have hT1 : 1 < T := by omega
  have h8 := hR.2.1.2
  have h1 := h.1.1
  have hfl : ∀ f : Int32, f ≠ 0 → Res T n t s C st u0 v0 (sI u 609 f) (sI v 8 f) := fun f hf => fld_ok f hf h hR
  have hans : ∀ x y : Int64, ob r T x y → Res T n t s C st u0 v0 (sI (sJ u 614 x) 608 3) (sJ (sI v 39 2) 40 y) := fun x y ho => Or.inr (Or.inr (Or.inl ⟨r, A, w, cnt, h, hW, hR, rfl, rfl, ho⟩))
  by_cases hmw : m = 2
  case neg =>
    have hmc : ¬ gI u 606 = (2 : Int32) := by rw [hu]; exact fun e => hmw ((nI_eq (a := m) (b := 2) (by omega) (by omega)).mp e)
    have hmr : ¬ gI v 43 = (2 : Int32) := by rw [hv]; exact fun e => hmw ((nI_eq (a := m) (b := 2) (by omega) (by omega)).mp e)
    exact ⟨_, _, hfl 3 (by decide), fun Q hQ => sf (by decide) (sf (by decide) (sf (by decide) (sf (by decide) (sq rfl (sf hmc hQ))))), fun Q hQ => sf (by decide) (sf (by decide) (sf (by decide) (sf (by decide) (sf (by decide) (sf hmr (fails_ok h8 hQ))))))⟩
  have hmc : gI u 606 = (2 : Int32) := by rw [hu, hmw]; rfl
  have hmr : gI v 43 = (2 : Int32) := by rw [hv, hmw]; rfl
  have o0 := hx 0 (by omega)
  have o1 := hx 1 (by omega)
  rcases id o0 with ⟨z, e1, e2⟩ | ⟨j, hj, e1, e2⟩ | ⟨c, d, hr, e1, e2⟩
  case inr.inr =>
    have a1 := h1.1 _ _ hr
    refine ⟨_, _, hfl 2 (by decide), fun Q hQ => sf (by decide) (sf (by decide) (sf (by decide) (sf (by decide) (sq rfl (sq hmc (sf (by decide) (sf (by decide) (sf (by decide) (sf (by decide) (sq rfl (?_))))))))))), fun Q hQ => sf (by decide) (sf (by decide) (sf (by decide) (sf (by decide) (sf (by decide) (sq hmr (sf (by decide) (sf (by decide) (sf (by decide) (sf (by decide) (sq rfl (?_)))))))))))⟩
    · show wp_X8_isPair (gB u 605 0) _
      rw [e1]; exact isPair_p (by omega) (sf (by decide) hQ)
    · show wp_X10_isPair (gB v 42 0) _
      rw [e2]; exact rPair_p a1.2 (sf (by decide) (fails_ok h8 hQ))
  case inl =>
    have hE : gB u 605 0 = gB u 605 1 ↔ gB v 42 0 = gB v 42 1 := obE h1 hT hn o0 o1
    have hC0 : ∀ R : Int32 → Prop, R 0 → wp_X8_isPair (gB u 605 0) R := fun R hr => by rw [e1]; exact isPair_n hr
    have hR0 : ∀ R : Int32 → Prop, R 0 → wp_X10_isPair (gB v 42 0) R := fun R hr => by rw [e2]; exact rPair_n hr
    rcases id o1 with ⟨z2, g1, g2⟩ | ⟨j2, hj2, g1, g2⟩ | ⟨c2, d2, hr2, g1, g2⟩
    · have hC1 : ∀ R : Int32 → Prop, R 0 → wp_X8_isPair (gB u 605 1) R := fun R hr => by rw [g1]; exact isPair_n hr
      have hR1 : ∀ R : Int32 → Prop, R 0 → wp_X10_isPair (gB v 42 1) R := fun R hr => by rw [g2]; exact rPair_n hr
      by_cases hz : gB u 605 0 = gB u 605 1
      · exact ⟨_, _, hans _ _ (ob_a hT1), fun Q hQ => sf (by decide) (sf (by decide) (sf (by decide) (sf (by decide) (sq rfl (sq hmc (sf (by decide) (sf (by decide) (sf (by decide) (sf (by decide) (sq rfl (hC0 _ (sq rfl (hC1 _ (sq rfl (sq hz (sf (by decide) hQ)))))))))))))))), fun Q hQ => sf (by decide) (sf (by decide) (sf (by decide) (sf (by decide) (sf (by decide) (sq hmr (sf (by decide) (sf (by decide) (sf (by decide) (sf (by decide) (sq rfl (hR0 _ (sq rfl (hR1 _ (sq rfl (sq (hE.mp hz) hQ)))))))))))))))⟩
      · exact ⟨_, _, hans _ _ (ob_a hT0), fun Q hQ => sf (by decide) (sf (by decide) (sf (by decide) (sf (by decide) (sq rfl (sq hmc (sf (by decide) (sf (by decide) (sf (by decide) (sf (by decide) (sq rfl (hC0 _ (sq rfl (hC1 _ (sq rfl (sf hz (sq rfl hQ)))))))))))))))), fun Q hQ => sf (by decide) (sf (by decide) (sf (by decide) (sf (by decide) (sf (by decide) (sq hmr (sf (by decide) (sf (by decide) (sf (by decide) (sf (by decide) (sq rfl (hR0 _ (sq rfl (hR1 _ (sq rfl (sf (fun e => hz (hE.mpr e)) hQ)))))))))))))))⟩
    · have hC1 : ∀ R : Int32 → Prop, R 0 → wp_X8_isPair (gB u 605 1) R := fun R hr => by rw [g1]; exact isPair_a (by omega) hr
      have hR1 : ∀ R : Int32 → Prop, R 0 → wp_X10_isPair (gB v 42 1) R := fun R hr => by rw [g2]; exact rPair_a (by omega) hr
      by_cases hz : gB u 605 0 = gB u 605 1
      · exact ⟨_, _, hans _ _ (ob_a hT1), fun Q hQ => sf (by decide) (sf (by decide) (sf (by decide) (sf (by decide) (sq rfl (sq hmc (sf (by decide) (sf (by decide) (sf (by decide) (sf (by decide) (sq rfl (hC0 _ (sq rfl (hC1 _ (sq rfl (sq hz (sf (by decide) hQ)))))))))))))))), fun Q hQ => sf (by decide) (sf (by decide) (sf (by decide) (sf (by decide) (sf (by decide) (sq hmr (sf (by decide) (sf (by decide) (sf (by decide) (sf (by decide) (sq rfl (hR0 _ (sq rfl (hR1 _ (sq rfl (sq (hE.mp hz) hQ)))))))))))))))⟩
      · exact ⟨_, _, hans _ _ (ob_a hT0), fun Q hQ => sf (by decide) (sf (by decide) (sf (by decide) (sf (by decide) (sq rfl (sq hmc (sf (by decide) (sf (by decide) (sf (by decide) (sf (by decide) (sq rfl (hC0 _ (sq rfl (hC1 _ (sq rfl (sf hz (sq rfl hQ)))))))))))))))), fun Q hQ => sf (by decide) (sf (by decide) (sf (by decide) (sf (by decide) (sf (by decide) (sq hmr (sf (by decide) (sf (by decide) (sf (by decide) (sf (by decide) (sq rfl (hR0 _ (sq rfl (hR1 _ (sq rfl (sf (fun e => hz (hE.mpr e)) hQ)))))))))))))))⟩
    · have a2 := h1.1 _ _ hr2
      have hC1 : ∀ R : Int32 → Prop, R 1 → wp_X8_isPair (gB u 605 1) R := fun R hr => by rw [g1]; exact isPair_p (by omega) hr
      have hR1 : ∀ R : Int32 → Prop, R 1 → wp_X10_isPair (gB v 42 1) R := fun R hr => by rw [g2]; exact rPair_p a2.2 hr
      exact ⟨_, _, hfl 2 (by decide), fun Q hQ => sf (by decide) (sf (by decide) (sf (by decide) (sf (by decide) (sq rfl (sq hmc (sf (by decide) (sf (by decide) (sf (by decide) (sf (by decide) (sq rfl (hC0 _ (sq rfl (hC1 _ (sf (by decide) hQ)))))))))))))), fun Q hQ => sf (by decide) (sf (by decide) (sf (by decide) (sf (by decide) (sf (by decide) (sq hmr (sf (by decide) (sf (by decide) (sf (by decide) (sf (by decide) (sq rfl (hR0 _ (sq rfl (hR1 _ (sf (by decide) (fails_ok h8 hQ)))))))))))))))⟩
  case inr.inl =>
    have hE : gB u 605 0 = gB u 605 1 ↔ gB v 42 0 = gB v 42 1 := obE h1 hT hn o0 o1
    have hC0 : ∀ R : Int32 → Prop, R 0 → wp_X8_isPair (gB u 605 0) R := fun R hr => by rw [e1]; exact isPair_a (by omega) hr
    have hR0 : ∀ R : Int32 → Prop, R 0 → wp_X10_isPair (gB v 42 0) R := fun R hr => by rw [e2]; exact rPair_a (by omega) hr
    rcases id o1 with ⟨z2, g1, g2⟩ | ⟨j2, hj2, g1, g2⟩ | ⟨c2, d2, hr2, g1, g2⟩
    · have hC1 : ∀ R : Int32 → Prop, R 0 → wp_X8_isPair (gB u 605 1) R := fun R hr => by rw [g1]; exact isPair_n hr
      have hR1 : ∀ R : Int32 → Prop, R 0 → wp_X10_isPair (gB v 42 1) R := fun R hr => by rw [g2]; exact rPair_n hr
      by_cases hz : gB u 605 0 = gB u 605 1
      · exact ⟨_, _, hans _ _ (ob_a hT1), fun Q hQ => sf (by decide) (sf (by decide) (sf (by decide) (sf (by decide) (sq rfl (sq hmc (sf (by decide) (sf (by decide) (sf (by decide) (sf (by decide) (sq rfl (hC0 _ (sq rfl (hC1 _ (sq rfl (sq hz (sf (by decide) hQ)))))))))))))))), fun Q hQ => sf (by decide) (sf (by decide) (sf (by decide) (sf (by decide) (sf (by decide) (sq hmr (sf (by decide) (sf (by decide) (sf (by decide) (sf (by decide) (sq rfl (hR0 _ (sq rfl (hR1 _ (sq rfl (sq (hE.mp hz) hQ)))))))))))))))⟩
      · exact ⟨_, _, hans _ _ (ob_a hT0), fun Q hQ => sf (by decide) (sf (by decide) (sf (by decide) (sf (by decide) (sq rfl (sq hmc (sf (by decide) (sf (by decide) (sf (by decide) (sf (by decide) (sq rfl (hC0 _ (sq rfl (hC1 _ (sq rfl (sf hz (sq rfl hQ)))))))))))))))), fun Q hQ => sf (by decide) (sf (by decide) (sf (by decide) (sf (by decide) (sf (by decide) (sq hmr (sf (by decide) (sf (by decide) (sf (by decide) (sf (by decide) (sq rfl (hR0 _ (sq rfl (hR1 _ (sq rfl (sf (fun e => hz (hE.mpr e)) hQ)))))))))))))))⟩
    · have hC1 : ∀ R : Int32 → Prop, R 0 → wp_X8_isPair (gB u 605 1) R := fun R hr => by rw [g1]; exact isPair_a (by omega) hr
      have hR1 : ∀ R : Int32 → Prop, R 0 → wp_X10_isPair (gB v 42 1) R := fun R hr => by rw [g2]; exact rPair_a (by omega) hr
      by_cases hz : gB u 605 0 = gB u 605 1
      · exact ⟨_, _, hans _ _ (ob_a hT1), fun Q hQ => sf (by decide) (sf (by decide) (sf (by decide) (sf (by decide) (sq rfl (sq hmc (sf (by decide) (sf (by decide) (sf (by decide) (sf (by decide) (sq rfl (hC0 _ (sq rfl (hC1 _ (sq rfl (sq hz (sf (by decide) hQ)))))))))))))))), fun Q hQ => sf (by decide) (sf (by decide) (sf (by decide) (sf (by decide) (sf (by decide) (sq hmr (sf (by decide) (sf (by decide) (sf (by decide) (sf (by decide) (sq rfl (hR0 _ (sq rfl (hR1 _ (sq rfl (sq (hE.mp hz) hQ)))))))))))))))⟩
      · exact ⟨_, _, hans _ _ (ob_a hT0), fun Q hQ => sf (by decide) (sf (by decide) (sf (by decide) (sf (by decide) (sq rfl (sq hmc (sf (by decide) (sf (by decide) (sf (by decide) (sf (by decide) (sq rfl (hC0 _ (sq rfl (hC1 _ (sq rfl (sf hz (sq rfl hQ)))))))))))))))), fun Q hQ => sf (by decide) (sf (by decide) (sf (by decide) (sf (by decide) (sf (by decide) (sq hmr (sf (by decide) (sf (by decide) (sf (by decide) (sf (by decide) (sq rfl (hR0 _ (sq rfl (hR1 _ (sq rfl (sf (fun e => hz (hE.mpr e)) hQ)))))))))))))))⟩
    · have a2 := h1.1 _ _ hr2
      have hC1 : ∀ R : Int32 → Prop, R 1 → wp_X8_isPair (gB u 605 1) R := fun R hr => by rw [g1]; exact isPair_p (by omega) hr
      have hR1 : ∀ R : Int32 → Prop, R 1 → wp_X10_isPair (gB v 42 1) R := fun R hr => by rw [g2]; exact rPair_p a2.2 hr
      exact ⟨_, _, hfl 2 (by decide), fun Q hQ => sf (by decide) (sf (by decide) (sf (by decide) (sf (by decide) (sq rfl (sq hmc (sf (by decide) (sf (by decide) (sf (by decide) (sf (by decide) (sq rfl (hC0 _ (sq rfl (hC1 _ (sf (by decide) hQ)))))))))))))), fun Q hQ => sf (by decide) (sf (by decide) (sf (by decide) (sf (by decide) (sf (by decide) (sq hmr (sf (by decide) (sf (by decide) (sf (by decide) (sf (by decide) (sq rfl (hR0 _ (sq rfl (hR1 _ (sf (by decide) (fails_ok h8 hQ)))))))))))))))⟩
theorem prim_14 {N : Nat → Nat} {r A T n t s C st w cnt u0 v0} {u v : St} {m : Nat} (hN : LN N n t) (h : Mh r A T n t C u v) (hW : Wt r A T t w cnt u v) (hR : Rest t s st 0 u0 v0 u v) (hm : m ≤ 8) (hu : gI u 606 = nI m) (hv : gI v 43 = nI m) (hx : ∀ k, k < m → ob r T (gB u 605 k) (gB v 42 k)) : PrimR N T n t s C st u0 v0 u v 14 := by
  have hn := hN.2.2.2.2.2.2.2.2.1
  have hT := h.1.2.2.2.2.1.2.2.2
  have hT18 := h.1.2.2.2.2.1.2.2.1
  have hT0 : 0 < T := by omega
  have hT1 : 1 < T := by omega
  have h8 := hR.2.1.2
  have h1 := h.1.1
  have hfl : ∀ f : Int32, f ≠ 0 → Res T n t s C st u0 v0 (sI u 609 f) (sI v 8 f) := fun f hf => fld_ok f hf h hR
  have hans : ∀ x y : Int64, ob r T x y → Res T n t s C st u0 v0 (sI (sJ u 614 x) 608 3) (sJ (sI v 39 2) 40 y) := fun x y ho => Or.inr (Or.inr (Or.inl ⟨r, A, w, cnt, h, hW, hR, rfl, rfl, ho⟩))
  by_cases hmw : m = 2
  case neg =>
    have hmc : ¬ gI u 606 = (2 : Int32) := by rw [hu]; exact fun e => hmw ((nI_eq (a := m) (b := 2) (by omega) (by omega)).mp e)
    have hmr : ¬ gI v 43 = (2 : Int32) := by rw [hv]; exact fun e => hmw ((nI_eq (a := m) (b := 2) (by omega) (by omega)).mp e)
    exact ⟨_, _, hfl 3 (by decide), fun Q hQ => sf (by decide) (sf (by decide) (sf (by decide) (sf (by decide) (sf (by decide) (sf (by decide) (sf (by decide) (sf hmc hQ))))))), fun Q hQ => sf (by decide) (sf (by decide) (sf (by decide) (sf (by decide) (sf (by decide) (sf hmr (fails_ok h8 hQ))))))⟩
  have hmc : gI u 606 = (2 : Int32) := by rw [hu, hmw]; rfl
  have hmr : gI v 43 = (2 : Int32) := by rw [hv, hmw]; rfl
  have o0 := hx 0 (by omega)
  have o1 := hx 1 (by omega)
  rcases id o0 with ⟨z, e1, e2⟩ | ⟨j, hj, e1, e2⟩ | ⟨c, d, hr, e1, e2⟩
  case inr.inl =>
    refine ⟨_, _, hfl 2 (by decide), fun Q hQ => sf (by decide) (sf (by decide) (sf (by decide) (sf (by decide) (sf (by decide) (sf (by decide) (sf (by decide) (sq hmc (sf (by decide) (sf (by decide) (sf (by decide) (sf (by decide) (sf (by decide) (sf (by decide) (sf (by decide) (?_))))))))))))))), fun Q hQ => sf (by decide) (sf (by decide) (sf (by decide) (sf (by decide) (sf (by decide) (sq hmr (sf (by decide) (sf (by decide) (sf (by decide) (sf (by decide) (sf (by decide) (sf (by decide) (sf (by decide) (?_)))))))))))))⟩
    · show wp_X8_isNumber (gB u 605 0) _
      rw [e1]; exact isNumber_a (by omega) (sq rfl hQ)
    · show wp_X10_isNumber (gB v 42 0) _
      rw [e2]; exact rNumber_a (by omega) (sq rfl (fails_ok h8 hQ))
  case inr.inr =>
    have a1 := h1.1 _ _ hr
    refine ⟨_, _, hfl 2 (by decide), fun Q hQ => sf (by decide) (sf (by decide) (sf (by decide) (sf (by decide) (sf (by decide) (sf (by decide) (sf (by decide) (sq hmc (sf (by decide) (sf (by decide) (sf (by decide) (sf (by decide) (sf (by decide) (sf (by decide) (sf (by decide) (?_))))))))))))))), fun Q hQ => sf (by decide) (sf (by decide) (sf (by decide) (sf (by decide) (sf (by decide) (sq hmr (sf (by decide) (sf (by decide) (sf (by decide) (sf (by decide) (sf (by decide) (sf (by decide) (sf (by decide) (?_)))))))))))))⟩
    · show wp_X8_isNumber (gB u 605 0) _
      rw [e1]; exact isNumber_p (by omega) (sq rfl hQ)
    · show wp_X10_isNumber (gB v 42 0) _
      rw [e2]; exact rNumber_p a1.2 (sq rfl (fails_ok h8 hQ))
  case inl =>
    have hC0 : ∀ R : Int32 → Prop, R 1 → wp_X8_isNumber (gB u 605 0) R := fun R hr => by rw [e1]; exact isNumber_n hr
    have hR0 : ∀ R : Int32 → Prop, R 1 → wp_X10_isNumber (gB v 42 0) R := fun R hr => by rw [e2]; exact rNumber_n hr
    rcases id o1 with ⟨z2, g1, g2⟩ | ⟨j2, hj2, g1, g2⟩ | ⟨c2, d2, hr2, g1, g2⟩
    · have hC1 : ∀ R : Int32 → Prop, R 1 → wp_X8_isNumber (gB u 605 1) R := fun R hr => by rw [g1]; exact isNumber_n hr
      have hR1 : ∀ R : Int32 → Prop, R 1 → wp_X10_isNumber (gB v 42 1) R := fun R hr => by rw [g2]; exact rNumber_n hr
      have i0 : (gB u 605 0).toInt32 = z := by rw [e1]; exact nC_back z
      have i1 : (gB u 605 1).toInt32 = z2 := by rw [g1]; exact nC_back z2
      have j0 : (gB v 42 0).toInt32 = z := by rw [e2]; exact nR_back z
      have j1 : (gB v 42 1).toInt32 = z2 := by rw [g2]; exact nR_back z2
      refine ⟨_, _, hans (nC (z + z2)) (nR (z + z2)) (Or.inl ⟨_, rfl, rfl⟩), fun Q hQ => sf (by decide) (sf (by decide) (sf (by decide) (sf (by decide) (sf (by decide) (sf (by decide) (sf (by decide) (sq hmc (sf (by decide) (sf (by decide) (sf (by decide) (sf (by decide) (sf (by decide) (sf (by decide) (sf (by decide) (hC0 _ (sf (by decide) (hC1 _ (sf (by decide) (sq rfl (?_)))))))))))))))))))), fun Q hQ => sf (by decide) (sf (by decide) (sf (by decide) (sf (by decide) (sf (by decide) (sq hmr (sf (by decide) (sf (by decide) (sf (by decide) (sf (by decide) (sf (by decide) (sf (by decide) (sf (by decide) (hR0 _ (sf (by decide) (hR1 _ (sf (by decide) (sq rfl (?_))))))))))))))))))⟩
      · show Q (sI (sJ u 614 (((gB u 605 0).toInt32 + (gB u 605 1).toInt32).toInt64)) 608 3)
        rw [i0, i1]; exact hQ
      · show Q (sJ (sI v 39 2) 40 (((gB v 42 0).toInt32 + (gB v 42 1).toInt32).toInt64 &&& (4294967295 : Int64)))
        rw [j0, j1]; exact hQ
    · have hC1 : ∀ R : Int32 → Prop, R 0 → wp_X8_isNumber (gB u 605 1) R := fun R hr => by rw [g1]; exact isNumber_a (by omega) hr
      have hR1 : ∀ R : Int32 → Prop, R 0 → wp_X10_isNumber (gB v 42 1) R := fun R hr => by rw [g2]; exact rNumber_a (by omega) hr
      exact ⟨_, _, hfl 2 (by decide), fun Q hQ => sf (by decide) (sf (by decide) (sf (by decide) (sf (by decide) (sf (by decide) (sf (by decide) (sf (by decide) (sq hmc (sf (by decide) (sf (by decide) (sf (by decide) (sf (by decide) (sf (by decide) (sf (by decide) (sf (by decide) (hC0 _ (sf (by decide) (hC1 _ (sq rfl hQ)))))))))))))))))), fun Q hQ => sf (by decide) (sf (by decide) (sf (by decide) (sf (by decide) (sf (by decide) (sq hmr (sf (by decide) (sf (by decide) (sf (by decide) (sf (by decide) (sf (by decide) (sf (by decide) (sf (by decide) (hR0 _ (sf (by decide) (hR1 _ (sq rfl (fails_ok h8 hQ)))))))))))))))))⟩
    · have a2 := h1.1 _ _ hr2
      have hC1 : ∀ R : Int32 → Prop, R 0 → wp_X8_isNumber (gB u 605 1) R := fun R hr => by rw [g1]; exact isNumber_p (by omega) hr
      have hR1 : ∀ R : Int32 → Prop, R 0 → wp_X10_isNumber (gB v 42 1) R := fun R hr => by rw [g2]; exact rNumber_p a2.2 hr
      exact ⟨_, _, hfl 2 (by decide), fun Q hQ => sf (by decide) (sf (by decide) (sf (by decide) (sf (by decide) (sf (by decide) (sf (by decide) (sf (by decide) (sq hmc (sf (by decide) (sf (by decide) (sf (by decide) (sf (by decide) (sf (by decide) (sf (by decide) (sf (by decide) (hC0 _ (sf (by decide) (hC1 _ (sq rfl hQ)))))))))))))))))), fun Q hQ => sf (by decide) (sf (by decide) (sf (by decide) (sf (by decide) (sf (by decide) (sq hmr (sf (by decide) (sf (by decide) (sf (by decide) (sf (by decide) (sf (by decide) (sf (by decide) (sf (by decide) (hR0 _ (sf (by decide) (hR1 _ (sq rfl (fails_ok h8 hQ)))))))))))))))))⟩
theorem prim_15 {N : Nat → Nat} {r A T n t s C st w cnt u0 v0} {u v : St} {m : Nat} (hN : LN N n t) (h : Mh r A T n t C u v) (hW : Wt r A T t w cnt u v) (hR : Rest t s st 0 u0 v0 u v) (hm : m ≤ 8) (hu : gI u 606 = nI m) (hv : gI v 43 = nI m) (hx : ∀ k, k < m → ob r T (gB u 605 k) (gB v 42 k)) : PrimR N T n t s C st u0 v0 u v 15 := by
  have hn := hN.2.2.2.2.2.2.2.2.1
  have hT := h.1.2.2.2.2.1.2.2.2
  have hT18 := h.1.2.2.2.2.1.2.2.1
  have hT0 : 0 < T := by omega
  have hT1 : 1 < T := by omega
  have h8 := hR.2.1.2
  have h1 := h.1.1
  have hfl : ∀ f : Int32, f ≠ 0 → Res T n t s C st u0 v0 (sI u 609 f) (sI v 8 f) := fun f hf => fld_ok f hf h hR
  have hans : ∀ x y : Int64, ob r T x y → Res T n t s C st u0 v0 (sI (sJ u 614 x) 608 3) (sJ (sI v 39 2) 40 y) := fun x y ho => Or.inr (Or.inr (Or.inl ⟨r, A, w, cnt, h, hW, hR, rfl, rfl, ho⟩))
  by_cases hmw : m = 2
  case neg =>
    have hmc : ¬ gI u 606 = (2 : Int32) := by rw [hu]; exact fun e => hmw ((nI_eq (a := m) (b := 2) (by omega) (by omega)).mp e)
    have hmr : ¬ gI v 43 = (2 : Int32) := by rw [hv]; exact fun e => hmw ((nI_eq (a := m) (b := 2) (by omega) (by omega)).mp e)
    exact ⟨_, _, hfl 3 (by decide), fun Q hQ => sf (by decide) (sf (by decide) (sf (by decide) (sf (by decide) (sf (by decide) (sf (by decide) (sf (by decide) (sf hmc hQ))))))), fun Q hQ => sf (by decide) (sf (by decide) (sf (by decide) (sf (by decide) (sf (by decide) (sf hmr (fails_ok h8 hQ))))))⟩
  have hmc : gI u 606 = (2 : Int32) := by rw [hu, hmw]; rfl
  have hmr : gI v 43 = (2 : Int32) := by rw [hv, hmw]; rfl
  have o0 := hx 0 (by omega)
  have o1 := hx 1 (by omega)
  rcases id o0 with ⟨z, e1, e2⟩ | ⟨j, hj, e1, e2⟩ | ⟨c, d, hr, e1, e2⟩
  case inr.inl =>
    refine ⟨_, _, hfl 2 (by decide), fun Q hQ => sf (by decide) (sf (by decide) (sf (by decide) (sf (by decide) (sf (by decide) (sf (by decide) (sf (by decide) (sq hmc (sf (by decide) (sf (by decide) (sf (by decide) (sf (by decide) (sf (by decide) (sf (by decide) (sf (by decide) (?_))))))))))))))), fun Q hQ => sf (by decide) (sf (by decide) (sf (by decide) (sf (by decide) (sf (by decide) (sq hmr (sf (by decide) (sf (by decide) (sf (by decide) (sf (by decide) (sf (by decide) (sf (by decide) (sf (by decide) (?_)))))))))))))⟩
    · show wp_X8_isNumber (gB u 605 0) _
      rw [e1]; exact isNumber_a (by omega) (sq rfl hQ)
    · show wp_X10_isNumber (gB v 42 0) _
      rw [e2]; exact rNumber_a (by omega) (sq rfl (fails_ok h8 hQ))
  case inr.inr =>
    have a1 := h1.1 _ _ hr
    refine ⟨_, _, hfl 2 (by decide), fun Q hQ => sf (by decide) (sf (by decide) (sf (by decide) (sf (by decide) (sf (by decide) (sf (by decide) (sf (by decide) (sq hmc (sf (by decide) (sf (by decide) (sf (by decide) (sf (by decide) (sf (by decide) (sf (by decide) (sf (by decide) (?_))))))))))))))), fun Q hQ => sf (by decide) (sf (by decide) (sf (by decide) (sf (by decide) (sf (by decide) (sq hmr (sf (by decide) (sf (by decide) (sf (by decide) (sf (by decide) (sf (by decide) (sf (by decide) (sf (by decide) (?_)))))))))))))⟩
    · show wp_X8_isNumber (gB u 605 0) _
      rw [e1]; exact isNumber_p (by omega) (sq rfl hQ)
    · show wp_X10_isNumber (gB v 42 0) _
      rw [e2]; exact rNumber_p a1.2 (sq rfl (fails_ok h8 hQ))
  case inl =>
    have hC0 : ∀ R : Int32 → Prop, R 1 → wp_X8_isNumber (gB u 605 0) R := fun R hr => by rw [e1]; exact isNumber_n hr
    have hR0 : ∀ R : Int32 → Prop, R 1 → wp_X10_isNumber (gB v 42 0) R := fun R hr => by rw [e2]; exact rNumber_n hr
    rcases id o1 with ⟨z2, g1, g2⟩ | ⟨j2, hj2, g1, g2⟩ | ⟨c2, d2, hr2, g1, g2⟩
    · have hC1 : ∀ R : Int32 → Prop, R 1 → wp_X8_isNumber (gB u 605 1) R := fun R hr => by rw [g1]; exact isNumber_n hr
      have hR1 : ∀ R : Int32 → Prop, R 1 → wp_X10_isNumber (gB v 42 1) R := fun R hr => by rw [g2]; exact rNumber_n hr
      have i0 : (gB u 605 0).toInt32 = z := by rw [e1]; exact nC_back z
      have i1 : (gB u 605 1).toInt32 = z2 := by rw [g1]; exact nC_back z2
      have j0 : (gB v 42 0).toInt32 = z := by rw [e2]; exact nR_back z
      have j1 : (gB v 42 1).toInt32 = z2 := by rw [g2]; exact nR_back z2
      refine ⟨_, _, hans (nC (z - z2)) (nR (z - z2)) (Or.inl ⟨_, rfl, rfl⟩), fun Q hQ => sf (by decide) (sf (by decide) (sf (by decide) (sf (by decide) (sf (by decide) (sf (by decide) (sf (by decide) (sq hmc (sf (by decide) (sf (by decide) (sf (by decide) (sf (by decide) (sf (by decide) (sf (by decide) (sf (by decide) (hC0 _ (sf (by decide) (hC1 _ (sf (by decide) (sf (by decide) (sq rfl (?_))))))))))))))))))))), fun Q hQ => sf (by decide) (sf (by decide) (sf (by decide) (sf (by decide) (sf (by decide) (sq hmr (sf (by decide) (sf (by decide) (sf (by decide) (sf (by decide) (sf (by decide) (sf (by decide) (sf (by decide) (hR0 _ (sf (by decide) (hR1 _ (sf (by decide) (sf (by decide) (sq rfl (?_)))))))))))))))))))⟩
      · show Q (sI (sJ u 614 (((gB u 605 0).toInt32 - (gB u 605 1).toInt32).toInt64)) 608 3)
        rw [i0, i1]; exact hQ
      · show Q (sJ (sI v 39 2) 40 (((gB v 42 0).toInt32 - (gB v 42 1).toInt32).toInt64 &&& (4294967295 : Int64)))
        rw [j0, j1]; exact hQ
    · have hC1 : ∀ R : Int32 → Prop, R 0 → wp_X8_isNumber (gB u 605 1) R := fun R hr => by rw [g1]; exact isNumber_a (by omega) hr
      have hR1 : ∀ R : Int32 → Prop, R 0 → wp_X10_isNumber (gB v 42 1) R := fun R hr => by rw [g2]; exact rNumber_a (by omega) hr
      exact ⟨_, _, hfl 2 (by decide), fun Q hQ => sf (by decide) (sf (by decide) (sf (by decide) (sf (by decide) (sf (by decide) (sf (by decide) (sf (by decide) (sq hmc (sf (by decide) (sf (by decide) (sf (by decide) (sf (by decide) (sf (by decide) (sf (by decide) (sf (by decide) (hC0 _ (sf (by decide) (hC1 _ (sq rfl hQ)))))))))))))))))), fun Q hQ => sf (by decide) (sf (by decide) (sf (by decide) (sf (by decide) (sf (by decide) (sq hmr (sf (by decide) (sf (by decide) (sf (by decide) (sf (by decide) (sf (by decide) (sf (by decide) (sf (by decide) (hR0 _ (sf (by decide) (hR1 _ (sq rfl (fails_ok h8 hQ)))))))))))))))))⟩
    · have a2 := h1.1 _ _ hr2
      have hC1 : ∀ R : Int32 → Prop, R 0 → wp_X8_isNumber (gB u 605 1) R := fun R hr => by rw [g1]; exact isNumber_p (by omega) hr
      have hR1 : ∀ R : Int32 → Prop, R 0 → wp_X10_isNumber (gB v 42 1) R := fun R hr => by rw [g2]; exact rNumber_p a2.2 hr
      exact ⟨_, _, hfl 2 (by decide), fun Q hQ => sf (by decide) (sf (by decide) (sf (by decide) (sf (by decide) (sf (by decide) (sf (by decide) (sf (by decide) (sq hmc (sf (by decide) (sf (by decide) (sf (by decide) (sf (by decide) (sf (by decide) (sf (by decide) (sf (by decide) (hC0 _ (sf (by decide) (hC1 _ (sq rfl hQ)))))))))))))))))), fun Q hQ => sf (by decide) (sf (by decide) (sf (by decide) (sf (by decide) (sf (by decide) (sq hmr (sf (by decide) (sf (by decide) (sf (by decide) (sf (by decide) (sf (by decide) (sf (by decide) (sf (by decide) (hR0 _ (sf (by decide) (hR1 _ (sq rfl (fails_ok h8 hQ)))))))))))))))))⟩
theorem prim_16 {N : Nat → Nat} {r A T n t s C st w cnt u0 v0} {u v : St} {m : Nat} (hN : LN N n t) (h : Mh r A T n t C u v) (hW : Wt r A T t w cnt u v) (hR : Rest t s st 0 u0 v0 u v) (hm : m ≤ 8) (hu : gI u 606 = nI m) (hv : gI v 43 = nI m) (hx : ∀ k, k < m → ob r T (gB u 605 k) (gB v 42 k)) : PrimR N T n t s C st u0 v0 u v 16 := by
  have hn := hN.2.2.2.2.2.2.2.2.1
  have hT := h.1.2.2.2.2.1.2.2.2
  have hT18 := h.1.2.2.2.2.1.2.2.1
  have hT0 : 0 < T := by omega
  have hT1 : 1 < T := by omega
  have h8 := hR.2.1.2
  have h1 := h.1.1
  have hfl : ∀ f : Int32, f ≠ 0 → Res T n t s C st u0 v0 (sI u 609 f) (sI v 8 f) := fun f hf => fld_ok f hf h hR
  have hans : ∀ x y : Int64, ob r T x y → Res T n t s C st u0 v0 (sI (sJ u 614 x) 608 3) (sJ (sI v 39 2) 40 y) := fun x y ho => Or.inr (Or.inr (Or.inl ⟨r, A, w, cnt, h, hW, hR, rfl, rfl, ho⟩))
  by_cases hmw : m = 2
  case neg =>
    have hmc : ¬ gI u 606 = (2 : Int32) := by rw [hu]; exact fun e => hmw ((nI_eq (a := m) (b := 2) (by omega) (by omega)).mp e)
    have hmr : ¬ gI v 43 = (2 : Int32) := by rw [hv]; exact fun e => hmw ((nI_eq (a := m) (b := 2) (by omega) (by omega)).mp e)
    exact ⟨_, _, hfl 3 (by decide), fun Q hQ => sf (by decide) (sf (by decide) (sf (by decide) (sf (by decide) (sf (by decide) (sf (by decide) (sf (by decide) (sf hmc hQ))))))), fun Q hQ => sf (by decide) (sf (by decide) (sf (by decide) (sf (by decide) (sf (by decide) (sf hmr (fails_ok h8 hQ))))))⟩
  have hmc : gI u 606 = (2 : Int32) := by rw [hu, hmw]; rfl
  have hmr : gI v 43 = (2 : Int32) := by rw [hv, hmw]; rfl
  have o0 := hx 0 (by omega)
  have o1 := hx 1 (by omega)
  rcases id o0 with ⟨z, e1, e2⟩ | ⟨j, hj, e1, e2⟩ | ⟨c, d, hr, e1, e2⟩
  case inr.inl =>
    refine ⟨_, _, hfl 2 (by decide), fun Q hQ => sf (by decide) (sf (by decide) (sf (by decide) (sf (by decide) (sf (by decide) (sf (by decide) (sf (by decide) (sq hmc (sf (by decide) (sf (by decide) (sf (by decide) (sf (by decide) (sf (by decide) (sf (by decide) (sf (by decide) (?_))))))))))))))), fun Q hQ => sf (by decide) (sf (by decide) (sf (by decide) (sf (by decide) (sf (by decide) (sq hmr (sf (by decide) (sf (by decide) (sf (by decide) (sf (by decide) (sf (by decide) (sf (by decide) (sf (by decide) (?_)))))))))))))⟩
    · show wp_X8_isNumber (gB u 605 0) _
      rw [e1]; exact isNumber_a (by omega) (sq rfl hQ)
    · show wp_X10_isNumber (gB v 42 0) _
      rw [e2]; exact rNumber_a (by omega) (sq rfl (fails_ok h8 hQ))
  case inr.inr =>
    have a1 := h1.1 _ _ hr
    refine ⟨_, _, hfl 2 (by decide), fun Q hQ => sf (by decide) (sf (by decide) (sf (by decide) (sf (by decide) (sf (by decide) (sf (by decide) (sf (by decide) (sq hmc (sf (by decide) (sf (by decide) (sf (by decide) (sf (by decide) (sf (by decide) (sf (by decide) (sf (by decide) (?_))))))))))))))), fun Q hQ => sf (by decide) (sf (by decide) (sf (by decide) (sf (by decide) (sf (by decide) (sq hmr (sf (by decide) (sf (by decide) (sf (by decide) (sf (by decide) (sf (by decide) (sf (by decide) (sf (by decide) (?_)))))))))))))⟩
    · show wp_X8_isNumber (gB u 605 0) _
      rw [e1]; exact isNumber_p (by omega) (sq rfl hQ)
    · show wp_X10_isNumber (gB v 42 0) _
      rw [e2]; exact rNumber_p a1.2 (sq rfl (fails_ok h8 hQ))
  case inl =>
    have hC0 : ∀ R : Int32 → Prop, R 1 → wp_X8_isNumber (gB u 605 0) R := fun R hr => by rw [e1]; exact isNumber_n hr
    have hR0 : ∀ R : Int32 → Prop, R 1 → wp_X10_isNumber (gB v 42 0) R := fun R hr => by rw [e2]; exact rNumber_n hr
    rcases id o1 with ⟨z2, g1, g2⟩ | ⟨j2, hj2, g1, g2⟩ | ⟨c2, d2, hr2, g1, g2⟩
    · have hC1 : ∀ R : Int32 → Prop, R 1 → wp_X8_isNumber (gB u 605 1) R := fun R hr => by rw [g1]; exact isNumber_n hr
      have hR1 : ∀ R : Int32 → Prop, R 1 → wp_X10_isNumber (gB v 42 1) R := fun R hr => by rw [g2]; exact rNumber_n hr
      have i0 : (gB u 605 0).toInt32 = z := by rw [e1]; exact nC_back z
      have i1 : (gB u 605 1).toInt32 = z2 := by rw [g1]; exact nC_back z2
      have j0 : (gB v 42 0).toInt32 = z := by rw [e2]; exact nR_back z
      have j1 : (gB v 42 1).toInt32 = z2 := by rw [g2]; exact nR_back z2
      refine ⟨_, _, hans (nC (z * z2)) (nR (z * z2)) (Or.inl ⟨_, rfl, rfl⟩), fun Q hQ => sf (by decide) (sf (by decide) (sf (by decide) (sf (by decide) (sf (by decide) (sf (by decide) (sf (by decide) (sq hmc (sf (by decide) (sf (by decide) (sf (by decide) (sf (by decide) (sf (by decide) (sf (by decide) (sf (by decide) (hC0 _ (sf (by decide) (hC1 _ (sf (by decide) (sf (by decide) (sf (by decide) (sq rfl (?_)))))))))))))))))))))), fun Q hQ => sf (by decide) (sf (by decide) (sf (by decide) (sf (by decide) (sf (by decide) (sq hmr (sf (by decide) (sf (by decide) (sf (by decide) (sf (by decide) (sf (by decide) (sf (by decide) (sf (by decide) (hR0 _ (sf (by decide) (hR1 _ (sf (by decide) (sf (by decide) (sf (by decide) (sq rfl (?_))))))))))))))))))))⟩
      · show Q (sI (sJ u 614 (((gB u 605 0).toInt32 * (gB u 605 1).toInt32).toInt64)) 608 3)
        rw [i0, i1]; exact hQ
      · show Q (sJ (sI v 39 2) 40 (((gB v 42 0).toInt32 * (gB v 42 1).toInt32).toInt64 &&& (4294967295 : Int64)))
        rw [j0, j1]; exact hQ
    · have hC1 : ∀ R : Int32 → Prop, R 0 → wp_X8_isNumber (gB u 605 1) R := fun R hr => by rw [g1]; exact isNumber_a (by omega) hr
      have hR1 : ∀ R : Int32 → Prop, R 0 → wp_X10_isNumber (gB v 42 1) R := fun R hr => by rw [g2]; exact rNumber_a (by omega) hr
      exact ⟨_, _, hfl 2 (by decide), fun Q hQ => sf (by decide) (sf (by decide) (sf (by decide) (sf (by decide) (sf (by decide) (sf (by decide) (sf (by decide) (sq hmc (sf (by decide) (sf (by decide) (sf (by decide) (sf (by decide) (sf (by decide) (sf (by decide) (sf (by decide) (hC0 _ (sf (by decide) (hC1 _ (sq rfl hQ)))))))))))))))))), fun Q hQ => sf (by decide) (sf (by decide) (sf (by decide) (sf (by decide) (sf (by decide) (sq hmr (sf (by decide) (sf (by decide) (sf (by decide) (sf (by decide) (sf (by decide) (sf (by decide) (sf (by decide) (hR0 _ (sf (by decide) (hR1 _ (sq rfl (fails_ok h8 hQ)))))))))))))))))⟩
    · have a2 := h1.1 _ _ hr2
      have hC1 : ∀ R : Int32 → Prop, R 0 → wp_X8_isNumber (gB u 605 1) R := fun R hr => by rw [g1]; exact isNumber_p (by omega) hr
      have hR1 : ∀ R : Int32 → Prop, R 0 → wp_X10_isNumber (gB v 42 1) R := fun R hr => by rw [g2]; exact rNumber_p a2.2 hr
      exact ⟨_, _, hfl 2 (by decide), fun Q hQ => sf (by decide) (sf (by decide) (sf (by decide) (sf (by decide) (sf (by decide) (sf (by decide) (sf (by decide) (sq hmc (sf (by decide) (sf (by decide) (sf (by decide) (sf (by decide) (sf (by decide) (sf (by decide) (sf (by decide) (hC0 _ (sf (by decide) (hC1 _ (sq rfl hQ)))))))))))))))))), fun Q hQ => sf (by decide) (sf (by decide) (sf (by decide) (sf (by decide) (sf (by decide) (sq hmr (sf (by decide) (sf (by decide) (sf (by decide) (sf (by decide) (sf (by decide) (sf (by decide) (sf (by decide) (hR0 _ (sf (by decide) (hR1 _ (sq rfl (fails_ok h8 hQ)))))))))))))))))⟩
theorem prim_17 {N : Nat → Nat} {r A T n t s C st w cnt u0 v0} {u v : St} {m : Nat} (hN : LN N n t) (h : Mh r A T n t C u v) (hW : Wt r A T t w cnt u v) (hR : Rest t s st 0 u0 v0 u v) (hm : m ≤ 8) (hu : gI u 606 = nI m) (hv : gI v 43 = nI m) (hx : ∀ k, k < m → ob r T (gB u 605 k) (gB v 42 k)) : PrimR N T n t s C st u0 v0 u v 17 := by
  have hn := hN.2.2.2.2.2.2.2.2.1
  have hT := h.1.2.2.2.2.1.2.2.2
  have hT18 := h.1.2.2.2.2.1.2.2.1
  have hT0 : 0 < T := by omega
  have hT1 : 1 < T := by omega
  have h8 := hR.2.1.2
  have h1 := h.1.1
  have hfl : ∀ f : Int32, f ≠ 0 → Res T n t s C st u0 v0 (sI u 609 f) (sI v 8 f) := fun f hf => fld_ok f hf h hR
  have hans : ∀ x y : Int64, ob r T x y → Res T n t s C st u0 v0 (sI (sJ u 614 x) 608 3) (sJ (sI v 39 2) 40 y) := fun x y ho => Or.inr (Or.inr (Or.inl ⟨r, A, w, cnt, h, hW, hR, rfl, rfl, ho⟩))
  by_cases hmw : m = 2
  case neg =>
    have hmc : ¬ gI u 606 = (2 : Int32) := by rw [hu]; exact fun e => hmw ((nI_eq (a := m) (b := 2) (by omega) (by omega)).mp e)
    have hmr : ¬ gI v 43 = (2 : Int32) := by rw [hv]; exact fun e => hmw ((nI_eq (a := m) (b := 2) (by omega) (by omega)).mp e)
    exact ⟨_, _, hfl 3 (by decide), fun Q hQ => sf (by decide) (sf (by decide) (sf (by decide) (sf (by decide) (sf (by decide) (sf (by decide) (sf (by decide) (sf hmc hQ))))))), fun Q hQ => sf (by decide) (sf (by decide) (sf (by decide) (sf (by decide) (sf (by decide) (sf hmr (fails_ok h8 hQ))))))⟩
  have hmc : gI u 606 = (2 : Int32) := by rw [hu, hmw]; rfl
  have hmr : gI v 43 = (2 : Int32) := by rw [hv, hmw]; rfl
  have o0 := hx 0 (by omega)
  have o1 := hx 1 (by omega)
  rcases id o0 with ⟨z, e1, e2⟩ | ⟨j, hj, e1, e2⟩ | ⟨c, d, hr, e1, e2⟩
  case inr.inl =>
    refine ⟨_, _, hfl 2 (by decide), fun Q hQ => sf (by decide) (sf (by decide) (sf (by decide) (sf (by decide) (sf (by decide) (sf (by decide) (sf (by decide) (sq hmc (sf (by decide) (sf (by decide) (sf (by decide) (sf (by decide) (sf (by decide) (sf (by decide) (sf (by decide) (?_))))))))))))))), fun Q hQ => sf (by decide) (sf (by decide) (sf (by decide) (sf (by decide) (sf (by decide) (sq hmr (sf (by decide) (sf (by decide) (sf (by decide) (sf (by decide) (sf (by decide) (sf (by decide) (sf (by decide) (?_)))))))))))))⟩
    · show wp_X8_isNumber (gB u 605 0) _
      rw [e1]; exact isNumber_a (by omega) (sq rfl hQ)
    · show wp_X10_isNumber (gB v 42 0) _
      rw [e2]; exact rNumber_a (by omega) (sq rfl (fails_ok h8 hQ))
  case inr.inr =>
    have a1 := h1.1 _ _ hr
    refine ⟨_, _, hfl 2 (by decide), fun Q hQ => sf (by decide) (sf (by decide) (sf (by decide) (sf (by decide) (sf (by decide) (sf (by decide) (sf (by decide) (sq hmc (sf (by decide) (sf (by decide) (sf (by decide) (sf (by decide) (sf (by decide) (sf (by decide) (sf (by decide) (?_))))))))))))))), fun Q hQ => sf (by decide) (sf (by decide) (sf (by decide) (sf (by decide) (sf (by decide) (sq hmr (sf (by decide) (sf (by decide) (sf (by decide) (sf (by decide) (sf (by decide) (sf (by decide) (sf (by decide) (?_)))))))))))))⟩
    · show wp_X8_isNumber (gB u 605 0) _
      rw [e1]; exact isNumber_p (by omega) (sq rfl hQ)
    · show wp_X10_isNumber (gB v 42 0) _
      rw [e2]; exact rNumber_p a1.2 (sq rfl (fails_ok h8 hQ))
  case inl =>
    have hC0 : ∀ R : Int32 → Prop, R 1 → wp_X8_isNumber (gB u 605 0) R := fun R hr => by rw [e1]; exact isNumber_n hr
    have hR0 : ∀ R : Int32 → Prop, R 1 → wp_X10_isNumber (gB v 42 0) R := fun R hr => by rw [e2]; exact rNumber_n hr
    rcases id o1 with ⟨z2, g1, g2⟩ | ⟨j2, hj2, g1, g2⟩ | ⟨c2, d2, hr2, g1, g2⟩
    · have hC1 : ∀ R : Int32 → Prop, R 1 → wp_X8_isNumber (gB u 605 1) R := fun R hr => by rw [g1]; exact isNumber_n hr
      have hR1 : ∀ R : Int32 → Prop, R 1 → wp_X10_isNumber (gB v 42 1) R := fun R hr => by rw [g2]; exact rNumber_n hr
      have i0 : (gB u 605 0).toInt32 = z := by rw [e1]; exact nC_back z
      have i1 : (gB u 605 1).toInt32 = z2 := by rw [g1]; exact nC_back z2
      have j0 : (gB v 42 0).toInt32 = z := by rw [e2]; exact nR_back z
      have j1 : (gB v 42 1).toInt32 = z2 := by rw [g2]; exact nR_back z2
      by_cases hz : z2 ≤ z
      · refine ⟨_, _, hans _ _ (ob_a hT0), fun Q hQ => sf (by decide) (sf (by decide) (sf (by decide) (sf (by decide) (sf (by decide) (sf (by decide) (sf (by decide) (sq hmc (sf (by decide) (sf (by decide) (sf (by decide) (sf (by decide) (sf (by decide) (sf (by decide) (sf (by decide) (hC0 _ (sf (by decide) (hC1 _ (sf (by decide) (sf (by decide) (sf (by decide) (sf (by decide) (sq ?_ (sq rfl hQ))))))))))))))))))))))), fun Q hQ => sf (by decide) (sf (by decide) (sf (by decide) (sf (by decide) (sf (by decide) (sq hmr (sf (by decide) (sf (by decide) (sf (by decide) (sf (by decide) (sf (by decide) (sf (by decide) (sf (by decide) (hR0 _ (sf (by decide) (hR1 _ (sf (by decide) (sf (by decide) (sf (by decide) (sf (by decide) (sq ?_ hQ))))))))))))))))))))⟩
        · show (gB u 605 1).toInt32 ≤ (gB u 605 0).toInt32
          rw [i0, i1]; exact hz
        · show (gB v 42 1).toInt32 ≤ (gB v 42 0).toInt32
          rw [j0, j1]; exact hz
      · refine ⟨_, _, hans _ _ (ob_a hT1), fun Q hQ => sf (by decide) (sf (by decide) (sf (by decide) (sf (by decide) (sf (by decide) (sf (by decide) (sf (by decide) (sq hmc (sf (by decide) (sf (by decide) (sf (by decide) (sf (by decide) (sf (by decide) (sf (by decide) (sf (by decide) (hC0 _ (sf (by decide) (hC1 _ (sf (by decide) (sf (by decide) (sf (by decide) (sf (by decide) (sf ?_ (sf (by decide) hQ))))))))))))))))))))))), fun Q hQ => sf (by decide) (sf (by decide) (sf (by decide) (sf (by decide) (sf (by decide) (sq hmr (sf (by decide) (sf (by decide) (sf (by decide) (sf (by decide) (sf (by decide) (sf (by decide) (sf (by decide) (hR0 _ (sf (by decide) (hR1 _ (sf (by decide) (sf (by decide) (sf (by decide) (sf (by decide) (sf ?_ hQ))))))))))))))))))))⟩
        · show ¬ (gB u 605 1).toInt32 ≤ (gB u 605 0).toInt32
          rw [i0, i1]; exact hz
        · show ¬ (gB v 42 1).toInt32 ≤ (gB v 42 0).toInt32
          rw [j0, j1]; exact hz
    · have hC1 : ∀ R : Int32 → Prop, R 0 → wp_X8_isNumber (gB u 605 1) R := fun R hr => by rw [g1]; exact isNumber_a (by omega) hr
      have hR1 : ∀ R : Int32 → Prop, R 0 → wp_X10_isNumber (gB v 42 1) R := fun R hr => by rw [g2]; exact rNumber_a (by omega) hr
      exact ⟨_, _, hfl 2 (by decide), fun Q hQ => sf (by decide) (sf (by decide) (sf (by decide) (sf (by decide) (sf (by decide) (sf (by decide) (sf (by decide) (sq hmc (sf (by decide) (sf (by decide) (sf (by decide) (sf (by decide) (sf (by decide) (sf (by decide) (sf (by decide) (hC0 _ (sf (by decide) (hC1 _ (sq rfl hQ)))))))))))))))))), fun Q hQ => sf (by decide) (sf (by decide) (sf (by decide) (sf (by decide) (sf (by decide) (sq hmr (sf (by decide) (sf (by decide) (sf (by decide) (sf (by decide) (sf (by decide) (sf (by decide) (sf (by decide) (hR0 _ (sf (by decide) (hR1 _ (sq rfl (fails_ok h8 hQ)))))))))))))))))⟩
    · have a2 := h1.1 _ _ hr2
      have hC1 : ∀ R : Int32 → Prop, R 0 → wp_X8_isNumber (gB u 605 1) R := fun R hr => by rw [g1]; exact isNumber_p (by omega) hr
      have hR1 : ∀ R : Int32 → Prop, R 0 → wp_X10_isNumber (gB v 42 1) R := fun R hr => by rw [g2]; exact rNumber_p a2.2 hr
      exact ⟨_, _, hfl 2 (by decide), fun Q hQ => sf (by decide) (sf (by decide) (sf (by decide) (sf (by decide) (sf (by decide) (sf (by decide) (sf (by decide) (sq hmc (sf (by decide) (sf (by decide) (sf (by decide) (sf (by decide) (sf (by decide) (sf (by decide) (sf (by decide) (hC0 _ (sf (by decide) (hC1 _ (sq rfl hQ)))))))))))))))))), fun Q hQ => sf (by decide) (sf (by decide) (sf (by decide) (sf (by decide) (sf (by decide) (sq hmr (sf (by decide) (sf (by decide) (sf (by decide) (sf (by decide) (sf (by decide) (sf (by decide) (sf (by decide) (hR0 _ (sf (by decide) (hR1 _ (sq rfl (fails_ok h8 hQ)))))))))))))))))⟩
theorem prim_9 {N : Nat → Nat} {r A T n t s C st w cnt u0 v0} {u v : St} {m : Nat} (hN : LN N n t) (h : Mh r A T n t C u v) (hW : Wt r A T t w cnt u v) (hR : Rest t s st 0 u0 v0 u v) (hm : m ≤ 8) (hu : gI u 606 = nI m) (hv : gI v 43 = nI m) (hx : ∀ k, k < m → ob r T (gB u 605 k) (gB v 42 k)) (hC : C + 1 < 2 ^ 30) : PrimR N T n t s (C + 1) st u0 v0 u v 9 := by
  have hn := hN.2.2.2.2.2.2.2.2.1
  have hT := h.1.2.2.2.2.1.2.2.2
  have hT18 := h.1.2.2.2.2.1.2.2.1
  have hT0 : 0 < T := by omega
  have hT1 : 1 < T := by omega
  have h8 := hR.2.1.2
  have h1 := h.1.1
  have hfl : ∀ f : Int32, f ≠ 0 → Res T n t s (C + 1) st u0 v0 (sI u 609 f) (sI v 8 f) := fun f hf => Res_mono (fld_ok f hf h hR) (Nat.le_succ _)
  by_cases hmw : m = 2
  case neg =>
    have hmc : ¬ gI u 606 = (2 : Int32) := by rw [hu]; exact fun e => hmw ((nI_eq (a := m) (b := 2) (by omega) (by omega)).mp e)
    have hmr : ¬ gI v 43 = (2 : Int32) := by rw [hv]; exact fun e => hmw ((nI_eq (a := m) (b := 2) (by omega) (by omega)).mp e)
    exact ⟨_, _, hfl 3 (by decide), fun Q hQ => sf (by decide) (sf (by decide) (sq rfl (sf hmc hQ))), fun Q hQ => sf (by decide) (sf (by decide) (sf (by decide) (sf (by decide) (sf (by decide) (sf hmr (fails_ok h8 hQ))))))⟩
  have hmc : gI u 606 = (2 : Int32) := by rw [hu, hmw]; rfl
  have hmr : gI v 43 = (2 : Int32) := by rw [hv, hmw]; rfl
  have o0 := hx 0 (by omega)
  have o1 := hx 1 (by omega)
  obtain ⟨⟨FL, hF, hdis⟩, ⟨R, hRI, hRc⟩, hG⟩ := h.2
  obtain ⟨t1, t2, _, _⟩ := h.1.2.2.2.2.1
  obtain ⟨w1, w2, w3, w4⟩ := id hW
  have ht := hN.2.2.2.2.2.2.2.2.2.1
  have y0 : wd (gB v 42 0) := ob_wd hT h1.1 o0
  have y1 : wd (gB v 42 1) := ob_wd hT h1.1 o1
  obtain ⟨b1, H1, ho1, p1⟩ := holdWaiting_ex (T := T) t2 hT (Core_g h.1) w2 (by omega) (Wt_wd h.1 hW) h.1.2.2.2.1
  obtain ⟨b, HLb, kb, ho2, p2⟩ := hold2_ex ho1 y0 y1
  have ho3 : Ho v (rtB v T cnt w 2 (aR 0) (aR 0)) b HLb kb := Ho_cg ho2 (fun d hd => ⟨fun hq => by
    rcases hq with (hq | e) | e
    · exact Or.inl hq
    · exact Or.inr (Or.inr (Or.inr ⟨0, by omega, e⟩))
    · exact Or.inr (Or.inr (Or.inr ⟨1, by omega, e⟩)), fun hq => by
    rcases hq with hq | e | e | ⟨k, hk, e⟩
    · exact Or.inl (Or.inl hq)
    · exact absurd e (pR_ne_a hd (by omega))
    · exact absurd e (pR_ne_a hd (by omega))
    · have hk2 : k = 0 ∨ k = 1 := by omega
      rcases hk2 with rfl | rfl
      · exact Or.inl (Or.inr e)
      · exact Or.inr e⟩)
  have hd := hasRoom_21_ex (k := 1) (m := 2) (x := aC 0) (y := aC 0) hN hRI (by omega) hF t1 hT w1 w3 (by omega) (by omega)
  have hv2 : ∀ k, k < 2 → ob r T (gB u 605 k) (gB v 42 k) := fun k hk => hx k (by omega)
  obtain ⟨u1, v1, HL, R1, g1, g2, g3, g4, g5, g6, g7, g8, g9⟩ := room_gen h.1 hn hW (ob_a hT0) (ob_a hT0) hv2 hF hdis hRI (by omega) h8 hd ho3
  have hCl : ∀ Q : St → Prop, wp_X1_hasRoom_21 N (nI 1) (nI 2) (aC 0) (aC 0) u (fun (r1 : Int32) (u2 : St) => ((r1 = 0 → Q (sI u2 609 (6 : Int32))) ∧ (¬ r1 = 0 → wp_X0_newPair N (gB u2 605 0) (gB u2 605 1) u2 (fun (r3 : Int64) (u4 : St) => wp_X2_answer N r3 u4 (fun (u5 : St) => Q u5))))) → wp_X2_applyBuiltIn N (nI 9) u Q := fun Q hQ => sf (by decide) (sf (by decide) (sq rfl (sq hmc (sf (by decide) (sf (by decide) (sq rfl (hQ)))))))
  have hRe : ∀ Q : St → Prop, wp_X10_room (nI 1) b (fun (r38 : Int32) (u39 : St) => ((r38 = 0 → Q u39) ∧ (¬ r38 = 0 → wp_X10_pair (gB v 42 0) (gB v 42 1) u39 (fun (r40 : Int64) (u41 : St) => wp_X10_gives r40 u41 (fun (u42 : St) => Q u42))))) → wp_X10_primitive (nI 9) v Q := fun Q hQ => sf (by decide) (sf (by decide) (sf (by decide) (sf (by decide) (sf (by decide) (sq hmr (sf (by decide) (sf (by decide) (sq rfl (p1 _ (p2 _ hQ))))))))))
  have hG1 : Gr t u1 v1 := by
    obtain ⟨g, q1, q2, q3⟩ := hG
    exact ⟨g, by rw [g3.1 304 (by decide) (by decide) (by decide)]; exact q1, by rw [g4.1 10 (by decide) (by decide)]; exact q2, q3⟩
  have hR1 := Rest_K hR g3 g4
  rcases g9 with ⟨hrd, q1, q2⟩ | ⟨q1, q2⟩
  · have oo0 := g8 _ _ o0 (Or.inr (Or.inr (Or.inr ⟨0, by omega, rfl⟩)))
    have oo1 := g8 _ _ o1 (Or.inr (Or.inr (Or.inr ⟨1, by omega, rfl⟩)))
    obtain ⟨c0, d0, u2, v2, k1, k2, k3, k4, k5, k6, k7, k8, k9, k10, k11, k12⟩ := alloc1 (k := 0) False hN g6 g7 hrd oo0 oo1 (fun hh => hh.elim)
    have hR2 := Rest_N hR1 k8 k9
    have hG2 : Gr t u2 v2 := by
      obtain ⟨g, q1, q2, q3⟩ := hG1
      exact ⟨g, by rw [k8.1 304 (by decide)]; exact q1, by rw [k9.1 10]; exact q2, q3⟩
    have hM2 : Mh (new (cut r HL) c0 d0) (newA A d0 False) T n t (C + 1) u2 v2 := ⟨k5, k7.1.elim (fun F hF2 => ⟨F, hF2.1, hF2.2.1⟩), ⟨R1, by
      unfold RI
      rw [k8.1 806 (by decide), k8.2.2.1 802]
      exact g2, by omega⟩, hG2⟩
    refine ⟨sI (sJ u2 614 (pC c0)) 608 3, sJ (sI v2 39 2) 40 (pR d0), Or.inr (Or.inr (Or.inl ⟨_, _, w, cnt, hM2, k6, hR2, rfl, rfl, Or.inr (Or.inr ⟨c0, d0, Or.inr ⟨rfl, rfl⟩, rfl, rfl⟩)⟩)), fun Q hQ => hCl Q (q1 _ (sf (by decide) ?_)), fun Q hQ => hRe Q (q2 _ (sf (by decide) (k12 _ hQ)))⟩
    show wp_X0_newPair N (gB u1 605 0) (gB u1 605 1) u1 _
    rw [g3.2.2.2 605 (by decide) (by decide)]
    exact k11 _ hQ
  · refine ⟨sI u1 609 6, sI v1 8 6, Or.inr (Or.inr (Or.inr ⟨cut r HL, A, 6, by decide, ⟨g6, g5, ⟨R1, g2, by omega⟩, hG1⟩, hR1.1, ⟨rfl, rfl⟩, hR1.2.2⟩)), fun Q hQ => hCl Q (q1 _ (sq rfl hQ)), fun Q hQ => hRe Q (q2 _ (sq rfl hQ))⟩
theorem prim_step {N : Nat → Nat} {r A T n t s C st w cnt u0 v0} {u v : St} {m : Nat} (hN : LN N n t) (h : Mh r A T n t C u v) (hW : Wt r A T t w cnt u v) (hR : Rest t s st 0 u0 v0 u v) (hm : m ≤ 8) (hu : gI u 606 = nI m) (hv : gI v 43 = nI m) (hx : ∀ k, k < m → ob r T (gB u 605 k) (gB v 42 k)) (hC : C + 1 < 2 ^ 30) {k : Nat} (h7 : 7 ≤ k) (h17 : k ≤ 17) : PrimR N T n t s (C + 1) st u0 v0 u v k := by
  have hup : ∀ j, PrimR N T n t s C st u0 v0 u v j → PrimR N T n t s (C + 1) st u0 v0 u v j := fun j ⟨u1, v1, a, b⟩ => ⟨u1, v1, Res_mono a (Nat.le_succ _), b⟩
  have hk : k = 7 ∨ k = 8 ∨ k = 9 ∨ k = 10 ∨ k = 11 ∨ k = 12 ∨ k = 13 ∨ k = 14 ∨ k = 15 ∨ k = 16 ∨ k = 17 := by omega
  rcases hk with rfl | rfl | rfl | rfl | rfl | rfl | rfl | rfl | rfl | rfl | rfl
  · exact hup _ (prim_7 hN h hW hR hm hu hv hx)
  · exact hup _ (prim_8 hN h hW hR hm hu hv hx)
  · exact prim_9 hN h hW hR hm hu hv hx hC
  · exact hup _ (prim_10 hN h hW hR hm hu hv hx)
  · exact hup _ (prim_11 hN h hW hR hm hu hv hx)
  · exact hup _ (prim_12 hN h hW hR hm hu hv hx)
  · exact hup _ (prim_13 hN h hW hR hm hu hv hx)
  · exact hup _ (prim_14 hN h hW hR hm hu hv hx)
  · exact hup _ (prim_15 hN h hW hR hm hu hv hx)
  · exact hup _ (prim_16 hN h hW hR hm hu hv hx)
  · exact hup _ (prim_17 hN h hW hR hm hu hv hx)
