/-! PURE: what a name is bound to -/
theorem isKnown_a {N : Nat → Nat} {T k : Nat} {u : St} {Q : Int32 → St → Prop} (hT : gI u 202 = nI T) (hT2 : T ≤ 150) (hk : k < T) (h : Q 1 u) : wp_X3_isKnown N (aC k) u Q := by
  refine ⟨fun c => absurd c (aC_nlt (m := 1099511627776) (by omega) (by omega)), fun _ => ⟨fun c => ?_, fun _ => h⟩⟩
  rw [hT, nI_l (by omega), show (1099511627776 : Int64) + lN T = lN (1099511627776 + T) from lN_add _ _] at c
  have := (pk_lLE (a := 1099511627776 + T) (b := 1099511627776 + k) (by omega) (by omega)).mp c
  omega
theorem globalOf_a {N : Nat → Nat} {T k : Nat} {u : St} {Q : Int64 → St → Prop} (hT : gI u 202 = nI T) (hT2 : T ≤ 150) (hk : k < T) (h : Q (gB u 201 k) u) : wp_X3_globalOf N (aC k) u Q := by
  refine isKnown_a hT hT2 hk ⟨fun c => absurd c (by decide), fun _ => ?_⟩
  rw [aC_place (by omega), nI_clamp (by omega)]
  exact ⟨vp_in_nI (by omega) (by omega), h⟩
theorem ob_nABS {r T n} {u v : St} (h : HpR r T n u v) (hT : T ≤ 150) (hn : n ≤ 1000) {x y : Int64} (ho : ob r T x y) : x ≠ (3298534883331 : Int64) := by
  rcases ho with ⟨m, rfl, _⟩ | ⟨k, hk, rfl, _⟩ | ⟨c, d, hr, rfl, _⟩
  · intro e
    have := nC_lt m (k := 3298534883331) (by decide) (by decide)
    rw [e] at this
    exact absurd this (Int64.lt_irrefl)
  · intro e
    have := (pk_lEQ (a := 1099511627776 + k) (b := 3298534883331) (by omega) (by omega)).mp e
    omega
  · exact fun e => ABS_ne (by have := h.1 _ _ hr; omega) e.symm
theorem look_loop {N : Nat → Nat} {r A T n t} {u v : St} {k : Nat} (hN : LN N n t) (h : Core r A T n u v) (hk : k < T) : ∀ (L : List (Nat × Nat)) (i : Nat) (x y : Int64), Spn r T u v L x y → bn A y → i + L.length ≤ n →
    (∃ x1 y1, ob r T x1 y1 ∧ (∀ (Q : Int64 → St → Prop) (K : St → Prop), Q x1 u → l_X2_boundTo_8 N Q (aC k) K (L.length + 1) x (nI i) u) ∧ (∀ (Q : Int64 → St → Prop) (K : St → Prop), Q y1 v → l_X10_lookUp_5 Q (aR k) K (L.length + 1) y v)) ∨
    ((∀ (Q : Int64 → St → Prop) (K : St → Prop), K u → l_X2_boundTo_8 N Q (aC k) K (L.length + 1) x (nI i) u) ∧ (∀ (Q : Int64 → St → Prop) (K : St → Prop), K v → l_X10_lookUp_5 Q (aR k) K (L.length + 1) y v)) := by
  have hn := hN.2.2.2.2.2.2.2.2.1
  have hT := h.2.2.2.2.1.2.2.2
  intro L
  induction L with
  | nil =>
    intro i x y hs hb hi
    refine Or.inr ⟨fun Q K hK => ?_, fun Q K hK => ?_⟩
    · unfold l_X2_boundTo_8
      refine ⟨fun _ => hK, fun _ => ?_⟩
      rcases hs with ⟨m, rfl, _⟩ | ⟨j, hj, rfl, _⟩
      · exact isPair_n ⟨fun _ => hK, fun h => absurd rfl h⟩
      · exact isPair_a (by omega) ⟨fun _ => hK, fun h => absurd rfl h⟩
    · unfold l_X10_lookUp_5
      rcases hs with ⟨m, _, rfl⟩ | ⟨j, hj, _, rfl⟩
      · exact rPair_n ⟨fun _ => hK, fun h => absurd rfl h⟩
      · exact rPair_a (by omega) ⟨fun _ => hK, fun h => absurd rfl h⟩
  | cons p L ih =>
    intro i x y hs hb hi
    obtain ⟨hr, rfl, rfl, hs2⟩ := hs
    have a1 := h.1.1 _ _ hr
    simp only [List.length_cons] at hi
    have hAd : A p.2 := by
      rcases hb with hb | ⟨d, hd, e, ha⟩
      · exact absurd hb.symm (pR_ne_a a1.2 (by omega))
      · rw [pR_inj a1.2 hd e]; exact ha
    obtain ⟨⟨e, he, e13⟩, hb2⟩ := h.2.2.1 _ _ hr hAd
    have o1 := (h.1.2.2.2 _ _ hr).1
    rw [e13] at o1
    obtain ⟨b, hrb, e800⟩ := ob_pR hT h.1.1 o1 he
    have a2 := h.1.1 _ _ hrb
    have oe := h.1.2.2.2 _ _ hrb
    have hE := obE h.1 hT hn oe.1 (ob_a (r := r) hk)
    have hC : ∀ (Q : Int64 → St → Prop) (K : St → Prop) (f : Nat), ((gB u 800 b = aC k → Q (gB u 801 b) u) ∧ (¬ gB u 800 b = aC k → l_X2_boundTo_8 N Q (aC k) K f (gB u 801 p.1) (nI (i + 1)) u)) → l_X2_boundTo_8 N Q (aC k) K (f + 1) (pC p.1) (nI i) u := fun Q K f hq => by
      unfold l_X2_boundTo_8
      rw [hN.1]
      refine ⟨fun c => absurd c (nI_ge (a := i) (b := n) (by omega) (by omega)), fun _ => isPair_p (by omega) ⟨fun h => absurd h (by decide), fun _ => car_p hN a1.1 ?_⟩⟩
      rw [e800]
      exact car_p hN a2.1 ⟨fun e => cdr_p hN a2.1 (hq.1 e), fun e => cdr_p hN a1.1 (by rw [nI_1]; exact hq.2 e)⟩
    have hRf : ∀ (Q : Int64 → St → Prop) (K : St → Prop) (f : Nat), ((gB v 13 e = aR k → Q (gB v 14 e) v) ∧ (¬ gB v 13 e = aR k → l_X10_lookUp_5 Q (aR k) K f (gB v 14 p.2) v)) → l_X10_lookUp_5 Q (aR k) K (f + 1) (pR p.2) v := fun Q K f hq => by
      unfold l_X10_lookUp_5
      refine rPair_p a1.2 ⟨fun h => absurd h (by decide), fun _ => first_p a1.2 ?_⟩
      rw [e13]
      refine first_p he ⟨fun e => first_p a1.2 ?_, fun e => behind_p a1.2 (hq.2 e)⟩
      rw [e13]
      exact behind_p he (hq.1 e)
    by_cases hf : gB u 800 b = aC k
    · exact Or.inl ⟨gB u 801 b, gB v 14 e, oe.2, fun Q K hQ => hC Q K _ ⟨fun _ => hQ, fun h => absurd hf h⟩, fun Q K hQ => hRf Q K _ ⟨fun _ => hQ, fun h => absurd (hE.mp hf) h⟩⟩
    · rcases ih (i + 1) _ _ hs2 hb2 (by omega) with ⟨x1, y1, ho, q1, q2⟩ | ⟨q1, q2⟩
      · exact Or.inl ⟨x1, y1, ho, fun Q K hQ => hC Q K _ ⟨fun h => absurd h hf, fun _ => q1 Q K hQ⟩, fun Q K hQ => hRf Q K _ ⟨fun h => absurd (hE.mpr h) hf, fun _ => q2 Q K hQ⟩⟩
      · exact Or.inr ⟨fun Q K hQ => hC Q K _ ⟨fun h => absurd h hf, fun _ => q1 Q K hQ⟩, fun Q K hQ => hRf Q K _ ⟨fun h => absurd (hE.mpr h) hf, fun _ => q2 Q K hQ⟩⟩
theorem look_both {N : Nat → Nat} {r A T n t} {u v : St} {k : Nat} (hN : LN N n t) (h : Core r A T n u v) (hk : k < T) (ho : ob r T (gJ u 613) (gJ v 41)) (hb : bn A (gJ v 41)) (h8 : gI v 8 = 0) :
    (∃ x1 y1, ob r T x1 y1 ∧ (∀ Q : Int64 → St → Prop, Q x1 u → wp_X2_boundTo N (aC k) u Q) ∧ (∀ Q : Int64 → St → Prop, Q y1 v → wp_X10_lookUp (aR k) v Q)) ∨
    ((∀ Q : Int64 → St → Prop, Q (3298534883331 : Int64) u → wp_X2_boundTo N (aC k) u Q) ∧ (∀ Q : Int64 → St → Prop, Q (-1 : Int64) (sI v 8 (1 : Int32)) → wp_X10_lookUp (aR k) v Q)) := by
  have hn := hN.2.2.2.2.2.2.2.2.1
  obtain ⟨t1, t2, t3, t4⟩ := h.2.2.2.2.1
  obtain ⟨L, hL, hl⟩ := spine_ex h.1 h.2.1 hn ho
  rcases look_loop hN h hk L 0 _ _ hL hb (by omega) with ⟨x1, y1, ho, q1, q2⟩ | ⟨q1, q2⟩
  · exact Or.inl ⟨x1, y1, ho, fun Q hQ => ⟨L.length + 1, q1 _ _ hQ⟩, fun Q hQ => ⟨L.length + 1, q2 _ _ hQ⟩⟩
  · have hR : ∀ Q : Int64 → St → Prop, ((0 : Int64) ≤ gB v 20 k → Q (gB v 20 k) v) → (¬ (0 : Int64) ≤ gB v 20 k → Q (gB v 20 k) (sI v 8 (1 : Int32))) → wp_X10_lookUp (aR k) v Q := fun Q hq1 hq2 => ⟨L.length + 1, q2 _ _ (by
      rw [aR_place (by omega), nI_clamp (by omega)]
      exact ⟨vp_in_nI (by omega) (by omega), hq1, fun hh => ⟨fun _ => hq2 hh, fun h => absurd h8 h⟩⟩)⟩
    rcases h.2.2.2.2.2.1 k hk with ⟨e1, e2⟩ | ho2
    · refine Or.inr ⟨fun Q hQ => ⟨L.length + 1, q1 _ _ (globalOf_a t1 t4 hk (by rw [e1]; exact hQ))⟩, fun Q hQ => hR Q (fun hh => ?_) (fun _ => by rw [e2]; exact hQ)⟩
      rw [e2] at hh
      exact absurd hh (by decide)
    · exact Or.inl ⟨_, _, ho2, fun Q hQ => ⟨L.length + 1, q1 _ _ (globalOf_a t1 t4 hk hQ)⟩, fun Q hQ => hR Q (fun _ => hQ) (fun hh => absurd (Int64.not_lt.mp (wd_nn (ob_wd t4 h.1.1 ho2))) hh)⟩
