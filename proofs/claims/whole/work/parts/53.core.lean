/-! PURE: what class and reference share between two steps -/
def Glb (r : Nat → Nat → Prop) (T : Nat) (u v : St) : Prop := ∀ k, k < T → (gB u 201 k = (3298534883331 : Int64) ∧ gB v 20 k = (-1 : Int64)) ∨ ob r T (gB u 201 k) (gB v 20 k)
def bn (A : Nat → Prop) (y : Int64) : Prop := y = aR 0 ∨ ∃ d, d < 1000 ∧ y = pR d ∧ A d
def AL (r : Nat → Nat → Prop) (A : Nat → Prop) (v : St) : Prop := ∀ c d, r c d → A d → (∃ e, e < 1000 ∧ gB v 13 d = pR e) ∧ bn A (gB v 14 d)
def SP (r : Nat → Nat → Prop) (u : St) : Prop := ∃ rk : Nat → Nat, ∀ c d, r c d → ∀ b, b < 1000 → gB u 801 c = pC b → rk b < rk c
def Core (r : Nat → Nat → Prop) (A : Nat → Prop) (T n : Nat) (u v : St) : Prop := HpR r T n u v ∧ SP r u ∧ AL r A v ∧ rwd v ∧ (gI u 202 = nI T ∧ gI v 21 = nI T ∧ 18 ≤ T ∧ T ≤ 150) ∧ Glb r T u v ∧ gI v 1 = nI n
def clz (v : St) (y : Int64) : Prop := ∃ d e f, d < 1000 ∧ e < 1000 ∧ f < 1000 ∧ y = pR d ∧ gB v 13 d = pR e ∧ gB v 14 e = pR f
def Frm (r : Nat → Nat → Prop) (A : Nat → Prop) (T : Nat) (cnt : Nat → Nat) (u v : St) (j : Nat) : Prop := gA u 300 j = gA v 33 j ∧ (gA v 33 j = 0 ∨ gA v 33 j = 1 ∨ gA v 33 j = 2) ∧ gA u 301 j = nI (cnt j) ∧ gA v 37 j = nI (cnt j) ∧ cnt j ≤ 8 ∧ (gA v 33 j = 0 → cnt j ≤ 7) ∧ ob r T (gB u 302 (j * 11)) (gB v 34 j) ∧ ob r T (gB u 302 (j * 11 + 1)) (gB v 35 j) ∧ ob r T (gB u 302 (j * 11 + 2)) (gB v 36 j) ∧ bn A (gB v 36 j) ∧ (∀ k, k < cnt j → ob r T (gB u 302 (j * 11 + 3 + k)) (gB v 38 (8 * j + k))) ∧ (∀ k, cnt j ≤ k → k < 8 → gB u 302 (j * 11 + 3 + k) = aC 0) ∧ (gA v 33 j = 1 → clz v (gB v 35 j))
def Wt (r : Nat → Nat → Prop) (A : Nat → Prop) (T t w : Nat) (cnt : Nat → Nat) (u v : St) : Prop := gI u 303 = nI w ∧ gI v 32 = nI w ∧ w ≤ t ∧ ∀ j, j < w → Frm r A T cnt u v j
theorem ABS_ne {c : Nat} (hc : c < 1000) : (3298534883331 : Int64) ≠ pC c := fun e => by
  have := (pk_lEQ (a := 3298534883331) (b := 2199023255552 + c) (by omega) (by omega)).mp e
  omega
theorem Core_g {r A T n u v} (h : Core r A T n u v) : ∀ j, j < T → gB v 20 j = -1 ∨ wd (gB v 20 j) := fun j hj => (h.2.2.2.2.2.1 j hj).elim (fun h => Or.inl h.2) (fun h2 => Or.inr (ob_wd h.2.2.2.2.1.2.2.2 h.1.1 h2))
theorem Wt_wd {r A T n t w cnt u v} (h : Core r A T n u v) (hw : Wt r A T t w cnt u v) : wdW v cnt w := fun j hj => by
  obtain ⟨_, _, _, a, b, _, c1, c2, c3, _, c4, _, _⟩ := hw.2.2.2 j hj
  exact ⟨a, b, ob_wd h.2.2.2.2.1.2.2.2 h.1.1 c1, ob_wd h.2.2.2.2.1.2.2.2 h.1.1 c2, ob_wd h.2.2.2.2.1.2.2.2 h.1.1 c3, fun k hk => ob_wd h.2.2.2.2.1.2.2.2 h.1.1 (c4 k hk)⟩
/-! cutting to what is held -/
def cut (r : Nat → Nat → Prop) (HL : List Nat) : Nat → Nat → Prop := fun c d => r c d ∧ d ∈ HL
theorem ob_cut {r : Nat → Nat → Prop} {T : Nat} {HL : List Nat} {x y : Int64} (h : ob r T x y) (hy : ∀ c d, r c d → y = pR d → d ∈ HL) : ob (cut r HL) T x y := by
  rcases h with h | h | ⟨c, d, hr, ex, ey⟩
  · exact Or.inl h
  · exact Or.inr (Or.inl h)
  · exact Or.inr (Or.inr ⟨c, d, ⟨hr, hy c d hr ey⟩, ex, ey⟩)
theorem Ho_clo {v v1 : St} {root : Int64 → Prop} {HL : List Nat} (hH : Ho v root v1 HL 0) {d e : Nat} (hd : d ∈ HL) (he : e < 1000) (hk : rkid v d e) : e ∈ HL := by
  rcases hH.2.2.1 d hd with ⟨j, hj, _⟩ | h9
  · omega
  · exact h9 e he ((rkid_fr hH.2.1 d e).mpr hk)
theorem Core_cut {r A T n u v u1 v1} {root : Int64 → Prop} {HL : List Nat} (h : Core r A T n u v) (hH : Ho v root v1 HL 0) (hf : frK u u1) (hg : ∀ z, rtG v T z → root z) : Core (cut r HL) A T n u1 v1 := by
  obtain ⟨a1, ⟨rk, a2⟩, a3, a4, a5, a6, a7⟩ := h
  have e1 : gB u1 800 = gB u 800 := hf.2.2.2 800 (by decide) (by decide)
  have e2 : gB u1 801 = gB u 801 := hf.2.2.2 801 (by decide) (by decide)
  have e3 : gB u1 201 = gB u 201 := hf.2.2.2 201 (by decide) (by decide)
  have e4 : gB v1 13 = gB v 13 := hH.2.1.2.2.2 13 (by decide)
  have e5 : gB v1 14 = gB v 14 := hH.2.1.2.2.2 14 (by decide)
  have e6 : gB v1 20 = gB v 20 := hH.2.1.2.2.2 20 (by decide)
  refine ⟨?_, ⟨rk, ?_⟩, ?_, rwd_fr hH.2.1 a4, ⟨?_, ?_, a5.2.2⟩, ?_, ?_⟩
  · unfold HpR
    rw [e1, e2, e4, e5]
    refine ⟨fun c d hr => a1.1 c d hr.1, fun c d e h1 h2 => a1.2.1 c d e h1.1 h2.1, fun c b d h1 h2 => a1.2.2.1 c b d h1.1 h2.1, fun c d hr => ?_⟩
    obtain ⟨o1, o2⟩ := a1.2.2.2 c d hr.1
    exact ⟨ob_cut o1 (fun b e hb he => Ho_clo hH hr.2 (a1.1 _ _ hb).2 (Or.inl he)), ob_cut o2 (fun b e hb he => Ho_clo hH hr.2 (a1.1 _ _ hb).2 (Or.inr he))⟩
  · rw [e2]
    exact fun c d hr => a2 c d hr.1
  · unfold AL
    rw [e4, e5]
    exact fun c d hr => a3 c d hr.1
  · rw [hf.1 202 (by decide) (by decide) (by decide)]; exact a5.1
  · rw [hH.2.1.1 21 (by decide) (by decide)]; exact a5.2.1
  · unfold Glb
    rw [e3, e6]
    intro k hk
    rcases a6 k hk with h | h
    · exact Or.inl h
    · exact Or.inr (ob_cut h (fun c d hr e => hH.2.2.2.1 d (a1.1 _ _ hr).2 (hg _ ⟨k, hk, e⟩)))
  · rw [hH.2.1.1 1 (by decide) (by decide)]; exact a7
theorem Wt_cut {r A T n t w cnt u v u1 v1} {root : Int64 → Prop} {HL : List Nat} (h : Core r A T n u v) (hw : Wt r A T t w cnt u v) (hH : Ho v root v1 HL 0) (hf : frK u u1) (hg : ∀ z, rtW v T cnt w z → root z) : Wt (cut r HL) A T t w cnt u1 v1 := by
  obtain ⟨b1, b2, b3, b4⟩ := hw
  refine ⟨by rw [hf.1 303 (by decide) (by decide) (by decide)]; exact b1, by rw [hH.2.1.1 32 (by decide) (by decide)]; exact b2, b3, fun j hj => ?_⟩
  obtain ⟨c1, c2, c3, c4, c5, c6, c7, c8, c9, c10, c11, c12, c13⟩ := b4 j hj
  unfold Frm
  rw [hf.2.2.1 300 (by decide) (by decide), hf.2.2.1 301 (by decide) (by decide), hf.2.2.2 302 (by decide) (by decide), hH.2.1.2.2.1 33 (by decide), hH.2.1.2.2.1 37 (by decide), hH.2.1.2.2.2 34 (by decide), hH.2.1.2.2.2 35 (by decide), hH.2.1.2.2.2 36 (by decide), hH.2.1.2.2.2 38 (by decide)]
  have hin : ∀ c d, r c d → rtF v cnt j (pR d) → d ∈ HL := fun c d hr hx => hH.2.2.2.1 d (h.1.1 _ _ hr).2 (hg _ (Or.inr ⟨j, hj, hx⟩))
  refine ⟨c1, c2, c3, c4, c5, c6, ob_cut c7 (fun c d hr e => hin c d hr (Or.inl e)), ob_cut c8 (fun c d hr e => hin c d hr (Or.inr (Or.inl e))), ob_cut c9 (fun c d hr e => hin c d hr (Or.inr (Or.inr (Or.inl e)))), c10, fun k hk => ob_cut (c11 k hk) (fun c d hr e => hin c d hr (Or.inr (Or.inr (Or.inr ⟨k, hk, e⟩)))), c12, fun hk => ?_⟩
  obtain ⟨d, e, f, hd, he, hf2, q1, q2, q3⟩ := c13 hk
  exact ⟨d, e, f, hd, he, hf2, q1, by rw [hH.2.1.2.2.2 13 (by decide)]; exact q2, by rw [hH.2.1.2.2.2 14 (by decide)]; exact q3⟩
/-! the roots are the same -/
theorem rootsC {r A T n t w cnt u v} {m : Nat} {x y x2 y2 : Int64} (h : Core r A T n u v) (hn : n ≤ 1000) (hw : Wt r A T t w cnt u v) (hx : ob r T x x2) (hy : ob r T y y2) (hv : ∀ k, k < m → ob r T (gB u 605 k) (gB v 42 k)) : (∀ c, c < n → rt u T w m x y (pC c) → ∃ d, r c d ∧ rtB v T cnt w m x2 y2 (pR d)) ∧ (∀ d, d < 1000 → rtB v T cnt w m x2 y2 (pR d) → ∃ c, r c d ∧ rt u T w m x y (pC c)) := by
  have hT := h.2.2.2.2.1.2.2.2
  have P : ∀ {p q : Int64} {c : Nat}, c < n → ob r T p q → p = pC c → ∃ d, r c d ∧ q = pR d := fun hc ho e => ob_pC hT hn h.1.1 (e ▸ ho) (by omega)
  have P2 : ∀ {p q : Int64} {d : Nat}, d < 1000 → ob r T p q → q = pR d → ∃ c, r c d ∧ p = pC c := fun hd ho e => ob_pR hT h.1.1 (e ▸ ho) hd
  refine ⟨fun c hc hr => ?_, fun d hd hr => ?_⟩
  · rcases hr with ⟨j, hj, e⟩ | ⟨j, hj, e⟩ | ⟨j, hj, e⟩ | e | e
    · rcases h.2.2.2.2.2.1 j hj with h9 | h9
      · exact absurd (h9.1.symm.trans e) (ABS_ne (by omega))
      · obtain ⟨d, hd, ed⟩ := P hc h9 e
        exact ⟨d, hd, Or.inl (Or.inl ⟨j, hj, ed⟩)⟩
    · have hq : j / 11 < w := by omega
      have he : j = j / 11 * 11 + j % 11 := by omega
      have hm11 : j % 11 < 11 := Nat.mod_lt _ (by omega)
      obtain ⟨c1, c2, c3, c4, c5, c6, c7, c8, c9, c10, c11, c12, c13⟩ := hw.2.2.2 (j / 11) hq
      generalize j / 11 = q at *
      generalize j % 11 = p at *
      subst he
      have hp : p = 0 ∨ p = 1 ∨ p = 2 ∨ ∃ k, k < 8 ∧ p = 3 + k := by
        by_cases h3 : 3 ≤ p
        · exact Or.inr (Or.inr (Or.inr ⟨p - 3, by omega, by omega⟩))
        · omega
      rcases hp with rfl | rfl | rfl | ⟨k, hk, rfl⟩
      · obtain ⟨d, hd, ed⟩ := P hc c7 e
        exact ⟨d, hd, Or.inl (Or.inr ⟨q, hq, Or.inl ed⟩)⟩
      · obtain ⟨d, hd, ed⟩ := P hc c8 e
        exact ⟨d, hd, Or.inl (Or.inr ⟨q, hq, Or.inr (Or.inl ed)⟩)⟩
      · obtain ⟨d, hd, ed⟩ := P hc c9 e
        exact ⟨d, hd, Or.inl (Or.inr ⟨q, hq, Or.inr (Or.inr (Or.inl ed))⟩)⟩
      · rw [← Nat.add_assoc] at e
        by_cases hkc : k < cnt q
        · obtain ⟨d, hd, ed⟩ := P hc (c11 k hkc) e
          exact ⟨d, hd, Or.inl (Or.inr ⟨q, hq, Or.inr (Or.inr (Or.inr ⟨k, hkc, ed⟩))⟩)⟩
        · exact absurd ((c12 k (by omega) hk).symm.trans e) (pC_ne_a (by omega) (by omega))
    · obtain ⟨d, hd, ed⟩ := P hc (hv j hj) e
      exact ⟨d, hd, Or.inr (Or.inr (Or.inr ⟨j, hj, ed⟩))⟩
    · obtain ⟨d, hd, ed⟩ := P hc hx e
      exact ⟨d, hd, Or.inr (Or.inl ed)⟩
    · obtain ⟨d, hd, ed⟩ := P hc hy e
      exact ⟨d, hd, Or.inr (Or.inr (Or.inl ed))⟩
  · rcases hr with (⟨j, hj, e⟩ | ⟨j, hj, hj2⟩) | e | e | ⟨j, hj, e⟩
    · rcases h.2.2.2.2.2.1 j hj with h9 | h9
      · exact absurd (h9.2.symm.trans e) (pR_nm1 hd)
      · obtain ⟨c, hc, ec⟩ := P2 hd h9 e
        exact ⟨c, hc, Or.inl ⟨j, hj, ec⟩⟩
    · obtain ⟨c1, c2, c3, c4, c5, c6, c7, c8, c9, c10, c11, c12, c13⟩ := hw.2.2.2 j hj
      rcases hj2 with e | e | e | ⟨k, hk, e⟩
      · obtain ⟨c, hc, ec⟩ := P2 hd c7 e
        exact ⟨c, hc, Or.inr (Or.inl ⟨j * 11, by omega, ec⟩)⟩
      · obtain ⟨c, hc, ec⟩ := P2 hd c8 e
        exact ⟨c, hc, Or.inr (Or.inl ⟨j * 11 + 1, by omega, ec⟩)⟩
      · obtain ⟨c, hc, ec⟩ := P2 hd c9 e
        exact ⟨c, hc, Or.inr (Or.inl ⟨j * 11 + 2, by omega, ec⟩)⟩
      · obtain ⟨c, hc, ec⟩ := P2 hd (c11 k hk) e
        exact ⟨c, hc, Or.inr (Or.inl ⟨j * 11 + 3 + k, by omega, ec⟩)⟩
    · obtain ⟨c, hc, ec⟩ := P2 hd hx e
      exact ⟨c, hc, Or.inr (Or.inr (Or.inr (Or.inl ec)))⟩
    · obtain ⟨c, hc, ec⟩ := P2 hd hy e
      exact ⟨c, hc, Or.inr (Or.inr (Or.inr (Or.inr ec)))⟩
    · obtain ⟨c, hc, ec⟩ := P2 hd (hv j hj) e
      exact ⟨c, hc, Or.inr (Or.inr (Or.inl ⟨j, hj, ec⟩))⟩
