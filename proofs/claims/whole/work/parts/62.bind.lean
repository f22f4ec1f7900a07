/-! PURE: bindings are made -/
def BL (T n t w : Nat) (cnt : Nat → Nat) (r : Nat → Nat → Prop) (A : Nat → Prop) (u v : St) (FL : List Nat) : Prop := Core r A T n u v ∧ Wt r A T t w cnt u v ∧ FR u n FL ∧ ∀ c d, r c d → c ∉ FL
def RdH (r : Nat → Nat → Prop) (v : St) (k : Nat) : Prop := ∃ HL : List Nat, HL.Nodup ∧ (∀ d ∈ HL, d < 1000) ∧ (∀ d, d < 1000 → (gA v 15 d = 0 ↔ d ∉ HL)) ∧ (∀ c d, r c d → d ∈ HL) ∧ HL.length + k ≤ 1000
theorem BL_cls {T n t w cnt r A u u1 v FL F1} (h : BL T n t w cnt r A u v FL) (hs : ∀ c d, r c d → gB u1 800 c = gB u 800 c ∧ gB u1 801 c = gB u 801 c) (hf : frN u u1) (hF : FR u1 n F1) (hd : ∀ c d, r c d → c ∉ F1) : BL T n t w cnt r A u1 v F1 := by
  obtain ⟨⟨p1, ⟨rk, p2⟩, p3, p4, p5, p6, p7⟩, hW, _, _⟩ := h
  refine ⟨⟨⟨p1.1, p1.2.1, p1.2.2.1, fun c d hr => ?_⟩, ⟨rk, fun c d hr b hb e => ?_⟩, p3, p4, ⟨?_, p5.2⟩, ?_, p7⟩, Wt_new p5.2.2.2 p1.1 hW (fun _ _ h => h) (fun _ _ _ h => h) (fun _ _ _ => rfl) (fun _ _ _ => rfl) p1 hf (frP_rf v), hF, hd⟩
  · rw [(hs c d hr).1, (hs c d hr).2]; exact p1.2.2.2 c d hr
  · rw [(hs c d hr).2] at e; exact p2 c d hr b hb e
  · rw [hf.1 202 (by decide)]; exact p5.1
  · unfold Glb
    rw [hf.2.2.2 201 (by decide) (by decide)]
    exact p6
/-- a pair of the reference for a cell that the class has made already -/
theorem adopt {T n t w cnt r A u v FL} {b k : Nat} {y1 y2 : Int64} (isA : Prop) (hn : n ≤ 1000) (hBL : BL T n t w cnt r A u v FL) (hbn : b < n) (hbF : b ∉ FL) (hrc : ∀ d, ¬ r b d) (hH : RdH r v (k + 1)) (o1 : ob r T (gB u 800 b) y1) (o2 : ob r T (gB u 801 b) y2) (hA : isA → (∃ e, e < 1000 ∧ y1 = pR e) ∧ bn A y2) :
    ∃ (d0 : Nat) (v1 : St), d0 < 1000 ∧ (∀ c, ¬ r c d0) ∧ BL T n t w cnt (new r b d0) (newA A d0 isA) u v1 FL ∧ RdH (new r b d0) v1 k ∧ frP v v1 ∧ (∀ c d, r c d → gB v1 13 d = gB v 13 d ∧ gB v1 14 d = gB v 14 d) ∧ (∀ Q : Int64 → St → Prop, Q (pR d0) v1 → wp_X10_pair y1 y2 v Q) := by
  obtain ⟨h, hw, hF, hdis⟩ := hBL
  have hT := h.2.2.2.2.1.2.2.2
  obtain ⟨HL, g1, g2, g3, g4, g5⟩ := hH
  obtain ⟨d0, b1, b2, b3⟩ := pair_ex y1 y2 g1 g2 g3 (by omega)
  have hrd0 : ∀ c, ¬ r c d0 := fun c hr => b2 (g4 c d0 hr)
  have hnc : ∀ c d, r c d → c ≠ b := fun c d hr e => hrc d (e ▸ hr)
  have hnd : ∀ c d, r c d → d ≠ d0 := fun c d hr e => hrd0 c (e ▸ hr)
  have hsame : ∀ c d, r c d → gB (prS v d0 y1 y2) 13 d = gB v 13 d ∧ gB (prS v d0 y1 y2) 14 d = gB v 14 d := fun c d hr => ⟨by rw [prS_13, if_neg (hnd c d hr)], by rw [prS_14, if_neg (hnd c d hr)]⟩
  have hmono : ∀ c d, r c d → new r b d0 c d := fun c d hr => Or.inl hr
  obtain ⟨p1, ⟨rk, p2⟩, p3, p4, p5, p6, p7⟩ := id h
  refine ⟨d0, prS v d0 y1 y2, b1, hrd0, ⟨⟨?_, ?_, ?_, ?_, p5, ?_, p7⟩, Wt_new hT h.1.1 hw hmono (fun x y ho hb => bn_new hT h.1.1 hrd0 ho hb) (fun c d hr => (hsame c d hr).1) (fun c d hr => (hsame c d hr).2) h.1 (frN_rf u) (prS_fr _ _ _ _), hF, ?_⟩, ⟨d0 :: HL, List.nodup_cons.mpr ⟨b2, g1⟩, ?_, ?_, ?_, by simp only [List.length_cons]; omega⟩, prS_fr _ _ _ _, hsame, b3⟩
  · refine ⟨fun c d hr => ?_, fun c d e h1 h2 => ?_, fun c b2 d h1 h2 => ?_, fun c d hr => ?_⟩
    · rcases hr with hr | ⟨rfl, rfl⟩
      · exact p1.1 c d hr
      · exact ⟨hbn, b1⟩
    · rcases h1 with h1 | ⟨rfl, rfl⟩ <;> rcases h2 with h2 | ⟨e1, rfl⟩
      · exact p1.2.1 c d e h1 h2
      · exact absurd e1 (hnc _ _ h1)
      · exact absurd h2 (hrc _)
      · rfl
    · rcases h1 with h1 | ⟨rfl, rfl⟩ <;> rcases h2 with h2 | ⟨rfl, e1⟩
      · exact p1.2.2.1 c b2 d h1 h2
      · exact absurd e1 (hnd _ _ h1)
      · exact absurd h2 (hrd0 _)
      · rfl
    · rcases hr with hr | ⟨rfl, rfl⟩
      · obtain ⟨e3, e4⟩ := hsame c d hr
        rw [e3, e4]
        exact ⟨ob_mono (p1.2.2.2 c d hr).1 hmono, ob_mono (p1.2.2.2 c d hr).2 hmono⟩
      · rw [prS_13, prS_14, if_pos rfl, if_pos rfl]
        exact ⟨ob_mono o1 hmono, ob_mono o2 hmono⟩
  · have hb2 : ∀ c, c < 1000 → gB u 801 b = pC c → c ≠ b := fun c hc e => by
      rw [e] at o2
      obtain ⟨d, hd, _⟩ := ob_pC hT hn p1.1 o2 hc
      exact hnc _ _ hd
    have hex : ∃ M, ∀ c, c < 1000 → gB u 801 b = pC c → rk c < M := by
      by_cases hx : ∃ c, c < 1000 ∧ gB u 801 b = pC c
      · obtain ⟨c, hc, e⟩ := hx
        exact ⟨rk c + 1, fun b2 hb3 e2 => by rw [pC_inj hb3 hc (e2.symm.trans e)]; omega⟩
      · exact ⟨0, fun c hc e => absurd ⟨c, hc, e⟩ hx⟩
    obtain ⟨M, hM⟩ := hex
    refine ⟨fun c => if c = b then M else rk c, fun c d hr c2 hb e => ?_⟩
    rcases hr with hr | ⟨rfl, rfl⟩
    · have hbc : c2 ≠ b := fun e2 => by
        subst e2
        have o := (p1.2.2.2 c d hr).2
        rw [e] at o
        obtain ⟨d2, hd2, _⟩ := ob_pC hT hn p1.1 o hb
        exact hrc d2 hd2
      simp only [if_neg hbc, if_neg (hnc c d hr)]
      exact p2 c d hr c2 hb e
    · simp only [if_true, if_neg (hb2 c2 hb e)]
      exact hM c2 hb e
  · intro c d hr hd
    rcases hr with hr | ⟨rfl, rfl⟩
    · rcases hd with ⟨hd, _⟩ | ⟨e, _⟩
      · obtain ⟨⟨e, he, q1⟩, q2⟩ := p3 c d hr hd
        refine ⟨⟨e, he, by rw [(hsame c d hr).1]; exact q1⟩, ?_⟩
        rw [(hsame c d hr).2]
        exact bn_new hT p1.1 hrd0 (p1.2.2.2 c d hr).2 q2
      · exact absurd e (hnd _ _ hr)
    · rcases hd with ⟨_, hd⟩ | ⟨_, hi⟩
      · exact absurd rfl hd
      · obtain ⟨⟨e, he, q1⟩, q2⟩ := hA hi
        rw [prS_13, prS_14, if_pos rfl, if_pos rfl]
        exact ⟨⟨e, he, q1⟩, bn_new hT p1.1 hrd0 o2 q2⟩
  · intro d hd
    rw [prS_13, prS_14]
    refine ⟨?_, ?_⟩
    · by_cases e : d = d0
      · rw [if_pos e]; exact ob_wd hT p1.1 o1
      · rw [if_neg e]; exact (p4 d hd).1
    · by_cases e : d = d0
      · rw [if_pos e]; exact ob_wd hT p1.1 o2
      · rw [if_neg e]; exact (p4 d hd).2
  · intro j hj
    rcases p6 j hj with h9 | h9
    · exact Or.inl h9
    · exact Or.inr (ob_mono h9 hmono)
  · intro c d hr hc
    rcases hr with hr | ⟨rfl, rfl⟩
    · exact hdis c d hr hc
    · exact hbF hc
  · intro d hd
    rcases List.mem_cons.mp hd with rfl | hd
    · exact b1
    · exact g2 d hd
  · intro d hd
    rw [prS_15]
    by_cases e : d = d0
    · rw [if_pos e]
      exact ⟨fun h => absurd h (by decide), fun h => absurd (e ▸ List.mem_cons_self) h⟩
    · rw [if_neg e, g3 d hd]
      simp [e]
  · intro c d hr
    rcases hr with hr | ⟨rfl, rfl⟩
    · exact List.mem_cons_of_mem _ (g4 c d hr)
    · exact List.mem_cons_self
/-! the k-th rest of a list -/
def Nth (r : Nat → Nat → Prop) (u v : St) : Nat → Int64 → Int64 → Int64 → Int64 → Prop
  | 0, x0, y0, x, y => x0 = x ∧ y0 = y
  | k + 1, x0, y0, x, y => ∃ c d, r c d ∧ x0 = pC c ∧ y0 = pR d ∧ Nth r u v k (gB u 801 c) (gB v 14 d) x y
theorem Nth_snoc {r u v} : ∀ (k : Nat) (x0 y0 : Int64) (c d : Nat), r c d → Nth r u v k x0 y0 (pC c) (pR d) → Nth r u v (k + 1) x0 y0 (gB u 801 c) (gB v 14 d) := by
  intro k
  induction k with
  | zero => intro x0 y0 c d hr h; exact ⟨c, d, hr, h.1, h.2, rfl, rfl⟩
  | succ k ih =>
    intro x0 y0 c d hr ⟨c2, d2, hr2, e1, e2, h⟩
    exact ⟨c2, d2, hr2, e1, e2, ih _ _ c d hr h⟩
/-- r and what its cells hold are kept -/
def kp (r r2 : Nat → Nat → Prop) (u u2 v v2 : St) : Prop := ∀ c d, r c d → r2 c d ∧ gB u2 800 c = gB u 800 c ∧ gB u2 801 c = gB u 801 c ∧ gB v2 13 d = gB v 13 d ∧ gB v2 14 d = gB v 14 d
theorem kp_tr {r r2 r3 u u2 u3 v v2 v3} (h1 : kp r r2 u u2 v v2) (h2 : kp r2 r3 u2 u3 v2 v3) : kp r r3 u u3 v v3 := fun c d hr => by
  obtain ⟨a1, a2, a3, a4, a5⟩ := h1 c d hr
  obtain ⟨b1, b2, b3, b4, b5⟩ := h2 c d a1
  exact ⟨b1, b2.trans a2, b3.trans a3, b4.trans a4, b5.trans a5⟩
theorem Nth_kp {r r2 u u2 v v2} (hk : kp r r2 u u2 v v2) : ∀ (k : Nat) (x0 y0 x y : Int64), Nth r u v k x0 y0 x y → Nth r2 u2 v2 k x0 y0 x y := by
  intro k
  induction k with
  | zero => intro x0 y0 x y h; exact h
  | succ k ih =>
    intro x0 y0 x y ⟨c, d, hr, e1, e2, h⟩
    obtain ⟨a1, a2, a3, a4, a5⟩ := hk c d hr
    exact ⟨c, d, a1, e1, e2, by rw [a3, a5]; exact ih _ _ _ _ h⟩
theorem Lnm_kp {r r2 T u u2 v v2} (hk : kp r r2 u u2 v v2) : ∀ (k : Nat) (x y : Int64), Lnm r T u v k x y → Lnm r2 T u2 v2 k x y := by
  intro k
  induction k with
  | zero => intro x y h; exact h
  | succ k ih =>
    intro x y ⟨c, d, j, hr, e1, e2, hj, e3, e4, h⟩
    obtain ⟨a1, a2, a3, a4, a5⟩ := hk c d hr
    exact ⟨c, d, j, a1, e1, e2, hj, a2.trans e3, a4.trans e4, by rw [a3, a5]; exact ih _ _ h⟩
theorem Lst_kp {r r2 u u2 v v2} (hk : kp r r2 u u2 v v2) : ∀ (k : Nat) (x y : Int64), Lst r u v k x y → Lst r2 u2 v2 k x y := by
  intro k
  induction k with
  | zero => intro x y h; exact h
  | succ k ih =>
    intro x y ⟨c, d, hr, e1, e2, h⟩
    obtain ⟨a1, a2, a3, a4, a5⟩ := hk c d hr
    exact ⟨c, d, a1, e1, e2, by rw [a3, a5]; exact ih _ _ h⟩
theorem walk_R {r u v} {c3 c5 : Int64} {n : Nat} (hb : ∀ c d, r c d → c < n ∧ d < 1000) (k : Nat) (hk : k < 100) : ∀ (d i : Nat) (x0 y0 x y : Int64), i + d = k → Nth r u v d x0 y0 x y → ∀ K : Int64 → St → Prop, K y v → l_X10_lambda_85 c3 c5 (nI k) K (d + 1) y0 (nI i) v := by
  intro d
  induction d with
  | zero =>
    intro i x0 y0 x y hi h K hK
    obtain rfl : i = k := by omega
    unfold l_X10_lambda_85
    rw [h.2]
    exact sq (nI_le (Nat.le_refl _) (by omega)) hK
  | succ d ih =>
    intro i x0 y0 x y hi ⟨c, e, hr, e1, e2, h⟩ K hK
    unfold l_X10_lambda_85
    rw [e2]
    refine sf (nI_ge (by omega) (by omega)) (behind_p (hb _ _ hr).2 ?_)
    rw [nI_1]
    exact ih (i + 1) _ _ x y (by omega) h K hK
/-- one more binding of the reference, for cells that the class has made already -/
theorem bind_R {T n t w cnt r A u v FL} {b l k ex m : Nat} {x0 y0 xr yr yh c3 : Int64} {cm dm : Nat} (hn : n ≤ 1000) (hBL : BL T n t w cnt r A u v FL) (hl : l < n) (hbn : b < n) (hbl : b ≠ l) (hbF : b ∉ FL) (hlF : l ∉ FL) (hrb : ∀ d, ¬ r b d) (hrl : ∀ d, ¬ r l d) (hH : RdH r v (2 + ex)) (hm8 : m ≤ 8) (hk : k < m)
    (hmore : r cm dm) (ec3 : c3 = pR dm) (e13 : gB v 13 dm = y0) (hN : Nth r u v k x0 y0 xr yr) {cr dr : Nat} (hrr : r cr dr) (exr : xr = pC cr) (eyr : yr = pR dr)
    (e1 : gB u 800 b = gB u 800 cr) (e2 : ob r T (gB u 801 b) (gB v 42 k)) (e3 : gB u 800 l = pC b) (e4 : ob r T (gB u 801 l) yh) (hyh : bn A yh) :
    ∃ (r2 : Nat → Nat → Prop) (A2 : Nat → Prop) (v2 : St) (y2 : Int64), BL T n t w cnt r2 A2 u v2 FL ∧ RdH r2 v2 ex ∧ frP v v2 ∧ kp r r2 u u v v2 ∧ (∀ x y, ob r T x y → bn A y → bn A2 y) ∧ (∀ c d, r2 c d → r c d ∨ c = b ∨ c = l) ∧ ob r2 T (pC l) y2 ∧ bn A2 y2 ∧ ∀ (K : Int64 → St → Prop) (f : Nat), l_X10_lambda_70 c3 K f y2 (nI k + (-1 : Int32)) v2 → l_X10_lambda_70 c3 K (f + 1) yh (nI k) v := by
  have hT := hBL.1.2.2.2.2.1.2.2.2
  have hmd := (hBL.1.1.1 _ _ hmore).2
  have hrd := (hBL.1.1.1 _ _ hrr).2
  obtain ⟨d0, v1, p1, p2, p3, p4, p5, p6, p7⟩ := adopt (b := b) (k := 1 + ex) (y1 := gB v 13 dr) (y2 := gB v 42 k) False hn hBL hbn hbF hrb (by rw [show 1 + ex + 1 = 2 + ex from by omega]; exact hH) (by rw [e1]; exact (hBL.1.1.2.2.2 _ _ hrr).1) e2 (fun h => h.elim)
  have hk1 : kp r (new r b d0) u u v v1 := fun c d hr => ⟨Or.inl hr, rfl, rfl, (p6 c d hr).1, (p6 c d hr).2⟩
  have hrl2 : ∀ d, ¬ new r b d0 l d := fun d hr => by
    rcases hr with hr | ⟨e, _⟩
    · exact hrl d hr
    · exact hbl e.symm
  have hyh2 : bn (newA A d0 False) yh := bn_new hT hBL.1.1.1 p2 e4 hyh
  obtain ⟨d1, v2, q1, q2, q3, q4, q5, q6, q7⟩ := adopt (b := l) (k := ex) (y1 := pR d0) (y2 := yh) True hn p3 hl hlF hrl2 (by rw [show ex + 1 = 1 + ex from by omega]; exact p4) (by rw [e3]; exact Or.inr (Or.inr ⟨b, d0, Or.inr ⟨rfl, rfl⟩, rfl, rfl⟩)) (ob_mono e4 (fun c d hr => Or.inl hr)) (fun _ => ⟨⟨d0, p1, rfl⟩, hyh2⟩)
  have hk2 : kp (new r b d0) (new (new r b d0) l d1) u u v1 v2 := fun c d hr => ⟨Or.inl hr, rfl, rfl, (q6 c d hr).1, (q6 c d hr).2⟩
  refine ⟨_, _, v2, pR d1, q3, q4, frP_tr p5 q5, kp_tr hk1 hk2, fun x y ho hb => bn_new hT p3.1.1.1 q2 (ob_mono ho (fun c d hr => Or.inl hr)) (bn_new hT hBL.1.1.1 p2 ho hb), fun c d hr => ?_, Or.inr (Or.inr ⟨l, d1, Or.inr ⟨rfl, rfl⟩, rfl, rfl⟩), Or.inr ⟨d1, q1, rfl, Or.inr ⟨rfl, True.intro⟩⟩, fun K f hK => ?_⟩
  · rcases hr with (hr | ⟨e, _⟩) | ⟨e, _⟩
    · exact Or.inl hr
    · exact Or.inr (Or.inl e)
    · exact Or.inr (Or.inr e)
  · unfold l_X10_lambda_70
    refine sf (nI_pos (by omega)) ?_
    rw [ec3]
    refine first_p hmd ⟨k + 1, ?_⟩
    rw [e13]
    refine walk_R (r := r) (u := u) (n := n) hBL.1.1.1 k (by omega) k 0 x0 y0 xr yr (by omega) hN _ ?_
    rw [eyr]
    refine first_p hrd ⟨vp_in_nI (by omega) (by omega), ?_⟩
    rw [nI_clamp (show k < 2 ^ 31 by omega)]
    rw [ec3] at hK
    exact p7 _ (q7 _ hK)
theorem bind_loop {N : Nat → Nat} {T n t w cnt} {m : Nat} {x0 y0 yb c3 : Int64} (hN : LN N n t) (hm8 : m ≤ 8) : ∀ (d k ex : Nat) (r : Nat → Nat → Prop) (A : Nat → Prop) (u v : St) (FL : List Nat) (l cm dm : Nat) (xr yr : Int64), k + d = m → 1 ≤ k → BL T n t w cnt r A u v FL → 2 * d ≤ FL.length → l ∉ FL → RdH r v (2 * d + ex) → l < n → (∀ e, ¬ r l e) → gB u 801 l = gJ u 613 → ob r T (gJ u 613) yb → bn A yb → gI u 606 = nI m → r cm dm → c3 = pR dm → gB v 13 dm = y0 → Nth r u v k x0 y0 xr yr → Lnm r T u v d xr yr → (∀ j, k ≤ j → j < m → ob r T (gB u 605 j) (gB v 42 j)) →
    ∃ (r2 : Nat → Nat → Prop) (A2 : Nat → Prop) (u2 v2 : St) (F2 : List Nat) (y2 : Int64), BL T n t w cnt r2 A2 u2 v2 F2 ∧ RdH r2 v2 ex ∧ frN u u2 ∧ frP v v2 ∧ kp r r2 u u2 v v2 ∧ (∀ x y, ob r T x y → bn A y → bn A2 y) ∧ (∀ c d, r2 c d → r c d ∨ c ∈ FL) ∧ (∀ c ∈ F2, c ∈ FL) ∧ (∀ c, c ∉ FL → gB u2 800 c = gB u 800 c) ∧ (∀ c, c ∉ FL → c ≠ l → gB u2 801 c = gB u 801 c) ∧ ob r2 T (gB u2 801 l) y2 ∧ bn A2 y2 ∧ (∀ (K : Int64 → St → Prop) (x : Int64), K x u2 → l_X2_bindAll_16 N K (d + 1) x (pC l) xr (nI k) u) ∧ (∀ (K : Int64 → St → Prop) (f : Nat), l_X10_lambda_70 c3 K f y2 (nI k + (-1 : Int32)) v2 → l_X10_lambda_70 c3 K (f + d) yb (nI m + (-1 : Int32)) v) := by
  have hn := hN.2.2.2.2.2.2.2.2.1
  intro d
  induction d with
  | zero =>
    intro k ex r A u v FL l cm dm xr yr hk hk1 hBL hfl hlF hH hl hrl e801 oyb hyb h606 hmore ec3 e13 hNth hL hval
    obtain rfl : k = m := by omega
    refine ⟨r, A, u, v, FL, yb, hBL, by rw [Nat.mul_zero, Nat.zero_add] at hH; exact hH, frN_rf u, frP_rf v, fun c d hr => ⟨hr, rfl, rfl, rfl, rfl⟩, fun _ _ _ h => h, fun c d hr => Or.inl hr, fun _ h => h, fun _ _ => rfl, fun _ _ _ => rfl, by rw [e801]; exact oyb, hyb, fun K x hK => ?_, fun K f h => h⟩
    unfold l_X2_bindAll_16
    rw [h606]
    exact sq (nI_le (Nat.le_refl _) (by omega)) hK
  | succ d ih =>
    intro k ex r A u v FL l cm dm xr yr hk hk1 hBL hfl hlF hH hl hrl e801 oyb hyb h606 hmore ec3 e13 hNth hL hval
    obtain ⟨cr, dr, kk, hrr, exr, eyr, hkk, q800, q13, hL2⟩ := hL
    have acr := hBL.1.1.1 _ _ hrr
    have ocar := (hBL.1.1.2.2.2 _ _ hrr).1
    -- the class's two pairs
    obtain ⟨f, b, F1, a1, a2, a3, a4, a5, a6, a7⟩ := newPair_ex (gB u 800 cr) (gB u 605 k) hN hBL.2.2.1 (by omega)
    have hb : b < n := hBL.2.2.1.2.2.1 b a3
    have hrb : ∀ d, ¬ r b d := fun d hr => hBL.2.2.2 _ _ hr a3
    obtain ⟨f2, l2, F2, b1, b2, b3, b4, b5, b6, b7⟩ := newPair_ex (pC b) (gJ u 613) hN a6 (by omega)
    have hl2 : l2 < n := a6.2.2.1 l2 b3
    have hl2F : l2 ∈ FL := a5 l2 b3
    have hrl2 : ∀ d, ¬ r l2 d := fun d hr => hBL.2.2.2 _ _ hr hl2F
    have hbl2 : b ≠ l2 := fun e => a4 (e ▸ b3)
    have hll2 : l ≠ l2 := fun e => hlF (e ▸ hl2F)
    have hlb : l ≠ b := fun e => hlF (e ▸ a3)
    let u1 := npS u f b (gB u 800 cr) (gB u 605 k)
    let u2 := npS u1 f2 l2 (pC b) (gJ u 613)
    let u3 := sB u2 801 (vp_updL (gB u2 801) l (pC l2))
    have g800 : ∀ c, gB u3 800 c = if c = l2 then pC b else if c = b then gB u 800 cr else gB u 800 c := fun c => rfl
    have g801 : ∀ c, gB u3 801 c = if c = l then pC l2 else if c = l2 then gJ u 613 else if c = b then gB u 605 k else gB u 801 c := fun c => rfl
    have hfr : frN u u3 := frN_tr (frN_tr (npS_fr u f b _ _) (npS_fr u1 f2 l2 _ _)) ⟨fun _ _ => rfl, fun _ => rfl, fun _ => rfl, fun k _ h2 => by rw [gB_sB, if_neg h2]⟩
    have hFR3 : FR u3 n F2 := b6
    have hcd : ∀ c d, r c d → c ≠ b ∧ c ≠ l2 ∧ c ≠ l := fun c d hr => ⟨fun e => hrb d (e ▸ hr), fun e => hrl2 d (e ▸ hr), fun e => hrl d (e ▸ hr)⟩
    have hs3 : ∀ c d, r c d → gB u3 800 c = gB u 800 c ∧ gB u3 801 c = gB u 801 c := fun c d hr => by
      obtain ⟨h1, h2, h3⟩ := hcd c d hr
      rw [g800, g801, if_neg h2, if_neg h1, if_neg h3, if_neg h2, if_neg h1]
      exact ⟨rfl, rfl⟩
    have hBL3 : BL T n t w cnt r A u3 v F2 := BL_cls hBL hs3 hfr hFR3 (fun c d hr hc => hBL.2.2.2 c d hr (a5 c (b5 c hc)))
    have hkp3 : kp r r u u3 v v := fun c d hr => ⟨hr, (hs3 c d hr).1, (hs3 c d hr).2, rfl, rfl⟩
    have hbF2 : b ∉ F2 := fun h => a4 (b5 b h)
    have hl2F2 : l2 ∉ F2 := b4
    have e613 : gJ u3 613 = gJ u 613 := rfl
    have hNth3 : Nth r u3 v (k + 1) x0 y0 (gB u3 801 cr) (gB v 14 dr) := Nth_snoc k x0 y0 cr dr hrr (by rw [exr, eyr] at hNth; exact Nth_kp hkp3 k _ _ _ _ hNth)
    have hL3 : Lnm r T u3 v d (gB u3 801 cr) (gB v 14 dr) := by rw [(hs3 cr dr hrr).2]; exact Lnm_kp hkp3 d _ _ hL2
    have hH3 : RdH r v (2 * d + (ex + 2)) := by
      obtain ⟨HL, z1, z2, z3, z4, z5⟩ := hH
      exact ⟨HL, z1, z2, z3, z4, by omega⟩
    obtain ⟨r4, A4, u4, v4, F4, y4, c1, c2, c3', c4, c5, c6, c7, c8, c9, c10, c11, c12, c13, c14⟩ := ih (k + 1) (ex + 2) r A u3 v F2 l2 cm dm (gB u3 801 cr) (gB v 14 dr) (by omega) (by omega) hBL3 (by omega) hl2F2 hH3 hl2 hrl2 (by rw [g801, if_neg (Ne.symm hll2), if_pos rfl]; rfl) oyb hyb h606 hmore ec3 e13 hNth3 hL3 (fun j hj hjm => hval j (by omega) hjm)
    have hkp4 : kp r r4 u u4 v v4 := kp_tr hkp3 c5
    have hrb4 : ∀ e, ¬ r4 b e := fun e hr => (c7 b e hr).elim (fun h => hrb e h) (fun h => hbF2 h)
    have hrl4 : ∀ e, ¬ r4 l2 e := fun e hr => (c7 l2 e hr).elim (fun h => hrl2 e h) (fun h => hl2F2 h)
    have hcr := hkp4 cr dr hrr
    have hcm := hkp4 cm dm hmore
    have e1 : gB u4 800 b = gB u4 800 cr := by
      rw [hcr.2.1, c9 b hbF2, g800, if_neg hbl2, if_pos rfl]
    have e2 : gB u4 801 b = gB u 605 k := by
      rw [c10 b hbF2 hbl2, g801, if_neg (Ne.symm hlb), if_neg hbl2, if_pos rfl]
    have e3 : gB u4 800 l2 = pC b := by
      rw [c9 l2 hl2F2, g800, if_pos rfl]
    have e4 : gB u4 801 l = pC l2 := by
      have hlF2 : l ∉ F2 := fun h => hlF (a5 l (b5 l h))
      rw [c10 l hlF2 hll2, g801, if_pos rfl]
    obtain ⟨r5, A5, v5, y5, d1, d2, d3, d4, d5, d6, d7, d8, d9⟩ := bind_R (b := b) (l := l2) (k := k) (ex := ex) (m := m) (c3 := c3) hn c1 hl2 hb hbl2 (fun h => hbF2 (c8 b h)) (fun h => hl2F2 (c8 l2 h)) hrb4 hrl4 (by rw [Nat.add_comm]; exact c2) hm8 (by omega) hcm.1 ec3 (by rw [hcm.2.2.2.1]; exact e13) (Nth_kp hkp4 k _ _ _ _ hNth) hcr.1 exr eyr e1 (by rw [e2, c4.2.2.2 42 (by decide) (by decide)]; exact ob_mono (hval k (Nat.le_refl _) (by omega)) (fun c d hr => (hkp4 c d hr).1)) e3 c11 c12
    refine ⟨r5, A5, u4, v5, F4, y5, d1, d2, frN_tr hfr c3', frP_tr c4 d3, kp_tr hkp4 d4, fun x y ho hb9 => d5 x y (ob_mono ho (fun c d hr => (hkp4 c d hr).1)) (c6 x y ho hb9), fun c d hr => ?_, fun c hc => a5 c (b5 c (c8 c hc)), fun c hc => ?_, fun c hc hcl => ?_, by rw [e4]; exact d7, d8, fun K x hK => ?_, fun K f9 hK => ?_⟩
    · rcases d6 c d hr with h | h | h
      · rcases c7 c d h with h2 | h2
        · exact Or.inl h2
        · exact Or.inr (a5 c (b5 c h2))
      · exact Or.inr (h ▸ a3)
      · exact Or.inr (h ▸ hl2F)
    · have h1 : c ∉ F2 := fun h => hc (a5 c (b5 c h))
      have h2 : c ≠ l2 := fun e => hc (e ▸ hl2F)
      have h3 : c ≠ b := fun e => hc (e ▸ a3)
      rw [c9 c h1, g800, if_neg h2, if_neg h3]
    · have h1 : c ∉ F2 := fun h => hc (a5 c (b5 c h))
      have h2 : c ≠ l2 := fun e => hc (e ▸ hl2F)
      have h3 : c ≠ b := fun e => hc (e ▸ a3)
      rw [c10 c h1 h2, g801, if_neg hcl, if_neg h2, if_neg h3]
    · unfold l_X2_bindAll_16
      rw [h606, exr]
      refine sf (nI_ge (by omega) (by omega)) (car_p hN acr.1 ⟨vp_in_nI (by omega) (by omega), ?_⟩)
      rw [nI_clamp (show k < 2 ^ 31 by omega), nI_1]
      refine a7 _ (b7 _ (sf (nI_ne0 (by omega) (by omega)) (setCdr_p hN hl (cdr_p hN acr.1 (c13 K x hK)))))
    · have h9 := c14 K (f9 + 1) (by rw [show nI (k + 1) + (-1 : Int32) = nI k from pk_m1 k]; exact d9 K f9 hK)
      rw [show f9 + (d + 1) = f9 + 1 + d from by omega]
      exact h9
theorem bindAll_both {N : Nat → Nat} {T n t w cnt r A u v FL} {m cm dm : Nat} {x0 y0 c3 : Int64} (hN : LN N n t) (hm8 : m ≤ 8) (hBL : BL T n t w cnt r A u v FL) (hfl : 2 * m ≤ FL.length) (hH : RdH r v (2 * m)) (oyb : ob r T (gJ u 613) (gJ v 41)) (hyb : bn A (gJ v 41)) (h606 : gI u 606 = nI m) (hmore : r cm dm) (ec3 : c3 = pR dm) (e13 : gB v 13 dm = y0) (hL : Lnm r T u v m x0 y0) (hval : ∀ j, j < m → ob r T (gB u 605 j) (gB v 42 j)) :
    ∃ (r2 : Nat → Nat → Prop) (A2 : Nat → Prop) (u2 v2 : St) (F2 : List Nat) (x2 y2 : Int64), BL T n t w cnt r2 A2 u2 v2 F2 ∧ frN u u2 ∧ frP v v2 ∧ kp r r2 u u2 v v2 ∧ ob r2 T x2 y2 ∧ bn A2 y2 ∧ (∀ Q : Int64 → St → Prop, Q x2 u2 → wp_X2_bindAll N x0 u Q) ∧ (∃ f : Nat, ∀ K : Int64 → St → Prop, K y2 v2 → l_X10_lambda_70 c3 K f (gJ v 41) (nI m - (1 : Int32)) v) := by
  have hn := hN.2.2.2.2.2.2.2.2.1
  have hend : ∀ (K : Int64 → St → Prop) (y : Int64) (v : St), K y v → l_X10_lambda_70 c3 K 1 y (nI 0 + (-1 : Int32)) v := fun K y v hK => by
    unfold l_X10_lambda_70
    exact sq (by decide) hK
  have hm1 : nI m - (1 : Int32) = nI m + (-1 : Int32) := by rw [Int32.sub_eq_add_neg]
  cases m with
  | zero =>
    refine ⟨r, A, u, v, FL, gJ u 613, gJ v 41, hBL, frN_rf u, frP_rf v, fun c d hr => ⟨hr, rfl, rfl, rfl, rfl⟩, oyb, hyb, fun Q hQ => ⟨1, ?_⟩, 1, fun K hK => ?_⟩
    · unfold l_X2_bindAll_16
      rw [h606]
      exact sq (show nI 0 ≤ (0 : Int32) by decide) hQ
    · rw [hm1]
      exact hend K _ _ hK
  | succ m =>
    obtain ⟨cr, dr, kk, hrr, exr, eyr, hkk, q800, q13, hL2⟩ := id hL
    have acr := hBL.1.1.1 _ _ hrr
    obtain ⟨f, b, F1, a1, a2, a3, a4, a5, a6, a7⟩ := newPair_ex (gB u 800 cr) (gB u 605 0) hN hBL.2.2.1 (by omega)
    have hb : b < n := hBL.2.2.1.2.2.1 b a3
    have hrb : ∀ d, ¬ r b d := fun d hr => hBL.2.2.2 _ _ hr a3
    obtain ⟨f2, l2, F2, b1, b2, b3, b4, b5, b6, b7⟩ := newPair_ex (pC b) (gJ u 613) hN a6 (by omega)
    have hl2 : l2 < n := a6.2.2.1 l2 b3
    have hl2F : l2 ∈ FL := a5 l2 b3
    have hrl2 : ∀ d, ¬ r l2 d := fun d hr => hBL.2.2.2 _ _ hr hl2F
    have hbl2 : b ≠ l2 := fun e => a4 (e ▸ b3)
    let u1 := npS u f b (gB u 800 cr) (gB u 605 0)
    let u3 := npS u1 f2 l2 (pC b) (gJ u 613)
    have g800 : ∀ c, gB u3 800 c = if c = l2 then pC b else if c = b then gB u 800 cr else gB u 800 c := fun c => rfl
    have g801 : ∀ c, gB u3 801 c = if c = l2 then gJ u 613 else if c = b then gB u 605 0 else gB u 801 c := fun c => rfl
    have hfr : frN u u3 := frN_tr (npS_fr u f b _ _) (npS_fr u1 f2 l2 _ _)
    have hcd : ∀ c d, r c d → c ≠ b ∧ c ≠ l2 := fun c d hr => ⟨fun e => hrb d (e ▸ hr), fun e => hrl2 d (e ▸ hr)⟩
    have hs3 : ∀ c d, r c d → gB u3 800 c = gB u 800 c ∧ gB u3 801 c = gB u 801 c := fun c d hr => by
      obtain ⟨h1, h2⟩ := hcd c d hr
      rw [g800, g801, if_neg h2, if_neg h1, if_neg h2, if_neg h1]
      exact ⟨rfl, rfl⟩
    have hBL3 : BL T n t w cnt r A u3 v F2 := BL_cls hBL hs3 hfr b6 (fun c d hr hc => hBL.2.2.2 c d hr (a5 c (b5 c hc)))
    have hkp3 : kp r r u u3 v v := fun c d hr => ⟨hr, (hs3 c d hr).1, (hs3 c d hr).2, rfl, rfl⟩
    have hbF2 : b ∉ F2 := fun h => a4 (b5 b h)
    have hNth0 : Nth r u v 0 x0 y0 (pC cr) (pR dr) := ⟨exr, eyr⟩
    have hNth3 : Nth r u3 v (0 + 1) x0 y0 (gB u3 801 cr) (gB v 14 dr) := Nth_snoc 0 x0 y0 cr dr hrr (Nth_kp hkp3 0 _ _ _ _ hNth0)
    have hL3 : Lnm r T u3 v m (gB u3 801 cr) (gB v 14 dr) := by rw [(hs3 cr dr hrr).2]; exact Lnm_kp hkp3 m _ _ hL2
    have hH3 : RdH r v (2 * m + (0 + 2)) := by
      obtain ⟨HL, z1, z2, z3, z4, z5⟩ := hH
      exact ⟨HL, z1, z2, z3, z4, by omega⟩
    obtain ⟨r4, A4, u4, v4, F4, y4, c1, c2, c3', c4, c5, c6, c7, c8, c9, c10, c11, c12, c13, c14⟩ := bind_loop (m := m + 1) (yb := gJ v 41) (c3 := c3) hN hm8 m 1 (0 + 2) r A u3 v F2 l2 cm dm (gB u3 801 cr) (gB v 14 dr) (by omega) (by omega) hBL3 (by omega) b4 hH3 hl2 hrl2 (by rw [g801, if_pos rfl]; rfl) oyb hyb h606 hmore ec3 e13 hNth3 hL3 (fun j hj hjm => hval j hjm)
    have hkp4 : kp r r4 u u4 v v4 := kp_tr hkp3 c5
    have hrb4 : ∀ e, ¬ r4 b e := fun e hr => (c7 b e hr).elim (fun h => hrb e h) (fun h => hbF2 h)
    have hrl4 : ∀ e, ¬ r4 l2 e := fun e hr => (c7 l2 e hr).elim (fun h => hrl2 e h) (fun h => b4 h)
    have hcr := hkp4 cr dr hrr
    have hcm := hkp4 cm dm hmore
    have e1 : gB u4 800 b = gB u4 800 cr := by
      rw [hcr.2.1, c9 b hbF2, g800, if_neg hbl2, if_pos rfl]
    have e2 : gB u4 801 b = gB u 605 0 := by
      rw [c10 b hbF2 hbl2, g801, if_neg hbl2, if_pos rfl]
    have e3 : gB u4 800 l2 = pC b := by
      rw [c9 l2 b4, g800, if_pos rfl]
    obtain ⟨r5, A5, v5, y5, d1, d2, d3, d4, d5, d6, d7, d8, d9⟩ := bind_R (b := b) (l := l2) (k := 0) (ex := 0) (m := m + 1) (c3 := c3) hn c1 hl2 hb hbl2 (fun h => hbF2 (c8 b h)) (fun h => b4 (c8 l2 h)) hrb4 hrl4 (by rw [Nat.add_comm]; exact c2) hm8 (by omega) hcm.1 ec3 (by rw [hcm.2.2.2.1]; exact e13) (Nth_kp hkp4 0 _ _ _ _ hNth0) hcr.1 rfl rfl e1 (by rw [e2, c4.2.2.2 42 (by decide) (by decide)]; exact ob_mono (hval 0 (by omega)) (fun c d hr => (hkp4 c d hr).1)) e3 c11 c12
    refine ⟨r5, A5, u4, v5, F4, pC l2, y5, d1, frN_tr hfr c3', frP_tr c4 d3, kp_tr hkp4 d4, d7, d8, fun Q hQ => ⟨m + 1 + 1, ?_⟩, 1 + 1 + m, fun K hK => ?_⟩
    · unfold l_X2_bindAll_16
      rw [h606, exr]
      refine sf (nI_ge (a := 0) (b := m + 1) (by omega) (by omega)) (car_p hN acr.1 ⟨vp_in_nI (n := 0) (by omega) (by omega), ?_⟩)
      exact a7 _ (b7 _ (sq rfl (cdr_p hN acr.1 (c13 _ _ hQ))))
    · rw [hm1]
      exact c14 K (1 + 1) (by rw [show nI 1 + (-1 : Int32) = nI 0 from pk_m1 0]; exact d9 K 1 (hend K _ _ hK))
