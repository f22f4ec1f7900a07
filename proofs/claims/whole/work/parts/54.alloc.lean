/-! PURE: room on both sides, and a new pair on both sides -/
def Rdy (r : Nat → Nat → Prop) (n : Nat) (u v : St) (k : Nat) : Prop := (∃ FL, FR u n FL ∧ (∀ c d, r c d → c ∉ FL) ∧ k ≤ FL.length) ∧ (∃ HL : List Nat, HL.Nodup ∧ (∀ d ∈ HL, d < 1000) ∧ (∀ d, d < 1000 → (gA v 15 d = 0 ↔ d ∉ HL)) ∧ (∀ c d, r c d → d ∈ HL) ∧ HL.length + k ≤ n)
theorem room_gen {r A T n t w cnt} {u v b : St} {m k R : Nat} {x y x2 y2 : Int64} {FL HLb : List Nat} {kb : Nat} {W : (Int32 → St → Prop) → Prop} (h : Core r A T n u v) (hn : n ≤ 1000) (hw : Wt r A T t w cnt u v) (hx : ob r T x x2) (hy : ob r T y y2) (hv : ∀ k, k < m → ob r T (gB u 605 k) (gB v 42 k)) (hF : FR u n FL) (hdis : ∀ c d, r c d → c ∉ FL) (hR : RI u n R) (hk : k < 3000) (hf : gI v 8 = 0)
    (hd : (k ≤ FL.length ∧ ∀ Q : Int32 → St → Prop, Q 1 u → W Q) ∨ (∃ (u1 : St) (ML F1 : List Nat), frK u u1 ∧ RI u1 n (R + 1) ∧ Swept u n T w m x y u1 ML F1 ∧ ∀ Q : Int32 → St → Prop, (k ≤ F1.length → Q 1 u1) → (¬ k ≤ F1.length → Q 0 u1) → W Q))
    (hH : Ho v (rtB v T cnt w m x2 y2) b HLb kb) :
    ∃ (u1 v1 : St) (HL : List Nat) (R1 : Nat), R1 ≤ R + 1 ∧ RI u1 n R1 ∧ frK u u1 ∧ frH v v1 ∧ (∃ F1, FR u1 n F1 ∧ ∀ c d, cut r HL c d → c ∉ F1) ∧ Core (cut r HL) A T n u1 v1 ∧ Wt (cut r HL) A T t w cnt u1 v1 ∧ (∀ p q, ob r T p q → rtB v T cnt w m x2 y2 q → ob (cut r HL) T p q) ∧
      ((Rdy (cut r HL) n u1 v1 k ∧ (∀ Q : Int32 → St → Prop, Q 1 u1 → W Q) ∧ (∀ Q : Int32 → St → Prop, Q 1 v1 → wp_X10_room (nI k) b Q)) ∨ ((∀ Q : Int32 → St → Prop, Q 0 u1 → W Q) ∧ (∀ Q : Int32 → St → Prop, Q 0 (sI v1 8 6) → wp_X10_room (nI k) b Q))) := by
  obtain ⟨v1, HL, hH1, hq⟩ := room_ex (p := k) hH h.2.2.2.1 h.2.2.2.2.2.2 hn hk hf
  obtain ⟨i1, i2⟩ := rootsC h hn hw hx hy hv
  obtain ⟨u1, R1, F1, g1, g2, g3, g4, g5, g6, g7⟩ := room_join h.2.2.2.2.1.2.2.2 hn hd h.1 hF hdis hR hH1 i1 i2
  refine ⟨u1, v1, HL, R1, g2, g3, g1, hH1.2.1, ⟨F1, g4, fun c d hc => g5 c d hc.1 hc.2⟩, Core_cut h hH1 g1 (fun z hz => Or.inl (Or.inl hz)), Wt_cut h hw hH1 g1 (fun z hz => Or.inl hz), fun p q ho hr => ob_cut ho (fun c d hcd e => hH1.2.2.2.1 d (h.1.1 _ _ hcd).2 (e ▸ hr)), ?_⟩
  by_cases hl : HL.length + k ≤ n
  · exact Or.inl ⟨⟨⟨F1, g4, fun c d hc => g5 c d hc.1 hc.2, g6 hl⟩, ⟨HL, hH1.1.1, hH1.1.2.1, hH1.1.2.2.1, fun c d hc => hc.2, hl⟩⟩, fun Q hQ => g7 Q (fun _ => hQ) (fun h => absurd hl h), fun Q hQ => hq Q (fun _ => hQ) (fun h => absurd hl h)⟩
  · exact Or.inr ⟨fun Q hQ => g7 Q (fun h => absurd h hl) (fun _ => hQ), fun Q hQ => hq Q (fun h => absurd h hl) (fun _ => hQ)⟩
/-! new pairs -/
def npS (u : St) (f c : Nat) (x y : Int64) : St := sB (sB (sI u 805 (nI f)) 800 (vp_updL (gB u 800) c x)) 801 (vp_updL (gB u 801) c y)
def prS (v : St) (d : Nat) (x y : Int64) : St := sB (sB (sA v 15 (upd (gA v 15) d 1)) 13 (vp_updL (gB v 13) d x)) 14 (vp_updL (gB v 14) d y)
theorem newPair_ex {N : Nat → Nat} {n t : Nat} {u : St} {FL : List Nat} (x y : Int64) (hN : LN N n t) (hF : FR u n FL) (hl : 0 < FL.length) : ∃ (f c : Nat) (F1 : List Nat), f + 1 = FL.length ∧ F1.length = f ∧ c ∈ FL ∧ c ∉ F1 ∧ (∀ z ∈ F1, z ∈ FL) ∧ FR (npS u f c x y) n F1 ∧ ∀ Q : Int64 → St → Prop, Q (pC c) (npS u f c x y) → wp_X0_newPair N x y u Q := by
  have hn := hN.2.2.2.2.2.2.2.2.1
  obtain ⟨F1, c, rfl⟩ : ∃ F1 c, FL = F1 ++ [c] := ⟨FL.dropLast, FL.getLast (by intro e; rw [e] at hl; exact absurd hl (by simp)), (List.dropLast_concat_getLast _).symm⟩
  obtain ⟨h1, h2, h3, h4⟩ := hF
  have hle := nd_le h2 h3
  rw [List.length_append] at hle h1
  simp only [List.length_cons, List.length_nil] at hle h1
  have hcm : c ∈ F1 ++ [c] := List.mem_append_right _ List.mem_cons_self
  have hc : c < n := h3 c hcm
  obtain ⟨n1, _, n3⟩ := List.nodup_append.mp h2
  refine ⟨F1.length, c, F1, by simp, rfl, hcm, fun hc => n3 c hc c List.mem_cons_self rfl, fun z hz => List.mem_append_left _ hz, ⟨rfl, n1, fun z hz => h3 z (List.mem_append_left _ hz), fun j hj => ?_⟩, fun Q hQ => ?_⟩
  · have e := h4 j (by simp; omega)
    show gA u 804 j = _
    rw [e]
    simp only [List.getD_eq_getElem?_getD]
    rw [List.getElem?_append_left hj]
  · refine newPair_ok hN (f := F1.length) (c := c) (by rw [h1]) (by omega) ?_ hc hQ
    have e := h4 F1.length (by simp)
    rw [e]
    simp
theorem pair_ex {v : St} {HL : List Nat} (x y : Int64) (h1 : HL.Nodup) (h2 : ∀ d ∈ HL, d < 1000) (h3 : ∀ d, d < 1000 → (gA v 15 d = 0 ↔ d ∉ HL)) (hl : HL.length < 1000) : ∃ d, d < 1000 ∧ d ∉ HL ∧ ∀ Q : Int64 → St → Prop, Q (pR d) (prS v d x y) → wp_X10_pair x y v Q := by
  -- some cell is not held
  have hex : ∃ d, d < 1000 ∧ d ∉ HL := Classical.byContradiction (fun hno => by
    have a := nd_inj (f := fun x y => x = y) (fun x z y p q => p.trans q.symm) (List.range 1000) HL List.nodup_range (fun x hx => ⟨x, Classical.byContradiction (fun h => hno ⟨x, List.mem_range.mp hx, h⟩), rfl⟩)
    rw [List.length_range] at a
    omega)
  obtain ⟨d0, hd0, hm0⟩ := hex
  have key : ∀ (m i : Nat), i + m = d0 → ∃ (d f : Nat), d < 1000 ∧ d ∉ HL ∧ ∀ K : Int32 → St → Prop, K (nI d) v → l_X10_pair_3 x y K f (nI i) v := by
    intro m
    induction m with
    | zero =>
      intro i hi
      obtain rfl : i = d0 := by omega
      refine ⟨i, 1, hd0, hm0, fun K hK => ?_⟩
      unfold l_X10_pair_3
      rw [nI_clamp (show i < 2 ^ 31 by omega)]
      exact ⟨vp_in_nI hd0 (by omega), fun _ => hK, fun h => absurd ((h3 i hd0).mpr hm0) h⟩
    | succ m ih =>
      intro i hi
      by_cases hz : gA v 15 i = 0
      · refine ⟨i, 1, by omega, (h3 i (by omega)).mp hz, fun K hK => ?_⟩
        unfold l_X10_pair_3
        rw [nI_clamp (show i < 2 ^ 31 by omega)]
        exact ⟨vp_in_nI (by omega) (by omega), fun _ => hK, fun h => absurd hz h⟩
      · obtain ⟨d, f, a1, a2, a3⟩ := ih (i + 1) (by omega)
        refine ⟨d, f + 1, a1, a2, fun K hK => ?_⟩
        unfold l_X10_pair_3
        rw [nI_clamp (show i < 2 ^ 31 by omega), show nI i + (1 : Int32) = nI (i + 1) from nI_1 i]
        exact ⟨vp_in_nI (by omega) (by omega), fun h => absurd h hz, fun _ => a3 K hK⟩
  obtain ⟨d, f, a1, a2, a3⟩ := key d0 0 (by omega)
  refine ⟨d, a1, a2, fun Q hQ => ⟨f, a3 _ ?_⟩⟩
  have e : (8589934592 : Int64) + (nI d).toInt64 = pR d := by rw [nI_l (by omega)]; exact lN_add _ _
  show vp_in (nI d) 1000 ∧ vp_in (nI d) 1000 ∧ vp_in (nI d) 1000 ∧ Q ((8589934592 : Int64) + (nI d).toInt64) _
  rw [e, nI_clamp (show d < 2 ^ 31 by omega), z1]
  exact ⟨vp_in_nI a1 (by omega), vp_in_nI a1 (by omega), vp_in_nI a1 (by omega), hQ⟩
def new (r : Nat → Nat → Prop) (c0 d0 : Nat) : Nat → Nat → Prop := fun c d => r c d ∨ (c = c0 ∧ d = d0)
def newA (A : Nat → Prop) (d0 : Nat) (isA : Prop) : Nat → Prop := fun d => (A d ∧ d ≠ d0) ∨ (d = d0 ∧ isA)
theorem ob_mono {r r2 : Nat → Nat → Prop} {T : Nat} {x y : Int64} (h : ob r T x y) (hr : ∀ c d, r c d → r2 c d) : ob r2 T x y := by
  rcases h with h | h | ⟨c, d, h1, h2⟩
  · exact Or.inl h
  · exact Or.inr (Or.inl h)
  · exact Or.inr (Or.inr ⟨c, d, hr c d h1, h2⟩)
theorem bn_new {r A T n d0 isA} {x y : Int64} (hT : T ≤ 150) (hb : ∀ c d, r c d → c < n ∧ d < 1000) (hd : ∀ c, ¬ r c d0) (ho : ob r T x y) (h : bn A y) : bn (newA A d0 isA) y := by
  rcases h with h | ⟨d, hd1, e, ha⟩
  · exact Or.inl h
  · refine Or.inr ⟨d, hd1, e, Or.inl ⟨ha, fun e2 => ?_⟩⟩
    subst e2
    subst e
    obtain ⟨c, hc, _⟩ := ob_pR hT hb ho hd1
    exact hd c hc
def frN (u u1 : St) : Prop := (∀ k, k ≠ 805 → gI u1 k = gI u k) ∧ (∀ k, gJ u1 k = gJ u k) ∧ (∀ k, gA u1 k = gA u k) ∧ (∀ k, k ≠ 800 → k ≠ 801 → gB u1 k = gB u k)
def frP (u u1 : St) : Prop := (∀ k, gI u1 k = gI u k) ∧ (∀ k, gJ u1 k = gJ u k) ∧ (∀ k, k ≠ 15 → gA u1 k = gA u k) ∧ (∀ k, k ≠ 13 → k ≠ 14 → gB u1 k = gB u k)
theorem frN_tr {u v w : St} (h1 : frN u v) (h2 : frN v w) : frN u w := ⟨fun k a => (h2.1 k a).trans (h1.1 k a), fun k => (h2.2.1 k).trans (h1.2.1 k), fun k => (h2.2.2.1 k).trans (h1.2.2.1 k), fun k a b => (h2.2.2.2 k a b).trans (h1.2.2.2 k a b)⟩
theorem frP_tr {u v w : St} (h1 : frP u v) (h2 : frP v w) : frP u w := ⟨fun k => (h2.1 k).trans (h1.1 k), fun k => (h2.2.1 k).trans (h1.2.1 k), fun k a => (h2.2.2.1 k a).trans (h1.2.2.1 k a), fun k a b => (h2.2.2.2 k a b).trans (h1.2.2.2 k a b)⟩
theorem frN_rf (u : St) : frN u u := ⟨fun _ _ => rfl, fun _ => rfl, fun _ => rfl, fun _ _ _ => rfl⟩
theorem frP_rf (u : St) : frP u u := ⟨fun _ => rfl, fun _ => rfl, fun _ _ => rfl, fun _ _ _ => rfl⟩
theorem npS_fr (u : St) (f c : Nat) (x y : Int64) : frN u (npS u f c x y) := ⟨fun k h => by unfold npS; rw [gI_sB, gI_sB, gI_sI, if_neg h], fun _ => rfl, fun _ => rfl, fun k h1 h2 => by unfold npS; rw [gB_sB, if_neg h2, gB_sB, if_neg h1]; rfl⟩
theorem prS_fr (v : St) (d : Nat) (x y : Int64) : frP v (prS v d x y) := ⟨fun _ => rfl, fun _ => rfl, fun k h => by unfold prS; rw [gA_sB, gA_sB, gA_sA, if_neg h], fun k h1 h2 => by unfold prS; rw [gB_sB, if_neg h2, gB_sB, if_neg h1]; rfl⟩
theorem npS_800 (u : St) (f c : Nat) (x y : Int64) (k : Nat) : gB (npS u f c x y) 800 k = if k = c then x else gB u 800 k := rfl
theorem npS_801 (u : St) (f c : Nat) (x y : Int64) (k : Nat) : gB (npS u f c x y) 801 k = if k = c then y else gB u 801 k := rfl
theorem prS_13 (v : St) (d : Nat) (x y : Int64) (k : Nat) : gB (prS v d x y) 13 k = if k = d then x else gB v 13 k := rfl
theorem prS_14 (v : St) (d : Nat) (x y : Int64) (k : Nat) : gB (prS v d x y) 14 k = if k = d then y else gB v 14 k := rfl
theorem prS_15 (v : St) (d : Nat) (x y : Int64) (k : Nat) : gA (prS v d x y) 15 k = if k = d then 1 else gA v 15 k := rfl
/-- what waits, behind new pairs -/
theorem Wt_new {r r2 A A2 T n t w cnt} {u v u1 v1 : St} (hT : T ≤ 150) (hb : ∀ c d, r c d → c < n ∧ d < 1000) (hw : Wt r A T t w cnt u v) (hr : ∀ c d, r c d → r2 c d) (hbn : ∀ x y, ob r T x y → bn A y → bn A2 y) (h13 : ∀ c d, r c d → gB v1 13 d = gB v 13 d) (h14 : ∀ c d, r c d → gB v1 14 d = gB v 14 d) (hcl : HpR r T n u v) (f1 : frN u u1) (f2 : frP v v1) : Wt r2 A2 T t w cnt u1 v1 := by
  obtain ⟨b1, b2, b3, b4⟩ := hw
  refine ⟨by rw [f1.1 303 (by decide)]; exact b1, by rw [f2.1 32]; exact b2, b3, fun j hj => ?_⟩
  obtain ⟨c1, c2, c3, c4, c5, c6, c7, c8, c9, c10, c11, c12, c13⟩ := b4 j hj
  unfold Frm
  rw [f1.2.2.1 300, f1.2.2.1 301, f1.2.2.2 302 (by decide) (by decide), f2.2.2.1 33 (by decide), f2.2.2.1 37 (by decide), f2.2.2.2 34 (by decide) (by decide), f2.2.2.2 35 (by decide) (by decide), f2.2.2.2 36 (by decide) (by decide), f2.2.2.2 38 (by decide) (by decide)]
  refine ⟨c1, c2, c3, c4, c5, c6, ob_mono c7 hr, ob_mono c8 hr, ob_mono c9 hr, hbn _ _ c9 c10, fun k hk => ob_mono (c11 k hk) hr, c12, fun hk => ?_⟩
  obtain ⟨d, e, f, hd, he, hf2, q1, q2, q3⟩ := c13 hk
  rw [q1] at c8
  obtain ⟨c, hc, _⟩ := ob_pR hT hb c8 hd
  have o1 := (hcl.2.2.2 c d hc).1
  rw [q2] at o1
  obtain ⟨b, hbe, _⟩ := ob_pR hT hb o1 he
  exact ⟨d, e, f, hd, he, hf2, q1, by rw [h13 c d hc]; exact q2, by rw [h14 b e hbe]; exact q3⟩
theorem alloc1 {N : Nat → Nat} {r A T n t w cnt} {u v : St} {k : Nat} {x1 y1 x2 y2 : Int64} (isA : Prop) (hN : LN N n t) (h : Core r A T n u v) (hw : Wt r A T t w cnt u v) (hrd : Rdy r n u v (k + 1)) (o1 : ob r T x1 y1) (o2 : ob r T x2 y2) (hA : isA → (∃ e, e < 1000 ∧ y1 = pR e) ∧ bn A y2) :
    ∃ (c0 d0 : Nat) (u1 v1 : St), c0 < n ∧ d0 < 1000 ∧ (∀ d, ¬ r c0 d) ∧ (∀ c, ¬ r c d0) ∧ Core (new r c0 d0) (newA A d0 isA) T n u1 v1 ∧ Wt (new r c0 d0) (newA A d0 isA) T t w cnt u1 v1 ∧ Rdy (new r c0 d0) n u1 v1 k ∧ frN u u1 ∧ frP v v1 ∧ (∀ c d, r c d → gB u1 800 c = gB u 800 c ∧ gB u1 801 c = gB u 801 c ∧ gB v1 13 d = gB v 13 d ∧ gB v1 14 d = gB v 14 d) ∧ (∀ Q : Int64 → St → Prop, Q (pC c0) u1 → wp_X0_newPair N x1 x2 u Q) ∧ (∀ Q : Int64 → St → Prop, Q (pR d0) v1 → wp_X10_pair y1 y2 v Q) := by
  have hn := hN.2.2.2.2.2.2.2.2.1
  have hT := h.2.2.2.2.1.2.2.2
  obtain ⟨⟨FL, hF, hdis, hkl⟩, ⟨HL, g1, g2, g3, g4, g5⟩⟩ := hrd
  obtain ⟨f, c0, F1, a1, a2, a3, a4, a5, a6, a7⟩ := newPair_ex x1 x2 hN hF (by omega)
  obtain ⟨d0, b1, b2, b3⟩ := pair_ex y1 y2 g1 g2 g3 (by omega)
  have hc0 := hF.2.2.1 c0 a3
  have hrc : ∀ d, ¬ r c0 d := fun d hr => hdis c0 d hr a3
  have hrd0 : ∀ c, ¬ r c d0 := fun c hr => b2 (g4 c d0 hr)
  have hnc : ∀ c d, r c d → c ≠ c0 := fun c d hr e => hrc d (e ▸ hr)
  have hnd : ∀ c d, r c d → d ≠ d0 := fun c d hr e => hrd0 c (e ▸ hr)
  have hsame : ∀ c d, r c d → gB (npS u f c0 x1 x2) 800 c = gB u 800 c ∧ gB (npS u f c0 x1 x2) 801 c = gB u 801 c ∧ gB (prS v d0 y1 y2) 13 d = gB v 13 d ∧ gB (prS v d0 y1 y2) 14 d = gB v 14 d := fun c d hr => ⟨by rw [npS_800, if_neg (hnc c d hr)], by rw [npS_801, if_neg (hnc c d hr)], by rw [prS_13, if_neg (hnd c d hr)], by rw [prS_14, if_neg (hnd c d hr)]⟩
  have hmono : ∀ c d, r c d → new r c0 d0 c d := fun c d hr => Or.inl hr
  obtain ⟨p1, ⟨rk, p2⟩, p3, p4, p5, p6, p7⟩ := id h
  refine ⟨c0, d0, npS u f c0 x1 x2, prS v d0 y1 y2, hc0, b1, hrc, hrd0, ⟨?_, ?_, ?_, ?_, p5, ?_, p7⟩, Wt_new hT h.1.1 hw hmono (fun x y ho hb => bn_new hT h.1.1 hrd0 ho hb) (fun c d hr => (hsame c d hr).2.2.1) (fun c d hr => (hsame c d hr).2.2.2) h.1 (npS_fr _ _ _ _ _) (prS_fr _ _ _ _), ⟨⟨F1, a6, ?_, by omega⟩, ⟨d0 :: HL, List.nodup_cons.mpr ⟨b2, g1⟩, ?_, ?_, ?_, by simp only [List.length_cons]; omega⟩⟩, npS_fr _ _ _ _ _, prS_fr _ _ _ _, hsame, a7, b3⟩
  · refine ⟨fun c d hr => ?_, fun c d e h1 h2 => ?_, fun c b d h1 h2 => ?_, fun c d hr => ?_⟩
    · rcases hr with hr | ⟨rfl, rfl⟩
      · exact p1.1 c d hr
      · exact ⟨hc0, b1⟩
    · rcases h1 with h1 | ⟨rfl, rfl⟩ <;> rcases h2 with h2 | ⟨e1, rfl⟩
      · exact p1.2.1 c d e h1 h2
      · exact absurd e1 (hnc _ _ h1)
      · exact absurd h2 (hrc _)
      · rfl
    · rcases h1 with h1 | ⟨rfl, rfl⟩ <;> rcases h2 with h2 | ⟨rfl, e1⟩
      · exact p1.2.2.1 c b d h1 h2
      · exact absurd e1 (hnd _ _ h1)
      · exact absurd h2 (hrd0 _)
      · rfl
    · rcases hr with hr | ⟨rfl, rfl⟩
      · obtain ⟨e1, e2, e3, e4⟩ := hsame c d hr
        rw [e1, e2, e3, e4]
        exact ⟨ob_mono (p1.2.2.2 c d hr).1 hmono, ob_mono (p1.2.2.2 c d hr).2 hmono⟩
      · rw [npS_800, npS_801, prS_13, prS_14, if_pos rfl, if_pos rfl, if_pos rfl, if_pos rfl]
        exact ⟨ob_mono o1 hmono, ob_mono o2 hmono⟩
  · -- ranks
    have hb2 : ∀ b, b < 1000 → x2 = pC b → b ≠ c0 := fun b hb e => by
      subst e
      obtain ⟨d, hd, _⟩ := ob_pC hT hn p1.1 o2 hb
      exact hnc _ _ hd
    have hex : ∃ M, ∀ b, b < 1000 → x2 = pC b → rk b < M := by
      by_cases hx : ∃ b, b < 1000 ∧ x2 = pC b
      · obtain ⟨b, hb, e⟩ := hx
        exact ⟨rk b + 1, fun b2 hb3 e2 => by rw [pC_inj hb3 hb (e2.symm.trans e)]; omega⟩
      · exact ⟨0, fun b hb e => absurd ⟨b, hb, e⟩ hx⟩
    obtain ⟨M, hM⟩ := hex
    refine ⟨fun c => if c = c0 then M else rk c, fun c d hr b hb e => ?_⟩
    rcases hr with hr | ⟨rfl, rfl⟩
    · have hbc : b ≠ c0 := fun e2 => by
        subst e2
        rw [(hsame c d hr).2.1] at e
        have o := (p1.2.2.2 c d hr).2
        rw [e] at o
        obtain ⟨d2, hd2, _⟩ := ob_pC hT hn p1.1 o hb
        exact hrc d2 hd2
      rw [(hsame c d hr).2.1] at e
      simp only [if_neg hbc, if_neg (hnc c d hr)]
      exact p2 c d hr b hb e
    · rw [npS_801, if_pos rfl] at e
      simp only [if_true, if_neg (hb2 b hb e)]
      exact hM b hb e
  · intro c d hr hd
    rcases hr with hr | ⟨rfl, rfl⟩
    · rcases hd with ⟨hd, _⟩ | ⟨e, _⟩
      · obtain ⟨⟨e, he, q1⟩, q2⟩ := p3 c d hr hd
        refine ⟨⟨e, he, by rw [(hsame c d hr).2.2.1]; exact q1⟩, ?_⟩
        rw [(hsame c d hr).2.2.2]
        exact bn_new hT p1.1 hrd0 (p1.2.2.2 c d hr).2 q2
      · exact absurd e (hnd _ _ hr)
    · rcases hd with ⟨_, hd⟩ | ⟨_, hi⟩
      · exact absurd rfl hd
      · obtain ⟨⟨e, he, q1⟩, q2⟩ := hA hi
        rw [prS_13, prS_14, if_pos rfl, if_pos rfl]
        exact ⟨⟨e, he, q1⟩, bn_new hT p1.1 hrd0 o2 q2⟩
  · intro d hd
    rw [prS_13, prS_14]
    refine ⟨?_, ?_⟩
    · by_cases e : d = d0
      · rw [if_pos e]; exact ob_wd hT p1.1 o1
      · rw [if_neg e]; exact (p4 d hd).1
    · by_cases e : d = d0
      · rw [if_pos e]; exact ob_wd hT p1.1 o2
      · rw [if_neg e]; exact (p4 d hd).2
  · intro j hj
    rcases p6 j hj with h9 | h9
    · exact Or.inl h9
    · exact Or.inr (ob_mono h9 hmono)
  · intro c d hr hc
    rcases hr with hr | ⟨rfl, rfl⟩
    · exact hdis c d hr (a5 c hc)
    · exact a4 hc
  · intro d hd
    rcases List.mem_cons.mp hd with rfl | hd
    · exact b1
    · exact g2 d hd
  · intro d hd
    rw [prS_15]
    by_cases e : d = d0
    · rw [if_pos e]
      exact ⟨fun h => absurd h (by decide), fun h => absurd (e ▸ List.mem_cons_self) h⟩
    · rw [if_neg e, g3 d hd]
      simp [e]
  · intro c d hr
    rcases hr with hr | ⟨rfl, rfl⟩
    · exact List.mem_cons_of_mem _ (g4 c d hr)
    · exact List.mem_cons_self
