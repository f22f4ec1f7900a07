/-! PURE: what is kept between two calls -/
def Inv0 (n t s i : Nat) (u v : St) : Prop := ∃ (r : Nat → Nat → Prop) (A : Nat → Prop) (T : Nat) (tx : Nat → Nat) (L p : Nat) (B : List Nat), Core r A T n u v ∧ (∃ FL, FR u n FL ∧ ∀ c d, r c d → c ∉ FL) ∧ (∃ R, RI u n R ∧ R ≤ i * 20002) ∧ (gI u 604 = nI s ∧ gI v 3 = nI s ∧ gI v 2 = nI t) ∧ NmR T u v ∧ (∀ k, T ≤ k → k < 150 → gB u 201 k = (3298534883331 : Int64)) ∧ TX tx L u ∧ TXR tx L v ∧ (gI u 102 = nI p ∧ gI v 6 = nI p ∧ p ≤ L) ∧ ((gI u 103 = -1 ∧ gI v 7 = nI p) ∨ (∃ q, q ≤ 2000 ∧ gI u 103 = nI q ∧ gI v 7 = nI q)) ∧ (gI u 7 = gI v 8 ∧ gI u 607 = gI v 9 ∧ gI u 304 = gI v 10) ∧ OutC u B ∧ OutR v B
theorem ob_T {r : Nat → Nat → Prop} {T T2 : Nat} {x y : Int64} (h : ob r T x y) (hT : T ≤ T2) : ob r T2 x y := by
  rcases h with h | ⟨k, hk, h⟩ | h
  · exact Or.inl h
  · exact Or.inr (Or.inl ⟨k, by omega, h⟩)
  · exact Or.inr (Or.inr h)
theorem Core_grow {r A T T2 n} {u v u1 v1 : St} (h : Core r A T n u v) (hT : T ≤ T2) (h150 : T2 ≤ 150) (a1 : gB u1 800 = gB u 800) (a2 : gB u1 801 = gB u 801) (a3 : gB u1 201 = gB u 201) (a4 : gI u1 202 = nI T2) (habs : ∀ k, T ≤ k → k < 150 → gB u 201 k = (3298534883331 : Int64)) (b1 : gB v1 13 = gB v 13) (b2 : gB v1 14 = gB v 14) (b3 : ∀ k, k < T → gB v1 20 k = gB v 20 k) (b4 : ∀ k, T ≤ k → k < T2 → gB v1 20 k = -1) (b5 : gI v1 21 = nI T2) (b6 : gI v1 1 = gI v 1) : Core r A T2 n u1 v1 := by
  obtain ⟨p1, p2, p3, p4, p5, p6, p7⟩ := h
  refine ⟨⟨p1.1, p1.2.1, p1.2.2.1, fun c d hr => ?_⟩, ?_, ?_, ?_, ⟨a4, b5, by omega, h150⟩, fun k hk => ?_, b6.trans p7⟩
  · rw [a1, a2, b1, b2]; exact ⟨ob_T (p1.2.2.2 c d hr).1 hT, ob_T (p1.2.2.2 c d hr).2 hT⟩
  · unfold SP; rw [a2]; exact p2
  · unfold AL; rw [b1, b2]; exact p3
  · unfold rwd; rw [b1, b2]; exact p4
  · rw [a3]
    by_cases hk2 : k < T
    · rw [b3 k hk2]
      rcases p6 k hk2 with h9 | h9
      · exact Or.inl h9
      · exact Or.inr (ob_T h9 hT)
    · exact Or.inl ⟨habs k (by omega) (by omega), b4 k (by omega) hk⟩
/-- the reference appends the new names -/
theorem app_loop {T m : Nat} {c2 : Int32} (hTm : T + m ≤ 150) : ∀ (d j : Nat) (v : St), j + d = m → gI v 21 = nI (T + j) → gI v 23 = nI m → ∃ v2, gI v2 21 = nI (T + m) ∧ (∀ k, k < T + j → gB v2 19 k = gB v 19 k ∧ gB v2 20 k = gB v 20 k) ∧ (∀ i, j ≤ i → i < m → gB v2 19 (T + i) = gB v 22 i ∧ gB v2 20 (T + i) = -1) ∧ (∀ k, k ≠ 21 → gI v2 k = gI v k) ∧ (∀ k, gJ v2 k = gJ v k) ∧ (∀ k, gA v2 k = gA v k) ∧ (∀ k, k ≠ 19 → k ≠ 20 → gB v2 k = gB v k) ∧ ∀ K : St → Prop, K v2 → l_X10_next_170 c2 K (d + 1) (nI j) v := by
  intro d
  induction d with
  | zero =>
    intro j v hj h21 h23
    obtain rfl : j = m := by omega
    refine ⟨v, h21, fun _ _ => ⟨rfl, rfl⟩, fun i h1 h2 => by omega, fun _ _ => rfl, fun _ => rfl, fun _ => rfl, fun _ _ _ => rfl, fun K hK => ?_⟩
    unfold l_X10_next_170
    rw [h23]
    exact sq (nI_le (Nat.le_refl _) (by omega)) hK
  | succ d ih =>
    intro j v hj h21 h23
    obtain ⟨v2, a1, a2, a3, a4, a5, a6, a7, a8⟩ := ih (j + 1) (sI (sB (sB v 19 (vp_updL (gB v 19) (T + j) (gB v 22 j))) 20 (vp_updL (gB v 20) (T + j) (-1))) 21 (nI (T + j + 1))) (by omega) rfl h23
    refine ⟨v2, a1, fun k hk => ?_, fun i h1 h2 => ?_, fun k hk => (a4 k hk).trans (by rw [gI_sI, if_neg hk]; rfl), a5, a6, fun k h1 h2 => (a7 k h1 h2).trans (by rw [gB_sI, gB_sB, if_neg h2, gB_sB, if_neg h1]), fun K hK => ?_⟩
    · obtain ⟨z1, z2⟩ := a2 k (by omega)
      exact ⟨z1.trans (pk_uLn (by omega)), z2.trans (pk_uLn (by omega))⟩
    · by_cases e : i = j
      · subst e
        obtain ⟨z1, z2⟩ := a2 (T + i) (by omega)
        exact ⟨z1.trans pk_uLs, z2.trans pk_uLs⟩
      · exact a3 i (by omega) h2
    · unfold l_X10_next_170
      rw [h23, h21, nI_clamp (show j < 2 ^ 31 by omega), nI_clamp (show T + j < 2 ^ 31 by omega), nI_1, nI_1]
      exact sf (nI_ge (by omega) (by omega)) ⟨vp_in_nI (by omega) (by omega), vp_in_nI (by omega) (by omega), vp_in_nI (by omega) (by omega), a8 K hK⟩
theorem nx_skip {tx : Nat → Nat} {L q : Nat} (hqL : q ≤ L) (he : q = L ∨ ¬ bl (tx q)) {K : St → Prop} : ∀ (d p : Nat) (v : St), p + d = q → TXR tx L v → gI v 6 = nI p → (∀ j, p ≤ j → j < q → bl (tx j)) → K (sI v 6 (nI q)) → l_X10_next_25 K (d + 1) v := by
  intro d
  induction d with
  | zero =>
    intro p v hp hX h6 hb hK
    obtain rfl : p = q := by omega
    have hL := hX.2.1
    rw [sI_self v 6 _ h6] at hK
    unfold l_X10_next_25
    rw [hX.1, h6, nI_clamp (show p < 2 ^ 31 by omega)]
    refine ⟨fun _ => hK, fun c => ?_⟩
    have hlt : p < L := Classical.byContradiction (fun h9 => c (nI_le (by omega) (by omega)))
    have hnb : ¬ bl (tx p) := he.resolve_left (by omega)
    have hc := (hX.2.2 p hlt).2
    rw [bl_e (tx := tx) hc] at hnb
    rw [(hX.2.2 p hlt).1]
    exact ⟨vp_in_nI (by omega) (by omega), sf (fun e => hnb (Or.inl e)) (sf (fun e => hnb (Or.inr e)) (sq rfl hK))⟩
  | succ d ih =>
    intro p v hp hX h6 hb hK
    have hL := hX.2.1
    have hlt : p < L := by omega
    have hbl := hb p (Nat.le_refl _) (by omega)
    have hc := (hX.2.2 p hlt).2
    rw [bl_e (tx := tx) hc] at hbl
    unfold l_X10_next_25
    rw [hX.1, h6, nI_clamp (show p < 2 ^ 31 by omega), (hX.2.2 p hlt).1, nI_1]
    have hgo : l_X10_next_25 K (d + 1) (sI v 6 (nI (p + 1))) := ih (p + 1) (sI v 6 (nI (p + 1))) (by omega) hX rfl (fun j h1 h2 => hb j (by omega) h2) (by rw [sI_sI]; exact hK)
    refine sf (nI_ge hlt (by omega)) ⟨vp_in_nI (by omega) (by omega), ?_⟩
    exact ⟨fun _ => sf (by decide) hgo, fun e => sq (hbl.resolve_left e) (sf (by decide) hgo)⟩
theorem rootsG {r A T n u v} (h : Core r A T n u v) (hn : n ≤ 1000) : (∀ c, c < n → rt u T 0 0 (aC 0) (aC 0) (pC c) → ∃ d, r c d ∧ rtG v T (pR d)) ∧ (∀ d, d < 1000 → rtG v T (pR d) → ∃ c, r c d ∧ rt u T 0 0 (aC 0) (aC 0) (pC c)) := by
  have hT := h.2.2.2.2.1.2.2.2
  refine ⟨fun c hc hr => ?_, fun d hd hr => ?_⟩
  · rcases hr with ⟨j, hj, e⟩ | ⟨j, hj, e⟩ | ⟨j, hj, e⟩ | e | e
    · rcases h.2.2.2.2.2.1 j hj with h9 | h9
      · exact absurd (h9.1.symm.trans e) (ABS_ne (by omega))
      · rw [e] at h9
        obtain ⟨d, hd, ed⟩ := ob_pC hT hn h.1.1 h9 (by omega)
        exact ⟨d, hd, ⟨j, hj, ed⟩⟩
    · omega
    · omega
    · exact absurd e (pC_ne_a (by omega) (by omega))
    · exact absurd e (pC_ne_a (by omega) (by omega))
  · obtain ⟨j, hj, e⟩ := hr
    rcases h.2.2.2.2.2.1 j hj with h9 | h9
    · exact absurd (h9.2.symm.trans e) (pR_nm1 hd)
    · rw [e] at h9
      obtain ⟨c, hc, ec⟩ := ob_pR hT h.1.1 h9 hd
      exact ⟨c, hc, Or.inl ⟨j, hj, ec⟩⟩
/-- what is held for the globals alone: room, on both sides -/
theorem roomG {N : Nat → Nat} {r A T n t R k u v} {FL : List Nat} (hN : LN N n t) (h : Core r A T n u v) (hF : FR u n FL) (hdis : ∀ c d, r c d → c ∉ FL) (hR : RI u n R) (hb : R + 1 < 2 ^ 30) (hw : gI u 303 = 0) (hk : k < 3000) (h8 : gI v 8 = 0) :
    ∃ (u1 v1 b : St) (HL : List Nat) (R1 : Nat), R1 ≤ R + 1 ∧ RI u1 n R1 ∧ frK u u1 ∧ frH v v1 ∧ frH v b ∧ Core (cut r HL) A T n u1 v1 ∧ (∃ F1, FR u1 n F1 ∧ ∀ c d, cut r HL c d → c ∉ F1) ∧ (∀ Q : St → Prop, Q b → wp_X10_holdGlobals v Q) ∧
      ((RdC (cut r HL) n u1 k ∧ RdH (cut r HL) v1 k ∧ (∀ Q : Int32 → St → Prop, Q 1 u1 → wp_X1_hasRoom_20 N (nI k) (nI 0) (aC 0) (aC 0) u Q) ∧ (∀ Q : Int32 → St → Prop, Q 1 v1 → wp_X10_room (nI k) b Q)) ∨ ((∀ Q : Int32 → St → Prop, Q 0 u1 → wp_X1_hasRoom_20 N (nI k) (nI 0) (aC 0) (aC 0) u Q) ∧ (∀ Q : Int32 → St → Prop, Q 0 (sI v1 8 6) → wp_X10_room (nI k) b Q))) := by
  have hn := hN.2.2.2.2.2.2.2.2.1
  obtain ⟨t1, t2, t3, t4⟩ := h.2.2.2.2.1
  obtain ⟨b, Hb, ho, p1⟩ := holdGlobals_ex t2 t4 (Core_g h) h.2.2.2.1
  have hd := hasRoom_20_ex (k := k) (m := 0) (w := 0) (x := aC 0) (y := aC 0) hN hR hb hF t1 t4 hw (Nat.zero_le _) (Nat.le_refl _) hk
  obtain ⟨v1, HL, hH1, hq⟩ := room_ex (p := k) ho h.2.2.2.1 h.2.2.2.2.2.2 hn hk h8
  obtain ⟨i1, i2⟩ := rootsG h hn
  obtain ⟨u1, R1, F1, g1, g2, g3, g4, g5, g6, g7⟩ := room_join t4 hn hd h.1 hF hdis hR hH1 i1 i2
  refine ⟨u1, v1, b, HL, R1, g2, g3, g1, hH1.2.1, ho.2.1, Core_cut h hH1 g1 (fun z hz => hz), ⟨F1, g4, fun c d hc => g5 c d hc.1 hc.2⟩, p1, ?_⟩
  by_cases hl : HL.length + k ≤ n
  · exact Or.inl ⟨⟨F1, g4, fun c d hc => g5 c d hc.1 hc.2, g6 hl⟩, ⟨HL, hH1.1.1, hH1.1.2.1, hH1.1.2.2.1, fun c d hc => hc.2, by omega⟩, fun Q hQ => g7 Q (fun _ => hQ) (fun h => absurd hl h), fun Q hQ => hq Q (fun _ => hQ) (fun h => absurd hl h)⟩
  · exact Or.inr ⟨fun Q hQ => g7 Q (fun h => absurd h hl) (fun _ => hQ), fun Q hQ => hq Q (fun h => absurd h hl) (fun _ => hQ)⟩
