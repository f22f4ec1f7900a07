/-! PURE: the beginning, and all together -/
theorem wi_n {a b c d : Int32} {k b0 c0 d0 : Nat} (h : wi a b c d k) (hb : b = nI b0) (hc : c = nI c0) (hd : d = nI d0) (hbd : b0 ≤ d0) (hdc : d0 ≤ c0) (hc2 : c0 < 2 ^ 30) : b0 ≤ k ∧ k ≤ c0 := by
  obtain ⟨h1, h2⟩ := h
  rw [hc, nI_toInt (by omega)] at h2
  have hk : k ≤ c0 := by omega
  refine ⟨?_, hk⟩
  unfold wiN at h1
  by_cases h3 : a < b
  · rw [if_pos h3, hd] at h1
    have := (nI_eq (by omega) (by omega)).mp h1
    omega
  · rw [if_neg h3] at h1
    by_cases h4 : c < a
    · rw [if_pos h4, hd] at h1
      have := (nI_eq (by omega) (by omega)).mp h1
      omega
    · rw [if_neg h4] at h1
      rw [← h1, hb] at h3
      exact Classical.byContradiction (fun h9 => h3 (nI_lt (by omega) (by omega)))
def Zr (a1 a2 a3 : Int32) (u : St) : Prop := gI u 1 = a1 ∧ gI u 2 = a2 ∧ gI u 3 = a3 ∧ (∀ k, k ≠ 1 → k ≠ 2 → k ≠ 3 → gI u k = 0) ∧ (∀ k j, gA u k j = 0) ∧ (∀ k j, gB u k j = 0)
def Fr (a1 a2 a3 : Int32) (v : St) : Prop := gI v 1 = a1 ∧ gI v 2 = a2 ∧ gI v 3 = a3 ∧ (∀ k, k ≠ 1 → k ≠ 2 → k ≠ 3 → k ≠ 21 → gI v k = 0) ∧ (∀ k j, gA v k j = 0) ∧ (∀ k, k ≠ 19 → k ≠ 20 → ∀ j, gB v k j = 0) ∧ gI v 21 = nI 18 ∧ ∀ j, j < 18 → gB v 19 j = lN (SPL.getD j 0) ∧ gB v 20 j = -1
theorem i354 {a1 a2 a3 : Int32} {u : St} {Q : St → Prop} (h : Zr a1 a2 a3 u) (hQ : ∀ v, Fr a1 a2 a3 v → Q v) : j_X10_init_354 Q u := by
  obtain ⟨z1, z2, z3, z4, z5, z6⟩ := h
  obtain ⟨v, ⟨m1, m2⟩, fr, run⟩ := init354 (u := u) (z4 21 (by decide) (by decide) (by decide))
  exact run Q (hQ v ⟨(fr.1 1 (by decide)).trans z1, (fr.1 2 (by decide)).trans z2, (fr.1 3 (by decide)).trans z3, fun k a b c d => (fr.1 k d).trans (z4 k a b c), fun k j => by rw [fr.2.2.1 k]; exact z5 k j, fun k a b j => by rw [fr.2.2.2 k a b]; exact z6 k j, m1, m2⟩)
theorem i336 {a1 a2 : Int32} {p2 : Int32} {u : St} {Q : St → Prop} (h : Zr a1 a2 5000 u) (hQ : ∀ v, Fr a1 a2 (wiN p2 10 20000 5000) v → Q v) : j_X10_init_336 Q p2 u := by
  unfold wiN at hQ
  refine ⟨fun c => ?_, fun c => ⟨fun d => ?_, fun d => ?_⟩⟩
  · rw [if_pos c] at hQ; exact i354 h hQ
  · rw [if_neg c, if_pos d] at hQ; exact i354 h hQ
  · rw [if_neg c, if_neg d] at hQ
    obtain ⟨z1, z2, z3, z4, z5, z6⟩ := h
    exact i354 ⟨z1, z2, rfl, fun k a b c => by rw [gI_sI, if_neg c]; exact z4 k a b c, z5, z6⟩ hQ
theorem i319 {a1 : Int32} {p1 p2 : Int32} {u : St} {Q : St → Prop} (h : Zr a1 100 5000 u) (hQ : ∀ v, Fr a1 (wiN p1 4 200 100) (wiN p2 10 20000 5000) v → Q v) : j_X10_init_319 Q p1 p2 u := by
  have hQ2 := hQ
  unfold wiN at hQ2
  refine ⟨fun c => i336 h (fun v hv => hQ v ?_), fun c => ⟨fun d => i336 h (fun v hv => hQ v ?_), fun d => ?_⟩⟩
  · have e : wiN p1 4 200 100 = 100 := if_pos c
    rw [e]; exact hv
  · have e : wiN p1 4 200 100 = 100 := by unfold wiN; rw [if_neg c, if_pos d]
    rw [e]; exact hv
  · have e : wiN p1 4 200 100 = p1 := by unfold wiN; rw [if_neg c, if_neg d]
    obtain ⟨z1, z2, z3, z4, z5, z6⟩ := h
    refine i336 (a1 := a1) (a2 := p1) ⟨z1, rfl, z3, fun k a b c => by rw [gI_sI, if_neg b]; exact z4 k a b c, z5, z6⟩ (fun v hv => hQ v ?_)
    rw [e]; exact hv
theorem initR {p0 p1 p2 : Int32} {Q : St → Prop} (hQ : ∀ v, Fr (wiN p0 16 1000 300) (wiN p1 4 200 100) (wiN p2 10 20000 5000) v → Q v) : wp_X10_init p0 p1 p2 Q := by
  have h0 : Zr 300 100 5000 u0R := ⟨rfl, rfl, rfl, fun k a b c => by show (if k = 1 then (300 : Int32) else if k = 2 then 100 else if k = 3 then 5000 else 0) = 0; rw [if_neg a, if_neg b, if_neg c], fun _ _ => rfl, fun _ _ => rfl⟩
  refine ⟨fun c => i319 h0 (fun v hv => hQ v ?_), fun c => ⟨fun d => i319 h0 (fun v hv => hQ v ?_), fun d => ?_⟩⟩
  · have e : wiN p0 16 1000 300 = 300 := if_pos c
    rw [e]; exact hv
  · have e : wiN p0 16 1000 300 = 300 := by unfold wiN; rw [if_neg c, if_pos d]
    rw [e]; exact hv
  · have e : wiN p0 16 1000 300 = p0 := by unfold wiN; rw [if_neg c, if_neg d]
    obtain ⟨z1, z2, z3, z4, z5, z6⟩ := h0
    refine i319 (a1 := p0) ⟨rfl, z2, z3, fun k a b c => by rw [gI_sI, if_neg a]; exact z4 k a b c, z5, z6⟩ (fun v hv => hQ v ?_)
    rw [e]; exact hv
theorem inv_0 {n8 n3 n6 : Nat} {f : Nat → Int32} {uN v : St} (hn : 16 ≤ n8 ∧ n8 ≤ 1000) (h3 : 4 ≤ n3 ∧ n3 ≤ 200) (hf : ∀ j, j < n8 → f j = nI j) (hq : QN0 uN) (hv : Fr (nI n8) (nI n3) (nI n6) v) : Inv0 n8 n3 n6 0 (u0C n8 n6 f uN) v := by
  obtain ⟨⟨m1, m2, m3⟩, m4, m5⟩ := hq
  obtain ⟨v1, v2, v3, v4, v5, v6, v7, v8⟩ := hv
  rw [spl_len] at m1 m2
  have hz : wd 0 := Or.inl ⟨0, by decide⟩
  have hrg : ∀ j, j < n8 → (List.range n8).getD j 0 = j := fun j hj => by
    rw [List.getD_eq_getElem?_getD, List.getElem?_range hj]; rfl
  refine ⟨fun _ _ => False, fun _ => False, 18, fun _ => 0, 0, 0, [], ⟨⟨fun c d h => h.elim, fun c d e h => h.elim, fun c b d h => h.elim, fun c d h => h.elim⟩, ⟨fun _ => 0, fun c d h => h.elim⟩, fun c d h => h.elim, fun d hd => ?_, ⟨m1, v7, by omega, by omega⟩, fun k hk => Or.inl ⟨m4 k (by omega), (v8 k hk).2⟩, v1⟩, ⟨List.range n8, ⟨?_, List.nodup_range, fun c hc => List.mem_range.mp hc, fun j hj => ?_⟩, fun c d h => h.elim⟩, ⟨0, ⟨rfl, fun c hc => ⟨0, Nat.le_refl _, rfl⟩⟩, Nat.zero_le _⟩, ⟨rfl, v3, v2⟩, fun k hk => ?_, fun k h1 h2 => m4 k h2, ⟨rfl, Nat.zero_le _, fun k hk => absurd hk (by omega)⟩, ⟨v4 5 (by decide) (by decide) (by decide) (by decide), Nat.zero_le _, fun k hk => absurd hk (by omega)⟩, ⟨rfl, v4 6 (by decide) (by decide) (by decide) (by decide), Nat.le_refl _⟩, Or.inl ⟨rfl, v4 7 (by decide) (by decide) (by decide) (by decide)⟩, ⟨(v4 8 (by decide) (by decide) (by decide) (by decide)).symm, (v4 9 (by decide) (by decide) (by decide) (by decide)).symm, (v4 10 (by decide) (by decide) (by decide) (by decide)).symm⟩, out0C rfl, out0R (v4 12 (by decide) (by decide) (by decide) (by decide))⟩
  · rw [v6 13 (by decide) (by decide) d, v6 14 (by decide) (by decide) d]; exact ⟨hz, hz⟩
  · rw [List.length_range]; rfl
  · rw [List.length_range] at hj
    rw [hrg j hj]
    exact hf j hj
  · have hm : SPL.getD k 0 ∈ SPL := by
      have hl : k < SPL.length := by rw [spl_len]; exact hk
      rw [List.getD_eq_getElem?_getD, List.getElem?_eq_getElem hl]
      exact List.getElem_mem hl
    obtain ⟨s1, s2⟩ := spl_ok _ hm
    exact ⟨SPL.getD k 0, s1, s2, m2 k hk, (v8 k hk).1⟩
theorem pure_fin : ∃ QN : St → Prop, wp_X3_init QN ∧ ∀ p0 p1 p2 : Int32, wp_X10_init p0 p1 p2 (fun v => ∀ (n8 n3 n6 : Nat) (f : Nat → Int32) (uN : St), wi p0 16 1000 300 n8 → wi p1 4 200 100 n3 → wi p2 10 20000 5000 n6 → (∀ j, j < n8 → f j = nI j) → QN uN → ∃ Inv : Nat → St → St → Prop, Obl (l0C n8 n3) Inv ∧ Inv 0 (u0C n8 n6 f uN) v) := by
  refine ⟨QN0, initN_ok, fun p0 p1 p2 => initR (fun v hv n8 n3 n6 f uN w8 w3 w6 hf hq => ?_)⟩
  have b8 := wi_n (b0 := 16) (c0 := 1000) (d0 := 300) w8 rfl rfl rfl (by omega) (by omega) (by omega)
  have b3 := wi_n (b0 := 4) (c0 := 200) (d0 := 100) w3 rfl rfl rfl (by omega) (by omega) (by omega)
  have b6 := wi_n (b0 := 10) (c0 := 20000) (d0 := 5000) w6 rfl rfl rfl (by omega) (by omega) (by omega)
  rw [← w8.1, ← w3.1, ← w6.1] at hv
  have hLN : LN (l0C n8 n3) n8 n3 := ⟨rfl, rfl, rfl, rfl, rfl, rfl, rfl, rfl, b8.2, b3.2, b8.1, b3.1⟩
  exact ⟨Inv0 n8 n3 n6, obl_ok hLN b6.2, inv_0 b8 b3 hf hq hv⟩
