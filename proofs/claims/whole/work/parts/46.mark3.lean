/-! PURE: marking from a row of roots -/
def clo (u : St) (n : Nat) (ML : List Nat) : Prop := ∀ c ∈ ML, ∀ b, b < n → kid u c b → b ∈ ML
theorem kid_fr {u w : St} (h : frM u w) (a b : Nat) : kid w a b ↔ kid u a b := by unfold kid; rw [h.2.2.2 800 (by decide), h.2.2.2 801 (by decide)]
/-- what a marking from the roots (the first len of the row) has done -/
def Mdone (u : St) (n len : Nat) (root : Nat → Int64) (ML : List Nat) (w : St) (MN : List Nat) : Prop := Mk w n MN ∧ frM u w ∧ (∀ x ∈ ML, x ∈ MN) ∧ (∀ j, j < len → ∀ c, c < n → root j = pC c → c ∈ MN) ∧ clo u n MN ∧ (∀ S : Nat → Prop, (∀ x ∈ ML, S x) → (∀ j, j < len → ∀ c, c < n → root j = pC c → S c) → (∀ c, c < n → S c → ∀ b, b < n → kid u c b → S b) → ∀ x ∈ MN, S x)
theorem mk_out {n : Nat} (hn : n ≤ 1000) (len : Nat) (root : Nat → Int64) (Lo : (St → Prop) → Nat → Int32 → St → Prop) (Li : Nat → (St → Prop) → Nat → Int32 → Int32 → St → Prop) (u0 : St) (M0 : List Nat)
    (hexit : ∀ K m u, K u → Lo K (m + 1) (nI len) u)
    (hstep : ∀ K m i u, i < len → frM u0 u → (∃ f, Li i (fun w => Lo K m (nI (i + 1)) w) f (nI 1) (nI 0) (sB u 803 (vp_updL (gB u 803) 0 (root i)))) → Lo K (m + 1) (nI i) u)
    (iexit : ∀ i K m t u, K u → Li i K (m + 1) (nI 0) (nI t) u)
    (iskip : ∀ i K m k t u, t ≤ 2 * n → k < n + 1 → (∀ c, c < n → gB u 803 k = pC c → gA u 802 c = gI u 806) → Li i K m (nI k) (nI (t + 1)) u → Li i K (m + 1) (nI (k + 1)) (nI t) u)
    (ipush : ∀ i K m k t u c, t ≤ 2 * n → k + 1 ≤ n → c < n → gB u 803 k = pC c → ¬ gA u 802 c = gI u 806 → Li i K m (nI (k + 2)) (nI (t + 1)) (mkS u k c) → Li i K (m + 1) (nI (k + 1)) (nI t) u) :
    ∀ (d i : Nat) (u : St) (ML : List Nat), i + d = len → Mdone u0 n i root M0 u ML → ∃ (w : St) (MN : List Nat), Mdone u0 n len root M0 w MN ∧ ∀ K : St → Prop, K w → Lo K (d + 1) (nI i) u := by
  intro d
  induction d with
  | zero =>
    intro i u ML hi hM
    obtain rfl : i = len := by omega
    exact ⟨u, ML, hM, fun K h => hexit K 0 u h⟩
  | succ d ih =>
    intro i u ML hi hM
    obtain ⟨h1, h2, h3, h4, h5, h6⟩ := hM
    have hfr : frM u (sB u 803 (vp_updL (gB u 803) 0 (root i))) := ⟨fun _ _ => rfl, ⟨fun _ => rfl, fun _ => Or.inl rfl⟩, fun _ _ => rfl, fun k hk => by rw [gB_sB, if_neg hk]⟩
    have hM1 : Mk (sB u 803 (vp_updL (gB u 803) 0 (root i))) n ML := h1
    have e0 : gB (sB u 803 (vp_updL (gB u 803) 0 (root i))) 803 0 = root i := rfl
    obtain ⟨w, MN, f, ⟨g1, g2, g3, g4, g5, g6⟩, hf⟩ := mk_ex hn (Li i) (iexit i) (iskip i) (ipush i) ML.length (2 * (n - ML.length) + 1) _ 1 0 ML (by omega) hM1 (by omega) (by omega) (by omega)
    have hf2 := frM_tr hfr g2
    have hf3 := frM_tr h2 hf2
    have hMd : Mdone u0 n (i + 1) root M0 w MN := by
      refine ⟨g1, hf3, fun x hx => g3 x (h3 x hx), fun j hj c hc e => ?_, ?_, fun S s1 s2 s3 => ?_⟩
      · by_cases ej : j = i
        · subst ej; exact g4 0 (by omega) c hc (e0.trans e)
        · exact g3 c (h4 j (by omega) c hc e)
      · have g7 := g5 (fun c hc b hb hk => Or.inl (h5 c hc b hb ((kid_fr h2 c b).mp ((kid_fr hfr c b).mp hk))))
        exact fun c hc b hb hk => g7 c hc b hb ((kid_fr hfr c b).mpr ((kid_fr h2 c b).mpr hk))
      · refine g6 S (h6 S s1 (fun j hj => s2 j (by omega)) s3) (fun j hj c hc e => ?_) (fun c hc sc b hb hk => s3 c hc sc b hb ((kid_fr h2 c b).mp ((kid_fr hfr c b).mp hk)))
        obtain rfl : j = 0 := by omega
        exact s2 i (by omega) c hc (e0.symm.trans e)
    obtain ⟨w9, M9, hd9, hK9⟩ := ih (i + 1) w MN (by omega) hMd
    exact ⟨w9, M9, hd9, fun K hK => hstep K (d + 1) i u (by omega) h2 ⟨f, hf _ (hK9 K hK)⟩⟩
theorem mark_11 {N : Nat → Nat} {n t0 len : Nat} {u : St} {ML : List Nat} (hN : LN N n t0) (hl : len ≤ 150) (hM : Mk u n ML) (hc : clo u n ML) : ∃ (w : St) (MN : List Nat), Mdone u n len (gB u 201) ML w MN ∧ ∀ Q : St → Prop, Q w → wp_X0_mark_11 N (nI len) u Q := by
  have hn := hN.2.2.2.2.2.2.2.2.1
  have ht0 := hN.2.2.2.2.2.2.2.2.2.1
  suffices hh : ∃ (w : St) (MN : List Nat), Mdone u n len (gB u 201) ML w MN ∧ ∀ K : St → Prop, K w → l_X0_mark_11_2 N (nI len) K (len + 1) (nI 0) u by
    obtain ⟨w, MN, h1, h2⟩ := hh
    exact ⟨w, MN, h1, fun Q hQ => ⟨len + 1, h2 (fun w => Q w) hQ⟩⟩
  refine mk_out hn len (gB u 201) (fun K => l_X0_mark_11_2 N (nI len) K) (fun i K => l_X0_mark_11_28 N (nI len) (nI i) K) u ML ?_ ?_ ?_ ?_ ?_ len 0 u ML (by omega) ⟨hM, frM_rf u, fun _ h => h, fun j hj => absurd hj (by omega), hc, fun S s1 _ _ => s1⟩
  · intro K m w h
    unfold l_X0_mark_11_2
    exact ⟨fun _ => h, fun d => absurd (nI_le (Nat.le_refl len) (by omega)) d⟩
  · intro K m i w hi hf h
    unfold l_X0_mark_11_2
    rw [hf.2.2.2 201 (by decide), show nI i + (1 : Int32) = nI (i + 1) from nI_1 i, nI_clamp (show i < 2 ^ 31 by omega), hN.2.2.2.1]
    refine ⟨fun d => absurd d (nI_ge hi (by omega)), fun _ => ⟨fun d => absurd d (nI_ge (a := i) (b := 150) (by omega) (by omega)), fun _ => ⟨vp_in_nI (by omega) (by omega), vp_in_nI (n := 0) (by omega) (by omega), h⟩⟩⟩
  · intro i K m t w h
    unfold l_X0_mark_11_28
    exact ⟨fun _ => h, fun _ => ⟨fun _ => h, fun d => absurd (by decide) d⟩⟩
  · intro i K m k t w h1 h2 h3 h4
    exact mk_skip_11 hN h1 h2 h3 h4
  · intro i K m k t w c h1 h2 h3 h4 h5 h6
    exact mk_push_11 hN h1 h2 h3 h4 h5 h6
theorem mark_14 {N : Nat → Nat} {n t0 len : Nat} {u : St} {ML : List Nat} (hN : LN N n t0) (hl : len ≤ t0 * 11) (hM : Mk u n ML) (hc : clo u n ML) : ∃ (w : St) (MN : List Nat), Mdone u n len (gB u 302) ML w MN ∧ ∀ Q : St → Prop, Q w → wp_X0_mark_14 N (nI len) u Q := by
  have hn := hN.2.2.2.2.2.2.2.2.1
  have ht0 := hN.2.2.2.2.2.2.2.2.2.1
  suffices hh : ∃ (w : St) (MN : List Nat), Mdone u n len (gB u 302) ML w MN ∧ ∀ K : St → Prop, K w → l_X0_mark_14_2 N (nI len) K (len + 1) (nI 0) u by
    obtain ⟨w, MN, h1, h2⟩ := hh
    exact ⟨w, MN, h1, fun Q hQ => ⟨len + 1, h2 (fun w => Q w) hQ⟩⟩
  refine mk_out hn len (gB u 302) (fun K => l_X0_mark_14_2 N (nI len) K) (fun i K => l_X0_mark_14_28 N (nI len) (nI i) K) u ML ?_ ?_ ?_ ?_ ?_ len 0 u ML (by omega) ⟨hM, frM_rf u, fun _ h => h, fun j hj => absurd hj (by omega), hc, fun S s1 _ _ => s1⟩
  · intro K m w h
    unfold l_X0_mark_14_2
    exact ⟨fun _ => h, fun d => absurd (nI_le (Nat.le_refl len) (by omega)) d⟩
  · intro K m i w hi hf h
    unfold l_X0_mark_14_2
    rw [hf.2.2.2 302 (by decide), show nI i + (1 : Int32) = nI (i + 1) from nI_1 i, nI_clamp (show i < 2 ^ 31 by omega), hN.2.2.2.2.2.2.2.1, hN.2.2.2.1]
    refine ⟨fun d => absurd d (nI_ge hi (by omega)), fun _ => ⟨fun d => absurd d (nI_ge (a := i) (b := t0 * 11) (by omega) (by omega)), fun _ => ⟨vp_in_nI (by omega) (by omega), vp_in_nI (n := 0) (by omega) (by omega), h⟩⟩⟩
  · intro i K m t w h
    unfold l_X0_mark_14_28
    exact ⟨fun _ => h, fun _ => ⟨fun _ => h, fun d => absurd (by decide) d⟩⟩
  · intro i K m k t w h1 h2 h3 h4
    exact mk_skip_14 hN h1 h2 h3 h4
  · intro i K m k t w c h1 h2 h3 h4 h5 h6
    exact mk_push_14 hN h1 h2 h3 h4 h5 h6
theorem mark_15 {N : Nat → Nat} {n t0 len : Nat} {u : St} {ML : List Nat} (hN : LN N n t0) (hl : len ≤ 2) (hM : Mk u n ML) (hc : clo u n ML) : ∃ (w : St) (MN : List Nat), Mdone u n len (gB u 403) ML w MN ∧ ∀ Q : St → Prop, Q w → wp_X0_mark_15 N (nI len) u Q := by
  have hn := hN.2.2.2.2.2.2.2.2.1
  have ht0 := hN.2.2.2.2.2.2.2.2.2.1
  suffices hh : ∃ (w : St) (MN : List Nat), Mdone u n len (gB u 403) ML w MN ∧ ∀ K : St → Prop, K w → l_X0_mark_15_2 N (nI len) K (len + 1) (nI 0) u by
    obtain ⟨w, MN, h1, h2⟩ := hh
    exact ⟨w, MN, h1, fun Q hQ => ⟨len + 1, h2 (fun w => Q w) hQ⟩⟩
  refine mk_out hn len (gB u 403) (fun K => l_X0_mark_15_2 N (nI len) K) (fun i K => l_X0_mark_15_28 N (nI len) (nI i) K) u ML ?_ ?_ ?_ ?_ ?_ len 0 u ML (by omega) ⟨hM, frM_rf u, fun _ h => h, fun j hj => absurd hj (by omega), hc, fun S s1 _ _ => s1⟩
  · intro K m w h
    unfold l_X0_mark_15_2
    exact ⟨fun _ => h, fun d => absurd (nI_le (Nat.le_refl len) (by omega)) d⟩
  · intro K m i w hi hf h
    unfold l_X0_mark_15_2
    rw [hf.2.2.2 403 (by decide), show nI i + (1 : Int32) = nI (i + 1) from nI_1 i, nI_clamp (show i < 2 ^ 31 by omega), hN.2.2.2.1]
    refine ⟨fun d => absurd d (nI_ge hi (by omega)), fun _ => ⟨fun d => absurd d (nI_ge (a := i) (b := 2) (by omega) (by omega)), fun _ => ⟨vp_in_nI (by omega) (by omega), vp_in_nI (n := 0) (by omega) (by omega), h⟩⟩⟩
  · intro i K m t w h
    unfold l_X0_mark_15_28
    exact ⟨fun _ => h, fun _ => ⟨fun _ => h, fun d => absurd (by decide) d⟩⟩
  · intro i K m k t w h1 h2 h3 h4
    exact mk_skip_15 hN h1 h2 h3 h4
  · intro i K m k t w c h1 h2 h3 h4 h5 h6
    exact mk_push_15 hN h1 h2 h3 h4 h5 h6
theorem mark_20 {N : Nat → Nat} {n t0 len : Nat} {u : St} {ML : List Nat} (hN : LN N n t0) (hl : len ≤ 0) (hM : Mk u n ML) (hc : clo u n ML) : ∃ (w : St) (MN : List Nat), Mdone u n len (gB u 508) ML w MN ∧ ∀ Q : St → Prop, Q w → wp_X0_mark_20 N (nI len) u Q := by
  have hn := hN.2.2.2.2.2.2.2.2.1
  have ht0 := hN.2.2.2.2.2.2.2.2.2.1
  suffices hh : ∃ (w : St) (MN : List Nat), Mdone u n len (gB u 508) ML w MN ∧ ∀ K : St → Prop, K w → l_X0_mark_20_2 N (nI len) K (len + 1) (nI 0) u by
    obtain ⟨w, MN, h1, h2⟩ := hh
    exact ⟨w, MN, h1, fun Q hQ => ⟨len + 1, h2 (fun w => Q w) hQ⟩⟩
  refine mk_out hn len (gB u 508) (fun K => l_X0_mark_20_2 N (nI len) K) (fun i K => l_X0_mark_20_28 N (nI len) (nI i) K) u ML ?_ ?_ ?_ ?_ ?_ len 0 u ML (by omega) ⟨hM, frM_rf u, fun _ h => h, fun j hj => absurd hj (by omega), hc, fun S s1 _ _ => s1⟩
  · intro K m w h
    unfold l_X0_mark_20_2
    exact ⟨fun _ => h, fun d => absurd (nI_le (Nat.le_refl len) (by omega)) d⟩
  · intro K m i w hi hf h
    unfold l_X0_mark_20_2
    rw [hf.2.2.2 508 (by decide), show nI i + (1 : Int32) = nI (i + 1) from nI_1 i, nI_clamp (show i < 2 ^ 31 by omega), hN.2.2.2.1]
    refine ⟨fun d => absurd d (nI_ge hi (by omega)), fun _ => ⟨fun d => absurd d (nI_ge (a := i) (b := 0) (by omega) (by omega)), fun _ => ⟨vp_in_nI (by omega) (by omega), vp_in_nI (n := 0) (by omega) (by omega), h⟩⟩⟩
  · intro i K m t w h
    unfold l_X0_mark_20_28
    exact ⟨fun _ => h, fun _ => ⟨fun _ => h, fun d => absurd (by decide) d⟩⟩
  · intro i K m k t w h1 h2 h3 h4
    exact mk_skip_20 hN h1 h2 h3 h4
  · intro i K m k t w c h1 h2 h3 h4 h5 h6
    exact mk_push_20 hN h1 h2 h3 h4 h5 h6
theorem mark_21 {N : Nat → Nat} {n t0 len : Nat} {u : St} {ML : List Nat} (hN : LN N n t0) (hl : len ≤ 8) (hM : Mk u n ML) (hc : clo u n ML) : ∃ (w : St) (MN : List Nat), Mdone u n len (gB u 605) ML w MN ∧ ∀ Q : St → Prop, Q w → wp_X0_mark_21 N (nI len) u Q := by
  have hn := hN.2.2.2.2.2.2.2.2.1
  have ht0 := hN.2.2.2.2.2.2.2.2.2.1
  suffices hh : ∃ (w : St) (MN : List Nat), Mdone u n len (gB u 605) ML w MN ∧ ∀ K : St → Prop, K w → l_X0_mark_21_2 N (nI len) K (len + 1) (nI 0) u by
    obtain ⟨w, MN, h1, h2⟩ := hh
    exact ⟨w, MN, h1, fun Q hQ => ⟨len + 1, h2 (fun w => Q w) hQ⟩⟩
  refine mk_out hn len (gB u 605) (fun K => l_X0_mark_21_2 N (nI len) K) (fun i K => l_X0_mark_21_28 N (nI len) (nI i) K) u ML ?_ ?_ ?_ ?_ ?_ len 0 u ML (by omega) ⟨hM, frM_rf u, fun _ h => h, fun j hj => absurd hj (by omega), hc, fun S s1 _ _ => s1⟩
  · intro K m w h
    unfold l_X0_mark_21_2
    exact ⟨fun _ => h, fun d => absurd (nI_le (Nat.le_refl len) (by omega)) d⟩
  · intro K m i w hi hf h
    unfold l_X0_mark_21_2
    rw [hf.2.2.2 605 (by decide), show nI i + (1 : Int32) = nI (i + 1) from nI_1 i, nI_clamp (show i < 2 ^ 31 by omega), hN.2.2.2.1]
    refine ⟨fun d => absurd d (nI_ge hi (by omega)), fun _ => ⟨fun d => absurd d (nI_ge (a := i) (b := 8) (by omega) (by omega)), fun _ => ⟨vp_in_nI (by omega) (by omega), vp_in_nI (n := 0) (by omega) (by omega), h⟩⟩⟩
  · intro i K m t w h
    unfold l_X0_mark_21_28
    exact ⟨fun _ => h, fun _ => ⟨fun _ => h, fun d => absurd (by decide) d⟩⟩
  · intro i K m k t w h1 h2 h3 h4
    exact mk_skip_21 hN h1 h2 h3 h4
  · intro i K m k t w c h1 h2 h3 h4 h5 h6
    exact mk_push_21 hN h1 h2 h3 h4 h5 h6
