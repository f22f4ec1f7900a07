/-! PURE: building what was read, on both sides -/
def HBc (r : Nat → Nat → Prop) (A : Nat → Prop) (rk : Nat → Nat) (T n : Nat) (u v : St) : Prop := HpR r T n u v ∧ (∀ c d, r c d → ∀ b, b < 1000 → gB u 801 c = pC b → rk b < rk c) ∧ AL r A v ∧ rwd v ∧ (gI u 202 = nI T ∧ gI v 21 = nI T ∧ 18 ≤ T ∧ T ≤ 150) ∧ Glb r T u v ∧ gI v 1 = nI n
theorem HBc_core {r A rk T n u v} (h : HBc r A rk T n u v) : Core r A T n u v := ⟨h.1, ⟨rk, h.2.1⟩, h.2.2⟩
def RdC (r : Nat → Nat → Prop) (n : Nat) (u : St) (k : Nat) : Prop := ∃ FL, FR u n FL ∧ (∀ c d, r c d → c ∉ FL) ∧ k ≤ FL.length
theorem newB {N : Nat → Nat} {r A rk T n t u v} {k R0 : Nat} {x y : Int64} (hN : LN N n t) (h : HBc r A rk T n u v) (hC : RdC r n u (k + 1)) (hH : RdH r v (k + 1)) (o : ob r T x y) :
    ∃ (c0 d0 f0 : Nat), c0 < n ∧ d0 < 1000 ∧ (∀ d, ¬ r c0 d) ∧ (∀ c, ¬ r c d0) ∧ HBc (new r c0 d0) (newA A d0 False) (fun c => if c = c0 then R0 else rk c) T n (npS u f0 c0 x (aC 0)) (prS v d0 y (aR 0)) ∧ RdC (new r c0 d0) n (npS u f0 c0 x (aC 0)) k ∧ RdH (new r c0 d0) (prS v d0 y (aR 0)) k ∧ (∀ Q : Int64 → St → Prop, Q (pC c0) (npS u f0 c0 x (aC 0)) → wp_X0_newPair N x (aC 0) u Q) ∧ (∀ Q : Int64 → St → Prop, Q (pR d0) (prS v d0 y (aR 0)) → wp_X10_pair y (aR 0) v Q) := by
  have hn := hN.2.2.2.2.2.2.2.2.1
  obtain ⟨p1, p2, p3, p4, p5, p6, p7⟩ := id h
  have hT := p5.2.2.2
  have o2 : ob r T (aC 0) (aR 0) := ob_a (by omega)
  obtain ⟨FL, hF, hdis, hkl⟩ := hC
  obtain ⟨HL, g1, g2, g3, g4, g5⟩ := hH
  obtain ⟨f, c0, F1, a1, a2, a3, a4, a5, a6, a7⟩ := newPair_ex x (aC 0) hN hF (by omega)
  obtain ⟨d0, b1, b2, b3⟩ := pair_ex y (aR 0) g1 g2 g3 (by omega)
  have hc0 := hF.2.2.1 c0 a3
  have hrc : ∀ d, ¬ r c0 d := fun d hr => hdis c0 d hr a3
  have hrd0 : ∀ c, ¬ r c d0 := fun c hr => b2 (g4 c d0 hr)
  have hnc : ∀ c d, r c d → c ≠ c0 := fun c d hr e => hrc d (e ▸ hr)
  have hnd : ∀ c d, r c d → d ≠ d0 := fun c d hr e => hrd0 c (e ▸ hr)
  have hsame : ∀ c d, r c d → gB (npS u f c0 x (aC 0)) 800 c = gB u 800 c ∧ gB (npS u f c0 x (aC 0)) 801 c = gB u 801 c ∧ gB (prS v d0 y (aR 0)) 13 d = gB v 13 d ∧ gB (prS v d0 y (aR 0)) 14 d = gB v 14 d := fun c d hr => ⟨by rw [npS_800, if_neg (hnc c d hr)], by rw [npS_801, if_neg (hnc c d hr)], by rw [prS_13, if_neg (hnd c d hr)], by rw [prS_14, if_neg (hnd c d hr)]⟩
  have hmono : ∀ c d, r c d → new r c0 d0 c d := fun c d hr => Or.inl hr
  refine ⟨c0, d0, f, hc0, b1, hrc, hrd0, ⟨?_, ?_, ?_, ?_, p5, ?_, p7⟩, ⟨F1, a6, ?_, by omega⟩, ⟨d0 :: HL, List.nodup_cons.mpr ⟨b2, g1⟩, ?_, ?_, ?_, by simp only [List.length_cons]; omega⟩, a7, b3⟩
  · refine ⟨fun c d hr => ?_, fun c d e h1 h2 => ?_, fun c b d h1 h2 => ?_, fun c d hr => ?_⟩
    · rcases hr with hr | ⟨rfl, rfl⟩
      · exact p1.1 c d hr
      · exact ⟨hc0, b1⟩
    · rcases h1 with h1 | ⟨rfl, rfl⟩ <;> rcases h2 with h2 | ⟨e1, rfl⟩
      · exact p1.2.1 c d e h1 h2
      · exact absurd e1 (hnc _ _ h1)
      · exact absurd h2 (hrc _)
      · rfl
    · rcases h1 with h1 | ⟨rfl, rfl⟩ <;> rcases h2 with h2 | ⟨rfl, e1⟩
      · exact p1.2.2.1 c b d h1 h2
      · exact absurd e1 (hnd _ _ h1)
      · exact absurd h2 (hrd0 _)
      · rfl
    · rcases hr with hr | ⟨rfl, rfl⟩
      · obtain ⟨e1, e2, e3, e4⟩ := hsame c d hr
        rw [e1, e2, e3, e4]
        exact ⟨ob_mono (p1.2.2.2 c d hr).1 hmono, ob_mono (p1.2.2.2 c d hr).2 hmono⟩
      · rw [npS_800, npS_801, prS_13, prS_14, if_pos rfl, if_pos rfl, if_pos rfl, if_pos rfl]
        exact ⟨ob_mono o hmono, ob_mono o2 hmono⟩
  · intro c d hr b hb e
    rcases hr with hr | ⟨rfl, rfl⟩
    · have hbc : b ≠ c0 := fun e2 => by
        subst e2
        rw [(hsame c d hr).2.1] at e
        have o := (p1.2.2.2 c d hr).2
        rw [e] at o
        obtain ⟨d2, hd2, _⟩ := ob_pC hT hn p1.1 o hb
        exact hrc d2 hd2
      rw [(hsame c d hr).2.1] at e
      simp only [if_neg hbc, if_neg (hnc c d hr)]
      exact p2 c d hr b hb e
    · rw [npS_801, if_pos rfl] at e
      exact absurd e (pC_ne_a hb (by omega))
  · intro c d hr hd
    rcases hr with hr | ⟨rfl, rfl⟩
    · rcases hd with ⟨hd, _⟩ | ⟨e, _⟩
      · obtain ⟨⟨e, he, q1⟩, q2⟩ := p3 c d hr hd
        refine ⟨⟨e, he, by rw [(hsame c d hr).2.2.1]; exact q1⟩, ?_⟩
        rw [(hsame c d hr).2.2.2]
        exact bn_new hT p1.1 hrd0 (p1.2.2.2 c d hr).2 q2
      · exact absurd e (hnd _ _ hr)
    · rcases hd with ⟨_, hd⟩ | ⟨_, hi⟩
      · exact absurd rfl hd
      · exact hi.elim
  · intro d hd
    rw [prS_13, prS_14]
    refine ⟨?_, ?_⟩
    · by_cases e : d = d0
      · rw [if_pos e]; exact ob_wd hT p1.1 o
      · rw [if_neg e]; exact (p4 d hd).1
    · by_cases e : d = d0
      · rw [if_pos e]; exact ob_wd hT p1.1 o2
      · rw [if_neg e]; exact (p4 d hd).2
  · intro j hj
    rcases p6 j hj with h9 | h9
    · exact Or.inl h9
    · exact Or.inr (ob_mono h9 hmono)
  · intro c d hr hc
    rcases hr with hr | ⟨rfl, rfl⟩
    · exact hdis c d hr (a5 c hc)
    · exact a4 hc
  · intro d hd
    rcases List.mem_cons.mp hd with rfl | hd
    · exact b1
    · exact g2 d hd
  · intro d hd
    rw [prS_15]
    by_cases e : d = d0
    · rw [if_pos e]
      exact ⟨fun h => absurd h (by decide), fun h => absurd (e ▸ List.mem_cons_self) h⟩
    · rw [if_neg e, g3 d hd]
      simp [e]
  · intro c d hr
    rcases hr with hr | ⟨rfl, rfl⟩
    · exact List.mem_cons_of_mem _ (g4 c d hr)
    · exact List.mem_cons_self
theorem setB {r A rk T n u v} {c d : Nat} {x y : Int64} (h : HBc r A rk T n u v) (hr : r c d) (hA : ¬ A d) (o : ob r T x y) (hrk : ∀ b, b < 1000 → x = pC b → rk b < rk c) : HBc r A rk T n (sB u 801 (vp_updL (gB u 801) c x)) (sB v 14 (vp_updL (gB v 14) d y)) := by
  obtain ⟨p1, p2, p3, p4, p5, p6, p7⟩ := id h
  have e801 : ∀ k, gB (sB u 801 (vp_updL (gB u 801) c x)) 801 k = if k = c then x else gB u 801 k := fun k => rfl
  have e14 : ∀ k, gB (sB v 14 (vp_updL (gB v 14) d y)) 14 k = if k = d then y else gB v 14 k := fun k => rfl
  refine ⟨⟨p1.1, p1.2.1, p1.2.2.1, fun c2 d2 hr2 => ?_⟩, fun c2 d2 hr2 b hb e => ?_, fun c2 d2 hr2 ha => ?_, fun k hk => ?_, p5, p6, p7⟩
  · show ob r T (gB u 800 c2) (gB v 13 d2) ∧ ob r T _ _
    rw [e801, e14]
    refine ⟨(p1.2.2.2 c2 d2 hr2).1, ?_⟩
    by_cases ec : c2 = c
    · subst ec
      have := p1.2.1 _ _ _ hr hr2
      subst this
      rw [if_pos rfl, if_pos rfl]; exact o
    · have hd : d2 ≠ d := fun e => ec (p1.2.2.1 _ _ _ hr2 (e ▸ hr))
      rw [if_neg ec, if_neg hd]; exact (p1.2.2.2 c2 d2 hr2).2
  · rw [e801] at e
    by_cases ec : c2 = c
    · subst ec
      rw [if_pos rfl] at e
      exact hrk b hb e
    · rw [if_neg ec] at e
      exact p2 c2 d2 hr2 b hb e
  · have hd : d2 ≠ d := fun e => hA (e ▸ ha)
    obtain ⟨q1, q2⟩ := p3 c2 d2 hr2 ha
    refine ⟨q1, ?_⟩
    rw [e14, if_neg hd]
    exact q2
  · refine ⟨(p4 k hk).1, ?_⟩
    rw [e14]
    by_cases e : k = d
    · rw [if_pos e]; exact ob_wd p5.2.2.2 p1.1 o
    · rw [if_neg e]; exact (p4 k hk).2
/-- one open list: level j, q pairs made so far -/
def Lv (r : Nat → Nat → Prop) (A : Nat → Prop) (rk : Nat → Nat) (T : Nat) (f : Nat → Nat) (q : Nat) (u v : St) (j : Nat) : Prop := f j ≤ 3 ∧ gA u 505 j = nI (if f j = 3 then 2 else f j) ∧ gA v 26 j = nI (f j) ∧ (f j = 0 → gB u 506 j = aC 0) ∧ (f j ≠ 0 → ∃ c d, r c d ∧ gB u 507 j = pC c ∧ gA v 28 j = nI d ∧ ¬ A d ∧ ob r T (gB u 506 j) (gB v 27 j) ∧ (60 - j) * 3000 + 3000 ≤ rk c + q ∧ (∀ b, b < 1000 → gB u 506 j = pC b → rk b < (60 - j) * 3000 + 3000))
def S2 (r : Nat → Nat → Prop) (A : Nat → Prop) (rk : Nat → Nat) (T n D : Nat) (f : Nat → Nat) (q k : Nat) (u v : St) : Prop := HBc r A rk T n u v ∧ (gI u 510 = nI D ∧ gI v 29 = nI D ∧ D ≤ 60) ∧ (∀ j, j < D → Lv r A rk T f q u v j) ∧ (∀ j, j + 1 < D → f j ≠ 3) ∧ RdC r n u k ∧ RdH r v k ∧ q + k ≤ 2000
def f2C (u u1 : St) : Prop := (∀ k, k ≠ 805 → k ≠ 510 → gI u1 k = gI u k) ∧ (∀ k, k ≠ 513 → gJ u1 k = gJ u k) ∧ (∀ k, k ≠ 505 → gA u1 k = gA u k) ∧ (∀ k, k ≠ 800 → k ≠ 801 → k ≠ 506 → k ≠ 507 → gB u1 k = gB u k)
def f2R (v v1 : St) : Prop := (∀ k, k ≠ 25 → k ≠ 29 → k ≠ 30 → gI v1 k = gI v k) ∧ (∀ k, k ≠ 31 → gJ v1 k = gJ v k) ∧ (∀ k, k ≠ 15 → k ≠ 26 → k ≠ 28 → gA v1 k = gA v k) ∧ (∀ k, k ≠ 13 → k ≠ 14 → k ≠ 27 → gB v1 k = gB v k)
theorem f2C_rf (u : St) : f2C u u := ⟨fun _ _ _ => rfl, fun _ _ => rfl, fun _ _ => rfl, fun _ _ _ _ _ => rfl⟩
theorem f2R_rf (u : St) : f2R u u := ⟨fun _ _ _ _ => rfl, fun _ _ => rfl, fun _ _ _ _ => rfl, fun _ _ _ _ => rfl⟩
theorem f2C_tr {u v w : St} (h1 : f2C u v) (h2 : f2C v w) : f2C u w := ⟨fun k a b => (h2.1 k a b).trans (h1.1 k a b), fun k a => (h2.2.1 k a).trans (h1.2.1 k a), fun k a => (h2.2.2.1 k a).trans (h1.2.2.1 k a), fun k a b c d => (h2.2.2.2 k a b c d).trans (h1.2.2.2 k a b c d)⟩
theorem f2R_tr {u v w : St} (h1 : f2R u v) (h2 : f2R v w) : f2R u w := ⟨fun k a b c => (h2.1 k a b c).trans (h1.1 k a b c), fun k a => (h2.2.1 k a).trans (h1.2.1 k a), fun k a b c => (h2.2.2.1 k a b c).trans (h1.2.2.1 k a b c), fun k a b c => (h2.2.2.2 k a b c).trans (h1.2.2.2 k a b c)⟩
/-- an expression comes: attach and comes -/
def ComR (N : Nat → Nat) (T n D : Nat) (f : Nat → Nat) (q k : Nat) (x y : Int64) (u v : St) : Prop := ∃ r1 A1 rk1 u1 v1, S2 r1 A1 rk1 T n D (note D f) (q + inc D f) (k - inc D f) u1 v1 ∧ f2C u u1 ∧ f2R v v1 ∧ (D = 0 → gJ u1 513 = x ∧ gJ v1 31 = y ∧ gI v1 25 = 4 ∧ ob r1 T x y) ∧ (0 < D → gI v1 25 = gI v 25) ∧ (∀ Q : St → Prop, Q u1 → wp_X5_attach N x u Q) ∧ (∀ Q : St → Prop, Q v1 → wp_X10_comes 1 y v Q)
theorem come_both {N : Nat → Nat} {r A rk T n t D f q k u v} {x y : Int64} (hN : LN N n t) (h : S2 r A rk T n D f q k u v) (o : ob r T x y) (hrk : 0 < D → ∀ b, b < 1000 → x = pC b → rk b < (60 - (D - 1)) * 3000) (hk : inc D f ≤ k) (h3 : top D f ≠ 3) : ComR N T n D f q k x y u v := by
  have hn := hN.2.2.2.2.2.2.2.2.1
  obtain ⟨hB, ⟨h510, h29, hD⟩, hLv, hno3, hC, hH, hqk⟩ := id h
  have hT := hB.2.2.2.2.1.2.2.2
  cases D with
  | zero =>
    refine ⟨r, A, rk, sJ u 513 x, sJ (sI v 25 4) 31 y, ⟨hB, ⟨h510, h29, hD⟩, fun j hj => absurd hj (by omega), fun j hj => absurd hj (by omega), hC, hH, hqk⟩, ⟨fun _ _ _ => rfl, fun k h => by rw [gJ_sJ, if_neg h], fun _ _ => rfl, fun _ _ _ _ _ => rfl⟩, ⟨fun k h _ _ => by rw [gI_sJ, gI_sI, if_neg h], fun k h => by rw [gJ_sJ, if_neg h]; rfl, fun _ _ _ _ => rfl, fun _ _ _ _ => rfl⟩, fun _ => ⟨rfl, rfl, rfl, o⟩, fun e => absurd e (by omega), fun Q hQ => sq h510 hQ, fun Q hQ => sq h29 hQ⟩
  | succ E =>
    have hneC : ¬ gI u 510 = 0 := by rw [h510]; exact nI_ne0 (by omega) (by omega)
    have hneR : ¬ gI v 29 = 0 := by rw [h29]; exact nI_ne0 (by omega) (by omega)
    have hvp : vp_in (nI E) 60 := vp_in_nI (by omega) (by omega)
    have hvR : vp_in (nI E) 61 := vp_in_nI (by omega) (by omega)
    obtain ⟨l1, l2, l3, l4, l5⟩ := hLv E (by omega)
    have hf3 : f E ≠ 3 := by
      unfold top at h3
      rw [if_neg (by omega), Nat.add_sub_cancel] at h3
      exact h3
    rw [if_neg hf3] at l2
    have hrk1 := hrk (by omega)
    rw [Nat.add_sub_cancel] at hrk1
    -- the reading of the state
    have hCa : ∀ {Q : St → Prop}, ((nI (f E) = (2 : Int32) → wp_X0_setCdr N (gB u 507 E) x u (fun (u4 : St) => Q u4)) ∧ (¬ nI (f E) = (2 : Int32) → wp_X0_newPair N x (1099511627776 : Int64) u (fun (r1 : Int64) (u2 : St) => vp_in (nI E) 60 ∧ ((((gA u2 505) E) = 0 → vp_in (nI E) 60 ∧ vp_in (nI E) 60 ∧ vp_in (nI E) 60 ∧ Q (sB (sA (sB u2 506 (vp_updL (gB u2 506) E r1)) 505 (upd (gA u2 505) E (1 : Int32))) 507 (vp_updL (gB u2 507) E r1))) ∧ (¬ ((gA u2 505) E) = 0 → vp_in (nI E) 60 ∧ wp_X0_setCdr N ((gB u2 507) E) r1 u2 (fun (u3 : St) => vp_in (nI E) 60 ∧ Q (sB u3 507 (vp_updL (gB u3 507) E r1)))))))) → wp_X5_attach N x u Q := fun {Q} hq => by
      unfold wp_X5_attach
      rw [h510, nI_pred E, nI_clamp (show E < 2 ^ 31 by omega), l2]
      exact sf (nI_ne0 (by omega) (by omega)) ⟨hvp, fun e => ⟨hvp, hq.1 e⟩, hq.2⟩
    by_cases h2 : f E = 2
    · -- behind the dot
      have hi : inc (E + 1) f = 0 := by unfold inc; rw [if_neg (by omega), Nat.add_sub_cancel, if_pos h2]
      have hnt : note (E + 1) f = upN f E 3 := by unfold note; rw [if_neg (by omega), Nat.add_sub_cancel, if_pos h2]
      obtain ⟨c, d, hr, m1, m2, m3, m4, m5, m6⟩ := l5 (by omega)
      have hcd := hB.1.1 _ _ hr
      have hB1 := setB (x := x) (y := y) hB hr m3 o (fun b hb e => by have := hrk1 b hb e; omega)
      unfold ComR
      rw [hi, hnt]
      refine ⟨r, A, rk, sB u 801 (vp_updL (gB u 801) c x), sA (sB v 14 (vp_updL (gB v 14) d y)) 26 (upd (gA v 26) E 3), ⟨hB1, ⟨h510, h29, hD⟩, fun j hj => ?_, fun j hj => ?_, hC, hH, by omega⟩, ⟨fun _ _ _ => rfl, fun _ _ => rfl, fun _ _ => rfl, fun k _ h _ _ => by rw [gB_sB, if_neg h]⟩, ⟨fun _ _ _ _ => rfl, fun _ _ => rfl, fun k _ h _ => by rw [gA_sA, if_neg h]; rfl, fun k _ h _ => by rw [gB_sA, gB_sB, if_neg h]⟩, fun e => absurd e (by omega), fun _ => rfl, fun Q hQ => hCa (sq (by rw [h2]; rfl) ?_), fun Q hQ => ?_⟩
      · by_cases ej : j = E
        · have e3 : upN f E 3 j = 3 := if_pos ej
          unfold Lv
          rw [e3, ej]
          refine ⟨Nat.le_refl _, ?_, pk_us, fun e => absurd e (by decide), fun _ => ⟨c, d, hr, m1, m2, m3, m4, by omega, m6⟩⟩
          rw [if_pos rfl]
          show gA u 505 E = nI 2
          rw [l2, h2]
        · have e3 : upN f E 3 j = f j := if_neg ej
          obtain ⟨n1, n2, n3, n4, n5⟩ := hLv j hj
          unfold Lv
          rw [e3]
          refine ⟨n1, n2, (pk_un ej).trans n3, n4, fun e => ?_⟩
          obtain ⟨c9, d9, z1, z2, z3, z4, z5, z6, z7⟩ := n5 e
          exact ⟨c9, d9, z1, z2, z3, z4, z5, by omega, z7⟩
      · show upN f E 3 j ≠ 3
        rw [show upN f E 3 j = f j from if_neg (by omega)]
        exact hno3 j hj
      · rw [m1]
        exact setCdr_p hN hcd.1 hQ
      · unfold wp_X10_comes
        rw [h29, nI_pred E, nI_clamp (show E < 2 ^ 31 by omega), l3, m2, nI_clamp (show d < 2 ^ 31 by omega)]
        exact sf (nI_ne0 (by omega) (by omega)) ⟨hvR, sq (by rw [h2]; rfl) (sf (by decide) ⟨hvR, vp_in_nI hcd.2 (by omega), hvR, hQ⟩)⟩
    · -- a pair for it
      have hi : inc (E + 1) f = 1 := by unfold inc; rw [if_neg (by omega), Nat.add_sub_cancel, if_neg h2]
      have hnt : note (E + 1) f = upN f E 1 := by unfold note; rw [if_neg (by omega), Nat.add_sub_cancel, if_neg h2]
      rw [hi] at hk
      obtain ⟨k1, rfl⟩ : ∃ k1, k = k1 + 1 := ⟨k - 1, by omega⟩
      have h30 : ∃ z, gI v 30 = z := ⟨_, rfl⟩
      obtain ⟨z30, hz30⟩ := h30
      have hB0 : HBc r A rk T n u (sI v 30 (gI v 30 + 1)) := hB
      have hH0 : RdH r (sI v 30 (gI v 30 + 1)) (k1 + 1) := hH
      obtain ⟨c0, d0, f0, q1, q2, q3, q4, q5, q6, q7, q8, q9⟩ := newB (R0 := (60 - E) * 3000 + 2999 - q) hN hB0 hC hH0 o
      let u2 := npS u f0 c0 x (aC 0)
      let v2 := prS (sI v 30 (gI v 30 + 1)) d0 y (aR 0)
      have hmono : ∀ c d, r c d → new r c0 d0 c d := fun c d hr => Or.inl hr
      have hnn : new r c0 d0 c0 d0 := Or.inr ⟨rfl, rfl⟩
      have hAd0 : ¬ newA A d0 False d0 := fun h => by
        rcases h with ⟨_, h⟩ | ⟨_, h⟩
        · exact h rfl
        · exact h
      have hAn : ∀ d, ¬ A d → ¬ newA A d0 False d := fun d hd h => by
        rcases h with ⟨h, _⟩ | ⟨_, h⟩
        · exact hd h
        · exact h
      have hnc : ∀ c d, r c d → c ≠ c0 := fun c d hr e => q3 d (e ▸ hr)
      -- the levels below keep what they are
      have hlow : ∀ (u9 v9 : St) (j : Nat), j < E → gA u9 505 j = gA u 505 j → gA v9 26 j = gA v 26 j → gB u9 506 j = gB u 506 j → gB u9 507 j = gB u 507 j → gA v9 28 j = gA v 28 j → gB v9 27 j = gB v 27 j → Lv (new r c0 d0) (newA A d0 False) (fun c => if c = c0 then (60 - E) * 3000 + 2999 - q else rk c) T (upN f E 1) (q + 1) u9 v9 j := fun u9 v9 j hj y1 y2 y3 y4 y5 y6 => by
        have e3 : upN f E 1 j = f j := if_neg (by omega)
        obtain ⟨n1, n2, n3, n4, n5⟩ := hLv j (by omega)
        unfold Lv
        rw [e3, y1, y2, y3, y4, y5, y6]
        refine ⟨n1, n2, n3, n4, fun e => ?_⟩
        obtain ⟨c9, d9, z1, z2, z3, z4, z5, z6, z7⟩ := n5 e
        refine ⟨c9, d9, hmono _ _ z1, z2, z3, hAn d9 z4, ob_mono z5 hmono, ?_, fun b hb e9 => ?_⟩
        · simp only [if_neg (hnc _ _ z1)]; omega
        · have hbc : b ≠ c0 := fun e8 => by
            rw [e9] at z5
            obtain ⟨d8, hd8, _⟩ := ob_pC hT hn hB.1.1 z5 hb
            exact hnc _ _ hd8 e8
          simp only [if_neg hbc]
          exact z7 b hb e9
      have hd0c : (pR d0 - (8589934592 : Int64)).toInt32 = nI d0 := pR_cell q2
      have e505 : gA u2 505 E = nI (f E) := l2
      have e26 : gA v2 26 E = nI (f E) := l3
      have hfrC : f2C u u2 := ⟨fun k h _ => (npS_fr u f0 c0 x (aC 0)).1 k h, fun k _ => rfl, fun k _ => rfl, fun k h1 h2 _ _ => (npS_fr u f0 c0 x (aC 0)).2.2.2 k h1 h2⟩
      have hfrR : f2R v v2 := ⟨fun k _ _ h => by show gI (sI v 30 (gI v 30 + 1)) k = _; rw [gI_sI, if_neg h], fun _ _ => rfl, fun k h _ _ => (prS_fr (sI v 30 (gI v 30 + 1)) d0 y (aR 0)).2.2.1 k h, fun k h1 h2 _ => (prS_fr (sI v 30 (gI v 30 + 1)) d0 y (aR 0)).2.2.2 k h1 h2⟩
      unfold ComR
      rw [hi, hnt, Nat.add_sub_cancel]
      by_cases h0 : f E = 0
      · -- the first of its list
        refine ⟨_, _, _, sB (sA (sB u2 506 (vp_updL (gB u2 506) E (pC c0))) 505 (upd (gA u2 505) E 1)) 507 (vp_updL (gB u2 507) E (pC c0)), sA (sA (sB v2 27 (vp_updL (gB v2 27) E (pR d0))) 28 (upd (gA v2 28) E (nI d0))) 26 (upd (gA v2 26) E 1), ⟨q5, ⟨h510, h29, hD⟩, fun j hj => ?_, fun j hj => ?_, q6, q7, by omega⟩, f2C_tr hfrC ⟨fun _ _ _ => rfl, fun _ _ => rfl, fun k h => by rw [gA_sB, gA_sA, if_neg h]; rfl, fun k _ _ h1 h2 => by rw [gB_sB, if_neg h2, gB_sA, gB_sB, if_neg h1]⟩, f2R_tr hfrR ⟨fun _ _ _ _ => rfl, fun _ _ => rfl, fun k _ h1 h2 => by rw [gA_sA, if_neg h1, gA_sA, if_neg h2]; rfl, fun k _ _ h => by rw [gB_sA, gB_sA, gB_sB, if_neg h]⟩, fun e => absurd e (by omega), fun _ => rfl, fun Q hQ => hCa (sf (by rw [h0]; decide) (q8 _ ⟨hvp, sq (by rw [e505, h0]; rfl) ⟨hvp, hvp, hvp, hQ⟩⟩)), fun Q hQ => ?_⟩
        · by_cases ej : j = E
          · have e3 : upN f E 1 j = 1 := if_pos ej
            unfold Lv
            rw [e3, ej]
            refine ⟨by omega, ?_, pk_us, fun e => absurd e (by decide), fun _ => ⟨c0, d0, hnn, pk_uLs, pk_us, hAd0, ?_, ?_, fun b hb e9 => ?_⟩⟩
            · rw [if_neg (by decide)]; exact pk_us
            · show ob (new r c0 d0) T (vp_updL (gB u2 506) E (pC c0) E) (vp_updL (gB v2 27) E (pR d0) E)
              rw [pk_uLs, pk_uLs]; exact Or.inr (Or.inr ⟨c0, d0, hnn, rfl, rfl⟩)
            · simp only [if_true]; omega
            · have e9' : pC c0 = pC b := (show vp_updL (gB u2 506) E (pC c0) E = pC c0 from pk_uLs).symm.trans e9
              have := pC_inj (by omega) hb e9'
              subst this
              simp only [if_true]; omega
          · exact hlow _ _ j (by omega) (pk_un ej) (pk_un ej) (pk_uLn ej) (pk_uLn ej) (pk_un ej) (pk_uLn ej)
        · show upN f E 1 j ≠ 3
          rw [show upN f E 1 j = f j from if_neg (by omega)]
          exact hno3 j hj
        · unfold wp_X10_comes
          rw [h29, nI_pred E, nI_clamp (show E < 2 ^ 31 by omega), l3]
          refine sf (nI_ne0 (by omega) (by omega)) ⟨hvR, sf (by rw [h0]; decide) (sf (by decide) (q9 _ ⟨hvR, sq (by rw [e26, h0]; rfl) ⟨hvR, hvR, hvR, ?_⟩⟩))⟩
          rw [hd0c]
          exact hQ
      · -- behind others
        have h1 : f E = 1 := by omega
        obtain ⟨c, d, hr, m1, m2, m3, m4, m5, m6⟩ := l5 h0
        have hcd := hB.1.1 _ _ hr
        have hcc0 : c ≠ c0 := hnc c d hr
        have hB2 := setB (x := pC c0) (y := pR d0) q5 (hmono c d hr) (hAn d m3) (Or.inr (Or.inr ⟨c0, d0, hnn, rfl, rfl⟩)) (fun b hb e => by
          have := pC_inj (by omega) hb e
          subst this
          simp only [if_true, if_neg hcc0]
          omega)
        refine ⟨_, _, _, sB (sB u2 801 (vp_updL (gB u2 801) c (pC c0))) 507 (vp_updL (gB u2 507) E (pC c0)), sA (sA (sB v2 14 (vp_updL (gB v2 14) d (pR d0))) 28 (upd (gA v2 28) E (nI d0))) 26 (upd (gA v2 26) E 1), ⟨hB2, ⟨h510, h29, hD⟩, fun j hj => ?_, fun j hj => ?_, q6, q7, by omega⟩, f2C_tr hfrC ⟨fun _ _ _ => rfl, fun _ _ => rfl, fun _ _ => rfl, fun k _ h1 _ h2 => by rw [gB_sB, if_neg h2, gB_sB, if_neg h1]⟩, f2R_tr hfrR ⟨fun _ _ _ _ => rfl, fun _ _ => rfl, fun k _ h1 h2 => by rw [gA_sA, if_neg h1, gA_sA, if_neg h2]; rfl, fun k _ h _ => by rw [gB_sA, gB_sA, gB_sB, if_neg h]⟩, fun e => absurd e (by omega), fun _ => rfl, fun Q hQ => hCa (sf (by rw [h1]; decide) (q8 _ ⟨hvp, sf (by rw [e505, h1]; decide) ⟨hvp, ?_⟩⟩)), fun Q hQ => ?_⟩
        · by_cases ej : j = E
          · have e3 : upN f E 1 j = 1 := if_pos ej
            unfold Lv
            rw [e3, ej]
            refine ⟨by omega, ?_, pk_us, fun e => absurd e (by decide), fun _ => ⟨c0, d0, hnn, pk_uLs, pk_us, hAd0, ob_mono m4 hmono, ?_, fun b hb e9 => ?_⟩⟩
            · rw [if_neg (by decide)]
              show gA u 505 E = nI 1
              rw [l2, h1]
            · simp only [if_true]; omega
            · have e9' : gB u 506 E = pC b := e9
              have hbc : b ≠ c0 := fun e8 => by
                rw [e9'] at m4
                obtain ⟨d8, hd8, _⟩ := ob_pC hT hn hB.1.1 m4 hb
                exact hnc _ _ hd8 e8
              simp only [if_neg hbc]
              exact m6 b hb e9'
          · exact hlow _ _ j (by omega) rfl (pk_un ej) rfl (pk_uLn ej) (pk_un ej) rfl
        · show upN f E 1 j ≠ 3
          rw [show upN f E 1 j = f j from if_neg (by omega)]
          exact hno3 j hj
        · show wp_X0_setCdr N (gB u 507 E) (pC c0) u2 _
          rw [m1]
          exact setCdr_p hN hcd.1 ⟨hvp, hQ⟩
        · unfold wp_X10_comes
          rw [h29, nI_pred E, nI_clamp (show E < 2 ^ 31 by omega), l3]
          refine sf (nI_ne0 (by omega) (by omega)) ⟨hvR, sf (by rw [h1]; decide) (sf (by decide) (q9 _ ⟨hvR, sf (by rw [e26, h1]; decide) ⟨hvR, ?_⟩⟩))⟩
          have e28 : gA v2 28 E = nI d := m2
          rw [hd0c]
          show vp_in (gA v2 28 E) 1000 ∧ vp_in (nI E) 61 ∧ vp_in (nI E) 61 ∧ Q (sA (sA (sB v2 14 (vp_updL (gB v2 14) ((gA v2 28) E).toNatClampNeg (pR d0))) 28 (upd (gA v2 28) E (nI d0))) 26 (upd (gA v2 26) E 1))
          rw [e28, nI_clamp (show d < 2 ^ 31 by omega)]
          exact ⟨vp_in_nI hcd.2 (by omega), hvR, hvR, hQ⟩
