/-! PURE: what waits, on both sides -/
def agW (w : Nat) (u u1 v v1 : St) : Prop := (∀ j, j < w → gA u1 300 j = gA u 300 j ∧ gA u1 301 j = gA u 301 j ∧ gA v1 33 j = gA v 33 j ∧ gA v1 37 j = gA v 37 j ∧ gB v1 34 j = gB v 34 j ∧ gB v1 35 j = gB v 35 j ∧ gB v1 36 j = gB v 36 j) ∧ (∀ j, j < w * 11 → gB u1 302 j = gB u 302 j) ∧ (∀ j, j < 8 * w → gB v1 38 j = gB v 38 j) ∧ gB v1 13 = gB v 13 ∧ gB v1 14 = gB v 14
theorem Frm_ag {r A T cnt cnt1 w j} {u u1 v v1 : St} (hj : j < w) (h : Frm r A T cnt u v j) (ag : agW w u u1 v v1) (hc : cnt1 j = cnt j) : Frm r A T cnt1 u1 v1 j := by
  obtain ⟨g1, g2, g3, g4, g5⟩ := ag
  obtain ⟨e1, e2, e3, e4, e5, e6, e7⟩ := g1 j hj
  unfold Frm at h ⊢
  obtain ⟨c1, c2, c3, c4, c5, c6, c7, c8, c9, c10, c11, c12, c13⟩ := h
  rw [e1, e2, e3, e4, e5, e6, e7, hc, g2 _ (by omega), g2 _ (by omega), g2 _ (by omega)]
  refine ⟨c1, c2, c3, c4, c5, c6, c7, c8, c9, c10, fun k hk => ?_, fun k hk hk8 => ?_, fun hk => ?_⟩
  · rw [g2 _ (by omega), g3 _ (by omega)]; exact c11 k hk
  · rw [g2 _ (by omega)]; exact c12 k hk hk8
  · unfold clz
    rw [g4, g5]
    exact c13 hk
theorem base_e {N : Nat → Nat} {n t w : Nat} (hN : LN N n t) (hw : w < t) (p : Nat) (hp : p < 11) : nI (w + 1) - (1 : Int32) = nI w ∧ (nI w * (11 : Int32)) + nI p = nI (w * 11 + p) ∧ (nI (w * 11 + p)).toNatClampNeg = w * 11 + p ∧ vp_in (nI (w * 11 + p)) (N 302) := by
  have ht := hN.2.2.2.2.2.2.2.2.2.1
  have h3 := hN.2.2.2.2.2.2.2.1
  refine ⟨nI_pred w, ?_, nI_clamp (by omega), ?_⟩
  · rw [show nI w * (11 : Int32) = nI (w * 11) from pk_mul w 11]; exact nI_add _ _
  · rw [h3]; exact vp_in_nI (by omega) (by omega)
theorem part_ok {N : Nat → Nat} {n t w p : Nat} {u : St} {Q : Int64 → St → Prop} (hN : LN N n t) (hw : gI u 303 = nI (w + 1)) (hwt : w < t) (hp : p < 11) (h : Q (gB u 302 (w * 11 + p)) u) : wp_X7_part N (nI p) u Q := by
  have ht := hN.2.2.2.2.2.2.2.2.2.1
  obtain ⟨e1, e2, e3, e4⟩ := base_e hN hwt p hp
  unfold wp_X7_part
  rw [hw, e1, e2, e3]
  exact ⟨fun c => absurd c (nI_nle (by omega) (by omega)), fun _ => ⟨e4, h⟩⟩
theorem kindOnTop_ok {N : Nat → Nat} {n t w : Nat} {u : St} {Q : Int32 → St → Prop} (hN : LN N n t) (hw : gI u 303 = nI (w + 1)) (hwt : w < t) (h : Q (gA u 300 w) u) : wp_X7_kindOnTop N u Q := by
  have ht := hN.2.2.2.2.2.2.2.2.2.1
  unfold wp_X7_kindOnTop
  rw [hw, nI_pred w, nI_clamp (by omega), hN.2.2.2.2.2.1]
  exact ⟨fun c => absurd c (nI_nle (by omega) (by omega)), fun _ => ⟨vp_in_nI hwt (by omega), h⟩⟩
theorem valuesOnTop_ok {N : Nat → Nat} {n t w : Nat} {u : St} {Q : Int32 → St → Prop} (hN : LN N n t) (hw : gI u 303 = nI (w + 1)) (hwt : w < t) (h : Q (gA u 301 w) u) : wp_X7_valuesOnTop N u Q := by
  have ht := hN.2.2.2.2.2.2.2.2.2.1
  unfold wp_X7_valuesOnTop
  rw [hw, nI_pred w, nI_clamp (by omega), hN.2.2.2.2.2.2.1]
  exact ⟨fun c => absurd c (nI_nle (by omega) (by omega)), fun _ => ⟨vp_in_nI hwt (by omega), h⟩⟩
theorem setRest_ok {N : Nat → Nat} {n t w : Nat} {u : St} {x : Int64} {Q : St → Prop} (hN : LN N n t) (hw : gI u 303 = nI (w + 1)) (hwt : w < t) (h : Q (sB u 302 (vp_updL (gB u 302) (w * 11 + 1) x))) : wp_X7_setRest N x u Q := by
  have ht := hN.2.2.2.2.2.2.2.2.2.1
  obtain ⟨e1, e2, e3, e4⟩ := base_e hN hwt 1 (by omega)
  unfold wp_X7_setRest
  rw [hw, e1, show (nI w * (11 : Int32)) + (1 : Int32) = nI (w * 11 + 1) from e2, e3]
  exact ⟨fun c => absurd c (nI_nle (by omega) (by omega)), fun _ => ⟨e4, h⟩⟩
theorem pop_ok {N : Nat → Nat} {w : Nat} {u : St} {Q : St → Prop} (hw : gI u 303 = nI (w + 1)) (hwt : w < 200) (h : Q (sI u 303 (nI w))) : wp_X7_pop N u Q := by
  unfold wp_X7_pop
  rw [hw, nI_pred w]
  exact ⟨fun c => absurd c (nI_nle (by omega) (by omega)), fun _ => h⟩
def adS (u : St) (w c : Nat) (x : Int64) : St := sA (sB u 302 (vp_updL (gB u 302) (w * 11 + 3 + c) x)) 301 (upd (gA u 301) w (nI (c + 1)))
theorem addValue_ok {N : Nat → Nat} {n t w c : Nat} {u : St} {x : Int64} {Q : St → Prop} (hN : LN N n t) (hw : gI u 303 = nI (w + 1)) (hwt : w < t) (hc : gA u 301 w = nI c) (hc8 : c < 8) (h : Q (adS u w c x)) : wp_X7_addValue N x u Q := by
  have ht := hN.2.2.2.2.2.2.2.2.2.1
  refine valuesOnTop_ok hN hw hwt ?_
  obtain ⟨e1, e2, e3, e4⟩ := base_e hN hwt (3 + c) (by omega)
  have e5 : (nI w * (11 : Int32) + (3 : Int32)) + nI c = nI (w * 11 + 3 + c) := by
    rw [show nI w * (11 : Int32) = nI (w * 11) from pk_mul w 11, show nI (w * 11) + (3 : Int32) = nI (w * 11 + 3) from nI_add _ 3]; exact nI_add _ _
  rw [hw, e1, hc, e5, show w * 11 + 3 + c = w * 11 + (3 + c) from by omega, e3, nI_clamp (show w < 2 ^ 31 by omega), show nI c + (1 : Int32) = nI (c + 1) from nI_1 c, hN.2.2.2.2.2.2.1]
  refine ⟨fun c => absurd c (nI_nle (by omega) (by omega)), fun _ => ⟨fun d => absurd d (nI_ge (a := c) (b := 8) (by omega) (by omega)), fun _ => ⟨e4, vp_in_nI hwt (by omega), ?_⟩⟩⟩
  unfold adS at h
  rw [show w * 11 + 3 + c = w * 11 + (3 + c) from by omega] at h
  exact h
/-- the class's clearing of a frame's values -/
theorem push_loop {N : Nat → Nat} {n t w : Nat} {c1 : Int32} {c2 c4 c6 : Int64} (hN : LN N n t) (hwt : w < t) : ∀ (d i : Nat) (u : St), i + d = 8 → ∃ u1 : St, (∀ k, gI u1 k = gI u k) ∧ (∀ k, gJ u1 k = gJ u k) ∧ (∀ k, gA u1 k = gA u k) ∧ (∀ k, k ≠ 302 → gB u1 k = gB u k) ∧ (∀ j, (w * 11 + 3 + i ≤ j ∧ j < w * 11 + 11) → gB u1 302 j = aC 0) ∧ (∀ j, ¬ (w * 11 + 3 + i ≤ j ∧ j < w * 11 + 11) → gB u1 302 j = gB u 302 j) ∧ ∀ K : St → Prop, K u1 → l_X7_push_29 N c1 c2 c4 c6 (nI (w * 11)) K (d + 1) (nI (w * 11 + 3 + i)) u := by
  have ht := hN.2.2.2.2.2.2.2.2.2.1
  have h3 := hN.2.2.2.2.2.2.2.1
  have e11 : nI (w * 11) + (11 : Int32) = nI (w * 11 + 11) := nI_add _ 11
  intro d
  induction d with
  | zero =>
    intro i u hi
    obtain rfl : i = 8 := by omega
    refine ⟨u, fun _ => rfl, fun _ => rfl, fun _ => rfl, fun _ _ => rfl, fun j hj => by omega, fun _ _ => rfl, fun K hK => ?_⟩
    unfold l_X7_push_29
    rw [e11]
    exact ⟨fun _ => hK, fun c => absurd (nI_le (by omega) (by omega)) c⟩
  | succ d ih =>
    intro i u hi
    obtain ⟨u1, a1, a2, a3, a4, a5, a6, a7⟩ := ih (i + 1) (sB u 302 (vp_updL (gB u 302) (w * 11 + 3 + i) (aC 0))) (by omega)
    refine ⟨u1, a1, a2, a3, fun k hk => (a4 k hk).trans (by rw [gB_sB, if_neg hk]), fun j hj => ?_, fun j hj => ?_, fun K hK => ?_⟩
    · by_cases e : j = w * 11 + 3 + i
      · rw [a6 j (by omega), gB_sB, if_pos rfl, e]
        exact pk_uLs
      · exact a5 j (by omega)
    · rw [a6 j (by omega), gB_sB, if_pos rfl]
      exact pk_uLn (by omega)
    · unfold l_X7_push_29
      rw [e11, nI_clamp (show w * 11 + 3 + i < 2 ^ 31 by omega), show nI (w * 11 + 3 + i) + (1 : Int32) = nI (w * 11 + 3 + (i + 1)) from nI_1 _, h3]
      exact ⟨fun c => absurd c (nI_ge (by omega) (by omega)), fun _ => ⟨vp_in_nI (by omega) (by omega), a7 K hK⟩⟩
def frU (u u1 : St) : Prop := (∀ k, k ≠ 303 → k ≠ 304 → gI u1 k = gI u k) ∧ (∀ k, gJ u1 k = gJ u k) ∧ (∀ k, k ≠ 300 → k ≠ 301 → gA u1 k = gA u k) ∧ (∀ k, k ≠ 302 → gB u1 k = gB u k)
def frV (v v1 : St) : Prop := (∀ k, k ≠ 32 → k ≠ 10 → gI v1 k = gI v k) ∧ (∀ k, gJ v1 k = gJ v k) ∧ (∀ k, k ≠ 33 → k ≠ 37 → gA v1 k = gA v k) ∧ (∀ k, k ≠ 34 → k ≠ 35 → k ≠ 36 → k ≠ 38 → gB v1 k = gB v k)
def Gr (t : Nat) (u v : St) : Prop := ∃ g, gI u 304 = nI g ∧ gI v 10 = nI g ∧ g ≤ t
theorem push_both {N : Nat → Nat} {r A T n t w cnt} {u v : St} {kd : Int32} {x0 y0 x1 y1 xb : Int64} (hN : LN N n t) (hW : Wt r A T t w cnt u v) (hG : Gr t u v) (h2 : gI v 2 = nI t) (h8 : gI v 8 = 0) (hk : kd = 0 ∨ kd = 1 ∨ kd = 2) (o0 : ob r T x0 y0) (o1 : ob r T x1 y1) (ob3 : ob r T xb (gJ v 41)) (hb : bn A (gJ v 41)) (hcl : kd = 1 → clz v y1) :
    ((∀ Q : Int32 → St → Prop, Q 0 u → wp_X7_push N kd x0 x1 xb u Q) ∧ (∀ Q : Int32 → St → Prop, Q 0 (sI v 8 (7 : Int32)) → wp_X10_waits kd y0 y1 v Q)) ∨
    (∃ u1 v1 : St, (w < t ∧ gA v1 33 w = kd) ∧ Wt r A T t (w + 1) (fun j => if j = w then 0 else cnt j) u1 v1 ∧ Gr t u1 v1 ∧ frU u u1 ∧ frV v v1 ∧ (∀ Q : Int32 → St → Prop, Q 1 u1 → wp_X7_push N kd x0 x1 xb u Q) ∧ (∀ Q : Int32 → St → Prop, Q 1 v1 → wp_X10_waits kd y0 y1 v Q)) := by
  have ht := hN.2.2.2.2.2.2.2.2.2.1
  obtain ⟨w1, w2, w3, w4⟩ := hW
  by_cases hwt : w = t
  · left
    refine ⟨fun Q hQ => ⟨fun c => absurd c ?_, fun _ => hQ⟩, fun Q hQ => ⟨fun _ => ⟨fun _ => hQ, fun h => absurd h8 h⟩, fun c => absurd ?_ c⟩⟩
    · rw [w1, hN.2.2.2.2.2.1]; exact nI_nlt (a := w) (b := t) (by omega) (by omega)
    · rw [w2, h2, hwt]
  · right
    have hlt : w < t := by omega
    obtain ⟨g, g1, g2, g3⟩ := hG
    obtain ⟨p, p1, p2, p3, p4, p5, p6, p7⟩ := push_loop (c1 := kd) (c2 := x0) (c4 := x1) (c6 := xb) hN hlt 8 0 u (by omega)
    let B3 : Nat → Int64 := vp_updL (vp_updL (vp_updL (gB p 302) (w * 11 + 0) x0) (w * 11 + 1) x1) (w * 11 + 2) xb
    let g1' : Nat := if g < w + 1 then w + 1 else g
    have hgi : (if gI p 304 < gI p 303 + (1 : Int32) then gI p 303 + (1 : Int32) else gI p 304) = nI g1' := by
      rw [p1 304, p1 303, g1, w1, nI_1]
      by_cases hc : g < w + 1
      · rw [if_pos (nI_lt hc (by omega))]; show nI (w + 1) = nI (if g < w + 1 then w + 1 else g); rw [if_pos hc]
      · rw [if_neg (nI_nlt (by omega) (by omega))]; show nI g = nI (if g < w + 1 then w + 1 else g); rw [if_neg hc]
    let u1 : St := sI (sI (sA (sA (sB (sB (sB p 302 (vp_updL (gB p 302) (w * 11 + 0) x0)) 302 (vp_updL (vp_updL (gB p 302) (w * 11 + 0) x0) (w * 11 + 1) x1)) 302 B3) 300 (upd (gA p 300) w kd)) 301 (upd (gA p 301) w (0 : Int32))) 303 (nI (w + 1))) 304 (nI g1')
    let v0 : St := sI (sA (sB (sB (sB (sA v 33 (upd (gA v 33) w kd)) 34 (vp_updL (gB v 34) w y0)) 35 (vp_updL (gB v 35) w y1)) 36 (vp_updL (gB v 36) w (gJ v 41))) 37 (upd (gA v 37) w (0 : Int32))) 32 (nI (w + 1))
    let v1 : St := if g < w + 1 then sI v0 10 (nI (w + 1)) else v0
    have hv1I : ∀ k, k ≠ 10 → gI v1 k = gI v0 k := fun k hk => by
      show gI (if g < w + 1 then sI v0 10 (nI (w + 1)) else v0) k = _
      split
      · rw [gI_sI, if_neg hk]
      · rfl
    have hv1J : ∀ k, gJ v1 k = gJ v0 k := fun k => by
      show gJ (if g < w + 1 then sI v0 10 (nI (w + 1)) else v0) k = _
      split <;> rfl
    have hv1A : ∀ k, gA v1 k = gA v0 k := fun k => by
      show gA (if g < w + 1 then sI v0 10 (nI (w + 1)) else v0) k = _
      split <;> rfl
    have hv1B : ∀ k, gB v1 k = gB v0 k := fun k => by
      show gB (if g < w + 1 then sI v0 10 (nI (w + 1)) else v0) k = _
      split <;> rfl
    have hB3 : ∀ j, B3 j = if j = w * 11 + 2 then xb else if j = w * 11 + 1 then x1 else if j = w * 11 + 0 then x0 else gB p 302 j := fun j => rfl
    refine ⟨u1, v1, ⟨hlt, by rw [hv1A]; exact pk_us⟩, ⟨rfl, (hv1I 32 (by decide)).trans rfl, by omega, fun j hj => ?_⟩, ⟨g1', rfl, ?_, ?_⟩, ?_, ?_, fun Q hQ => ?_, fun Q hQ => ?_⟩
    · by_cases ej : j = w
      · have e0 : gA u1 300 j = kd := by rw [ej]; exact pk_us
        have e1 : gA v1 33 j = kd := by rw [hv1A, ej]; exact pk_us
        have e2 : gA u1 301 j = 0 := by rw [ej]; exact pk_us
        have e3 : gA v1 37 j = 0 := by rw [hv1A, ej]; exact pk_us
        have e4 : gB v1 34 j = y0 := by rw [hv1B, ej]; exact pk_uLs
        have e5 : gB v1 35 j = y1 := by rw [hv1B, ej]; exact pk_uLs
        have e6 : gB v1 36 j = gJ v 41 := by rw [hv1B, ej]; exact pk_uLs
        have ec : (fun j => if j = w then 0 else cnt j) j = 0 := if_pos ej
        have hh : ∀ i, gB u1 302 i = B3 i := fun i => rfl
        unfold Frm
        rw [e0, e1, e2, e3, e4, e5, e6, ec, hh, hh, hh, ej, hB3, hB3, hB3]
        refine ⟨rfl, hk, rfl, rfl, by omega, fun _ => by omega, ?_, ?_, ?_, hb, fun k hk => absurd hk (by omega), fun k _ hk8 => ?_, fun e => ?_⟩
        · rw [if_neg (by omega), if_neg (by omega), if_pos (by omega)]; exact o0
        · rw [if_neg (by omega), if_pos rfl]; exact o1
        · rw [if_pos rfl]; exact ob3
        · rw [hh, hB3, if_neg (by omega), if_neg (by omega), if_neg (by omega)]
          exact p5 _ (by omega)
        · obtain ⟨d, e, f, q⟩ := hcl e
          exact ⟨d, e, f, by rw [hv1B 13, hv1B 14]; exact q⟩
      · have hj2 : j < w := by omega
        refine Frm_ag hj2 (w4 j hj2) ⟨fun i hi => ?_, fun i hi => ?_, fun i hi => ?_, ?_, ?_⟩ (if_neg ej)
        · have hne : i ≠ w := by omega
          refine ⟨?_, ?_, ?_, ?_, ?_, ?_, ?_⟩
          · exact (pk_un hne).trans (congrFun (p3 300) i)
          · exact (pk_un hne).trans (congrFun (p3 301) i)
          · rw [hv1A]; exact pk_un hne
          · rw [hv1A]; exact pk_un hne
          · rw [hv1B]; exact pk_uLn hne
          · rw [hv1B]; exact pk_uLn hne
          · rw [hv1B]; exact pk_uLn hne
        · show B3 i = _
          rw [hB3, if_neg (by omega), if_neg (by omega), if_neg (by omega)]
          exact p6 i (by omega)
        · rw [hv1B]; rfl
        · rw [hv1B]; rfl
        · rw [hv1B]; rfl
    · show gI (if g < w + 1 then sI v0 10 (nI (w + 1)) else v0) 10 = nI (if g < w + 1 then w + 1 else g)
      split
      · rfl
      · exact g2
    · show (if g < w + 1 then w + 1 else g) ≤ t
      split <;> omega
    · refine ⟨fun k a b => ?_, fun k => p2 k, fun k a b => ?_, fun k a => ?_⟩
      · show gI u1 k = _
        rw [gI_sI, if_neg b, gI_sI, if_neg a]; exact p1 k
      · show gA u1 k = _
        rw [gA_sI, gA_sI, gA_sA, if_neg b, gA_sA, if_neg a]; exact p3 k
      · show gB u1 k = _
        rw [gB_sI, gB_sI, gB_sA, gB_sA, gB_sB, if_neg a, gB_sB, if_neg a, gB_sB, if_neg a]; exact p4 k a
    · refine ⟨fun k a b => ?_, fun k => hv1J k, fun k a b => ?_, fun k a b c d => ?_⟩
      · rw [hv1I k b, gI_sI, if_neg a]; rfl
      · rw [hv1A, gA_sI, gA_sA, if_neg b, gA_sB, gA_sB, gA_sB, gA_sA, if_neg a]
      · rw [hv1B, gB_sI, gB_sA, gB_sB, if_neg c, gB_sB, if_neg b, gB_sB, if_neg a]; rfl
    · refine ⟨fun _ => ⟨8 + 1, ?_⟩, fun c => absurd (by rw [w1, hN.2.2.2.2.2.1]; exact nI_lt hlt (by omega)) c⟩
      rw [w1, show nI w * (11 : Int32) = nI (w * 11) from pk_mul w 11, show nI (w * 11) + (3 : Int32) = nI (w * 11 + 3 + 0) from nI_add _ 3]
      refine p7 _ ?_
      have b0 := base_e hN hlt 0 (by omega)
      have b1 := base_e hN hlt 1 (by omega)
      have b2 := base_e hN hlt 2 (by omega)
      have c0 : nI (w * 11) + (0 : Int32) = nI (w * 11 + 0) := nI_add _ 0
      have c1 : nI (w * 11) + (1 : Int32) = nI (w * 11 + 1) := nI_add _ 1
      have c2 : nI (w * 11) + (2 : Int32) = nI (w * 11 + 2) := nI_add _ 2
      rw [hgi, c0, c1, c2, b0.2.2.1, b1.2.2.1, b2.2.2.1, p1 303, w1, nI_clamp (show w < 2 ^ 31 by omega), show nI w + (1 : Int32) = nI (w + 1) from nI_1 w, hN.2.2.2.2.2.1, hN.2.2.2.2.2.2.1]
      exact ⟨b0.2.2.2, b1.2.2.2, b2.2.2.2, vp_in_nI hlt (by omega), vp_in_nI hlt (by omega), hQ⟩
    · refine ⟨fun c => absurd c ?_, fun _ => ?_⟩
      · rw [w2, h2]
        exact fun e => absurd ((nI_eq (by omega) (by omega)).mp e) (by omega)
      · rw [w2, nI_clamp (show w < 2 ^ 31 by omega), show nI w + (1 : Int32) = nI (w + 1) from nI_1 w, g2]
        refine ⟨vp_in_nI (by omega) (by omega), vp_in_nI (by omega) (by omega), vp_in_nI (by omega) (by omega), vp_in_nI (by omega) (by omega), vp_in_nI (by omega) (by omega), fun c => ?_, fun c => ?_⟩
        · have hh : ¬ g < w + 1 := fun h => by
            have := (nI_leI (by omega) (by omega)).mp c
            omega
          have : v1 = v0 := if_neg hh
          rw [this] at hQ
          exact hQ
        · have hh : g < w + 1 := by
            refine Classical.byContradiction (fun h => c (nI_le (by omega) (by omega)))
          have : v1 = sI v0 10 (nI (w + 1)) := if_pos hh
          rw [this] at hQ
          exact hQ
