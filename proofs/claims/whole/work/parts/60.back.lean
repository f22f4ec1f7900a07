/-! PURE: a value is handed back -/
theorem sB_sB (v : St) (k : Nat) (f g : Nat → Int64) : sB (sB v k f) k g = sB v k g := by
  unfold sB
  refine congrArg (fun z => (v.1, v.2.1, v.2.2.1, z)) ?_
  funext j
  show (if j = k then g else if j = k then f else v.2.2.2 j) = (if j = k then g else v.2.2.2 j)
  split
  · rfl
  · rfl
theorem sB_self (v : St) (k : Nat) : sB v k (gB v k) = v := by
  unfold sB
  have : va_up v.2.2.2 k (gB v k) = v.2.2.2 := by
    funext j
    show (if j = k then gB v k else v.2.2.2 j) = v.2.2.2 j
    split
    · rename_i e; rw [e]; rfl
    · rfl
  rw [this]
theorem bcp_134 {w m : Nat} (hw : w < 200) (hm : m ≤ 8) : ∀ (d i : Nat) (v : St), i + d = m → gI v 43 = nI m → (∀ k, k < i → gB v 42 k = gB v 38 (8 * w + k)) → ∃ f : Nat → Int64, (∀ k, k < m → f k = gB v 38 (8 * w + k)) ∧ ∀ K : St → Prop, K (sB v 42 f) → l_X10_back_134 (nI w) K (d + 1) (nI i) v := by
  intro d
  induction d with
  | zero =>
    intro i v hi h43 hk
    obtain rfl : i = m := by omega
    refine ⟨gB v 42, hk, fun K hK => ?_⟩
    unfold l_X10_back_134
    rw [h43]
    rw [sB_self] at hK
    exact ⟨fun _ => hK, fun c => absurd (nI_le (Nat.le_refl _) (by omega)) c⟩
  | succ d ih =>
    intro i v hi h43 hk
    obtain ⟨f, hf, q⟩ := ih (i + 1) (sB v 42 (vp_updL (gB v 42) i (gB v 38 (8 * w + i)))) (by omega) h43 (fun k hki => by
      show vp_updL (gB v 42) i (gB v 38 (8 * w + i)) k = gB v 38 (8 * w + k)
      by_cases e : k = i
      · subst e; exact pk_uLs
      · rw [pk_uLn e]; exact hk k (by omega))
    refine ⟨f, hf, fun K hK => ?_⟩
    unfold l_X10_back_134
    have e8 : (8 : Int32) * nI w + nI i = nI (8 * w + i) := by rw [show (8 : Int32) * nI w = nI (8 * w) from pk_mul 8 w]; exact nI_add _ _
    rw [h43, e8, nI_clamp (show 8 * w + i < 2 ^ 31 by omega), nI_clamp (show i < 2 ^ 31 by omega), show nI i + (1 : Int32) = nI (i + 1) from nI_1 i]
    refine ⟨fun c => absurd c (nI_ge (by omega) (by omega)), fun _ => ⟨vp_in_nI (by omega) (by omega), vp_in_nI (by omega) (by omega), q K ?_⟩⟩
    rw [sB_sB]
    exact hK
theorem bcp_240 {w m : Nat} (hw : w < 200) (hm : m ≤ 8) : ∀ (d i : Nat) (v : St), i + d = m → gI v 43 = nI m → (∀ k, k < i → gB v 42 k = gB v 38 (8 * w + k)) → ∃ f : Nat → Int64, (∀ k, k < m → f k = gB v 38 (8 * w + k)) ∧ ∀ K : St → Prop, K (sB v 42 f) → l_X10_back_240 (nI w) K (d + 1) (nI i) v := by
  intro d
  induction d with
  | zero =>
    intro i v hi h43 hk
    obtain rfl : i = m := by omega
    refine ⟨gB v 42, hk, fun K hK => ?_⟩
    unfold l_X10_back_240
    rw [h43]
    rw [sB_self] at hK
    exact ⟨fun _ => hK, fun c => absurd (nI_le (Nat.le_refl _) (by omega)) c⟩
  | succ d ih =>
    intro i v hi h43 hk
    obtain ⟨f, hf, q⟩ := ih (i + 1) (sB v 42 (vp_updL (gB v 42) i (gB v 38 (8 * w + i)))) (by omega) h43 (fun k hki => by
      show vp_updL (gB v 42) i (gB v 38 (8 * w + i)) k = gB v 38 (8 * w + k)
      by_cases e : k = i
      · subst e; exact pk_uLs
      · rw [pk_uLn e]; exact hk k (by omega))
    refine ⟨f, hf, fun K hK => ?_⟩
    unfold l_X10_back_240
    have e8 : (8 : Int32) * nI w + nI i = nI (8 * w + i) := by rw [show (8 : Int32) * nI w = nI (8 * w) from pk_mul 8 w]; exact nI_add _ _
    rw [h43, e8, nI_clamp (show 8 * w + i < 2 ^ 31 by omega), nI_clamp (show i < 2 ^ 31 by omega), show nI i + (1 : Int32) = nI (i + 1) from nI_1 i]
    refine ⟨fun c => absurd c (nI_ge (by omega) (by omega)), fun _ => ⟨vp_in_nI (by omega) (by omega), vp_in_nI (by omega) (by omega), q K ?_⟩⟩
    rw [sB_sB]
    exact hK
theorem takeValues_ok {N : Nat → Nat} {n t w c : Nat} {u : St} {Q : Int32 → St → Prop} (hN : LN N n t) (hw : gI u 303 = nI (w + 1)) (hwt : w < t) (hc : gA u 301 w = nI c) (hc8 : c ≤ 8) (h : Q (nI c) (sB u 605 (va_cpy (gB u 302) (gB u 605) (w * 11 + 3) 0 c))) : wp_X7_takeValues_21 N u Q := by
  have ht := hN.2.2.2.2.2.2.2.2.2.1
  have h3 := hN.2.2.2.2.2.2.2.1
  refine valuesOnTop_ok hN hw hwt ?_
  obtain ⟨e1, e2, e3, e4⟩ := base_e hN hwt 3 (by omega)
  rw [hw, e1, hc, show (nI w * (11 : Int32)) + (3 : Int32) = nI (w * 11 + 3) from e2, e3, nI_clamp (show c < 2 ^ 31 by omega), show ((0 : Int32)).toNatClampNeg = 0 from rfl, h3]
  exact ⟨fun c => absurd c (nI_nle (by omega) (by omega)), fun _ => ⟨nI_pos (by omega), by decide, nI_pos (by omega), by omega, by omega, h⟩⟩
theorem cpy_in {f g : Nat → Int64} {a c k : Nat} (h : k < c) : va_cpy f g a 0 c k = f (a + k) := by
  unfold va_cpy
  rw [if_pos ⟨Nat.zero_le _, by omega⟩, Nat.sub_zero]
def BackR (N : Nat → Nat) (T n t s C st : Nat) (u0 v0 u v : St) : Prop :=
  (∃ u1 v1, (RunE T n t s C st u0 v0 u1 v1 ∨ RunP T n t s C st u0 v0 u1 v1 ∨ Fld T n t s C st u0 v0 u1 v1) ∧ (∀ Q : St → Prop, Q u1 → wp_X2_handBack N u Q) ∧ (∀ Q : St → Prop, Q v1 → wp_X10_back v Q)) ∨
  (∃ u1, gI u1 608 = 1 ∧ gI u1 609 = 0 ∧ gI u1 607 = nI st ∧ gI u1 604 = nI s ∧ (∀ Q : St → Prop, Q u1 → wp_X2_handBack N u Q) ∧
    ((st < s ∧ ∃ u2 v1, (RunE T n t s C (st + 1) u0 v0 u2 v1 ∨ Fld T n t s C (st + 1) u0 v0 u2 v1) ∧ (∀ Q : St → Prop, Q u2 → wp_X2_choose N (sI u1 607 (nI (st + 1))) Q) ∧ (∀ Q : St → Prop, Q v1 → wp_X10_back v Q)) ∨
     (st = s ∧ ∃ v1, Fld T n t s C st u0 v0 (sI u1 609 8) v1 ∧ ∀ Q : St → Prop, Q v1 → wp_X10_back v Q)))
theorem back_step {N : Nat → Nat} {r A T n t s C st w cnt u0 v0} {u v : St} (hN : LN N n t) (hs : s ≤ 20000) (hst : st ≤ s) (h : Mh r A T n t C u v) (hW : Wt r A T t (w + 1) cnt u v) (hR : Rest t s st 0 u0 v0 u v) (hH : MH r T u v) : BackR N T n t s C st u0 v0 u v := by
  have hn := hN.2.2.2.2.2.2.2.2.1
  have ht := hN.2.2.2.2.2.2.2.2.2.1
  have hT := h.1.2.2.2.2.1.2.2.2
  have hT18 := h.1.2.2.2.2.1.2.2.1
  have hT0 : 0 < T := by omega
  have h8 := hR.2.1.2
  have h1 := h.1.1
  obtain ⟨hm1, hm2, ho⟩ := hH
  obtain ⟨w1, w2, w3, w4⟩ := hW
  have hwt : w < t := by omega
  obtain ⟨c1, c2, c3, c4, c5, c6, c7, c8, c9, c10, c11, c12, c13⟩ := w4 w (by omega)
  have hW0 : ∀ (u1 v1 : St), gI u1 303 = nI w → gI v1 32 = nI w → agW w u u1 v v1 → Wt r A T t w cnt u1 v1 := fun u1 v1 e1 e2 ag => ⟨e1, e2, by omega, fun j hj => Frm_ag hj (w4 j (by omega)) ag rfl⟩
  have hnil : gJ u 614 = (1099511627776 : Int64) ↔ gJ v 40 = (4294967296 : Int64) := obE h1 hT hn ho (ob_a (k := 0) hT0)
  have hrn : gB u 302 (w * 11 + 1) = (1099511627776 : Int64) ↔ gB v 35 w = (4294967296 : Int64) := obE h1 hT hn c8 (ob_a (k := 0) hT0)
  -- the class comes to the kind
  have hC : ∀ {Q : St → Prop}, ((gA u 300 w = (0 : Int32) → wp_X2_goOnWithCall N (sJ u 613 (gB u 302 (w * 11 + 2))) (fun (u5 : St) => Q u5)) ∧ (¬ gA u 300 w = (0 : Int32) → ((gA u 300 w = (1 : Int32) → wp_X2_goOnWithChoice N (sJ u 613 (gB u 302 (w * 11 + 2))) (fun (u6 : St) => Q u6)) ∧ (¬ gA u 300 w = (1 : Int32) → wp_X7_takeValues_21 N (sJ u 613 (gB u 302 (w * 11 + 2))) (fun (r7 : Int32) (u8 : St) => wp_X7_pop N (sI u8 606 r7) (fun (u9 : St) => wp_X2_beginApplying N (gJ u9 614) u9 (fun (u10 : St) => Q u10))))))) → wp_X2_handBack N u Q := fun {Q} hq => by
    refine ⟨fun c => absurd c (by rw [w1]; exact nI_ne0 (by omega) (by omega)), fun _ => part_ok (p := 2) hN w1 hwt (by omega) (kindOnTop_ok hN (by exact w1) hwt hq)⟩
  rcases c2 with hk | hk | hk
  · -- a call
    have hk7 := c6 hk
    have hcc := c11
    generalize hcw : cnt w = c at *
    have e3 : w * 11 + 1 ≠ w * 11 + 3 + c := by omega
    have e8 : (8 : Int32) * nI w + nI c = nI (8 * w + c) := by rw [show (8 : Int32) * nI w = nI (8 * w) from pk_mul 8 w]; exact nI_add _ _
    -- both with the value added
    have hC2 : ∀ {Q : St → Prop}, ((gB u 302 (w * 11 + 1) = (1099511627776 : Int64) → wp_X7_takeValues_21 N (adS (sJ u 613 (gB u 302 (w * 11 + 2))) w c (gJ u 614)) (fun (r13 : Int32) (u14 : St) => wp_X7_part N (0 : Int32) (sI u14 606 r13) (fun (r15 : Int64) (u16 : St) => wp_X2_beginApplying N r15 u16 (fun (u17 : St) => wp_X7_pop N u17 (fun (u18 : St) => Q u18))))) ∧ (¬ gB u 302 (w * 11 + 1) = (1099511627776 : Int64) → wp_X8_isPair (gB u 302 (w * 11 + 1)) (fun (r4 : Int32) => ((r4 = 0 → Q (sI (adS (sJ u 613 (gB u 302 (w * 11 + 2))) w c (gJ u 614)) 609 (3 : Int32))) ∧ (¬ r4 = 0 → wp_X7_valuesOnTop N (adS (sJ u 613 (gB u 302 (w * 11 + 2))) w c (gJ u 614)) (fun (r5 : Int32) (u6 : St) => ((r5 < (8 : Int32) → wp_X0_cdr N (gB u 302 (w * 11 + 1)) u6 (fun (r7 : Int64) (u8 : St) => wp_X7_setRest N r7 u8 (fun (u9 : St) => wp_X0_car N (gB u 302 (w * 11 + 1)) u9 (fun (r10 : Int64) (u11 : St) => wp_X2_beginEvaluating N r10 (gJ u11 613) u11 (fun (u12 : St) => Q u12))))) ∧ (¬ r5 < (8 : Int32) → Q (sI u6 609 (3 : Int32)))))))))) → wp_X2_handBack N u Q := fun {Q} hq => hC ⟨fun _ => addValue_ok hN (by exact w1) hwt (by exact c3) (by omega) (part_ok (p := 1) hN (by exact w1) hwt (by omega) (by
      have e : gB (adS (sJ u 613 (gB u 302 (w * 11 + 2))) w c (gJ (sJ u 613 (gB u 302 (w * 11 + 2))) 614)) 302 (w * 11 + 1) = gB u 302 (w * 11 + 1) := pk_uLn e3
      rw [e]
      exact hq)), fun e => absurd (c1.trans hk) e⟩
    have hRf : ∀ {Q : St → Prop}, ((gB v 35 w = (4294967296 : Int64) → (∃ k9 : Nat, l_X10_back_240 (nI w) (fun (u8 : St) => vp_in (nI w) 200 ∧ Q (sJ (sI u8 39 (1 : Int32)) 40 (gB u8 34 w))) k9 (0 : Int32) (sI (sI (sA (sB (sJ v 41 (gB v 36 w)) 38 (vp_updL (gB v 38) (8 * w + c) (gJ v 40))) 37 (upd (gA v 37) w (nI (c + 1)))) 32 (nI w)) 43 (nI (c + 1))))) ∧ (¬ gB v 35 w = (4294967296 : Int64) → wp_X10_isPair (gB v 35 w) (fun (r1 : Int32) => ((r1 = 0 → Q (sI (sA (sB (sJ v 41 (gB v 36 w)) 38 (vp_updL (gB v 38) (8 * w + c) (gJ v 40))) 37 (upd (gA v 37) w (nI (c + 1)))) 8 3)) ∧ (¬ r1 = 0 → ((nI (c + 1) = (8 : Int32) → Q (sI (sA (sB (sJ v 41 (gB v 36 w)) 38 (vp_updL (gB v 38) (8 * w + c) (gJ v 40))) 37 (upd (gA v 37) w (nI (c + 1)))) 8 3)) ∧ (¬ nI (c + 1) = (8 : Int32) → wp_X10_first (gB v 35 w) (sI (sA (sB (sJ v 41 (gB v 36 w)) 38 (vp_updL (gB v 38) (8 * w + c) (gJ v 40))) 37 (upd (gA v 37) w (nI (c + 1)))) 39 (0 : Int32)) (fun (r3 : Int64) (u4 : St) => wp_X10_behind (gB u4 35 w) (sJ u4 40 r3) (fun (r5 : Int64) (u6 : St) => Q (sB u6 35 (vp_updL (gB u6 35) w r5))))))))))) → wp_X10_back v Q := fun {Q} hq => by
      have hv : vp_in (nI w) 200 := vp_in_nI (by omega) (by omega)
      unfold wp_X10_back
      rw [w2, show nI (w + 1) - (1 : Int32) = nI w from nI_pred w, nI_clamp (show w < 2 ^ 31 by omega), c4, e8, nI_clamp (show 8 * w + c < 2 ^ 31 by omega), show nI c + (1 : Int32) = nI (c + 1) from nI_1 c, show upd (gA v 37) w (nI (c + 1)) w = nI (c + 1) from pk_us]
      refine ⟨hv, hv, fun e => absurd (hk.symm.trans e) (by decide), fun _ => ⟨hv, fun e => absurd (hk.symm.trans e) (by decide), fun _ => ⟨hv, vp_in_nI (by omega) (by omega), hv, hv, hv, fun e => ⟨hv, hq.1 e⟩, fun e => ⟨hv, ?_⟩⟩⟩⟩
      have hkk : ∀ (x : Int64) (R1 R2 : Int32 → Prop), (∀ y, R1 y → R2 y) → wp_X10_isPair x R1 → wp_X10_isPair x R2 := fun x R1 R2 hi h9 => ⟨fun c => hi _ (h9.1 c), fun c => hi _ (h9.2 c)⟩
      refine hkk _ _ _ ?_ (hq.2 e)
      intro y ⟨g1, g2⟩
      refine ⟨fun e5 => fails_ok h8 (g1 e5), fun e5 => ⟨hv, fun e6 => fails_ok h8 ((g2 e5).1 e6), fun e6 => ⟨hv, ?_⟩⟩⟩
      have hff : ∀ (x : Int64) (z : St) (R1 R2 : Int64 → St → Prop), (∀ p q, R1 p q → R2 p q) → wp_X10_first x z R1 → wp_X10_first x z R2 := fun x z R1 R2 hi h9 => ⟨h9.1, hi _ _ h9.2⟩
      refine hff _ _ _ _ ?_ ((g2 e5).2 e6)
      intro p q h9
      exact ⟨hv, h9.1, hv, h9.2⟩
    have hM1 : Mh r A T n t C (adS (sJ u 613 (gB u 302 (w * 11 + 2))) w c (gJ u 614)) (sA (sB (sJ v 41 (gB v 36 w)) 38 (vp_updL (gB v 38) (8 * w + c) (gJ v 40))) 37 (upd (gA v 37) w (nI (c + 1)))) := h
    have hR1 : Rest t s st 0 u0 v0 (adS (sJ u 613 (gB u 302 (w * 11 + 2))) w c (gJ u 614)) (sA (sB (sJ v 41 (gB v 36 w)) 38 (vp_updL (gB v 38) (8 * w + c) (gJ v 40))) 37 (upd (gA v 37) w (nI (c + 1)))) := hR
    have hag : agW w u (adS (sJ u 613 (gB u 302 (w * 11 + 2))) w c (gJ u 614)) v (sA (sB (sJ v 41 (gB v 36 w)) 38 (vp_updL (gB v 38) (8 * w + c) (gJ v 40))) 37 (upd (gA v 37) w (nI (c + 1)))) := by
      refine ⟨fun j hj => ⟨rfl, pk_un (by omega), rfl, pk_un (by omega), rfl, rfl, rfl⟩, fun j hj => pk_uLn (by omega), fun j hj => pk_uLn (by omega), rfl, rfl⟩
    left
    by_cases hnl : gB u 302 (w * 11 + 1) = (1099511627776 : Int64)
    · obtain ⟨f, hf, q⟩ := bcp_240 (w := w) (m := c + 1) (by omega) (by omega) (c + 1) 0 (sI (sI (sA (sB (sJ v 41 (gB v 36 w)) 38 (vp_updL (gB v 38) (8 * w + c) (gJ v 40))) 37 (upd (gA v 37) w (nI (c + 1)))) 32 (nI w)) 43 (nI (c + 1))) (by omega) rfl (fun k hk => absurd hk (by omega))
      refine ⟨sI (sI (sJ (sI (sB (adS (sJ u 613 (gB u 302 (w * 11 + 2))) w c (gJ u 614)) 605 (va_cpy (gB (adS (sJ u 613 (gB u 302 (w * 11 + 2))) w c (gJ u 614)) 302) (gB u 605) (w * 11 + 3) 0 (c + 1))) 606 (nI (c + 1))) 612 (gB u 302 (w * 11 + 0))) 608 2) 303 (nI w), sJ (sI (sB (sI (sI (sA (sB (sJ v 41 (gB v 36 w)) 38 (vp_updL (gB v 38) (8 * w + c) (gJ v 40))) 37 (upd (gA v 37) w (nI (c + 1)))) 32 (nI w)) 43 (nI (c + 1))) 42 f) 39 1) 40 (gB v 34 w), Or.inr (Or.inl ⟨r, A, w, cnt, hM1, hW0 _ _ rfl rfl hag, hR1, rfl, rfl, c7, c9, c10, c + 1, by omega, rfl, rfl, fun k hk => ?_⟩), fun Q hQ => hC2 ⟨fun _ => ?_, fun e => absurd hnl e⟩, fun Q hQ => hRf ⟨fun _ => ⟨_, q _ ⟨vp_in_nI (by omega) (by omega), hQ⟩⟩, fun e => absurd (hrn.mp hnl) e⟩⟩
      · show ob r T (va_cpy _ _ (w * 11 + 3) 0 (c + 1) k) (f k)
        rw [cpy_in hk, hf k hk]
        show ob r T (vp_updL (gB u 302) (w * 11 + 3 + c) (gJ u 614) (w * 11 + 3 + k)) (vp_updL (gB v 38) (8 * w + c) (gJ v 40) (8 * w + k))
        by_cases e : k = c
        · subst e
          rw [pk_uLs, pk_uLs]
          exact ho
        · rw [pk_uLn (by omega), pk_uLn (by omega)]
          exact hcc k (by omega)
      · refine takeValues_ok (c := c + 1) hN (by exact w1) hwt pk_us (by omega) (part_ok (p := 0) hN (by exact w1) hwt (by omega) (pop_ok (N := N) (w := w) (by exact w1) (by omega) ?_))
        have e : gB (adS (sJ u 613 (gB u 302 (w * 11 + 2))) w c (gJ u 614)) 302 (w * 11 + 0) = gB u 302 (w * 11 + 0) := pk_uLn (by omega)
        show Q (sI (sI (sJ (sI (sB _ 605 _) 606 (nI (c + 1))) 612 (gB (adS (sJ u 613 (gB u 302 (w * 11 + 2))) w c (gJ u 614)) 302 (w * 11 + 0))) 608 2) 303 (nI w))
        rw [e]
        exact hQ
    · have hnl' : ¬ gB v 35 w = (4294967296 : Int64) := fun e => hnl (hrn.mpr e)
      have hfl : Fld T n t s C st u0 v0 (sI (adS (sJ u 613 (gB u 302 (w * 11 + 2))) w c (gJ u 614)) 609 3) (sI (sA (sB (sJ v 41 (gB v 36 w)) 38 (vp_updL (gB v 38) (8 * w + c) (gJ v 40))) 37 (upd (gA v 37) w (nI (c + 1)))) 8 3) := ⟨r, A, 3, by decide, hM1, hR1.1, ⟨rfl, rfl⟩, hR1.2.2⟩
      rcases id c8 with ⟨m, x1, y1⟩ | ⟨k, hk9, x1, y1⟩ | ⟨b, d, hr, x1, y1⟩
      · refine ⟨_, _, Or.inr (Or.inr hfl), fun Q hQ => hC2 ⟨fun e => absurd e hnl, fun _ => ?_⟩, fun Q hQ => hRf ⟨fun e => absurd e hnl', fun _ => ?_⟩⟩
        · rw [x1]; exact isPair_n ⟨fun _ => hQ, fun c => absurd rfl c⟩
        · rw [y1]; exact rPair_n ⟨fun _ => hQ, fun c => absurd rfl c⟩
      · refine ⟨_, _, Or.inr (Or.inr hfl), fun Q hQ => hC2 ⟨fun e => absurd e hnl, fun _ => ?_⟩, fun Q hQ => hRf ⟨fun e => absurd e hnl', fun _ => ?_⟩⟩
        · rw [x1]; exact isPair_a (by omega) ⟨fun _ => hQ, fun c => absurd rfl c⟩
        · rw [y1]; exact rPair_a (by omega) ⟨fun _ => hQ, fun c => absurd rfl c⟩
      · have a1 := h1.1 _ _ hr
        obtain ⟨o1, o2⟩ := h1.2.2.2 _ _ hr
        by_cases hc7 : c = 7
        · refine ⟨_, _, Or.inr (Or.inr hfl), fun Q hQ => hC2 ⟨fun e => absurd e hnl, fun _ => ?_⟩, fun Q hQ => hRf ⟨fun e => absurd e hnl', fun _ => ?_⟩⟩
          · rw [x1]
            refine isPair_p (by omega) ⟨fun c => absurd c (by decide), fun _ => valuesOnTop_ok hN (by exact w1) hwt ?_⟩
            have e : gA (adS (sJ u 613 (gB u 302 (w * 11 + 2))) w c (gJ u 614)) 301 w = nI (c + 1) := pk_us
            rw [e]
            exact ⟨fun e9 => absurd e9 (nI_nlt (a := c + 1) (b := 8) (by omega) (by omega)), fun _ => hQ⟩
          · rw [y1]
            refine rPair_p a1.2 ⟨fun c => absurd c (by decide), fun _ => ⟨fun _ => hQ, fun e => absurd (by rw [hc7]; rfl) e⟩⟩
        · refine ⟨sI (sJ (sJ (sB (adS (sJ u 613 (gB u 302 (w * 11 + 2))) w c (gJ u 614)) 302 (vp_updL (gB (adS (sJ u 613 (gB u 302 (w * 11 + 2))) w c (gJ u 614)) 302) (w * 11 + 1) (gB u 801 b))) 610 (gB u 800 b)) 613 (gB u 302 (w * 11 + 2))) 608 0, sB (sJ (sI (sA (sB (sJ v 41 (gB v 36 w)) 38 (vp_updL (gB v 38) (8 * w + c) (gJ v 40))) 37 (upd (gA v 37) w (nI (c + 1)))) 39 (0 : Int32)) 40 (gB v 13 d)) 35 (vp_updL (gB v 35) w (gB v 14 d)), Or.inl ⟨r, A, w + 1, fun j => if j = w then c + 1 else cnt j, hM1, ⟨w1, w2, w3, fun j hj => ?_⟩, hR1, rfl, rfl, o1, c9, c10⟩, fun Q hQ => hC2 ⟨fun e => absurd e hnl, fun _ => ?_⟩, fun Q hQ => hRf ⟨fun e => absurd e hnl', fun _ => ?_⟩⟩
          · by_cases ej : j = w
            · have ec : (fun j => if j = w then c + 1 else cnt j) j = c + 1 := if_pos ej
              rw [ej] at ec ⊢
              have hB : ∀ i, gB (sI (sJ (sJ (sB (adS (sJ u 613 (gB u 302 (w * 11 + 2))) w c (gJ u 614)) 302 (vp_updL (gB (adS (sJ u 613 (gB u 302 (w * 11 + 2))) w c (gJ u 614)) 302) (w * 11 + 1) (gB u 801 b))) 610 (gB u 800 b)) 613 (gB u 302 (w * 11 + 2))) 608 0) 302 i = if i = w * 11 + 1 then gB u 801 b else if i = w * 11 + 3 + c then gJ u 614 else gB u 302 i := fun i => rfl
              unfold Frm
              rw [ec, hB, hB, hB]
              refine ⟨c1, Or.inl hk, pk_us, pk_us, by omega, fun _ => by omega, ?_, ?_, ?_, c10, fun k hk => ?_, fun k hk hk8 => ?_, fun e => absurd (hk.symm.trans e) (by decide)⟩
              · rw [if_neg (by omega), if_neg (by omega)]; exact c7
              · rw [if_pos rfl]
                show ob r T (gB u 801 b) (vp_updL (gB v 35) w (gB v 14 d) w)
                rw [pk_uLs]; exact o2
              · rw [if_neg (by omega), if_neg (by omega)]; exact c9
              · rw [hB, if_neg (by omega)]
                show ob r T _ (vp_updL (gB v 38) (8 * w + c) (gJ v 40) (8 * w + k))
                by_cases e : k = c
                · subst e
                  rw [if_pos rfl, pk_uLs]; exact ho
                · rw [if_neg (by omega), pk_uLn (by omega)]; exact hcc k (by omega)
              · rw [hB, if_neg (by omega), if_neg (by omega)]
                exact c12 k (by omega) hk8
            · refine Frm_ag (w := w) (by omega) (w4 j hj) ⟨fun i hi => ⟨rfl, pk_un (by omega), rfl, pk_un (by omega), rfl, pk_uLn (by omega), rfl⟩, fun i hi => ?_, fun i hi => pk_uLn (by omega), rfl, rfl⟩ (if_neg ej)
              show (if i = w * 11 + 1 then gB u 801 b else if i = w * 11 + 3 + c then gJ u 614 else gB u 302 i) = gB u 302 i
              rw [if_neg (by omega), if_neg (by omega)]
          · rw [x1]
            refine isPair_p (by omega) ⟨fun c => absurd c (by decide), fun _ => valuesOnTop_ok hN (by exact w1) hwt ?_⟩
            have e : gA (adS (sJ u 613 (gB u 302 (w * 11 + 2))) w c (gJ u 614)) 301 w = nI (c + 1) := pk_us
            rw [e]
            refine ⟨fun _ => cdr_p hN a1.1 (setRest_ok hN (by exact w1) hwt (car_p hN a1.1 hQ)), fun e9 => absurd (nI_lt (a := c + 1) (b := 8) (by omega) (by omega)) e9⟩
          · rw [y1]
            refine rPair_p a1.2 ⟨fun c => absurd c (by decide), fun _ => ⟨fun e => ?_, fun _ => first_p a1.2 ?_⟩⟩
            · exact absurd ((nI_eq (a := c + 1) (b := 8) (by omega) (by omega)).mp e) (by omega)
            · show wp_X10_behind (gB v 35 w) _ _
              rw [y1]
              exact behind_p a1.2 hQ
  · -- a choice
    obtain ⟨d, e, f, hd, he, hf, y1, y2, y3⟩ := c13 hk
    have c8' := c8
    rw [y1] at c8'
    obtain ⟨b, hrb, x1⟩ := ob_pR hT h1.1 c8' hd
    obtain ⟨o1, o2⟩ := h1.2.2.2 _ _ hrb
    have o1' := o1
    rw [y2] at o1'
    obtain ⟨b2, hrb2, x2⟩ := ob_pR hT h1.1 o1' he
    obtain ⟨o3, o4⟩ := h1.2.2.2 _ _ hrb2
    have o4' := o4
    rw [y3] at o4'
    obtain ⟨b3, hrb3, x3⟩ := ob_pR hT h1.1 o4' hf
    have a1 := h1.1 _ _ hrb
    have a2 := h1.1 _ _ hrb2
    have a3 := h1.1 _ _ hrb3
    have hk1 : gA u 300 w = 1 := c1.trans hk
    have hM1 : Mh r A T n t C (sI (sJ u 613 (gB u 302 (w * 11 + 2))) 303 (nI w)) (sI (sI (sJ v 41 (gB v 36 w)) 32 (nI w)) 39 0) := h
    have hR1 : Rest t s st 0 u0 v0 (sI (sJ u 613 (gB u 302 (w * 11 + 2))) 303 (nI w)) (sI (sI (sJ v 41 (gB v 36 w)) 32 (nI w)) 39 0) := hR
    have hWw : Wt r A T t w cnt (sI (sJ u 613 (gB u 302 (w * 11 + 2))) 303 (nI w)) (sI (sI (sJ v 41 (gB v 36 w)) 32 (nI w)) 39 0) := hW0 _ _ rfl rfl ⟨fun j hj => ⟨rfl, rfl, rfl, rfl, rfl, rfl, rfl⟩, fun _ _ => rfl, fun _ _ => rfl, rfl, rfl⟩
    have hC2 : ∀ {Q : St → Prop}, ((gJ u 614 = (1099511627776 : Int64) → Q (sI (sJ (sI (sJ u 613 (gB u 302 (w * 11 + 2))) 303 (nI w)) 611 (gB u 801 b)) 608 1)) ∧ (¬ gJ u 614 = (1099511627776 : Int64) → Q (sI (sJ (sJ (sI (sJ u 613 (gB u 302 (w * 11 + 2))) 303 (nI w)) 610 (gB u 800 b3)) 613 (gB u 302 (w * 11 + 2))) 608 0))) → wp_X2_handBack N u Q := fun {Q} hq => hC ⟨fun e => absurd (hk1.symm.trans e) (by decide), fun _ => ⟨fun _ => part_ok (p := 1) hN (by exact w1) hwt (by omega) (pop_ok (w := w) (by exact w1) (by omega) ⟨fun e => by
        show wp_X0_cdr N (gB u 302 (w * 11 + 1)) _ _
        rw [x1]
        exact cdr_p hN a1.1 (hq.1 e), fun e => by
        show wp_X0_car N (gB u 302 (w * 11 + 1)) _ _
        rw [x1]
        refine car_p hN a1.1 ?_
        show wp_X0_cdr N (gB u 800 b) _ _
        rw [x2]
        refine cdr_p hN a2.1 ?_
        show wp_X0_car N (gB u 801 b2) _ _
        rw [x3]
        exact car_p hN a3.1 (hq.2 e)⟩), fun e => absurd hk1 e⟩⟩
    have hRf : ∀ {Q : St → Prop}, ((gJ v 40 = (4294967296 : Int64) → wp_X10_begins (sI (sI (sJ v 41 (gB v 36 w)) 32 (nI w)) 39 (0 : Int32)) (fun (r14 : Int32) (u15 : St) => ((r14 = 0 → Q u15) ∧ (¬ r14 = 0 → vp_in (nI w) 200 ∧ wp_X10_behind (gB u15 35 w) u15 (fun (r16 : Int64) (u17 : St) => wp_X10_condition r16 u17 (fun (u18 : St) => Q u18)))))) ∧ (¬ gJ v 40 = (4294967296 : Int64) → Q (sJ (sI (sI (sJ v 41 (gB v 36 w)) 32 (nI w)) 39 (0 : Int32)) 40 (gB v 13 f)))) → wp_X10_back v Q := fun {Q} hq => by
      have hv : vp_in (nI w) 200 := vp_in_nI (by omega) (by omega)
      unfold wp_X10_back
      rw [w2, show nI (w + 1) - (1 : Int32) = nI w from nI_pred w, nI_clamp (show w < 2 ^ 31 by omega)]
      refine ⟨hv, hv, fun _ => ⟨hv, ?_⟩, fun e => absurd hk e⟩
      rw [y1]
      refine first_p hd ⟨hq.1, fun e9 => ?_⟩
      show wp_X10_behind (gB v 13 d) _ _
      rw [y2]
      refine behind_p he ?_
      show wp_X10_first (gB v 14 e) _ _
      rw [y3]
      exact first_p hf (hq.2 e9)
    by_cases hnl : gJ u 614 = (1099511627776 : Int64)
    · right
      refine ⟨sI (sJ (sI (sJ u 613 (gB u 302 (w * 11 + 2))) 303 (nI w)) 611 (gB u 801 b)) 608 1, rfl, hR.2.1.1, hR.1.2.2.2.1, hR.1.1, fun Q hQ => hC2 ⟨fun _ => hQ, fun e => absurd hnl e⟩, ?_⟩
      by_cases hlt : st < s
      · left
        obtain ⟨u2, v2, g1, g2, g3⟩ := choose_both (C := C) (s := s) (st := st + 1) (u0 := u0) (v0 := v0) (u := sI (sI (sJ (sI (sJ u 613 (gB u 302 (w * 11 + 2))) 303 (nI w)) 611 (gB u 801 b)) 608 1) 607 (nI (st + 1))) (v := sI (sI (sI (sJ v 41 (gB v 36 w)) 32 (nI w)) 39 0) 9 (nI (st + 1))) (y := gB v 14 d) hN hM1 hWw ⟨⟨hR.1.1, hR.1.2.1, hR.1.2.2.1, rfl, rfl⟩, hR.2⟩ o2 c9 c10
        refine ⟨hlt, u2, v2, g1, g2, fun Q hQ => hRf ⟨fun _ => begins_ok (by exact hR.1.2.2.2.2) (by exact hR.1.2.1) hlt hs ⟨fun c => absurd c (by decide), fun _ => ⟨vp_in_nI (by omega) (by omega), ?_⟩⟩, fun e => absurd (hnil.mp hnl) e⟩⟩
        show wp_X10_behind (gB v 35 w) _ _
        rw [y1]
        exact behind_p hd (g3 Q hQ)
      · right
        have hss : st = s := by omega
        refine ⟨hss, sI (sI (sI (sJ v 41 (gB v 36 w)) 32 (nI w)) 39 0) 8 8, ⟨r, A, 8, by decide, hM1, hR1.1, ⟨rfl, rfl⟩, hR1.2.2⟩, fun Q hQ => hRf ⟨fun _ => ⟨fun _ => fails_ok h8 ⟨fun _ => hQ, fun c => absurd rfl c⟩, fun e => absurd ?_ e⟩, fun e => absurd (hnil.mp hnl) e⟩⟩
        show gI v 9 = gI v 3
        rw [hR.1.2.2.2.2, hR.1.2.1, hss]
    · left
      have hnl' : ¬ gJ v 40 = (4294967296 : Int64) := fun e => hnl (hnil.mpr e)
      exact ⟨sI (sJ (sJ (sI (sJ u 613 (gB u 302 (w * 11 + 2))) 303 (nI w)) 610 (gB u 800 b3)) 613 (gB u 302 (w * 11 + 2))) 608 0, sJ (sI (sI (sJ v 41 (gB v 36 w)) 32 (nI w)) 39 (0 : Int32)) 40 (gB v 13 f), Or.inl ⟨r, A, w, cnt, hM1, hWw, hR1, rfl, rfl, (h1.2.2.2 _ _ hrb3).1, c9, c10⟩, fun Q hQ => hC2 ⟨fun e => absurd e hnl, fun _ => hQ⟩, fun Q hQ => hRf ⟨fun e => absurd e hnl', fun _ => hQ⟩⟩
  · -- applying
    have hk2 : gA u 300 w = 2 := c1.trans hk
    left
    obtain ⟨f, hf, q⟩ := bcp_134 (w := w) (m := cnt w) (by omega) c5 (cnt w) 0 (sI (sI (sJ v 41 (gB v 36 w)) 32 (nI w)) 43 (nI (cnt w))) (by omega) rfl (fun k hk => absurd hk (by omega))
    have hM1 : Mh r A T n t C (sI (sJ u 613 (gB u 302 (w * 11 + 2))) 303 (nI w)) (sI (sI (sJ v 41 (gB v 36 w)) 32 (nI w)) 39 0) := h
    have hR1 : Rest t s st 0 u0 v0 (sI (sJ u 613 (gB u 302 (w * 11 + 2))) 303 (nI w)) (sI (sI (sJ v 41 (gB v 36 w)) 32 (nI w)) 39 0) := hR
    have hWw : Wt r A T t w cnt (sI (sJ u 613 (gB u 302 (w * 11 + 2))) 303 (nI w)) (sI (sI (sJ v 41 (gB v 36 w)) 32 (nI w)) 39 0) := hW0 _ _ rfl rfl ⟨fun j hj => ⟨rfl, rfl, rfl, rfl, rfl, rfl, rfl⟩, fun _ _ => rfl, fun _ _ => rfl, rfl, rfl⟩
    refine ⟨sI (sJ (sI (sI (sB (sJ u 613 (gB u 302 (w * 11 + 2))) 605 (va_cpy (gB u 302) (gB u 605) (w * 11 + 3) 0 (cnt w))) 606 (nI (cnt w))) 303 (nI w)) 612 (gJ u 614)) 608 2, sI (sB (sI (sI (sJ v 41 (gB v 36 w)) 32 (nI w)) 43 (nI (cnt w))) 42 f) 39 1, Or.inr (Or.inl ⟨r, A, w, cnt, hM1, hWw, hR1, rfl, rfl, ho, c9, c10, cnt w, c5, rfl, rfl, fun k hk => ?_⟩), fun Q hQ => hC ⟨fun e => absurd (hk2.symm.trans e) (by decide), fun _ => ⟨fun e => absurd (hk2.symm.trans e) (by decide), fun _ => takeValues_ok hN (by exact w1) hwt c3 c5 (pop_ok (w := w) (by exact w1) (by omega) hQ)⟩⟩, fun Q hQ => ?_⟩
    · show ob r T (va_cpy _ _ (w * 11 + 3) 0 (cnt w) k) (f k)
      rw [cpy_in hk, hf k hk]
      exact c11 k hk
    · have hv : vp_in (nI w) 200 := vp_in_nI (by omega) (by omega)
      unfold wp_X10_back
      rw [w2, show nI (w + 1) - (1 : Int32) = nI w from nI_pred w, nI_clamp (show w < 2 ^ 31 by omega), c4]
      exact ⟨hv, hv, fun e => absurd (hk.symm.trans e) (by decide), fun _ => ⟨hv, fun _ => ⟨hv, _, q _ hQ⟩, fun e => absurd hk e⟩⟩
