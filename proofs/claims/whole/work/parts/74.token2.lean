/-! PURE: one token, on both sides: the steps -/
theorem TX_cg {tx L u u1} (h : TX tx L u) (h1 : gI u1 101 = gI u 101) (h2 : gA u1 100 = gA u 100) : TX tx L u1 := by
  unfold TX; rw [h1, h2]; exact h
theorem TXR_cg {tx L v v1} (h : TXR tx L v) (h1 : gI v1 5 = gI v 5) (h2 : gA v1 4 = gA v 4) : TXR tx L v1 := by
  unfold TXR; rw [h1, h2]; exact h
theorem NmP_cg {T m cr u v u1 v1} (h : NmP T m cr u v) (h1 : gI u1 202 = gI u 202) (h2 : gI u1 203 = gI u 203) (h3 : gB u1 200 = gB u 200) (h4 : gI v1 21 = gI v 21) (h5 : gI v1 23 = gI v 23) (h6 : gI v1 24 = gI v 24) (h7 : gB v1 19 = gB v 19) (h8 : gB v1 22 = gB v 22) : NmP T m cr u1 v1 := by
  unfold NmP; rw [h1, h2, h3, h4, h5, h6, h7, h8]; exact h
theorem m1q {q : Nat} (h : q ≤ 3000) : ¬ 0 ≤ (-1 : Int32) - nI q := by
  have h0 : (0 : Int32).toInt = 0 := by decide
  have h1 : (-1 : Int32).toInt = -1 := by decide
  rw [Int32.le_iff_toInt_le, h0, Int32.toInt_sub, h1, nI_toInt (by omega), Int.bmod_eq_of_le (by omega) (by omega)]
  omega
theorem m1q2 {q : Nat} (h : q ≤ 3000) : (-1 : Int32) - nI q < 0 := Int32.not_le.mp (m1q h)
theorem neg_sp {sp : Nat} (h0 : 0 < sp) (h : sp < 37 ^ 12) : ¬ (0 : Int64) ≤ -(lN sp) := by
  have h00 : (0 : Int64).toInt = 0 := by decide
  rw [Int64.le_iff_toInt_le, h00, Int64.toInt_neg, pk_lT (by omega), Int.bmod_eq_of_le (by omega) (by omega)]
  omega
theorem nR_nn (n : Int32) : (0 : Int64) ≤ nR n := Int64.not_lt.mp (wd_nn (Or.inl ⟨n, rfl⟩))
/-- the reference comes to its tests -/
theorem reads_j {bd : Int32} {tx : Nat → Nat} {L q D : Nat} {f : Nat → Nat} {v : St} {Q : Int32 → St → Prop} (ht : TXR tx L v) (hq : q < L) (hb : ¬ bl (tx q)) (h1 : gI v 29 = nI D) (hD : D ≤ 60) (h2 : ∀ j, j < D → gA v 26 j = nI (f j)) (hQ : j_X10_reads_39 Q bd (nI q) (nI (tx q)) (nI (top D f)) v) : wp_X10_reads bd (nI q) v Q := by
  have hc := (ht.2.2 q hq).2
  refine charAt_in ht hq ?_
  have hbl : ∀ R : Int32 → Prop, R 0 → wp_X10_blank (nI (tx q)) R := fun R hR => by
    refine sf (fun e => hb (Or.inl ((nI_eq (b := 32) (by omega) (by omega)).mp e))) (sf (fun e => hb (Or.inr ((nI_eq (b := 10) (by omega) (by omega)).mp e))) hR)
  refine hbl _ (sq rfl ?_)
  unfold top at hQ
  cases D with
  | zero => rw [if_pos rfl] at hQ; exact sq h1 hQ
  | succ D =>
    rw [if_neg (by omega), Nat.add_sub_cancel] at hQ
    rw [h1, nI_pred D, nI_clamp (show D < 2 ^ 31 by omega), h2 D (by omega)]
    exact sf (nI_ne0 (by omega) (by omega)) ⟨vp_in_nI (by omega) (by omega), hQ⟩
/-- an expression ends: both sides behind it -/
theorem fin_expr {N : Nat → Nat} {tx L T p D cnt pr m1} {f : Nat → Nat} {cr1 : Int32} {ua va u12 u14 v11 : St} {w o : Int64} (hX : TX tx L ua) (hXR : TXR tx L va) (h512 : gI ua 512 = nI p) (hp : p ≤ L) (h510 : gI ua 510 = nI D) (h29 : gI va 29 = nI D) (hD : D ≤ 60) (hst : ∀ j, j < D → gA va 26 j = nI (f j) ∧ f j ≤ 3) (h30 : gI va 30 = nI pr) (hpr : pr + 1 ≤ p) (h509 : gI ua 509 = nI cnt) (hcnt : cnt + 1 ≤ p)
    (a1 : gI u12 511 = nI (pr + inc D f)) (a2 : ∀ j, j < D → gA u12 505 j = nI (note D f j) ∧ note D f j ≤ 3) (a3 : ∀ k, k ≠ 511 → gI u12 k = gI ua k) (a4 : ∀ k, gJ u12 k = gJ ua k) (a5 : ∀ k, k ≠ 505 → gA u12 k = gA ua k) (a6 : ∀ k, gB u12 k = gB ua k)
    (hNm : NmP T m1 cr1 u14 v11) (hC : (∀ k, k ≠ 202 → k ≠ 203 → gI u14 k = gI u12 k) ∧ (∀ k, gJ u14 k = gJ u12 k) ∧ (∀ k, gA u14 k = gA u12 k) ∧ (∀ k, k ≠ 200 → gB u14 k = gB u12 k)) (hV : (∀ k, k ≠ 23 → k ≠ 24 → gI v11 k = gI va k) ∧ (∀ k, gJ v11 k = gJ va k) ∧ (∀ k, gA v11 k = gA va k) ∧ (∀ k, k ≠ 22 → gB v11 k = gB va k)) :
    ∃ v12 : St, S1 tx L T p D (note D f) (cnt + 1) (pr + inc D f) m1 cr1 (sI (sB u14 504 (vp_updL (gB u14 504) cnt w)) 509 (nI (cnt + 1))) v12 ∧ f1C ua (sI (sB u14 504 (vp_updL (gB u14 504) cnt w)) 509 (nI (cnt + 1))) ∧ f1R va v12 ∧ (D = 0 → gI v12 25 = 4) ∧ (0 < D → gI v12 25 = gI va 25) ∧ (∀ Q : St → Prop, Q v12 → wp_X10_comes 0 o v11 Q) := by
  obtain ⟨v12, b1, b2, b3, b4, b5, b6, b7, b8, b9⟩ := comes0_ok (o := o) (v := v11) (D := D) (pr := pr) (f := f) (by rw [hV.1 29 (by decide) (by decide)]; exact h29) hD (fun j hj => by rw [hV.2.2.1]; exact hst j hj) (by rw [hV.1 30 (by decide) (by decide)]; exact h30)
  have hinc : inc D f ≤ 1 := by
    unfold inc
    split
    · omega
    · split <;> omega
  refine ⟨v12, ⟨?_, ?_, ⟨?_, hp⟩, ⟨?_, ?_, hD⟩, fun j hj => ⟨?_, b2 j hj, (a2 j hj).2⟩, ⟨?_, b1, by omega⟩, ⟨rfl, hcnt⟩, ?_⟩, ⟨fun k c1 c2 c3 c4 c5 c6 => ?_, fun k => ?_, fun k c1 => ?_, fun k c1 c2 => ?_⟩, ⟨fun k c1 c2 c3 c4 c5 => ?_, fun k c1 => ?_, fun k c1 => ?_, fun k c1 => ?_⟩, b3, fun h => ?_, b9⟩
  · exact TX_cg hX ((hC.1 101 (by decide) (by decide)).trans (a3 101 (by decide))) ((hC.2.2.1 100).trans (a5 100 (by decide)))
  · exact TXR_cg hXR ((b5 5 (by decide) (by decide)).trans (hV.1 5 (by decide) (by decide))) ((b7 4 (by decide)).trans (hV.2.2.1 4))
  · exact ((hC.1 512 (by decide) (by decide)).trans (a3 512 (by decide))).trans h512
  · exact ((hC.1 510 (by decide) (by decide)).trans (a3 510 (by decide))).trans h510
  · exact ((b5 29 (by decide) (by decide)).trans (hV.1 29 (by decide) (by decide))).trans h29
  · exact (congrFun (hC.2.2.1 505) j).trans (a2 j hj).1
  · exact (hC.1 511 (by decide) (by decide)).trans a1
  · exact NmP_cg hNm rfl rfl rfl (b5 21 (by decide) (by decide)) (b5 23 (by decide) (by decide)) (b5 24 (by decide) (by decide)) (b8 19) (b8 22)
  · rw [gI_sI, if_neg c3]; exact (hC.1 k c1 c2).trans (a3 k c5)
  · exact (hC.2.1 k).trans (a4 k)
  · exact (hC.2.2.1 k).trans (a5 k c1)
  · rw [gB_sI, gB_sB, if_neg c1]; exact (hC.2.2.2 k c2).trans (a6 k)
  · exact (b5 k c3 c5).trans (hV.1 k c1 c2)
  · exact (b6 k c1).trans (hV.2.1 k)
  · exact (b7 k c1).trans (hV.2.2.1 k)
  · exact (b8 k).trans (hV.2.2.2 k c1)
  · exact (b4 h).trans (hV.1 25 (by decide) (by decide))
theorem triv4C (u : St) : (∀ k, k ≠ 202 → k ≠ 203 → gI u k = gI u k) ∧ (∀ k, gJ u k = gJ u k) ∧ (∀ k, gA u k = gA u k) ∧ (∀ k, k ≠ 200 → gB u k = gB u k) := ⟨fun _ _ _ => rfl, fun _ => rfl, fun _ => rfl, fun _ _ => rfl⟩
theorem triv4R (u : St) : (∀ k, k ≠ 23 → k ≠ 24 → gI u k = gI u k) ∧ (∀ k, gJ u k = gJ u k) ∧ (∀ k, gA u k = gA u k) ∧ (∀ k, k ≠ 22 → gB u k = gB u k) := ⟨fun _ _ _ => rfl, fun _ => rfl, fun _ => rfl, fun _ _ => rfl⟩
/-- the class takes a number -/
theorem takeNumber_ok {N : Nat → Nat} {tx : Nat → Nat} {L q fr k p0 : Nat} {u : St} (hX : TX tx L u) (h512 : gI u 512 = nI q) (hp0 : (p0 = 0 ∧ fr = q) ∨ (p0 = 1 ∧ fr = q + 1)) (hq : q < L) (hk : ∀ j, j < k → dg tx L (fr + j)) (hnk : ¬ dg tx L (fr + k)) (Q : Int32 → St → Prop) (hbad : (k = 0 ∨ 9 < k) → Q 0 (sI u 512 (nI (fr + min k 9)))) (hgood : 0 < k → k ≤ 9 → wp_X5_noteExpression N (sI u 512 (nI (fr + k))) (fun u12 => wp_X5_keep N (nC (if p0 = 0 then nI (nv tx fr k) else -(nI (nv tx fr k)))) u12 (fun r u14 => vz r ∧ Q r u14))) : wp_X5_takeNumber N (nI p0) u Q := by
  have hL := hX.2.1
  -- what follows the loop
  have K : ∀ (y6 y7 : Int32) (u8 : St), y6 = nI (min k 9) → y7 = nI (nv tx fr (min k 9)) → u8 = sI u 512 (nI (fr + min k 9)) → ((y6 = 0 → Q (0 : Int32) u8) ∧ (¬ y6 = 0 → wp_X6_at N (gI u8 512) u8 (fun (r9 : Int32) (u10 : St) => wp_X5_isDigit r9 (fun (r11 : Int32) => ((r11 = 0 → wp_X5_noteExpression N u10 (fun (u12 : St) => ((nI p0 = 0 → wp_X5_keep N ((y7).toInt64) u12 (fun (r13 : Int32) (u14 : St) => vz r13 ∧ Q r13 u14)) ∧ (¬ nI p0 = 0 → wp_X5_keep N (((-y7)).toInt64) u12 (fun (r15 : Int32) (u16 : St) => vz r15 ∧ Q r15 u16))))) ∧ (¬ r11 = 0 → Q (0 : Int32) u10)))))) := fun y6 y7 u8 e1 e2 e3 => by
    subst e1; subst e2; subst e3
    by_cases h0 : k = 0
    · subst h0
      exact sq (by decide) (hbad (Or.inl rfl))
    · refine sf (nI_ne0 (by omega) (by omega)) ?_
      show wp_X6_at N (nI (fr + min k 9)) _ _
      have hX2 : TX tx L (sI u 512 (nI (fr + min k 9))) := hX
      by_cases h9 : k ≤ 9
      · have hm : min k 9 = k := by omega
        rw [hm]
        rw [hm] at hX2
        refine cD (Q := fun _ => True) hX2 (by omega) (fun c hc _ => hc _ (fun h => absurd h hnk) (fun _ => sq rfl ?_))
        have hg := hgood (by omega) h9
        have hmono : ∀ (z : St) (R1 R2 : St → Prop), (∀ s, R1 s → R2 s) → wp_X5_noteExpression N z R1 → wp_X5_noteExpression N z R2 := fun z R1 R2 hi h => by
          refine ⟨fun e => hi _ (h.1 e), fun e => ?_⟩
          have h2 := h.2 e
          refine ⟨fun e2 => ?_, fun e2 => ⟨(h2.2 e2).1, ?_⟩⟩
          · exact ⟨fun e3 => ⟨((h2.1 e2).1 e3).1, hi _ ((h2.1 e2).1 e3).2⟩, fun e3 => ⟨((h2.1 e2).2 e3).1, hi _ ((h2.1 e2).2 e3).2⟩⟩
          · exact ⟨fun e3 => ⟨((h2.2 e2).2.1 e3).1, hi _ ((h2.2 e2).2.1 e3).2⟩, fun e3 => ⟨((h2.2 e2).2.2 e3).1, hi _ ((h2.2 e2).2.2 e3).2⟩⟩
        refine hmono _ _ _ (fun s hs => ?_) hg
        rcases hp0 with ⟨rfl, _⟩ | ⟨rfl, _⟩
        · exact sq rfl hs
        · exact sf (by decide) hs
      · refine cD (Q := fun _ => True) hX2 (by omega) (fun c hc _ => hc _ (fun _ => sf (by decide) (hbad (Or.inr (by omega)))) (fun h => absurd (hk (min k 9) (by omega)) h))
  rcases id hp0 with ⟨rfl, rfl⟩ | ⟨rfl, rfl⟩
  · refine sq rfl ⟨min k 9 + 1, ?_⟩
    exact numC (by omega) hk hnk rfl (min k 9) 0 u (by omega) hX h512 _ (K _ _ _ rfl rfl rfl)
  · refine sf (by decide) ⟨min k 9 + 1, ?_⟩
    rw [h512, nI_1]
    refine numC (by omega) hk hnk rfl (min k 9) 0 (sI u 512 (nI (q + 1))) (by omega) hX rfl _ (K _ _ _ rfl rfl ?_)
    rw [sI_sI]
