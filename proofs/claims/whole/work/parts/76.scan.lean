/-! PURE: scanning, on both sides -/
def Rd (tx : Nat → Nat) (L : Nat) : List Tok → Nat → Nat → (Nat → Nat) → Nat → Nat → Prop
  | [], _, _, _, _, _ => False
  | tk :: r, p, D, f, e, np => ∃ p1 D1 f1 ip, TkAt tx L p tk p1 ∧ stp tk.1 D f D1 f1 ip ∧ ((r = [] ∧ D1 = 0 ∧ p1 = e ∧ np = ip) ∨ (0 < D1 ∧ ∃ np2, np = ip + np2 ∧ Rd tx L r p1 D1 f1 e np2))
theorem enc_mono {sl sl1 : Nat → Int64} {T T1 : Nat} {tk : Tok} {w : Int64} (h : enc sl T tk w) (hT : T ≤ T1) (hs : ∀ k, k < T → sl1 k = sl k) : enc sl1 T1 tk w := by
  rcases h with h | h | h | h | ⟨e, k, sp, h1, h2, h3, h4, h5, h6, h7⟩
  · exact Or.inl h
  · exact Or.inr (Or.inl h)
  · exact Or.inr (Or.inr (Or.inl h))
  · exact Or.inr (Or.inr (Or.inr (Or.inl h)))
  · exact Or.inr (Or.inr (Or.inr (Or.inr ⟨e, k, sp, by omega, h2, h3, h4, h5, by rw [hs k h1]; exact h6, fun j hj => by rw [hs j (by omega)]; exact h7 j hj⟩)))
theorem skip_ex (tx : Nat → Nat) (L p : Nat) (hp : p ≤ L) : ∃ q, p ≤ q ∧ q ≤ L ∧ (∀ j, p ≤ j → j < q → bl (tx j)) ∧ (q = L ∨ ¬ bl (tx q)) := by
  obtain ⟨k, h1, h2⟩ := run_ex (fun j => j < L ∧ bl (tx j)) L (fun j hj => hj.1) L p (by omega)
  have hkL : p + k ≤ L := by
    by_cases h0 : k = 0
    · omega
    · have := (h1 (k - 1) (by omega)).1
      omega
  refine ⟨p + k, by omega, hkL, fun j hj1 hj2 => ?_, ?_⟩
  · have := (h1 (j - p) (by omega)).2
    rwa [show p + (j - p) = j from by omega] at this
  · by_cases hL : p + k = L
    · exact Or.inl hL
    · exact Or.inr (fun hb => h2 ⟨by omega, hb⟩)
theorem bl_e {tx : Nat → Nat} {c : Nat} (hc : c < 128) : (bl c ↔ (nI c = (32 : Int32) ∨ nI c = (10 : Int32))) := by
  unfold bl
  rw [show (nI c = (32 : Int32)) ↔ c = 32 from nI_eq (b := 32) (by omega) (by omega), show (nI c = (10 : Int32)) ↔ c = 10 from nI_eq (b := 10) (by omega) (by omega)]
theorem skip_C {N : Nat → Nat} {tx : Nat → Nat} {L q : Nat} {u : St} (hX : TX tx L u) (hqL : q ≤ L) (he : q = L ∨ ¬ bl (tx q)) {Q : Int32 → St → Prop} (hQ : Q (nI q) u) {p : Nat} (hpq : p ≤ q) (hb : ∀ j, p ≤ j → j < q → bl (tx j)) : wp_X6_behindBlanks N (nI p) u Q := by
  have hL := hX.2.1
  have key : ∀ (d i : Nat), p ≤ i → i + d = q → l_X6_behindBlanks_2 N (fun y5 u6 => Q y5 u6) (d + 1) (nI i) u := by
    intro d
    induction d with
    | zero =>
      intro i hi1 hi
      obtain rfl : i = q := by omega
      unfold l_X6_behindBlanks_2
      rw [hX.1]
      refine ⟨fun _ => hQ, fun c => ?_⟩
      have hlt : i < L := Classical.byContradiction (fun h9 => c (nI_le (by omega) (by omega)))
      have hnb : ¬ bl (tx i) := he.resolve_left (by omega)
      have hc := (hX.2.2 i hlt).2
      rw [bl_e (tx := tx) hc] at hnb
      exact at_in hX hlt (sf (fun e => hnb (Or.inl e)) (at_in hX hlt (sf (fun e => hnb (Or.inr e)) hQ)))
    | succ d ih =>
      intro i hi1 hi
      have hlt : i < L := by omega
      have hbl := hb i hi1 (by omega)
      have hc := (hX.2.2 i hlt).2
      rw [bl_e (tx := tx) hc] at hbl
      unfold l_X6_behindBlanks_2
      rw [hX.1, nI_1]
      refine sf (nI_ge hlt (by omega)) (at_in hX hlt ⟨fun _ => ih (i + 1) (by omega) (by omega), fun e => at_in hX hlt (sq (hbl.resolve_left e) (ih (i + 1) (by omega) (by omega)))⟩)
  exact ⟨q - p + 1, key (q - p) p (Nat.le_refl _) (by omega)⟩
theorem skip_R {bd : Int32} {tx : Nat → Nat} {L q : Nat} {v : St} {K : Int32 → St → Prop} {f : Nat} (hX : TXR tx L v) (h25 : gI v 25 = 0) (hqL : q ≤ L) (hK : l_X10_readAll_17 bd K f (nI q) v) : ∀ (d p : Nat), p + d = q → (∀ j, p ≤ j → j < q → bl (tx j)) → l_X10_readAll_17 bd K (f + d) (nI p) v := by
  have hL := hX.2.1
  intro d
  induction d with
  | zero =>
    intro p hp _
    obtain rfl : p = q := by omega
    exact hK
  | succ d ih =>
    intro p hp hb
    have hlt : p < L := by omega
    have hbl := hb p (Nat.le_refl _) (by omega)
    have hc := (hX.2.2 p hlt).2
    rw [bl_e (tx := tx) hc] at hbl
    show l_X10_readAll_17 bd K (f + d + 1) (nI p) v
    unfold l_X10_readAll_17
    rw [hX.1, h25]
    refine sf (nI_pos (by omega)) (sf (by decide) (sq (nI_lt hlt (by omega)) (charAt_in hX hlt ?_)))
    have hblR : ∀ R : Int32 → Prop, R 1 → wp_X10_blank (nI (tx p)) R := fun R hR => ⟨fun _ => hR, fun e => sq (hbl.resolve_left e) hR⟩
    refine hblR _ (sf (by decide) ?_)
    rw [nI_1]
    exact ih (p + 1) (by omega) (fun j h1 h2 => hb j (by omega) h2)
theorem tok_end {N : Nat → Nat} {D : Nat} {f : Nat → Nat} {u : St} (h510 : gI u 510 = nI D) (hD : D ≤ 60) (hst : ∀ j, j < D → gA u 505 j = nI (f j)) {Q : Int32 → St → Prop} (hQ : Q 0 u) : wp_X5_takeToken N (-1) u Q := by
  refine sf (by decide) (sf (by decide) (state_ok h510 hD hst ⟨fun _ => hQ, fun _ => sf (by decide) (sf (by decide) (isDigit_m1 (sq rfl (digitOf_m1 (sq (by decide) hQ)))))⟩))
def ScanR (N : Nat → Nat) (tx : Nat → Nat) (L T p D : Nat) (f : Nat → Nat) (cnt pr m : Nat) (cr : Int32) (u v : St) : Prop :=
  (∃ (u1 v1 : St) (qf fC fR : Nat), gI u1 512 = nI qf ∧ qf ≤ L ∧ f1C u u1 ∧ f1R v v1 ∧ (∀ k, k < T + m → gB u1 200 k = gB u 200 k) ∧ (∀ Q : Int32 → St → Prop, Q 0 u1 → l_X5_scan_28 N Q (fun u7 => Q 0 u7) fC (nI cnt) u) ∧ (∀ K : Int32 → St → Prop, K ((-1 : Int32) - nI qf) v1 → l_X10_readAll_17 0 K fR (nI p) v)) ∨
  (∃ (u1 v1 : St) (e : Nat) (toks : List Tok) (np m1 : Nat) (cr1 : Int32) (f9 : Nat → Nat) (fC fR : Nat), S1 tx L T e 0 f9 (cnt + toks.length) (pr + np) m1 cr1 u1 v1 ∧ Rd tx L toks p D f e np ∧ (cr1 = 0 → ∀ j, j < toks.length → enc (gB u1 200) (T + m1) (toks.getD j (0, 0)) (gB u1 504 (cnt + j))) ∧ (∀ k, k < cnt → gB u1 504 k = gB u 504 k) ∧ m ≤ m1 ∧ (cr = 1 → cr1 = 1) ∧ (∀ k, k < T + m → gB u1 200 k = gB u 200 k) ∧ f1C u u1 ∧ f1R v v1 ∧ (∀ Q : Int32 → St → Prop, Q 1 u1 → l_X5_scan_28 N Q (fun u7 => Q 0 u7) fC (nI cnt) u) ∧ (∀ K : Int32 → St → Prop, K (nI e) v1 → l_X10_readAll_17 0 K fR (nI p) v))
theorem scan_both {N : Nat → Nat} {tx : Nat → Nat} {L T : Nat} : ∀ (d p D cnt pr m : Nat) (f : Nat → Nat) (cr : Int32) (u v : St), L - p = d → S1 tx L T p D f cnt pr m cr u v → gI v 25 = 0 → ScanR N tx L T p D f cnt pr m cr u v := by
  intro d
  induction d using Nat.strongRecOn with
  | ind d ih =>
    intro p D cnt pr m f cr u v hd h h25
    obtain ⟨hX, hXR, ⟨h512, hpL⟩, ⟨h510, h29, hD⟩, hst, ⟨h511, h30, hpr⟩, ⟨h509, hcnt⟩, hNm⟩ := id h
    have hL := hX.2.1
    obtain ⟨q, q1, q2, q3, q4⟩ := skip_ex tx L p hpL
    -- the reference at the end of the text
    have hendR : ∀ (K : Int32 → St → Prop), K ((-1 : Int32) - nI L) v → l_X10_readAll_17 0 K (2 + (L - p)) (nI p) v ∨ q ≠ L := fun K hK => by
      by_cases hqL : q = L
      · left
        refine skip_R hXR h25 (Nat.le_refl L) ?_ (L - p) p (by omega) (fun j h1 h2 => q3 j h1 (by omega))
        unfold l_X10_readAll_17
        rw [hXR.1, h25]
        refine sf (nI_pos (by omega)) (sf (by decide) (sf (nI_nlt (Nat.le_refl _) (by omega)) ?_))
        unfold l_X10_readAll_17
        exact sq (m1q2 (by omega)) hK
      · exact Or.inr hqL
    by_cases h2000 : cnt = 2000
    · -- the text is all used up
      have hqL : q = L := by omega
      refine Or.inl ⟨u, v, L, 1, 2 + (L - p), by rw [h512]; congr 1; omega, Nat.le_refl _, f1C_rf u, f1R_rf v, fun _ _ => rfl, fun Q hQ => ?_, fun K hK => (hendR K hK).resolve_right (fun h9 => h9 hqL)⟩
      unfold l_X5_scan_28
      exact sq (nI_le (a := 2000) (by omega) (by omega)) hQ
    · have hround : ¬ (2000 : Int32) ≤ nI cnt := nI_ge (a := cnt) (b := 2000) (by omega) (by omega)
      have hXq : TX tx L (sI u 512 (nI q)) := hX
      by_cases hqL : q = L
      · refine Or.inl ⟨sI u 512 (nI L), v, L, 1, 2 + (L - p), rfl, Nat.le_refl _, ⟨fun k _ _ _ _ _ c6 => by rw [gI_sI, if_neg c6], fun _ => rfl, fun _ _ => rfl, fun _ _ _ => rfl⟩, f1R_rf v, fun _ _ => rfl, fun Q hQ => ?_, fun K hK => (hendR K hK).resolve_right (fun h9 => h9 hqL)⟩
        unfold l_X5_scan_28
        rw [h512]
        refine sf hround (skip_C hX q2 q4 (at_out hXq (by omega) (by omega) ?_) q1 q3)
        rw [hqL]
        exact tok_end (u := sI u 512 (nI L)) (D := D) (f := f) h510 hD (fun j hj => (hst j hj).1) (sq rfl hQ)
      · have hqlt : q < L := by omega
        have hnb : ¬ bl (tx q) := q4.resolve_left hqL
        have hS : S1 tx L T q D f cnt pr m cr (sI u 512 (nI q)) v := ⟨hX, hXR, ⟨rfl, q2⟩, ⟨h510, h29, hD⟩, hst, ⟨h511, h30, by omega⟩, ⟨h509, by omega⟩, hNm⟩
        have fa : f1C u (sI u 512 (nI q)) := ⟨fun k _ _ _ _ _ c6 => by rw [gI_sI, if_neg c6], fun _ => rfl, fun _ _ => rfl, fun _ _ _ => rfl⟩
        have hrunC : ∀ (Q : Int32 → St → Prop) (fC : Nat), wp_X5_takeToken N (nI (tx q)) (sI u 512 (nI q)) (fun (r5 : Int32) (u6 : St) => ((r5 = 0 → Q (0 : Int32) u6) ∧ (¬ r5 = 0 → (((gI u6 510) = 0 → Q (1 : Int32) u6) ∧ (¬ (gI u6 510) = 0 → l_X5_scan_28 N Q (fun u7 => Q 0 u7) fC (nI (cnt + 1)) u6))))) → l_X5_scan_28 N Q (fun u7 => Q 0 u7) (fC + 1) (nI cnt) u := fun Q fC hq9 => by
          unfold l_X5_scan_28
          rw [h512, nI_1]
          exact sf hround (skip_C hX q2 q4 (at_in hXq hqlt hq9) q1 q3)
        have hrunR : ∀ (K : Int32 → St → Prop) (fR : Nat), wp_X10_reads 0 (nI q) v (fun r1 u2 => l_X10_readAll_17 0 K fR r1 u2) → l_X10_readAll_17 0 K (fR + 1 + (q - p)) (nI p) v := fun K fR hq9 => by
          refine skip_R hXR h25 q2 ?_ (q - p) p (by omega) q3
          unfold l_X10_readAll_17
          rw [hXR.1, h25]
          exact sf (nI_pos (by omega)) (sf (by decide) (sq (nI_lt hqlt (by omega)) hq9))
        rcases tok_both (N := N) hS hqlt hnb with ⟨u1, qf, b1, b2, b3, b4, b5, b6, b7⟩ | ⟨u1, v1, tk, p1, D1, f1, ip, m1, cr1, w, b1, b2, b3, b4, b5, b6, b7, b8, b9, b10, b11, b12, b13, b14, b15⟩
        · refine Or.inl ⟨u1, v, qf, 1, 2 + (q - p), b1, b2, f1C_tr fa b3, f1R_rf v, b4, fun Q hQ => hrunC Q 0 (b6 _ (sq rfl hQ)), fun K hK => hrunR K 1 (b7 _ ?_)⟩
          unfold l_X10_readAll_17
          exact sq (m1q2 (by omega)) hK
        · have hp1 : q < p1 := b2.2.1
          have hTk : TkAt tx L p tk p1 := ⟨q, q1, q3, b2⟩
          by_cases hD1 : D1 = 0
          · subst hD1
            refine Or.inr ⟨u1, v1, p1, [tk], ip, m1, cr1, f1, 1, 2 + (q - p), b1, ⟨p1, 0, f1, ip, hTk, b3, Or.inl ⟨rfl, rfl, rfl, rfl⟩⟩, fun e j hj => ?_, b8, b4, b5, b9, f1C_tr fa b10, b11, fun Q hQ => hrunC Q 0 (b14 _ (sf (by decide) (sq ?_ hQ))), fun K hK => hrunR K 1 (b15 _ ?_)⟩
            · simp only [List.length_cons, List.length_nil] at hj
              obtain rfl : j = 0 := by omega
              rw [Nat.add_zero, b7]
              exact b6 e
            · exact b1.2.2.2.1.1
            · have hp1L := b2.2.2.1
              unfold l_X10_readAll_17
              exact sf (nI_pos (by omega)) (sq (b12 rfl) hK)
          · have hne : ¬ gI u1 510 = 0 := by rw [b1.2.2.2.1.1]; exact nI_ne0 (by omega) (by have := b1.2.2.2.1.2.2; omega)
            rcases ih (L - p1) (by have := b2.2.2.1; omega) p1 D1 (cnt + 1) (pr + ip) m1 f1 cr1 u1 v1 rfl b1 ((b13 (by omega)).trans h25) with ⟨u2, v2, qf, fC, fR, c1, c2, c3, c4, c5, c6, c7⟩ | ⟨u2, v2, e, toks, np, m2, cr2, f9, fC, fR, c1, c2, c3, c4, c5, c6, c7, c8, c9, c10, c11⟩
            · exact Or.inl ⟨u2, v2, qf, fC + 1, fR + 1 + (q - p), c1, c2, f1C_tr (f1C_tr fa b10) c3, f1R_tr b11 c4, fun k hk => (c5 k (by omega)).trans (b9 k hk), fun Q hQ => hrunC Q fC (b14 _ (sf (by decide) (sf hne (c6 Q hQ)))), fun K hK => hrunR K fR (b15 _ (c7 K hK))⟩
            · refine Or.inr ⟨u2, v2, e, tk :: toks, ip + np, m2, cr2, f9, fC + 1, fR + 1 + (q - p), ?_, ⟨p1, D1, f1, ip, hTk, b3, Or.inr ⟨by omega, np, rfl, c2⟩⟩, fun ecr j hj => ?_, fun k hk => (c4 k (by omega)).trans (b8 k hk), by omega, fun e9 => c6 (b5 e9), fun k hk => (c7 k (by omega)).trans (b9 k hk), f1C_tr (f1C_tr fa b10) c8, f1R_tr b11 c9, fun Q hQ => hrunC Q fC (b14 _ (sf (by decide) (sf hne (c10 Q hQ)))), fun K hK => hrunR K fR (b15 _ (c11 K hK))⟩
              · rw [List.length_cons, show cnt + (toks.length + 1) = cnt + 1 + toks.length from by omega, ← Nat.add_assoc]
                exact c1
              · cases j with
                | zero =>
                  rw [Nat.add_zero, c4 cnt (by omega), b7]
                  have ecr1 : cr1 = 0 := by
                    rcases b1.2.2.2.2.2.2.2.2.2.2.2.2.2.2.2.1 with h9 | ⟨h9, _⟩
                    · exact h9
                    · exact absurd (c6 h9) (by rw [ecr]; decide)
                  exact enc_mono (b6 ecr1) (by omega) (fun k hk => c7 k hk)
                | succ j =>
                  simp only [List.length_cons] at hj
                  have h9 := c3 ecr j (by omega)
                  rw [show cnt + (j + 1) = cnt + 1 + j from by omega]
                  simpa using h9
