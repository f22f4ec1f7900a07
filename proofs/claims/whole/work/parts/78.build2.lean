/-! PURE: building, all tokens -/
def BldR (N : Nat → Nat) (T n : Nat) (u v : St) (i p e : Nat) : Prop := ∃ r1 A1 rk1 u1 v1 fC fR, HBc r1 A1 rk1 T n u1 v1 ∧ RdC r1 n u1 0 ∧ ob r1 T (gJ u1 513) (gJ v1 31) ∧ f2C u u1 ∧ f2R v v1 ∧ (∀ K : St → Prop, K u1 → l_X5_build_7 N K fC (nI i) u) ∧ (∀ K : Int32 → St → Prop, K (nI e) v1 → l_X10_readAll_17 1 K fR (nI p) v)
theorem TXR_f2 {tx L v v1} (h : TXR tx L v) (h1 : f2R v v1) : TXR tx L v1 := TXR_cg h (h1.1 5 (by decide) (by decide) (by decide)) (h1.2.2.1 4 (by decide) (by decide) (by decide))
theorem tk_build {N : Nat → Nat} {i M : Nat} {u : St} {K : St → Prop} {fC : Nat} {w : Int64} (h509 : gI u 509 = nI M) (hi : i < M) (hM : M ≤ 2000) (hw : gB u 504 i = w) (h : ((w = (3298534883328 : Int64) → wp_X5_openList N u (fun (u4 : St) => l_X5_build_7 N K fC (nI (i + 1)) u4)) ∧ (¬ w = (3298534883328 : Int64) → ((w = (3298534883330 : Int64) → wp_X5_markDot N u (fun (u3 : St) => l_X5_build_7 N K fC (nI (i + 1)) u3)) ∧ (¬ w = (3298534883330 : Int64) → ((w = (3298534883329 : Int64) → wp_X5_closeList N u (fun (u2 : St) => l_X5_build_7 N K fC (nI (i + 1)) u2)) ∧ (¬ w = (3298534883329 : Int64) → wp_X5_attach N w u (fun (u1 : St) => l_X5_build_7 N K fC (nI (i + 1)) u1)))))))) : l_X5_build_7 N K (fC + 1) (nI i) u := by
  unfold l_X5_build_7
  rw [h509, nI_clamp (show i < 2 ^ 31 by omega), nI_1, hw]
  exact sf (nI_ge hi (by omega)) ⟨vp_in_nI (by omega) (by omega), h⟩
theorem lv_ar {E a : Nat} (hE : 0 < E) (hE2 : E ≤ 60) (h : a < (60 - E) * 3000 + 3000) : a < (60 - (E - 1)) * 3000 := by
  have e : 60 - (E - 1) = 60 - E + 1 := by omega
  rw [e, Nat.add_mul, Nat.one_mul]
  exact h
theorem sign_ne_n (m : Int32) (k : Nat) (hk : k < 4) : nC m ≠ lN (3298534883328 + k) := fun e => by
  have := nC_lt m (k := 3298534883328 + k) (by omega) (by omega)
  rw [e] at this
  exact absurd this Int64.lt_irrefl
theorem sign_ne_a {j : Nat} (hj : j < 150) (k : Nat) (hk : k < 4) : aC j ≠ lN (3298534883328 + k) := fun e => by
  have := (pk_lEQ (a := 1099511627776 + j) (b := 3298534883328 + k) (by omega) (by omega)).mp e
  omega
theorem build_both {N : Nat → Nat} {tx : Nat → Nat} {L T n t : Nat} (hN : LN N n t) : ∀ (toks : List Tok) (i p D : Nat) (f : Nat → Nat) (e np q : Nat) (r : Nat → Nat → Prop) (A : Nat → Prop) (rk : Nat → Nat) (u v : St), Rd tx L toks p D f e np → S2 r A rk T n D f q np u v → TXR tx L v → gI v 25 = 0 → gI u 509 = nI (i + toks.length) → i + toks.length ≤ 2000 → (∀ k, k < T → gB v 19 k = gB u 200 k) → (∀ j, j < toks.length → enc (gB u 200) T (toks.getD j (0, 0)) (gB u 504 (i + j))) → BldR N T n u v i p e := by
  intro toks
  induction toks with
  | nil => intro i p D f e np q r A rk u v h; exact h.elim
  | cons tk toks ih =>
    intro i p D f e np q r A rk u v hRd hS hX h25 h509 h2000 hnm henc
    obtain ⟨p1, D1, f1, ip, ⟨pq, q1, q3, hq, hqp, hpL, hnb, hkind⟩, hstp, hrest⟩ := hRd
    simp only [List.length_cons] at h509 h2000
    have hL := hX.2.1
    obtain ⟨hB, ⟨h510, h29, hD⟩, hLv, hno3, hC, hH, hqk⟩ := id hS
    have hT := hB.2.2.2.2.1.2.2.2
    have hT18 := hB.2.2.2.2.1.2.2.1
    have he0 := henc 0 (by simp)
    rw [Nat.add_zero] at he0
    have he0' : enc (gB u 200) T tk (gB u 504 i) := by simpa using he0
    have hstR : ∀ j, j < D → gA v 26 j = nI (f j) := fun j hj => (hLv j hj).2.2.1
    have hc := (hX.2.2 pq hq).2
    have hi : ∀ c, c < 128 → (nI (tx pq) = nI c ↔ tx pq = c) := fun c hc2 => nI_eq (by omega) (by omega)
    have hrunR : ∀ (K : Int32 → St → Prop) (fR : Nat), j_X10_reads_39 (fun r1 u2 => l_X10_readAll_17 1 K fR r1 u2) 1 (nI pq) (nI (tx pq)) (nI (top D f)) v → l_X10_readAll_17 1 K (fR + 1 + (pq - p)) (nI p) v := fun K fR hq9 => by
      refine skip_R hX h25 (by omega) ?_ (pq - p) p (by omega) q3
      unfold l_X10_readAll_17
      rw [hX.1, h25]
      exact sf (nI_pos (by omega)) (sf (by decide) (sq (nI_lt hq (by omega)) (reads_j hX hq hnb h29 hD hstR hq9)))
    -- an expression came: the rest
    have hcome : ∀ (E q2 k2 : Nat) (g : Nat → Nat) (x y : Int64) (ua va : St), D1 = E → f1 = note E g → np = ip + k2 → ip = inc E g → ComR N T n E g q np x y ua va → f2C u ua → f2R v va → gI ua 509 = gI u 509 → gI va 25 = 0 → (∀ (K : St → Prop) (fC : Nat), wp_X5_attach N x ua (fun u2 => l_X5_build_7 N K fC (nI (i + 1)) u2) → l_X5_build_7 N K (fC + 1) (nI i) u) → (∀ (K : Int32 → St → Prop) (fR : Nat), wp_X10_comes 1 y va (fun u17 => l_X10_readAll_17 1 K fR (nI p1) u17) → l_X10_readAll_17 1 K (fR + 1 + (pq - p)) (nI p) v) → ((toks = [] ∧ D1 = 0 ∧ p1 = e ∧ np = ip) ∨ (0 < D1 ∧ Rd tx L toks p1 D1 f1 e k2)) → BldR N T n u v i p e := fun E q2 k2 g x y ua va eD ef enp eip hcom ga gv g509 g25 rC rR hrest => by
      subst eD
      subst ef
      obtain ⟨r1, A1, rk1, u1, v1, s1, s2, s3, s4, s5, s6, s7⟩ := hcom
      have gaa := f2C_tr ga s2
      have gvv := f2R_tr gv s3
      rcases hrest with ⟨et, e0, ep, enp2⟩ | ⟨hD1, hRd2⟩
      · obtain ⟨z1, z2, z3, z4⟩ := s4 e0
        subst ep
        refine ⟨r1, A1, rk1, u1, v1, 2, 2 + (pq - p), s1.1, ?_, by rw [z1, z2]; exact z4, gaa, gvv, fun K hK => rC K 1 (s6 _ ?_), fun K hK => rR K 1 (s7 _ ?_)⟩
        · obtain ⟨F, y1, y2, y3⟩ := s1.2.2.2.2.1
          exact ⟨F, y1, y2, Nat.zero_le _⟩
        · unfold l_X5_build_7
          rw [gaa.1 509 (by decide) (by decide), h509, et]
          exact sq (nI_le (by simp) (by simp; omega)) hK
        · unfold l_X10_readAll_17
          exact sf (nI_pos (by omega)) (sq z3 hK)
      · have hk2 : np - inc D1 g = k2 := by omega
        rw [hk2] at s1
        obtain ⟨r2, A2, rk2, u2, v2, fC, fR, y1, y2, y3, y4, y5, y6, y7⟩ := ih (i + 1) p1 D1 (note D1 g) e k2 (q + inc D1 g) r1 A1 rk1 u1 v1 hRd2 s1 (TXR_f2 hX gvv) ((s5 hD1).trans g25) (by rw [gaa.1 509 (by decide) (by decide), h509]; congr 1; omega) (by omega) (fun k hk => by rw [gvv.2.2.2 19 (by decide) (by decide) (by decide), gaa.2.2.2 200 (by decide) (by decide) (by decide) (by decide)]; exact hnm k hk) (fun j hj => by
          have h9 := henc (j + 1) (by simp; omega)
          rw [gaa.2.2.2 200 (by decide) (by decide) (by decide) (by decide), gaa.2.2.2 504 (by decide) (by decide) (by decide) (by decide), show i + 1 + j = i + (j + 1) from by omega]
          simpa using h9)
        exact ⟨r2, A2, rk2, u2, v2, fC + 1, fR + 1 + (pq - p), y1, y2, y3, f2C_tr gaa y4, f2R_tr gvv y5, fun K hK => rC K fC (s6 _ (y6 K hK)), fun K hK => rR K fR (s7 _ (y7 K hK))⟩
    have hnpk : ∃ k2, np = ip + k2 ∧ ((toks = [] ∧ D1 = 0 ∧ p1 = e ∧ np = ip) ∨ (0 < D1 ∧ Rd tx L toks p1 D1 f1 e k2)) := by
      rcases hrest with ⟨h1, h2, h3, h4⟩ | ⟨h1, np2, h2, h3⟩
      · exact ⟨0, by omega, Or.inl ⟨h1, h2, h3, h4⟩⟩
      · exact ⟨np2, h2, Or.inr ⟨h1, h3⟩⟩
    obtain ⟨k2, enp, hrest2⟩ := hnpk
    -- an opening or a dot: no expression
    have hgo : ∀ (ua va : St), S2 r A rk T n D1 f1 q np ua va → f2C u ua → f2R v va → gI va 25 = 0 → 0 < D1 → ip = 0 → (∀ (K : St → Prop) (fC : Nat), l_X5_build_7 N K fC (nI (i + 1)) ua → l_X5_build_7 N K (fC + 1) (nI i) u) → (∀ (K : Int32 → St → Prop) (fR : Nat), l_X10_readAll_17 1 K fR (nI p1) va → l_X10_readAll_17 1 K (fR + 1 + (pq - p)) (nI p) v) → BldR N T n u v i p e := fun ua va hS2 gaa gvv g25 hD1 hip rC rR => by
      rcases hrest2 with ⟨_, h0, _⟩ | ⟨_, hRd2⟩
      · omega
      · have hk2 : np = k2 := by omega
        rw [← hk2] at hRd2
        obtain ⟨r2, A2, rk2, u2, v2, fC, fR, y1, y2, y3, y4, y5, y6, y7⟩ := ih (i + 1) p1 D1 f1 e np q r A rk ua va hRd2 hS2 (TXR_f2 hX gvv) g25 (by rw [gaa.1 509 (by decide) (by decide), h509]; congr 1; omega) (by omega) (fun k hk => by rw [gvv.2.2.2 19 (by decide) (by decide) (by decide), gaa.2.2.2 200 (by decide) (by decide) (by decide) (by decide)]; exact hnm k hk) (fun j hj => by
          have h9 := henc (j + 1) (by simp; omega)
          rw [gaa.2.2.2 200 (by decide) (by decide) (by decide) (by decide), gaa.2.2.2 504 (by decide) (by decide) (by decide) (by decide), show i + 1 + j = i + (j + 1) from by omega]
          simpa using h9)
        exact ⟨r2, A2, rk2, u2, v2, fC + 1, fR + 1 + (pq - p), y1, y2, y3, f2C_tr gaa y4, f2R_tr gvv y5, fun K hK => rC K fC (y6 K hK), fun K hK => rR K fR (y7 K hK)⟩
    have hik : i < i + (toks.length + 1) := by omega
    rcases hkind with ⟨ek, ec, ep⟩ | ⟨ek, ec, ep⟩ | ⟨ek, ec, ep⟩ | ⟨ek, n40, n41, n46, hA⟩
    · -- open
      have hw : gB u 504 i = (3298534883328 : Int64) := by
        rcases he0' with ⟨_, h⟩ | ⟨h, _⟩ | ⟨h, _⟩ | ⟨h, _⟩ | ⟨h, _⟩
        · exact h
        all_goals omega
      rcases hstp with ⟨_, hD60, ht3, eD, ef, eip⟩ | ⟨h, _⟩ | ⟨h, _⟩ | ⟨h, _⟩
      case inr.inl => omega
      case inr.inr.inl => omega
      case inr.inr.inr => omega
      subst eD
      subst ef
      refine hgo (sI (sA (sB (sB u 506 (vp_updL (gB u 506) D (aC 0))) 507 (vp_updL (gB u 507) D (aC 0))) 505 (upd (gA u 505) D 0)) 510 (nI (D + 1))) (sI (sA v 26 (upd (gA v 26) D 0)) 29 (nI (D + 1))) ⟨hB, ⟨rfl, rfl, by omega⟩, fun j hj => ?_, fun j hj => ?_, hC, hH, hqk⟩ ⟨fun k _ h => by rw [gI_sI, if_neg h]; rfl, fun _ _ => rfl, fun k h => by rw [gA_sI, gA_sA, if_neg h]; rfl, fun k _ _ h1 h2 => by rw [gB_sI, gB_sA, gB_sB, if_neg h2, gB_sB, if_neg h1]⟩ ⟨fun k _ h _ => by rw [gI_sI, if_neg h]; rfl, fun _ _ => rfl, fun k _ h _ => by rw [gA_sI, gA_sA, if_neg h], fun _ _ _ _ => rfl⟩ h25 (by omega) eip (fun K fC h => tk_build h509 hik h2000 hw (sq rfl ?_)) (fun K fR h => hrunR K fR ?_)
      · by_cases ej : j = D
        · have e3 : upN f D 0 j = 0 := if_pos ej
          unfold Lv
          rw [e3, ej]
          exact ⟨by omega, by rw [if_neg (by decide)]; exact pk_us, pk_us, fun _ => pk_uLs, fun h => absurd rfl h⟩
        · have e3 : upN f D 0 j = f j := if_neg ej
          obtain ⟨n1, n2, n3, n4, n5⟩ := hLv j (by omega)
          unfold Lv
          rw [e3]
          refine ⟨n1, (pk_un ej).trans n2, (pk_un ej).trans n3, fun h => (pk_uLn ej).trans (n4 h), fun h => ?_⟩
          obtain ⟨c9, d9, z1, z2, z3, z4, z5, z6, z7⟩ := n5 h
          have e506 : gB (sI (sA (sB (sB u 506 (vp_updL (gB u 506) D (aC 0))) 507 (vp_updL (gB u 507) D (aC 0))) 505 (upd (gA u 505) D 0)) 510 (nI (D + 1))) 506 j = gB u 506 j := pk_uLn ej
          rw [e506]
          exact ⟨c9, d9, z1, (pk_uLn ej).trans z2, z3, z4, z5, z6, z7⟩
      · rw [show upN f D 0 j = f j from if_neg (by omega)]
        by_cases hj2 : j + 1 < D
        · exact hno3 j hj2
        · have : j = D - 1 := by omega
          unfold top at ht3
          rw [if_neg (by omega)] at ht3
          rw [this]; exact ht3
      · unfold wp_X5_openList
        rw [h510, nI_clamp (show D < 2 ^ 31 by omega), nI_1]
        exact sf (nI_ge (a := D) (b := 60) (by omega) (by omega)) ⟨vp_in_nI (by omega) (by omega), vp_in_nI (by omega) (by omega), vp_in_nI (by omega) (by omega), h⟩
      · have htop3 : top D f ≤ 3 := by
          unfold top
          split
          · omega
          · exact (hLv (D - 1) (by omega)).1
        refine sf (fun e9 => by have := (hi 41 (by omega)).mp e9; omega) (sf (fun e9 => by have := (hi 46 (by omega)).mp e9; omega) (sf (fun e9 => ht3 ((nI_eq (b := 3) (by omega) (by omega)).mp e9)) (sq ((hi 40 (by omega)).mpr ec) (sf ?_ ?_))))
        · rw [h29]; exact fun e9 => by have := (nI_eq (b := 60) (by omega) (by omega)).mp e9; omega
        · rw [h29, nI_clamp (show D < 2 ^ 31 by omega), nI_1, nI_1]
          refine ⟨vp_in_nI (by omega) (by omega), ?_⟩
          rw [← ep]
          exact h
    · -- close
      have hw : gB u 504 i = (3298534883329 : Int64) := by
        rcases he0' with ⟨h, _⟩ | ⟨_, h⟩ | ⟨h, _⟩ | ⟨h, _⟩ | ⟨h, _⟩
        · omega
        · exact h
        all_goals omega
      rcases hstp with ⟨h, _⟩ | ⟨_, hD0, hf2, eD, ef, eip⟩ | ⟨h, _⟩ | ⟨h, _⟩
      case inl => omega
      case inr.inr.inl => omega
      case inr.inr.inr => omega
      obtain ⟨E, rfl⟩ : ∃ E, D = E + 1 := ⟨D - 1, by omega⟩
      rw [Nat.add_sub_cancel] at hf2 eD ef eip
      obtain ⟨l1, l2, l3, l4, l5⟩ := hLv E (by omega)
      let ua := sI u 510 (nI E)
      let va := sI v 29 (nI E)
      have hS3 : S2 r A rk T n E f q np ua va := ⟨hB, ⟨rfl, rfl, by omega⟩, fun j hj => hLv j (by omega), fun j hj => hno3 j (by omega), hC, hH, hqk⟩
      let y : Int64 := if nI (f E) = 0 then (4294967296 : Int64) else gB v 27 E
      have hz : (nI (f E) = (0 : Int32)) ↔ f E = 0 := nI_eq (b := 0) (by omega) (by omega)
      have hy : ob r T (gB u 506 E) y := by
        show ob r T (gB u 506 E) (if nI (f E) = 0 then (4294967296 : Int64) else gB v 27 E)
        by_cases h0 : f E = 0
        · rw [if_pos (hz.mpr h0), l4 h0]; exact ob_a (by omega)
        · rw [if_neg (fun e => h0 (hz.mp e))]
          obtain ⟨c9, d9, z1, z2, z3, z4, z5, z6, z7⟩ := l5 h0
          exact z5
      have hrkx : 0 < E → ∀ b, b < 1000 → gB u 506 E = pC b → rk b < (60 - (E - 1)) * 3000 := fun hE b hb e9 => by
        by_cases h0 : f E = 0
        · rw [l4 h0] at e9; exact absurd e9 (pC_ne_a hb (by omega))
        · obtain ⟨c9, d9, z1, z2, z3, z4, z5, z6, z7⟩ := l5 h0
          exact lv_ar hE (by omega) (z7 b hb e9)
      have hinc : inc E f ≤ np := by omega
      have htE : top E f ≠ 3 := by
        unfold top
        split
        · decide
        · exact hno3 (E - 1) (by omega)
      have hcom := come_both (x := gB u 506 E) (y := y) hN hS3 hy hrkx hinc htE
      have htp : top (E + 1) f = f E := by unfold top; rw [if_neg (by omega), Nat.add_sub_cancel]
      refine hcome E 0 k2 f (gB u 506 E) y ua va eD ef enp eip hcom ⟨fun k _ h => by show gI (sI u 510 (nI E)) k = _; rw [gI_sI, if_neg h], fun _ _ => rfl, fun _ _ => rfl, fun _ _ _ _ _ => rfl⟩ ⟨fun k _ h _ => by show gI (sI v 29 (nI E)) k = _; rw [gI_sI, if_neg h], fun _ _ => rfl, fun _ _ _ _ => rfl, fun _ _ _ _ => rfl⟩ rfl h25 (fun K fC h => tk_build h509 hik h2000 hw (sf (by decide) (sf (by decide) (sq rfl ?_)))) (fun K fR h => hrunR K fR (sq ((hi 41 (by omega)).mpr ec) (sf (by rw [h29]; exact nI_nle (by omega) (by omega)) (sf ?_ ⟨fun e9 => ?_, fun e9 => ⟨?_, ?_⟩⟩)))) hrest2
      · unfold wp_X5_closeList
        rw [h510, nI_pred E, nI_clamp (show E < 2 ^ 31 by omega)]
        exact sf (nI_nle (by omega) (by omega)) ⟨vp_in_nI (by omega) (by omega), h⟩
      · rw [htp]; exact fun e9 => hf2 ((nI_eq (b := 2) (by omega) (by omega)).mp e9)
      · rw [h29, nI_pred E, nI_1]
        rw [htp] at e9
        have : y = (4294967296 : Int64) := if_pos e9
        rw [this] at h
        rw [← ep]
        exact h
      · rw [h29, nI_pred E]; exact vp_in_nI (by omega) (by omega)
      · rw [h29, nI_pred E, nI_1, nI_clamp (show E < 2 ^ 31 by omega)]
        rw [htp] at e9
        have : y = gB v 27 E := if_neg e9
        rw [this] at h
        rw [← ep]
        exact h
    · -- dot
      have hw : gB u 504 i = (3298534883330 : Int64) := by
        rcases he0' with ⟨h, _⟩ | ⟨h, _⟩ | ⟨_, h⟩ | ⟨h, _⟩ | ⟨h, _⟩
        · omega
        · omega
        · exact h
        all_goals omega
      rcases hstp with ⟨h, _⟩ | ⟨h, _⟩ | ⟨_, hD0, hf1, eD, ef, eip⟩ | ⟨h, _⟩
      case inl => omega
      case inr.inl => omega
      case inr.inr.inr => omega
      obtain ⟨E, rfl⟩ : ∃ E, D = E + 1 := ⟨D - 1, by omega⟩
      rw [Nat.add_sub_cancel] at hf1 ef
      subst eD
      subst ef
      have htp : top (E + 1) f = f E := by unfold top; rw [if_neg (by omega), Nat.add_sub_cancel]
      refine hgo (sA u 505 (upd (gA u 505) E 2)) (sA v 26 (upd (gA v 26) E 2)) ⟨hB, ⟨h510, h29, hD⟩, fun j hj => ?_, fun j hj => ?_, hC, hH, hqk⟩ ⟨fun _ _ _ => rfl, fun _ _ => rfl, fun k h => by rw [gA_sA, if_neg h], fun _ _ _ _ _ => rfl⟩ ⟨fun _ _ _ _ => rfl, fun _ _ => rfl, fun k _ h _ => by rw [gA_sA, if_neg h], fun _ _ _ _ => rfl⟩ h25 (by omega) eip (fun K fC h => tk_build h509 hik h2000 hw (sf (by decide) (sq rfl ?_))) (fun K fR h => hrunR K fR (sf (fun e9 => by have := (hi 41 (by omega)).mp e9; omega) (sq ((hi 46 (by omega)).mpr ec) (sq (by rw [htp, hf1]; rfl) ?_))))
      · by_cases ej : j = E
        · have e3 : upN f E 2 j = 2 := if_pos ej
          obtain ⟨l1, l2, l3, l4, l5⟩ := hLv E (by omega)
          unfold Lv
          rw [e3, ej]
          exact ⟨by omega, by rw [if_neg (by decide)]; exact pk_us, pk_us, fun h => absurd h (by decide), fun _ => l5 (by omega)⟩
        · have e3 : upN f E 2 j = f j := if_neg ej
          obtain ⟨n1, n2, n3, n4, n5⟩ := hLv j hj
          unfold Lv
          rw [e3]
          exact ⟨n1, (pk_un ej).trans n2, (pk_un ej).trans n3, n4, n5⟩
      · rw [show upN f E 2 j = f j from if_neg (by omega)]
        exact hno3 j hj
      · unfold wp_X5_markDot
        rw [h510, nI_pred E, nI_clamp (show E < 2 ^ 31 by omega)]
        exact sf (nI_nle (by omega) (by omega)) ⟨vp_in_nI (by omega) (by omega), h⟩
      · rw [h29, nI_pred E, nI_clamp (show E < 2 ^ 31 by omega), nI_1]
        refine ⟨vp_in_nI (by omega) (by omega), ?_⟩
        rw [← ep]
        exact h
    · -- an atom
      rcases hstp with ⟨h, _⟩ | ⟨h, _⟩ | ⟨h, _⟩ | ⟨_, ht3, eD, ef, eip⟩
      case inl => omega
      case inr.inl => omega
      case inr.inr.inl => omega
      subst eD
      have htop3 : top D1 f ≤ 3 := by
        unfold top
        split
        · omega
        · exact (hLv (D1 - 1) (by omega)).1
      let tv := tk.2
      let va := sJ v 31 tv
      have hSv : S2 r A rk T n D1 f q np u va := hS
      have hpre : ∀ (K : Int32 → St → Prop) (fR : Nat), (((0 : Int64) ≤ tv → wp_X10_comes 1 tv va (fun (u6 : St) => l_X10_readAll_17 1 K fR (nI p1) u6)) ∧ (¬ (0 : Int64) ≤ tv → wp_X10_placeOf (-tv) va (fun (r8 : Int32) (u9 : St) => wp_X10_comes 1 ((4294967296 : Int64) + (r8).toInt64) u9 (fun (u10 : St) => l_X10_readAll_17 1 K fR (nI p1) u10)))) → l_X10_readAll_17 1 K (fR + 1 + (pq - p)) (nI p) v := fun K fR h => hrunR K fR (sf (fun e9 => n41 ((hi 41 (by omega)).mp e9)) (sf (fun e9 => n46 ((hi 46 (by omega)).mp e9)) (sf (fun e9 => ht3 ((nI_eq (b := 3) (by omega) (by omega)).mp e9)) (sf (fun e9 => n40 ((hi 40 (by omega)).mp e9)) (hA v hX _ (sq (nI_pos' (by omega)) ⟨h.1, fun e9 => sf (by decide) (sf (by decide) (h.2 e9))⟩))))))
      have hfva : f2R v va := ⟨fun _ _ _ _ => rfl, fun k h => by show gJ (sJ v 31 tv) k = _; rw [gJ_sJ, if_neg h], fun _ _ _ _ => rfl, fun _ _ _ _ => rfl⟩
      rcases he0' with ⟨h, _⟩ | ⟨h, _⟩ | ⟨h, _⟩ | ⟨_, m, hw, htv⟩ | ⟨_, k, sp, hk, h0, hsp, hw, htv, hs1, hs2⟩
      · omega
      · omega
      · omega
      · have hcom := come_both (x := nC m) (y := tv) hN hSv (Or.inl ⟨m, rfl, htv⟩) (fun _ b hb e9 => absurd e9 (pC_ne_n hb)) (by omega) ht3
        refine hcome D1 0 k2 f (nC m) tv u va rfl ef enp eip hcom (f2C_rf u) hfva rfl h25 (fun K fC h => tk_build h509 hik h2000 hw (sf (sign_ne_n m 0 (by omega)) (sf (sign_ne_n m 2 (by omega)) (sf (sign_ne_n m 1 (by omega)) h)))) (fun K fR h => hpre K fR (sq ?_ h)) hrest2
        show (0 : Int64) ≤ tk.2
        rw [htv]; exact nR_nn m
      · have hcom := come_both (x := aC k) (y := aR k) hN hSv (ob_a hk) (fun _ b hb e9 => absurd e9 (pC_ne_a hb (by omega))) (by omega) ht3
        refine hcome D1 0 k2 f (aC k) (aR k) u va rfl ef enp eip hcom (f2C_rf u) hfva rfl h25 (fun K fC h => tk_build h509 hik h2000 hw (sf (sign_ne_a (by omega) 0 (by omega)) (sf (sign_ne_a (by omega) 2 (by omega)) (sf (sign_ne_a (by omega) 1 (by omega)) h)))) (fun K fR h => hpre K fR (sf ?_ ?_)) hrest2
        · show ¬ (0 : Int64) ≤ tk.2
          rw [htv]; exact neg_sp h0 hsp
        · have e9 : -tv = lN sp := by show -tk.2 = _; rw [htv]; exact Int64.neg_neg
          rw [e9]
          refine placeOf_f (v := va) (M := T) (k := k) hB.2.2.2.2.1.2.1 hT hk ?_ (fun j hj => ?_) ?_
          · show gB v 19 k = _; rw [hnm k hk]; exact hs1
          · show gB v 19 j ≠ _; rw [hnm j (by omega)]; exact hs2 j hj
          · rw [nI_l (by omega), show (4294967296 : Int64) + lN k = aR k from lN_add _ _]
            exact h
