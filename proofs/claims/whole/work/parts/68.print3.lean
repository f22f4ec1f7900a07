/-! PURE: printing, the whole -/
def ClT (N : Nat → Nat) (u v : St) (D i : Nat) : Prop := ∃ u1 v1 fC k18 f, Fin2 u v u1 v1 ∧ (∀ K : St → Prop, K u1 → l_X4_print_17 N K fC (nI i) u) ∧ (∀ (K : St → Prop) (x4 : Int64), K v1 → l_X10_printAll_77 (ctR K f) k18 (nI D) x4 (1 : Int32) v)
def ClG (N : Nat → Nat) (u v : St) (D i : Nat) (x y : Int64) : Prop := ∃ u1 v1 fC fR, Fin2 u v u1 v1 ∧ (∀ (K W : St → Prop), (∀ u8, l_X4_print_17 N K fC (nI i) u8 → W u8) → K u1 → wp_X4_printBeginning N x u W) ∧ (∀ K : St → Prop, K v1 → l_X10_printAll_13 K fR (nI D) y 1 v)
theorem lenTk {B cs : List Nat} (h : B.length < 400) (h1 : 1 ≤ cs.length) : B.length + 1 ≤ ((B ++ cs).take 400).length ∧ ((B ++ cs).take 400).length ≤ 400 := by
  rw [List.length_take, List.length_append]; omega
theorem print_ind {N : Nat → Nat} {r T n t} (hN : LN N n t) : ∀ (m : Nat),
    (∀ (u v : St) (B : List Nat) (D i : Nat), 400 - B.length = m → PE r T n u v → OutC u B → OutR v B → Stk r T D u v → lo B → D ≤ B.length → (i + 1 ≤ B.length) → ClT N u v D i) ∧
    (∀ (u v : St) (B : List Nat) (D i : Nat) (x y : Int64), 400 - B.length = m → B.length < 400 → PE r T n u v → OutC u B → OutR v B → Stk r T D u v → D ≤ B.length → i ≤ B.length → ob r T x y → ClG N u v D i x y) := by
  have hn := hN.2.2.2.2.2.2.2.2.1
  intro m
  induction m using Nat.strongRecOn with
  | ind m ih =>
    refine ⟨fun u v B D i hm hP hC hR hS hlo hD hi => ?_, fun u v B D i x y hm hBl hP hC hR hS hD hi ho => ?_⟩
    · -- between two objects
      have hB4 := hC.2.1
      by_cases hB : B.length = 400
      · obtain ⟨v1, k18, g1, g2, g3⟩ := full_R (N := N) hn D v B (by omega) hP hB hC hR (fun j hj => ⟨_, hS.2 j hj⟩)
        exact ⟨u, v1, 1, k18, 1, ⟨frO_rf u, g2, B, hC, g1⟩, fun K hK => l17_full hC hB hK, fun K x4 hK => g3 K 0 x4 hK⟩
      · cases D with
        | zero =>
          refine ⟨u, v, 1, 1, 1, ⟨frO_rf u, frT_rf v, B, hC, hR⟩, fun K hK => ?_, fun K x4 hK => ?_⟩
          · unfold l_X4_print_17
            exact ⟨fun _ => hK, fun _ => sq (by rw [hS.1]; decide) hK⟩
          · unfold l_X10_printAll_77
            exact sf (by decide) (sq (by decide) (sq (by decide) (l13_off hK)))
        | succ D =>
          have hoD := hS.2 D (by omega)
          have h400 : ¬ (400 : Int32) ≤ gI u 706 := by rw [hC.1]; exact nI_ge (a := B.length) (b := 400) (by omega) (by omega)
          have hunR : ∀ (K : Int32 → Int64 → St → Prop) (f : Nat) (x4 : Int64), wp_X10_isPair (gB v 17 D) (fun (r3 : Int32) => ((r3 = 0 → ((gB v 17 D = (4294967296 : Int64) → wp_X10_put (41 : Int32) v (fun (u9 : St) => l_X10_printAll_77 K f (nI D) x4 (1 : Int32) u9)) ∧ (¬ gB v 17 D = (4294967296 : Int64) → wp_X10_put (32 : Int32) v (fun (u10 : St) => wp_X10_put (46 : Int32) u10 (fun (u11 : St) => wp_X10_put (32 : Int32) u11 (fun (u12 : St) => wp_X10_putAtom (gB v 17 D) u12 (fun (u13 : St) => wp_X10_put (41 : Int32) u13 (fun (u14 : St) => l_X10_printAll_77 K f (nI D) x4 (1 : Int32) u14)))))))) ∧ (¬ r3 = 0 → wp_X10_put (32 : Int32) v (fun (u4 : St) => wp_X10_first (gB v 17 D) u4 (fun (r5 : Int64) (u6 : St) => wp_X10_behind (gB v 17 D) u6 (fun (r7 : Int64) (u8 : St) => vp_in (nI D) 1000 ∧ l_X10_printAll_77 K f (nI (D + 1)) r5 (0 : Int32) (sB u8 17 (vp_updL (gB u8 17) D r7)))))))) → l_X10_printAll_77 K (f + 1) (nI (D + 1)) x4 (1 : Int32) v := fun K f x4 hq => by
            unfold l_X10_printAll_77
            rw [show nI (D + 1) - (1 : Int32) = nI D from nI_pred D, show nI (D + 1) + (-1 : Int32) = nI D from pk_m1 D, nI_clamp (show D < 2 ^ 31 by omega)]
            exact sf (by decide) (sf (nI_nle (by omega) (by omega)) ⟨vp_in_nI (by omega) (by omega), hq⟩)
          have hgoEnd : ((∃ m : Int32, gB u 703 D = nC m ∧ gB v 17 D = nR m) ∨ (∃ k : Nat, k < T ∧ gB u 703 D = aC k ∧ gB v 17 D = aR k)) → (∀ Q : Int32 → Prop, Q 0 → wp_X8_isPair (gB u 703 D) Q) → (∀ Q : Int32 → Prop, Q 0 → wp_X10_isPair (gB v 17 D) Q) → ClT N u v (D + 1) i := fun ha hpC hpR => by
            have hP1 : PE r T n (sI u 705 (nI D)) v := hP
            have hC1 : OutC (sI u 705 (nI D)) B := hC
            obtain ⟨cs, u1, v1, g1, g2, g3, g4, g5, g6, g7, g8⟩ := end_both (N := N) hn hP1 hC1 hR ha
            have hlen := lenTk (B := B) (cs := cs) (by omega) g1
            have hS1 : Stk r T D (sI u 705 (nI D)) v := ⟨rfl, fun j hj => hS.2 j (by omega)⟩
            have hf0 : frO u (sI u 705 (nI D)) := ⟨fun k a _ => by rw [gI_sI, if_neg a], fun _ => rfl, fun _ _ _ => rfl, fun _ _ => rfl⟩
            obtain ⟨u2, v2, fC, k18, f, q1, q2, q3⟩ := (ih (400 - ((B ++ cs).take 400).length) (by omega)).1 u1 v1 ((B ++ cs).take 400) D (i + 1) rfl (PE_fr hP1 g5.1 g6.1) g3 g4 (Stk_2 hS1 g5 g6) (lo_app g1 g2) (by omega) (by omega)
            refine ⟨u2, v2, fC + 1, k18 + 1, f, Fin2_tr (frO_tr hf0 g5.1) g6.1 q1, fun K hK => ?_, fun K x4 hK => hunR _ _ _ (hpR _ (sq rfl (g8 _ (q3 K x4 hK))))⟩
            unfold l_X4_print_17
            rw [hS.1, nI_pred D, nI_clamp (show D < 2 ^ 31 by omega), nI_1]
            exact sf (nI_ge (a := i) (b := 400) (by omega) (by omega)) (sf (nI_nle (by omega) (by omega)) (sf h400 ⟨vp_in_nI (by omega) (by omega), hpC _ (sq rfl (g7 _ (q2 K hK)))⟩))
          rcases id hoD with h | h | ⟨c, d, hr, e1, e2⟩
          case inl =>
            refine hgoEnd (Or.inl h) (fun Q hQ => ?_) (fun Q hQ => ?_)
            · obtain ⟨z, e, _⟩ := h; rw [e]; exact isPair_n hQ
            · obtain ⟨z, _, e⟩ := h; rw [e]; exact rPair_n hQ
          case inr.inl =>
            have hT := hP.2.2.1
            refine hgoEnd (Or.inr h) (fun Q hQ => ?_) (fun Q hQ => ?_)
            · obtain ⟨z, hz, e, _⟩ := h; rw [e]; exact isPair_a (by omega) hQ
            · obtain ⟨z, hz, _, e⟩ := h; rw [e]; exact rPair_a (by omega) hQ
          case inr.inr =>
            have a1 := hP.1.1 _ _ hr
            obtain ⟨oa, od⟩ := hP.1.2.2.2 _ _ hr
            have hlast : ¬ gA u 702 (B.length - 1) = 40 := by
              rcases hlo with h | ⟨_, h1, h2⟩
              · exact absurd h hB
              · rw [hC.2.2 _ (by omega)]
                exact fun e => h1 ((nI_eq (b := 40) (by omega) (by omega)).mp e)
            let u0 := sB u 703 (vp_updL (gB u 703) D (gB u 801 c))
            have hf0 : frO u u0 := ⟨fun _ _ _ => rfl, fun _ => rfl, fun _ _ _ => rfl, fun k hk => by rw [gB_sB, if_neg hk]⟩
            have hP0 : PE r T n u0 v := PE_fr hP hf0 (frT_rf v)
            have hC0 : OutC u0 B := hC
            obtain ⟨u1, b1, b2, b3, b4⟩ := putC (N := N) (c := 32) hC0 (by omega)
            obtain ⟨v1, c1, c2, c3⟩ := putR (c := 32) hR
            have hlen := lenTk (B := B) (cs := [32]) (by omega) (by simp)
            let v2 := sB v1 17 (vp_updL (gB v1 17) D (gB v 14 d))
            have hf1 : frT v1 v2 := ⟨fun _ _ => rfl, fun _ => rfl, fun _ _ => rfl, fun k hk => by rw [gB_sB, if_neg hk]⟩
            have hP2 : PE r T n u1 v2 := PE_fr hP0 b2.1 (frT_tr c2.1 hf1)
            have hR2 : OutR v2 ((B ++ [32]).take 400) := c1
            have hS2 : Stk r T (D + 1) u1 v2 := by
              refine ⟨b2.2.1.trans hS.1, fun j hj => ?_⟩
              rw [b2.2.2]
              show ob r T (vp_updL (gB u 703) D (gB u 801 c) j) (vp_updL (gB v1 17) D (gB v 14 d) j)
              by_cases ej : j = D
              · subst ej; rw [pk_uLs, pk_uLs]; exact od
              · rw [pk_uLn ej, pk_uLn ej, c2.2]; exact hS.2 j hj
            have f800 : gB u1 800 c = gB u 800 c := congrFun ((b2.1.2.2.2 800 (by decide)).trans (hf0.2.2.2 800 (by decide))) c
            have f13 : gB v1 13 d = gB v 13 d := congrFun (c2.1.2.2.2 13 (by decide)) d
            have f14 : gB v1 14 d = gB v 14 d := congrFun (c2.1.2.2.2 14 (by decide)) d
            -- what both come to
            have hrunC : ∀ (K : St → Prop) (f : Nat), wp_X4_printBeginning N (gB u 800 c) u1 (fun u15 => l_X4_print_17 N K f (nI (i + 1)) u15) → l_X4_print_17 N K (f + 1) (nI i) u := fun K f hq => by
              unfold l_X4_print_17
              rw [hS.1, nI_pred D, nI_clamp (show D < 2 ^ 31 by omega), nI_1, e1]
              refine sf (nI_ge (a := i) (b := 400) (by omega) (by omega)) (sf (nI_nle (by omega) (by omega)) (sf h400 ⟨vp_in_nI (by omega) (by omega), isPair_p (by omega) (sf (by decide) (cdr_p hN a1.1 ⟨vp_in_nI (by omega) (by omega), ?_⟩))⟩))
              obtain ⟨b9, hb9⟩ : ∃ b9, B.length = b9 + 1 := ⟨B.length - 1, by omega⟩
              rw [hC.1, hb9, nI_pred b9, nI_clamp (show b9 < 2 ^ 31 by omega)]
              rw [hb9, Nat.add_sub_cancel] at hlast
              refine sf (nI_nle (by omega) (by omega)) ⟨vp_in_nI (by omega) (by omega), sf hlast (b4 _ (car_p hN a1.1 ?_))⟩
              rw [f800]
              exact hq
            have hrunR : ∀ (K : St → Prop) (f : Nat) (x4 : Int64), l_X10_printAll_13 K f (nI (D + 1)) (gB v 13 d) 1 v2 → l_X10_printAll_77 (ctR K f) 2 (nI (D + 1)) x4 (1 : Int32) v := fun K f x4 hq => by
              refine hunR _ _ _ ?_
              rw [e2]
              refine rPair_p a1.2 (sf (by decide) (c3 _ (first_p a1.2 (behind_p a1.2 ⟨vp_in_nI (by omega) (by omega), ?_⟩))))
              unfold l_X10_printAll_77
              rw [f13, f14]
              exact sq rfl (sf (nI_nle (by omega) (by omega)) hq)
            by_cases hfull : ((B ++ [32]).take 400).length = 400
            · obtain ⟨u3, g1, g2, g3⟩ := full_C (N := N) (D := D + 1) hn hP2 hfull b1 hR2 hS2.1 (by omega) (y := gB v 13 d) (x := gB u 800 c) oa
              exact ⟨u3, v2, 2, 2, 1, ⟨frO_tr (frO_tr hf0 b2.1) g2, frT_tr c2.1 hf1, _, g1, hR2⟩, fun K hK => hrunC K 1 (g3 K 0 _ hK), fun K x4 hK => hrunR K 1 x4 (l13_full hR2 hfull hK)⟩
            · obtain ⟨u3, v3, fC, fR, g1, g2, g3⟩ := (ih (400 - ((B ++ [32]).take 400).length) (by omega)).2 u1 v2 ((B ++ [32]).take 400) (D + 1) (i + 1) (gB u 800 c) (gB v 13 d) rfl (by omega) hP2 b1 hR2 hS2 (by omega) (by omega) oa
              exact ⟨u3, v3, fC + 1, 2, fR, Fin2_tr (frO_tr hf0 b2.1) (frT_tr c2.1 hf1) g1, fun K hK => hrunC K fC (g2 K _ (fun _ h => h) hK), fun K x4 hK => hrunR K fR x4 (g3 K hK)⟩
    · -- an object begins
      have h400 : ¬ (400 : Int32) ≤ gI v 12 := by rw [hR.1]; exact nI_ge (a := B.length) (b := 400) (by omega) (by omega)
      obtain ⟨p1, p2, p3, p4, p5⟩ := id hP
      have hatom : ((∃ m : Int32, x = nC m ∧ y = nR m) ∨ (∃ k : Nat, k < T ∧ x = aC k ∧ y = aR k)) → (∀ Q : Int32 → Prop, Q 0 → wp_X8_isPair x Q) → (∀ Q : Int32 → Prop, Q 0 → wp_X10_isPair y Q) → ClG N u v D i x y := fun ha hpC hpR => by
        obtain ⟨cs, u1, v1, g1, g2, g3, g4, g5, g6, g7, g8⟩ := atom_both (N := N) hC hR p2 p3 p5 ha
        have hlen := lenTk (B := B) (cs := cs) hBl g1
        obtain ⟨u2, v2, fC, k18, f, q1, q2, q3⟩ := (ih (400 - ((B ++ cs).take 400).length) (by omega)).1 u1 v1 ((B ++ cs).take 400) D i rfl (PE_fr hP g5.1 g6.1) g3 g4 (Stk_2 hS g5 g6) (lo_app g1 g2) (by omega) (by omega)
        refine ⟨u2, v2, fC, f + 1, Fin2_tr g5.1 g6.1 q1, fun K W hW hK => hpC _ (sq rfl (g7 _ (hW _ (q2 K hK)))), fun K hK => ?_⟩
        unfold l_X10_printAll_13
        exact sf (by decide) (sf h400 (hpR _ (sq rfl (g8 _ ⟨k18, q3 K y hK⟩))))
      rcases id ho with h | h | ⟨c, d, hr, rfl, rfl⟩
      · refine hatom (Or.inl h) (fun Q hQ => ?_) (fun Q hQ => ?_)
        · obtain ⟨z, e, _⟩ := h; rw [e]; exact isPair_n hQ
        · obtain ⟨z, _, e⟩ := h; rw [e]; exact rPair_n hQ
      · refine hatom (Or.inr h) (fun Q hQ => ?_) (fun Q hQ => ?_)
        · obtain ⟨z, hz, e, _⟩ := h; rw [e]; exact isPair_a (by omega) hQ
        · obtain ⟨z, hz, _, e⟩ := h; rw [e]; exact rPair_a (by omega) hQ
      · have a1 := p1.1 _ _ hr
        obtain ⟨oa, od⟩ := p1.2.2.2 _ _ hr
        obtain ⟨u1, b1, b2, b3, b4⟩ := putC (N := N) (c := 40) hC (by omega)
        obtain ⟨v1, c1, c2, c3⟩ := putR (c := 40) hR
        have ht : (B ++ [40]).take 400 = B ++ [40] := List.take_of_length_le (by simp; omega)
        rw [ht] at b1 c1
        have hl1 : (B ++ [40]).length = B.length + 1 := by simp
        let u2 := sI (sB u1 703 (vp_updL (gB u1 703) D (pC c))) 705 (nI (D + 1))
        have hf2 : frO u1 u2 := ⟨fun k a _ => by rw [gI_sI, if_neg a]; rfl, fun _ => rfl, fun _ _ _ => rfl, fun k hk => by rw [gB_sI, gB_sB, if_neg hk]⟩
        have hC2 : OutC u2 (B ++ [40]) := b1
        let v2 := sB v1 17 (vp_updL (gB v1 17) D (gB v 14 d))
        have hf1 : frT v1 v2 := ⟨fun _ _ => rfl, fun _ => rfl, fun _ _ => rfl, fun k hk => by rw [gB_sB, if_neg hk]⟩
        have hR2 : OutR v2 (B ++ [40]) := c1
        have f13 : gB v1 13 d = gB v 13 d := congrFun (c2.1.2.2.2 13 (by decide)) d
        have f14 : gB v1 14 d = gB v 14 d := congrFun (c2.1.2.2.2 14 (by decide)) d
        have hrunC : ∀ (W : St → Prop), W u2 → wp_X4_printBeginning N (pC c) u W := fun W hq => by
          refine isPair_p (by omega) (sf (by decide) (sf ?_ (b4 _ ?_)))
          · rw [hS.1]; exact nI_ge (a := D) (b := 400) (by omega) (by omega)
          · rw [b2.2.1, hS.1, nI_clamp (show D < 2 ^ 31 by omega), nI_1]
            exact ⟨vp_in_nI (by omega) (by omega), hq⟩
        have hrunR : ∀ (K : St → Prop) (f : Nat), l_X10_printAll_13 K f (nI (D + 1)) (gB v 13 d) 1 v2 → l_X10_printAll_13 K (f + 1) (nI D) (pR d) 1 v := fun K f hq => by
          unfold l_X10_printAll_13
          refine sf (by decide) (sf h400 (rPair_p a1.2 (sf (by decide) (c3 _ (behind_p a1.2 ⟨vp_in_nI (by omega) (by omega), first_p a1.2 ?_⟩)))))
          rw [nI_clamp (show D < 2 ^ 31 by omega), nI_1, f14]
          show l_X10_printAll_13 K f (nI (D + 1)) (gB v1 13 d) 1 _
          rw [f13]
          exact hq
        by_cases hfull : (B ++ [40]).length = 400
        · exact ⟨u2, v2, 1, 2, ⟨frO_tr b2.1 hf2, frT_tr c2.1 hf1, _, hC2, hR2⟩, fun K W hW hK => hrunC W (hW _ (l17_full hC2 hfull hK)), fun K hK => hrunR K 1 (l13_full hR2 hfull hK)⟩
        · let u3 := sB u2 703 (vp_updL (gB u2 703) D (gB u 801 c))
          have hf3 : frO u2 u3 := ⟨fun _ _ _ => rfl, fun _ => rfl, fun _ _ _ => rfl, fun k hk => by rw [gB_sB, if_neg hk]⟩
          have hfC := frO_tr (frO_tr b2.1 hf2) hf3
          have hfR := frT_tr c2.1 hf1
          have hP3 : PE r T n u3 v2 := PE_fr hP hfC hfR
          have hS3 : Stk r T (D + 1) u3 v2 := by
            refine ⟨rfl, fun j hj => ?_⟩
            show ob r T (vp_updL (vp_updL (gB u1 703) D (pC c)) D (gB u 801 c) j) (vp_updL (gB v1 17) D (gB v 14 d) j)
            by_cases ej : j = D
            · subst ej; rw [pk_uLs, pk_uLs]; exact od
            · rw [pk_uLn ej, pk_uLn ej, pk_uLn ej, b2.2.2, c2.2]; exact hS.2 j (by omega)
          have f801 : gB u2 801 c = gB u 801 c := congrFun ((hf2.2.2.2 801 (by decide)).trans (b2.1.2.2.2 801 (by decide))) c
          have f800 : gB u3 800 c = gB u 800 c := congrFun (hfC.2.2.2 800 (by decide)) c
          have hC3 : OutC u3 (B ++ [40]) := b1
          obtain ⟨u4, v4, fC, fR, g1, g2, g3⟩ := (ih (400 - (B ++ [40]).length) (by omega)).2 u3 v2 (B ++ [40]) (D + 1) (i + 1) (gB u 800 c) (gB v 13 d) rfl (by omega) hP3 hC3 hR2 hS3 (by omega) (by omega) oa
          refine ⟨u4, v4, fC + 1, fR + 1, Fin2_tr hfC hfR g1, fun K W hW hK => hrunC W (hW _ ?_), fun K hK => hrunR K fR (g3 K hK)⟩
          have e703 : gB u2 703 D = pC c := pk_uLs
          have e705 : gI u2 705 = nI (D + 1) := rfl
          have h4002 : ¬ (400 : Int32) ≤ gI u2 706 := by rw [hC2.1, hl1]; exact nI_ge (a := B.length + 1) (b := 400) (by omega) (by omega)
          have hlast : gA u2 702 B.length = 40 := by
            rw [hC2.2.2 B.length (by omega)]
            simp
            rfl
          unfold l_X4_print_17
          rw [e705, nI_pred D, nI_clamp (show D < 2 ^ 31 by omega), nI_1, e703]
          refine sf (nI_ge (a := i) (b := 400) (by omega) (by omega)) (sf (nI_nle (by omega) (by omega)) (sf h4002 ⟨vp_in_nI (by omega) (by omega), isPair_p (by omega) (sf (by decide) (cdr_p hN a1.1 ⟨vp_in_nI (by omega) (by omega), ?_⟩))⟩))
          rw [hC2.1, hl1, nI_pred, nI_clamp (show B.length < 2 ^ 31 by omega)]
          refine sf (nI_nle (by omega) (by omega)) ⟨vp_in_nI (by omega) (by omega), sq hlast (car_p hN a1.1 ?_)⟩
          rw [f801]
          have := g2 K _ (fun _ h => h) hK
          rw [← f800] at this
          exact this
theorem print_both {N : Nat → Nat} {r T n t} {u v : St} {x y : Int64} (hN : LN N n t) (hP : PE r T n u v) (ho : ob r T x y) : ∃ u1 v1, Fin2 u v u1 v1 ∧ (∀ Q : St → Prop, Q u1 → wp_X4_print N x u Q) ∧ (∀ Q : St → Prop, Q v1 → wp_X10_printAll y v Q) := by
  have hf0 : frO u (sI (sI u 706 (0 : Int32)) 705 (0 : Int32)) := ⟨fun k a b => by rw [gI_sI, if_neg a, gI_sI, if_neg b], fun _ => rfl, fun _ _ _ => rfl, fun _ _ => rfl⟩
  have hf1 : frT v (sI v 12 (0 : Int32)) := ⟨fun k a => by rw [gI_sI, if_neg a], fun _ => rfl, fun _ _ => rfl, fun _ _ => rfl⟩
  obtain ⟨u1, v1, fC, fR, g1, g2, g3⟩ := (print_ind (r := r) (T := T) hN 400).2 (sI (sI u 706 (0 : Int32)) 705 (0 : Int32)) (sI v 12 (0 : Int32)) [] 0 0 x y rfl (by simp) hP ⟨rfl, by simp, fun k hk => absurd hk (by simp)⟩ ⟨rfl, by simp, fun k hk => absurd hk (by simp)⟩ ⟨rfl, fun j hj => absurd hj (by omega)⟩ (by simp) (by simp) ho
  refine ⟨u1, v1, Fin2_tr hf0 hf1 g1, fun Q hQ => ?_, fun Q hQ => ⟨fR, g3 _ hQ⟩⟩
  exact g2 (fun u16 => Q u16) _ (fun u8 h9 => ⟨fC, h9⟩) hQ
