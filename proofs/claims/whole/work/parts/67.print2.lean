/-! PURE: printing, atoms and lists -/
def NmR (T : Nat) (u v : St) : Prop := ∀ k, k < T → ∃ sp, 0 < sp ∧ sp < 37 ^ 12 ∧ gB u 200 k = lN sp ∧ gB v 19 k = lN sp
abbrev gd (c : Nat) : Prop := c ≠ 40 ∧ c < 128
def lo (B : List Nat) : Prop := B.length = 400 ∨ (1 ≤ B.length ∧ gd (B.getD (B.length - 1) 0))
theorem lo_app {B cs : List Nat} (h1 : 1 ≤ cs.length) (h2 : ∀ c ∈ cs, gd c) : lo ((B ++ cs).take 400) := by
  by_cases hl : (B ++ cs).length ≤ 400
  · rw [List.take_of_length_le hl]
    refine Or.inr ⟨by rw [List.length_append]; omega, ?_⟩
    have e : (B ++ cs).length - 1 = B.length + (cs.length - 1) := by rw [List.length_append]; omega
    rw [e, List.getD_eq_getElem?_getD, List.getElem?_append_right (by omega), Nat.add_sub_cancel_left]
    have h3 : cs.length - 1 < cs.length := by omega
    rw [List.getElem?_eq_getElem h3]
    exact h2 _ (List.getElem_mem h3)
  · left
    rw [List.length_take]
    omega
theorem dl_ne {b x : Nat} {ch : Nat → Nat} (hb : 0 < b) (hch : ∀ d, d < b → gd (ch d)) : ∀ L, ∀ c ∈ dl b ch x L, gd c := by
  intro L
  induction L with
  | zero => intro c hc; exact absurd hc List.not_mem_nil
  | succ L ih =>
    intro c hc
    rcases List.mem_cons.mp hc with rfl | hc
    · exact hch _ (Nat.mod_lt _ hb)
    · exact ih c hc
theorem chN_ne : ∀ d, d < 37 → gd (chN d) := by decide
theorem chD_ne : ∀ d, d < 10 → gd (chD d) := by decide
theorem num_split (n : Int32) : (∃ X, X < 2 ^ 31 ∧ nC n = lN X ∧ 0 ≤ n) ∨ (∃ X, 0 < X ∧ X ≤ 2 ^ 31 ∧ -(nC n) = lN X ∧ nC n < 0 ∧ ¬ 0 ≤ n) := by
  have h1 := Int32.le_toInt n
  have h2 := Int32.toInt_lt n
  have h0 : (0 : Int32).toInt = 0 := by decide
  have h00 : (0 : Int64).toInt = 0 := by decide
  by_cases hn : 0 ≤ n
  · left
    rw [Int32.le_iff_toInt_le, h0] at hn
    refine ⟨n.toInt.toNat, by omega, Int64.toInt_inj.mp ?_, by rw [Int32.le_iff_toInt_le, h0]; exact hn⟩
    rw [nC_toInt, pk_lT (by omega)]
    omega
  · right
    have hn2 := hn
    rw [Int32.le_iff_toInt_le, h0] at hn
    refine ⟨(-n.toInt).toNat, by omega, by omega, Int64.toInt_inj.mp ?_, ?_, hn2⟩
    · rw [Int64.toInt_neg, nC_toInt, pk_lT (by omega)]
      rw [Int.bmod_eq_of_le (by omega) (by omega)]
      omega
    · rw [Int64.lt_iff_toInt_lt, nC_toInt, h00]
      omega
theorem number_both {N : Nat → Nat} {u v : St} {B : List Nat} {n : Int32} (hC : OutC u B) (hR : OutR v B) : ∃ cs u1 v1, 1 ≤ cs.length ∧ (∀ c ∈ cs, gd c) ∧ OutC u1 ((B ++ cs).take 400) ∧ OutR v1 ((B ++ cs).take 400) ∧ frO2 u u1 ∧ frT2 v v1 ∧ (∀ Q : St → Prop, Q u1 → wp_X4_printNumber N (nC n) u Q) ∧ (∀ Q : St → Prop, Q v1 → wp_X10_putAtom (nR n) v Q) := by
  have hdig : ∀ X, X ≤ 2 ^ 31 → ∃ L, L ≤ 12 ∧ NL 10 X L := fun X hX => by
    obtain ⟨L, h1, h2⟩ := NL_ex (b := 10) (x := X) (by omega) 11 (by omega) (by omega)
    exact ⟨L, by omega, h2⟩
  -- the digits on both sides
  have both : ∀ (X : Nat) (u v : St) (B : List Nat), X ≤ 2 ^ 31 → OutC u B → OutR v B → ∃ L u1 v1, 1 ≤ L ∧ OutC u1 ((B ++ dl 10 chD X L).take 400) ∧ OutR v1 ((B ++ dl 10 chD X L).take 400) ∧ frO2 u u1 ∧ frT2 v v1 ∧ (∀ Q : St → Prop, Q u1 → ∃ k4, l_X4_printNumber_20 N (fun (y1 : Int32) (u2 : St) => wp_X4_putBackwards N y1 u2 (fun (u3 : St) => Q u3)) k4 (lN X) (0 : Int32) u) ∧ (∀ Q : St → Prop, Q v1 → ∃ k7, l_X10_putAtom_123 (lN X) (fun (y2 : Int64) (u3 : St) => (∃ k6 : Nat, l_X10_putAtom_146 (lN X) (fun (u5 : St) => Q u5) k6 y2 u3)) k7 (1 : Int64) v) := fun X u v B hX hC hR => by
    obtain ⟨L, hL12, hL⟩ := hdig X hX
    have hL1 := hL.1
    obtain ⟨u1, a1, a2, a3, a4⟩ := num_loop (N := N) (x := X) (by omega) hL hL12 (L - 1) 0 u B (by omega) hC (fun j hj => absurd hj (by omega))
    obtain ⟨u2, b1, b2, b3⟩ := putBackwards_ex (N := N) chD_lt (by omega) hL12 a1 a3
    obtain ⟨v1, c1, c2, c3⟩ := rd10 (x := X) (by omega) (L - 1) v B (by omega) hR
    rw [show L - 1 + 1 = L from by omega] at c1
    refine ⟨L, u2, v1, hL1, b1, c1, frO2_tr a2 b2, c2, fun Q hQ => ⟨L - 1 + 1, ?_⟩, fun Q hQ => ⟨L - 1 + 1, ?_⟩⟩
    · have := a4 (fun (y1 : Int32) (u2 : St) => wp_X4_putBackwards N y1 u2 (fun (u3 : St) => Q u3)) (b3 _ hQ)
      rw [Nat.pow_zero, Nat.div_one] at this
      exact this
    · exact rw10 (by omega) hL hL12 v (L - 1) 0 (by omega) _ ⟨L - 1 + 2, c3 _ hQ⟩
  rcases num_split n with ⟨X, hX, e, hn⟩ | ⟨X, hX0, hX, e, hneg, hn⟩
  · obtain ⟨L, u1, v1, h1, h2, h3, h4, h5, h6, h7⟩ := both X u v B (by omega) hC hR
    refine ⟨dl 10 chD X L, u1, v1, dl_pos h1, dl_ne (by omega) chD_ne L, h2, h3, h4, h5, fun Q hQ => sq ?_ ?_, fun Q hQ => rName_n (sq rfl ?_)⟩
    · rw [e]; exact Int64.not_lt.mp (fun h => absurd ((pk_lLT (b := 0) (by omega) (by omega)).mp h) (by omega))
    · have e2 : (if 0 < nC n then nC n else -nC n) = lN X := by
        rw [e]
        by_cases hz : X = 0
        · subst hz; decide
        · have hp : (0 : Int64) < lN X := (pk_lLT (a := 0) (b := X) (by omega) (by omega)).mpr (by omega)
          rw [if_pos hp]
      rw [e2]
      exact h6 Q hQ
    · rw [nR_back]
      have e3 : n.toInt64 = lN X := e
      rw [e3]
      exact sq hn (h7 Q hQ)
  · obtain ⟨u0, p1, p2, p3, p4⟩ := putC (N := N) (c := 45) hC (by omega)
    obtain ⟨v0, q1, q2, q3⟩ := putR (c := 45) hR
    obtain ⟨L, u1, v1, h1, h2, h3, h4, h5, h6, h7⟩ := both X u0 v0 _ hX p1 q1
    rw [tk, List.append_assoc] at h2 h3
    refine ⟨[45] ++ dl 10 chD X L, u1, v1, by simp, fun c hc => ?_, h2, h3, frO2_tr p2 h4, frT2_tr q2 h5, fun Q hQ => sf (fun h => Int64.not_lt.mpr h hneg) (p4 _ ?_), fun Q hQ => rName_n (sq rfl ?_)⟩
    · rcases List.mem_append.mp hc with hc | hc
      · rw [List.mem_singleton.mp hc]; decide
      · exact dl_ne (by omega) chD_ne L c hc
    · have e2 : (if 0 < nC n then nC n else -nC n) = lN X := by
        rw [if_neg (fun h => Int64.lt_irrefl (Int64.lt_trans h hneg)), e]
      rw [e2]
      exact h6 Q hQ
    · rw [nR_back]
      have e3 : -n.toInt64 = lN X := e
      rw [e3]
      exact sf hn (q3 _ (h7 Q hQ))
theorem name_both {N : Nat → Nat} {T k : Nat} {u v : St} {B : List Nat} (hC : OutC u B) (hR : OutR v B) (hT : gI u 202 = nI T) (hT2 : T ≤ 150) (hk : k < T) (hN : NmR T u v) : ∃ cs u1 v1, 1 ≤ cs.length ∧ (∀ c ∈ cs, gd c) ∧ OutC u1 ((B ++ cs).take 400) ∧ OutR v1 ((B ++ cs).take 400) ∧ frO2 u u1 ∧ frT2 v v1 ∧ (∀ Q : St → Prop, Q u1 → wp_X3_spellingOf N (aC k) u (fun (r2 : Int64) (u3 : St) => wp_X4_printName N r2 u3 (fun (u4 : St) => Q u4))) ∧ (∀ Q : St → Prop, Q v1 → wp_X10_putAtom (aR k) v Q) := by
  obtain ⟨X, hX0, hX, e1, e2⟩ := hN k hk
  obtain ⟨L, hL12, hL⟩ := NL_ex (b := 37) (x := X) (by omega) 12 (by omega) hX
  have hL1 := hL.1
  obtain ⟨u1, a1, a2, a3, a4⟩ := name_loop (N := N) (x := X) (by omega) hX0 hL hL12 L 0 u B (by omega) hC (fun j hj => absurd hj (by omega))
  obtain ⟨u2, b1, b2, b3⟩ := putBackwards_ex (N := N) chN_lt (by omega) hL12 a1 a3
  obtain ⟨v1, c1, c2, c3⟩ := rd37 (x := X) hX (L - 1) v B (by omega) hR
  rw [show L - 1 + 1 = L from by omega] at c1
  refine ⟨dl 37 chN X L, u2, v1, dl_pos hL1, dl_ne (by omega) chN_ne L, b1, c1, frO2_tr a2 b2, c2, fun Q hQ => isKnown_a hT hT2 hk (sf (by decide) ?_), fun Q hQ => rName_a (by omega) (sf (by decide) ?_)⟩
  · rw [aC_place (by omega), nI_clamp (by omega), e1]
    refine ⟨vp_in_nI (by omega) (by omega), L + 1, ?_⟩
    have := a4 (fun (y2 : Int32) (u3 : St) => wp_X4_putBackwards N y2 u3 (fun (u4 : St) => Q u4)) (b3 _ hQ)
    rw [Nat.pow_zero, Nat.div_one] at this
    exact this
  · rw [aR_place (by omega), nI_clamp (by omega), e2]
    exact ⟨vp_in_nI (by omega) (by omega), L - 1 + 1, rw37 hX hL hL12 v (L - 1) 0 (by omega) _ ⟨L - 1 + 2, c3 _ hQ⟩⟩
/-- printing an atom -/
theorem atom_both {N : Nat → Nat} {T : Nat} {u v : St} {B : List Nat} {x y : Int64} (hC : OutC u B) (hR : OutR v B) (hT : gI u 202 = nI T) (hT2 : T ≤ 150) (hN : NmR T u v) (ho : (∃ m : Int32, x = nC m ∧ y = nR m) ∨ (∃ k : Nat, k < T ∧ x = aC k ∧ y = aR k)) : ∃ cs u1 v1, 1 ≤ cs.length ∧ (∀ c ∈ cs, gd c) ∧ OutC u1 ((B ++ cs).take 400) ∧ OutR v1 ((B ++ cs).take 400) ∧ frO2 u u1 ∧ frT2 v v1 ∧ (∀ Q : St → Prop, Q u1 → wp_X4_printAtom N x u Q) ∧ (∀ Q : St → Prop, Q v1 → wp_X10_putAtom y v Q) := by
  rcases ho with ⟨m, rfl, rfl⟩ | ⟨k, hk, rfl, rfl⟩
  · obtain ⟨cs, u1, v1, h1, h2, h3, h4, h5, h6, h7, h8⟩ := number_both (N := N) (n := m) hC hR
    exact ⟨cs, u1, v1, h1, h2, h3, h4, h5, h6, fun Q hQ => isNumber_n (sf (by decide) (h7 Q hQ)), h8⟩
  · obtain ⟨cs, u1, v1, h1, h2, h3, h4, h5, h6, h7, h8⟩ := name_both (N := N) hC hR hT hT2 hk hN
    exact ⟨cs, u1, v1, h1, h2, h3, h4, h5, h6, fun Q hQ => isNumber_a (by omega) (sq rfl (h7 Q hQ)), h8⟩
/-! lists -/
/-- the stacks: D lists are open -/
def Stk (r : Nat → Nat → Prop) (T D : Nat) (u v : St) : Prop := gI u 705 = nI D ∧ ∀ j, j < D → ob r T (gB u 703 j) (gB v 17 j)
/-- what printing needs of the rest -/
def PE (r : Nat → Nat → Prop) (T n : Nat) (u v : St) : Prop := HpR r T n u v ∧ gI u 202 = nI T ∧ T ≤ 150 ∧ 18 ≤ T ∧ NmR T u v
theorem PE_fr {r T n u v u1 v1} (h : PE r T n u v) (h1 : frO u u1) (h2 : frT v v1) : PE r T n u1 v1 := by
  unfold PE HpR NmR
  rw [h1.2.2.2 800 (by decide), h1.2.2.2 801 (by decide), h1.2.2.2 200 (by decide), h1.1 202 (by decide) (by decide), h2.2.2.2 13 (by decide), h2.2.2.2 14 (by decide), h2.2.2.2 19 (by decide)]
  exact h
theorem Stk_2 {r T D u v u1 v1} (h : Stk r T D u v) (h1 : frO2 u u1) (h2 : frT2 v v1) : Stk r T D u1 v1 := by
  unfold Stk
  rw [h1.2.1, h1.2.2, h2.2]
  exact h
def Fin2 (u v u1 v1 : St) : Prop := frO u u1 ∧ frT v v1 ∧ ∃ B, OutC u1 B ∧ OutR v1 B
theorem Fin2_tr {u v u0 v0 u1 v1} (h1 : frO u u0) (h2 : frT v v0) (h : Fin2 u0 v0 u1 v1) : Fin2 u v u1 v1 := ⟨frO_tr h1 h.1, frT_tr h2 h.2.1, h.2.2⟩
def ctR (K : St → Prop) (f : Nat) : Int32 → Int64 → St → Prop := fun (y15 : Int32) (y16 : Int64) (u17 : St) => ((y15 ≤ 0 → l_X10_printAll_13 K f y15 y16 (0 : Int32) u17) ∧ (¬ y15 ≤ 0 → l_X10_printAll_13 K f y15 y16 (1 : Int32) u17))
theorem tk_full {B cs : List Nat} (h : B.length = 400) : (B ++ cs).take 400 = B := by
  rw [List.take_append_of_le_length (by omega), List.take_of_length_le (by omega)]
theorem l13_off {K : St → Prop} {f : Nat} {x3 : Int32} {x4 : Int64} {v : St} (h : K v) : l_X10_printAll_13 K (f + 1) x3 x4 0 v := by
  unfold l_X10_printAll_13
  exact sq rfl h
theorem l13_full {K : St → Prop} {f : Nat} {x3 : Int32} {x4 : Int64} {v : St} {B : List Nat} (hO : OutR v B) (hB : B.length = 400) (h : K v) : l_X10_printAll_13 K (f + 1) x3 x4 1 v := by
  unfold l_X10_printAll_13
  exact sf (by decide) (sq (by rw [hO.1, hB]; decide) h)
theorem l17_full {N : Nat → Nat} {K : St → Prop} {f : Nat} {x3 : Int32} {u : St} {B : List Nat} (hO : OutC u B) (hB : B.length = 400) (h : K u) : l_X4_print_17 N K (f + 1) x3 u := by
  unfold l_X4_print_17
  exact ⟨fun _ => h, fun _ => ⟨fun _ => h, fun _ => sq (by rw [hO.1, hB]; decide) h⟩⟩
/-- the end of a list on both sides -/
theorem end_both {N : Nat → Nat} {r T n} {u v : St} {B : List Nat} {x y : Int64} (hn : n ≤ 1000) (hP : PE r T n u v) (hC : OutC u B) (hR : OutR v B) (ho : (∃ m : Int32, x = nC m ∧ y = nR m) ∨ (∃ k : Nat, k < T ∧ x = aC k ∧ y = aR k)) : ∃ cs u1 v1, 1 ≤ cs.length ∧ (∀ c ∈ cs, gd c) ∧ OutC u1 ((B ++ cs).take 400) ∧ OutR v1 ((B ++ cs).take 400) ∧ frO2 u u1 ∧ frT2 v v1 ∧ (∀ Q : St → Prop, Q u1 → wp_X4_printEnd N x u Q) ∧ (∀ Q : St → Prop, Q v1 → ((y = (4294967296 : Int64) → wp_X10_put (41 : Int32) v Q) ∧ (¬ y = (4294967296 : Int64) → wp_X10_put (32 : Int32) v (fun (u10 : St) => wp_X10_put (46 : Int32) u10 (fun (u11 : St) => wp_X10_put (32 : Int32) u11 (fun (u12 : St) => wp_X10_putAtom y u12 (fun (u13 : St) => wp_X10_put (41 : Int32) u13 Q))))))) := by
  obtain ⟨p1, p2, p3, p4, p5⟩ := id hP
  have ho2 : ob r T x y := by
    rcases ho with h | h
    · exact Or.inl h
    · exact Or.inr (Or.inl h)
  have hE : x = (1099511627776 : Int64) ↔ y = (4294967296 : Int64) := obE p1 p3 hn ho2 (ob_a (k := 0) (by omega))
  by_cases hz : x = (1099511627776 : Int64)
  · obtain ⟨u1, a1, a2, a3, a4⟩ := putC (N := N) (c := 41) hC (by omega)
    obtain ⟨v1, b1, b2, b3⟩ := putR (c := 41) hR
    exact ⟨[41], u1, v1, by simp, fun c hc => by rw [List.mem_singleton.mp hc]; decide, a1, b1, a2, b2, fun Q hQ => sq hz (a4 _ hQ), fun Q hQ => sq (hE.mp hz) (b3 _ hQ)⟩
  · obtain ⟨u1, a1, a2, a3, a4⟩ := putC (N := N) (c := 32) hC (by omega)
    obtain ⟨v1, b1, b2, b3⟩ := putR (c := 32) hR
    obtain ⟨u2, c1, c2, c3, c4⟩ := putC (N := N) (c := 46) a1 (by omega)
    obtain ⟨v2, d1, d2, d3⟩ := putR (c := 46) b1
    rw [tk] at c1 d1
    obtain ⟨u3, e1, e2, e3, e4⟩ := putC (N := N) (c := 32) c1 (by omega)
    obtain ⟨v3, f1, f2, f3⟩ := putR (c := 32) d1
    rw [tk] at e1 f1
    have g1 := frO2_tr (frO2_tr a2 c2) e2
    have g2 := frT2_tr (frT2_tr b2 d2) f2
    obtain ⟨q1, q2, q3, q4, q5⟩ := PE_fr hP g1.1 g2.1
    obtain ⟨cs, u4, v4, h1, h2, h3, h4, h5, h6, h7, h8⟩ := atom_both (N := N) e1 f1 q2 q3 q5 ho
    rw [tk] at h3 h4
    obtain ⟨u5, i1, i2, i3, i4⟩ := putC (N := N) (c := 41) h3 (by omega)
    obtain ⟨v5, j1, j2, j3⟩ := putR (c := 41) h4
    rw [tk] at i1 j1
    refine ⟨[32] ++ ([46] ++ ([32] ++ (cs ++ [41]))), u5, v5, by simp, fun c hc => ?_, ?_, ?_, frO2_tr (frO2_tr g1 h5) i2, frT2_tr (frT2_tr g2 h6) j2, fun Q hQ => sf hz (a4 _ (c4 _ (e4 _ (h7 _ (i4 _ hQ))))), fun Q hQ => sf (fun e => hz (hE.mpr e)) (b3 _ (d3 _ (f3 _ (h8 _ (j3 _ hQ)))))⟩
    · simp only [List.mem_append, List.mem_singleton] at hc
      rcases hc with rfl | rfl | rfl | hc | rfl
      · decide
      · decide
      · decide
      · exact h2 c hc
      · decide
    · have e : (B ++ ([32] ++ ([46] ++ ([32] ++ (cs ++ [41]))))) = B ++ [32] ++ [46] ++ [32] ++ cs ++ [41] := by simp
      rw [e]; exact i1
    · have e : (B ++ ([32] ++ ([46] ++ ([32] ++ (cs ++ [41]))))) = B ++ [32] ++ [46] ++ [32] ++ cs ++ [41] := by simp
      rw [e]; exact j1
/-- the reference's closing loop, when nothing more can be printed -/
theorem full_R {N : Nat → Nat} {r T n} {u : St} (hn : n ≤ 1000) : ∀ (D : Nat) (v : St) (B : List Nat), D < 1000 → PE r T n u v → B.length = 400 → OutC u B → OutR v B → (∀ j, j < D → ∃ x, ob r T x (gB v 17 j)) → ∃ v1 k18, OutR v1 B ∧ frT v v1 ∧ ∀ (K : St → Prop) (f : Nat) (x4 : Int64), K v1 → l_X10_printAll_77 (ctR K (f + 1)) k18 (nI D) x4 (1 : Int32) v := by
  intro D
  induction D with
  | zero =>
    intro v B _ _ _ _ hO _
    refine ⟨v, 1, hO, frT_rf v, fun K f x4 hK => ?_⟩
    unfold l_X10_printAll_77
    exact sf (by decide) (sq (by decide) (sq (by decide) (l13_off hK)))
  | succ D ih =>
    intro v B hD hP hB hC hO hst
    obtain ⟨x, ho⟩ := hst D (by omega)
    have hun : ∀ (K : Int32 → Int64 → St → Prop) (f : Nat) (x4 : Int64), wp_X10_isPair (gB v 17 D) (fun (r3 : Int32) => ((r3 = 0 → ((gB v 17 D = (4294967296 : Int64) → wp_X10_put (41 : Int32) v (fun (u9 : St) => l_X10_printAll_77 K f (nI D) x4 (1 : Int32) u9)) ∧ (¬ gB v 17 D = (4294967296 : Int64) → wp_X10_put (32 : Int32) v (fun (u10 : St) => wp_X10_put (46 : Int32) u10 (fun (u11 : St) => wp_X10_put (32 : Int32) u11 (fun (u12 : St) => wp_X10_putAtom (gB v 17 D) u12 (fun (u13 : St) => wp_X10_put (41 : Int32) u13 (fun (u14 : St) => l_X10_printAll_77 K f (nI D) x4 (1 : Int32) u14)))))))) ∧ (¬ r3 = 0 → wp_X10_put (32 : Int32) v (fun (u4 : St) => wp_X10_first (gB v 17 D) u4 (fun (r5 : Int64) (u6 : St) => wp_X10_behind (gB v 17 D) u6 (fun (r7 : Int64) (u8 : St) => vp_in (nI D) 1000 ∧ l_X10_printAll_77 K f (nI (D + 1)) r5 (0 : Int32) (sB u8 17 (vp_updL (gB u8 17) D r7)))))))) → l_X10_printAll_77 K (f + 1) (nI (D + 1)) x4 (1 : Int32) v := fun K f x4 hq => by
      unfold l_X10_printAll_77
      rw [show nI (D + 1) - (1 : Int32) = nI D from nI_pred D, show nI (D + 1) + (-1 : Int32) = nI D from pk_m1 D, nI_clamp (show D < 2 ^ 31 by omega)]
      exact sf (by decide) (sf (nI_nle (by omega) (by omega)) ⟨vp_in_nI (by omega) (by omega), hq⟩)
    rcases id ho with h | h | ⟨c, d, hr, _, e2⟩
    · obtain ⟨cs, u1, v1, g1, g2, g3, g4, g5, g6, g7, g8⟩ := end_both (N := N) hn hP hC hO (Or.inl h)
      rw [tk_full hB] at g3 g4
      obtain ⟨v2, k18, h1, h2, h3⟩ := ih v1 B (by omega) (PE_fr hP (frO_rf u) g6.1) hB hC g4 (fun j hj => by rw [g6.2]; exact hst j (by omega))
      refine ⟨v2, k18 + 1, h1, frT_tr g6.1 h2, fun K f x4 hK => hun _ _ _ ?_⟩
      have hk := g8 _ (h3 K f x4 hK)
      obtain ⟨z, _, e⟩ := h
      rw [e] at hk ⊢
      exact rPair_n (sq rfl hk)
    · obtain ⟨cs, u1, v1, g1, g2, g3, g4, g5, g6, g7, g8⟩ := end_both (N := N) hn hP hC hO (Or.inr h)
      rw [tk_full hB] at g3 g4
      obtain ⟨v2, k18, h1, h2, h3⟩ := ih v1 B (by omega) (PE_fr hP (frO_rf u) g6.1) hB hC g4 (fun j hj => by rw [g6.2]; exact hst j (by omega))
      refine ⟨v2, k18 + 1, h1, frT_tr g6.1 h2, fun K f x4 hK => hun _ _ _ ?_⟩
      have hk := g8 _ (h3 K f x4 hK)
      have hT := hP.2.2.1
      obtain ⟨z, hz, _, e⟩ := h
      rw [e] at hk ⊢
      exact rPair_a (by omega) (sq rfl hk)
    · have a1 := hP.1.1 _ _ hr
      obtain ⟨v1, b1, b2, b3⟩ := putR (c := 32) hO
      rw [tk_full hB] at b1
      refine ⟨sB v1 17 (vp_updL (gB v1 17) D (gB v1 14 d)), 2, b1, frT_tr b2.1 ⟨fun _ _ => rfl, fun _ => rfl, fun _ _ => rfl, fun k hk => by rw [gB_sB, if_neg hk]⟩, fun K f x4 hK => hun _ _ _ ?_⟩
      rw [e2]
      refine rPair_p a1.2 (sf (by decide) (b3 _ (first_p a1.2 (behind_p a1.2 ⟨vp_in_nI (by omega) (by omega), ?_⟩))))
      unfold l_X10_printAll_77
      exact sq rfl (sf (nI_nle (by omega) (by omega)) (l13_full b1 hB hK))
/-- the class's beginning, when nothing more can be printed -/
theorem full_C {N : Nat → Nat} {r T n D} {u v : St} {B : List Nat} {x y : Int64} (hn : n ≤ 1000) (hP : PE r T n u v) (hB : B.length = 400) (hC : OutC u B) (hR : OutR v B) (hD : gI u 705 = nI D) (hD4 : D < 400) (ho : ob r T x y) : ∃ u1, OutC u1 B ∧ frO u u1 ∧ ∀ (K : St → Prop) (f : Nat) (x3 : Int32), K u1 → wp_X4_printBeginning N x u (fun u8 => l_X4_print_17 N K (f + 1) x3 u8) := by
  obtain ⟨p1, p2, p3, p4, p5⟩ := id hP
  rcases ho with h | h | ⟨c, d, hr, rfl, rfl⟩
  · obtain ⟨cs, u1, v1, g1, g2, g3, g4, g5, g6, g7, g8⟩ := atom_both (N := N) hC hR p2 p3 p5 (Or.inl h)
    rw [tk_full hB] at g3
    refine ⟨u1, g3, g5.1, fun K f x3 hK => ?_⟩
    have hk := g7 (fun u8 => l_X4_print_17 N K (f + 1) x3 u8) (l17_full g3 hB hK)
    obtain ⟨z, e, _⟩ := h
    rw [e] at hk ⊢
    exact isPair_n (sq rfl hk)
  · obtain ⟨cs, u1, v1, g1, g2, g3, g4, g5, g6, g7, g8⟩ := atom_both (N := N) hC hR p2 p3 p5 (Or.inr h)
    rw [tk_full hB] at g3
    refine ⟨u1, g3, g5.1, fun K f x3 hK => ?_⟩
    have hk := g7 (fun u8 => l_X4_print_17 N K (f + 1) x3 u8) (l17_full g3 hB hK)
    obtain ⟨z, hz, e, _⟩ := h
    rw [e] at hk ⊢
    exact isPair_a (by omega) (sq rfl hk)
  · have a1 := p1.1 _ _ hr
    obtain ⟨u1, b1, b2, b3, b4⟩ := putC (N := N) (c := 40) hC (by omega)
    rw [tk_full hB] at b1
    refine ⟨sI (sB u1 703 (vp_updL (gB u1 703) D (pC c))) 705 (nI (D + 1)), b1, frO_tr b2.1 ⟨fun k a _ => by rw [gI_sI, if_neg a]; rfl, fun _ => rfl, fun _ _ _ => rfl, fun k hk => by rw [gB_sI, gB_sB, if_neg hk]⟩, fun K f x3 hK => isPair_p (by omega) (sf (by decide) (sf ?_ (b4 _ ?_)))⟩
    · rw [hD]; exact nI_ge (a := D) (b := 400) (by omega) (by omega)
    · rw [b2.2.1, hD, nI_clamp (show D < 2 ^ 31 by omega), nI_1]
      refine ⟨vp_in_nI (by omega) (by omega), l17_full (B := B) ?_ hB hK⟩
      exact b1
