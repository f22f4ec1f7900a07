/-! PURE: lists on both sides -/
def Lst (r : Nat → Nat → Prop) (u v : St) : Nat → Int64 → Int64 → Prop
  | 0, x, y => x = aC 0 ∧ y = aR 0
  | m + 1, x, y => ∃ c d, r c d ∧ x = pC c ∧ y = pR d ∧ Lst r u v m (gB u 801 c) (gB v 14 d)
def Lnm (r : Nat → Nat → Prop) (T : Nat) (u v : St) : Nat → Int64 → Int64 → Prop
  | 0, x, y => x = aC 0 ∧ y = aR 0
  | m + 1, x, y => ∃ c d k, r c d ∧ x = pC c ∧ y = pR d ∧ k < T ∧ gB u 800 c = aC k ∧ gB v 13 d = aR k ∧ Lnm r T u v m (gB u 801 c) (gB v 14 d)
theorem ob_a {r : Nat → Nat → Prop} {T k : Nat} (h : k < T) : ob r T (aC k) (aR k) := Or.inr (Or.inl ⟨k, h, rfl, rfl⟩)
theorem obE {r T n} {u v : St} (h : HpR r T n u v) (hT : T ≤ 150) (hn : n ≤ 1000) {x y a b : Int64} (h1 : ob r T x y) (h2 : ob r T a b) : x = a ↔ y = b := ob_eq hT hn h.1 h.2.1 h.2.2.1 h1 h2
theorem Lst_pair {r T n} {u v : St} (h : HpR r T n u v) (hn : n ≤ 1000) {m c d : Nat} (hr : r c d) : Lst r u v (m + 1) (pC c) (pR d) ↔ Lst r u v m (gB u 801 c) (gB v 14 d) := by
  refine ⟨fun ⟨c2, d2, h2, e1, e2, h3⟩ => ?_, fun h3 => ⟨c, d, hr, rfl, rfl, h3⟩⟩
  have a1 := h.1 _ _ hr
  have a2 := h.1 _ _ h2
  rw [pC_inj (by omega) (by omega) e1, pR_inj (by omega) (by omega) e2]
  exact h3
theorem listOf_both {N : Nat → Nat} {r T n t} {u v : St} (hN : LN N n t) (h : HpR r T n u v) (hT : T ≤ 150) (hT0 : 0 < T) (m : Nat) (hm : m < 100) : ∀ (d i : Nat) (x y : Int64), i + d = m → ob r T x y → ∃ b : Int32, ((b = 0 ∧ ¬ Lst r u v d x y) ∨ (b = 1 ∧ Lst r u v d x y)) ∧ (∀ Q : Int32 → St → Prop, Q b u → l_X0_isListOf_6 N Q (nI m) (fun (y4 : Int64) (u5 : St) => ((y4 = (1099511627776 : Int64) → Q (1 : Int32) u5) ∧ (¬ y4 = (1099511627776 : Int64) → Q (0 : Int32) u5))) (d + 1) x (nI i) u) ∧ (∀ Q : Int32 → St → Prop, Q b v → l_X10_listOf_6 Q (nI m) (fun (y4 : Int64) (u5 : St) => ((y4 = (4294967296 : Int64) → Q (1 : Int32) u5) ∧ (¬ y4 = (4294967296 : Int64) → Q (0 : Int32) u5))) (d + 1) y (nI i) v) := by
  have hn := hN.2.2.2.2.2.2.2.2.1
  intro d
  induction d with
  | zero =>
    intro i x y hi ho
    obtain rfl : i = m := by omega
    have he := obE h hT hn ho (ob_a (k := 0) hT0)
    by_cases hx : x = aC 0
    · refine ⟨1, Or.inr ⟨rfl, hx, he.mp hx⟩, fun Q hQ => ?_, fun Q hQ => ?_⟩
      · unfold l_X0_isListOf_6
        exact ⟨fun _ => ⟨fun _ => hQ, fun h => absurd hx h⟩, fun c => absurd (nI_le (Nat.le_refl _) (by omega)) c⟩
      · unfold l_X10_listOf_6
        exact ⟨fun _ => ⟨fun _ => hQ, fun h => absurd (he.mp hx) h⟩, fun c => absurd (nI_le (Nat.le_refl _) (by omega)) c⟩
    · refine ⟨0, Or.inl ⟨rfl, fun h => hx h.1⟩, fun Q hQ => ?_, fun Q hQ => ?_⟩
      · unfold l_X0_isListOf_6
        exact ⟨fun _ => ⟨fun h => absurd h hx, fun _ => hQ⟩, fun c => absurd (nI_le (Nat.le_refl _) (by omega)) c⟩
      · unfold l_X10_listOf_6
        exact ⟨fun _ => ⟨fun h => absurd (he.mpr h) hx, fun _ => hQ⟩, fun c => absurd (nI_le (Nat.le_refl _) (by omega)) c⟩
  | succ d ih =>
    intro i x y hi ho
    have hge : ¬ nI m ≤ nI i := nI_ge (by omega) (by omega)
    rcases ho with ⟨z, rfl, rfl⟩ | ⟨k, hk, rfl, rfl⟩ | ⟨c, e, hr, rfl, rfl⟩
    · refine ⟨0, Or.inl ⟨rfl, fun ⟨c, d, hr, e, _⟩ => pC_ne_n (by have := h.1 _ _ hr; omega) e⟩, fun Q hQ => ?_, fun Q hQ => ?_⟩
      · unfold l_X0_isListOf_6
        exact ⟨fun c => absurd c hge, fun _ => isPair_n ⟨fun _ => hQ, fun h => absurd rfl h⟩⟩
      · unfold l_X10_listOf_6
        exact ⟨fun c => absurd c hge, fun _ => rPair_n ⟨fun _ => hQ, fun h => absurd rfl h⟩⟩
    · refine ⟨0, Or.inl ⟨rfl, fun ⟨c, d, hr, e, _⟩ => pC_ne_a (by have := h.1 _ _ hr; omega) (by omega) e⟩, fun Q hQ => ?_, fun Q hQ => ?_⟩
      · unfold l_X0_isListOf_6
        exact ⟨fun c => absurd c hge, fun _ => isPair_a (by omega) ⟨fun _ => hQ, fun h => absurd rfl h⟩⟩
      · unfold l_X10_listOf_6
        exact ⟨fun c => absurd c hge, fun _ => rPair_a (by omega) ⟨fun _ => hQ, fun h => absurd rfl h⟩⟩
    · have a1 := h.1 _ _ hr
      obtain ⟨b, hb, q1, q2⟩ := ih (i + 1) (gB u 801 c) (gB v 14 e) (by omega) (h.2.2.2 c e hr).2
      refine ⟨b, ?_, fun Q hQ => ?_, fun Q hQ => ?_⟩
      · rcases hb with ⟨h1, h2⟩ | ⟨h1, h2⟩
        · exact Or.inl ⟨h1, fun h3 => h2 ((Lst_pair h hn hr).mp h3)⟩
        · exact Or.inr ⟨h1, (Lst_pair h hn hr).mpr h2⟩
      · unfold l_X0_isListOf_6
        exact ⟨fun c => absurd c hge, fun _ => isPair_p (by omega) ⟨fun h => absurd h (by decide), fun _ => cdr_p hN a1.1 (by rw [nI_1]; exact q1 Q hQ)⟩⟩
      · unfold l_X10_listOf_6
        exact ⟨fun c => absurd c hge, fun _ => rPair_p (by omega) ⟨fun h => absurd h (by decide), fun _ => behind_p a1.2 (by rw [nI_1]; exact q2 Q hQ)⟩⟩
theorem isListOf_1 {N : Nat → Nat} {r T n t} {u v : St} {m : Nat} {x y : Int64} (hN : LN N n t) (h : HpR r T n u v) (hT : T ≤ 150) (hT0 : 0 < T) (hm : m < 100) (ho : ob r T x y) (hl : Lst r u v m x y) {Q : Int32 → St → Prop} (hQ : Q 1 u) : wp_X0_isListOf N x (nI m) u Q := by
  obtain ⟨b, hb, q1, _⟩ := listOf_both hN h hT hT0 m hm m 0 x y (by omega) ho
  rcases hb with ⟨_, h2⟩ | ⟨rfl, _⟩
  · exact absurd hl h2
  · exact ⟨m + 1, q1 Q hQ⟩
theorem isListOf_0 {N : Nat → Nat} {r T n t} {u v : St} {m : Nat} {x y : Int64} (hN : LN N n t) (h : HpR r T n u v) (hT : T ≤ 150) (hT0 : 0 < T) (hm : m < 100) (ho : ob r T x y) (hl : ¬ Lst r u v m x y) {Q : Int32 → St → Prop} (hQ : Q 0 u) : wp_X0_isListOf N x (nI m) u Q := by
  obtain ⟨b, hb, q1, _⟩ := listOf_both hN h hT hT0 m hm m 0 x y (by omega) ho
  rcases hb with ⟨rfl, _⟩ | ⟨_, h2⟩
  · exact ⟨m + 1, q1 Q hQ⟩
  · exact absurd h2 hl
theorem listOf_1 {N : Nat → Nat} {r T n t} {u v : St} {m : Nat} {x y : Int64} (hN : LN N n t) (h : HpR r T n u v) (hT : T ≤ 150) (hT0 : 0 < T) (hm : m < 100) (ho : ob r T x y) (hl : Lst r u v m x y) {Q : Int32 → St → Prop} (hQ : Q 1 v) : wp_X10_listOf y (nI m) v Q := by
  obtain ⟨b, hb, _, q1⟩ := listOf_both hN h hT hT0 m hm m 0 x y (by omega) ho
  rcases hb with ⟨_, h2⟩ | ⟨rfl, _⟩
  · exact absurd hl h2
  · exact ⟨m + 1, q1 Q hQ⟩
theorem listOf_0 {N : Nat → Nat} {r T n t} {u v : St} {m : Nat} {x y : Int64} (hN : LN N n t) (h : HpR r T n u v) (hT : T ≤ 150) (hT0 : 0 < T) (hm : m < 100) (ho : ob r T x y) (hl : ¬ Lst r u v m x y) {Q : Int32 → St → Prop} (hQ : Q 0 v) : wp_X10_listOf y (nI m) v Q := by
  obtain ⟨b, hb, _, q1⟩ := listOf_both hN h hT hT0 m hm m 0 x y (by omega) ho
  rcases hb with ⟨rfl, _⟩ | ⟨_, h2⟩
  · exact ⟨m + 1, q1 Q hQ⟩
  · exact absurd h2 hl
/-! the spine of a list -/
def Spn (r : Nat → Nat → Prop) (T : Nat) (u v : St) : List (Nat × Nat) → Int64 → Int64 → Prop
  | [], x, y => (∃ m : Int32, x = nC m ∧ y = nR m) ∨ (∃ k : Nat, k < T ∧ x = aC k ∧ y = aR k)
  | p :: L, x, y => r p.1 p.2 ∧ x = pC p.1 ∧ y = pR p.2 ∧ Spn r T u v L (gB u 801 p.1) (gB v 14 p.2)
theorem spine_ex {r T n} {u v : St} (h : HpR r T n u v) (hs : SP r u) (hn : n ≤ 1000) {x y : Int64} (ho : ob r T x y) : ∃ L, Spn r T u v L x y ∧ L.length ≤ n := by
  obtain ⟨rk, hrk⟩ := hs
  have key : ∀ (R : Nat) (x y : Int64), ob r T x y → (∀ c, c < 1000 → x = pC c → rk c < R) → ∃ L, Spn r T u v L x y ∧ (∀ p ∈ L, rk p.1 < R) ∧ (L.map Prod.fst).Nodup ∧ (∀ p ∈ L, p.1 < n) := by
    intro R
    induction R using Nat.strongRecOn with
    | ind R ih =>
      intro x y ho hR
      rcases ho with ho | ho | ⟨c, d, hr, rfl, rfl⟩
      · exact ⟨[], Or.inl ho, fun p hp => absurd hp List.not_mem_nil, List.nodup_nil, fun p hp => absurd hp List.not_mem_nil⟩
      · exact ⟨[], Or.inr ho, fun p hp => absurd hp List.not_mem_nil, List.nodup_nil, fun p hp => absurd hp List.not_mem_nil⟩
      · have a1 := h.1 _ _ hr
        have hc := hR c (by omega) rfl
        obtain ⟨L, l1, l2, l3, l4⟩ := ih (rk c) hc (gB u 801 c) (gB v 14 d) (h.2.2.2 c d hr).2 (fun b hb e => hrk c d hr b hb e)
        refine ⟨(c, d) :: L, ⟨hr, rfl, rfl, l1⟩, fun p hp => ?_, ?_, fun p hp => ?_⟩
        · rcases List.mem_cons.mp hp with rfl | hp
          · exact hc
          · exact Nat.lt_trans (l2 p hp) hc
        · refine List.nodup_cons.mpr ⟨fun hm => ?_, l3⟩
          obtain ⟨p, hp, e⟩ := List.mem_map.mp hm
          have := l2 p hp
          rw [e] at this
          exact absurd this (Nat.lt_irrefl _)
        · rcases List.mem_cons.mp hp with rfl | hp
          · exact a1.1
          · exact l4 p hp
  have hex : ∃ R, ∀ c, c < 1000 → x = pC c → rk c < R := by
    by_cases hx : ∃ b, b < 1000 ∧ x = pC b
    · obtain ⟨b, hb, e⟩ := hx
      exact ⟨rk b + 1, fun b2 hb3 e2 => by rw [pC_inj hb3 hb (e2.symm.trans e)]; omega⟩
    · exact ⟨0, fun b hb e => absurd ⟨b, hb, e⟩ hx⟩
  obtain ⟨R, hR⟩ := hex
  obtain ⟨L, l1, _, l3, l4⟩ := key R x y ho hR
  refine ⟨L, l1, ?_⟩
  have := nd_le l3 (n := n) (fun c hc => by
    obtain ⟨p, hp, e⟩ := List.mem_map.mp hc
    rw [← e]
    exact l4 p hp)
  rwa [List.length_map] at this
theorem Lnm_pair {r T n} {u v : St} (h : HpR r T n u v) (hn : n ≤ 1000) {m c d : Nat} (hr : r c d) : Lnm r T u v (m + 1) (pC c) (pR d) ↔ (∃ k, k < T ∧ gB u 800 c = aC k ∧ gB v 13 d = aR k) ∧ Lnm r T u v m (gB u 801 c) (gB v 14 d) := by
  refine ⟨fun ⟨c2, d2, k, h2, e1, e2, hk, h4, h5, h3⟩ => ?_, fun ⟨⟨k, hk, h4, h5⟩, h3⟩ => ⟨c, d, k, hr, rfl, rfl, hk, h4, h5, h3⟩⟩
  have a1 := h.1 _ _ hr
  have a2 := h.1 _ _ h2
  rw [pC_inj (by omega) (by omega) e1, pR_inj (by omega) (by omega) e2]
  exact ⟨⟨k, hk, h4, h5⟩, h3⟩
theorem isNames_C {N : Nat → Nat} {r T n t} {u v : St} (hN : LN N n t) (h : HpR r T n u v) (hT : T ≤ 150) (hT0 : 0 < T) (m : Nat) (hm : m < 100) : ∀ (d i : Nat) (x y : Int64), i + d = m → ob r T x y → ∃ b : Int32, ((b = 0 ∧ ¬ Lnm r T u v d x y) ∨ (b = 1 ∧ Lnm r T u v d x y)) ∧ (∀ Q : Int32 → St → Prop, Q b u → l_X0_isListOfNames_6 N Q (nI m) (fun (y7 : Int64) (u8 : St) => ((y7 = (1099511627776 : Int64) → Q (1 : Int32) u8) ∧ (¬ y7 = (1099511627776 : Int64) → Q (0 : Int32) u8))) (d + 1) x (nI i) u) := by
  have hn := hN.2.2.2.2.2.2.2.2.1
  intro d
  induction d with
  | zero =>
    intro i x y hi ho
    obtain rfl : i = m := by omega
    have he := obE h hT hn ho (ob_a (k := 0) hT0)
    by_cases hx : x = aC 0
    · refine ⟨1, Or.inr ⟨rfl, hx, he.mp hx⟩, fun Q hQ => ?_⟩
      unfold l_X0_isListOfNames_6
      exact ⟨fun _ => ⟨fun _ => hQ, fun h => absurd hx h⟩, fun c => absurd (nI_le (Nat.le_refl _) (by omega)) c⟩
    · refine ⟨0, Or.inl ⟨rfl, fun h => hx h.1⟩, fun Q hQ => ?_⟩
      unfold l_X0_isListOfNames_6
      exact ⟨fun _ => ⟨fun h => absurd h hx, fun _ => hQ⟩, fun c => absurd (nI_le (Nat.le_refl _) (by omega)) c⟩
  | succ d ih =>
    intro i x y hi ho
    have hge : ¬ nI m ≤ nI i := nI_ge (by omega) (by omega)
    rcases ho with ⟨z, rfl, rfl⟩ | ⟨k, hk, rfl, rfl⟩ | ⟨c, e, hr, rfl, rfl⟩
    · refine ⟨0, Or.inl ⟨rfl, fun ⟨c, d, k, hr, e, _⟩ => pC_ne_n (by have := h.1 _ _ hr; omega) e⟩, fun Q hQ => ?_⟩
      unfold l_X0_isListOfNames_6
      exact ⟨fun c => absurd c hge, fun _ => isPair_n ⟨fun _ => hQ, fun h => absurd rfl h⟩⟩
    · refine ⟨0, Or.inl ⟨rfl, fun ⟨c, d, k, hr, e, _⟩ => pC_ne_a (by have := h.1 _ _ hr; omega) (by omega) e⟩, fun Q hQ => ?_⟩
      unfold l_X0_isListOfNames_6
      exact ⟨fun c => absurd c hge, fun _ => isPair_a (by omega) ⟨fun _ => hQ, fun h => absurd rfl h⟩⟩
    · have a1 := h.1 _ _ hr
      have hno : ∀ Q : Int32 → St → Prop, (wp_X8_isName (gB u 800 c) (fun (r4 : Int32) => ((r4 = 0 → Q (0 : Int32) u) ∧ (¬ r4 = 0 → wp_X0_cdr N (pC c) u (fun (r5 : Int64) (u6 : St) => l_X0_isListOfNames_6 N Q (nI m) (fun (y7 : Int64) (u8 : St) => ((y7 = (1099511627776 : Int64) → Q (1 : Int32) u8) ∧ (¬ y7 = (1099511627776 : Int64) → Q (0 : Int32) u8))) (d + 1) r5 (nI (i + 1)) u6))))) → l_X0_isListOfNames_6 N Q (nI m) (fun (y7 : Int64) (u8 : St) => ((y7 = (1099511627776 : Int64) → Q (1 : Int32) u8) ∧ (¬ y7 = (1099511627776 : Int64) → Q (0 : Int32) u8))) (d + 1 + 1) (pC c) (nI i) u := fun Q hQ => by
        rw [l_X0_isListOfNames_6]
        exact ⟨fun c => absurd c hge, fun _ => isPair_p (by omega) ⟨fun h => absurd h (by decide), fun _ => car_p hN a1.1 (by rw [nI_1]; exact hQ)⟩⟩
      rcases (h.2.2.2 c e hr).1 with ⟨z, e1, e2⟩ | ⟨k, hk, e1, e2⟩ | ⟨c2, d2, hr2, e1, e2⟩
      · refine ⟨0, Or.inl ⟨rfl, fun h3 => ?_⟩, fun Q hQ => hno Q (by rw [e1]; exact isName_n ⟨fun _ => hQ, fun h => absurd rfl h⟩)⟩
        obtain ⟨⟨k, hk, h4, _⟩, _⟩ := (Lnm_pair h hn hr).mp h3
        exact aC_ne_n (by omega) (e1.symm.trans h4)
      · obtain ⟨b, hb, q1⟩ := ih (i + 1) (gB u 801 c) (gB v 14 e) (by omega) (h.2.2.2 c e hr).2
        refine ⟨b, ?_, fun Q hQ => hno Q (by rw [e1]; exact isName_a (by omega) ⟨fun h => absurd h (by decide), fun _ => cdr_p hN a1.1 (q1 Q hQ)⟩)⟩
        rcases hb with ⟨h1, h2⟩ | ⟨h1, h2⟩
        · exact Or.inl ⟨h1, fun h3 => h2 ((Lnm_pair h hn hr).mp h3).2⟩
        · exact Or.inr ⟨h1, (Lnm_pair h hn hr).mpr ⟨⟨k, hk, e1, e2⟩, h2⟩⟩
      · have a2 := h.1 _ _ hr2
        refine ⟨0, Or.inl ⟨rfl, fun h3 => ?_⟩, fun Q hQ => hno Q (by rw [e1]; exact isName_p (by omega) ⟨fun _ => hQ, fun h => absurd rfl h⟩)⟩
        obtain ⟨⟨k, hk, h4, _⟩, _⟩ := (Lnm_pair h hn hr).mp h3
        exact pC_ne_a (by omega) (by omega) (h4.symm.trans e1)
theorem namesIn_R {r T n} {u v : St} (h : HpR r T n u v) (hT : T ≤ 150) (hT0 : 0 < T) (hn : n ≤ 1000) : ∀ (L : List (Nat × Nat)) (i : Nat) (x y : Int64), Spn r T u v L x y → ∃ z : Int32, ((∃ p, p ≤ L.length ∧ z = nI (i + p) ∧ Lnm r T u v p x y) ∨ (z = -1 ∧ ∀ p, ¬ Lnm r T u v p x y)) ∧ (∀ Q : Int32 → St → Prop, Q z v → l_X10_namesIn_5 Q (fun (y7 : Int32) (y8 : Int64) (u9 : St) => ((y8 = (4294967296 : Int64) → Q y7 u9) ∧ (¬ y8 = (4294967296 : Int64) → Q (-1 : Int32) u9))) (L.length + 1) (nI i) y v) := by
  intro L
  induction L with
  | nil =>
    intro i x y hs
    have ho : ob r T x y := by
      rcases hs with h | h
      · exact Or.inl h
      · exact Or.inr (Or.inl h)
    have he := obE h hT hn ho (ob_a (k := 0) hT0)
    have hnp : ∀ Q : Int32 → Prop, Q 0 → wp_X10_isPair y Q := fun Q hQ => by
      rcases hs with ⟨m, _, rfl⟩ | ⟨k, hk, _, rfl⟩
      · exact rPair_n hQ
      · exact rPair_a (by omega) hQ
    have hn1 : ∀ p, ¬ Lnm r T u v (p + 1) x y := fun p ⟨c, d, k, hr, e, _⟩ => by
      have a1 := h.1 _ _ hr
      rcases hs with ⟨m, rfl, _⟩ | ⟨k, hk, rfl, _⟩
      · exact pC_ne_n (by omega) e
      · exact pC_ne_a (by omega) (by omega) e
    by_cases hx : x = aC 0
    · refine ⟨nI i, Or.inl ⟨0, Nat.le_refl _, by rw [Nat.add_zero], hx, he.mp hx⟩, fun Q hQ => ?_⟩
      unfold l_X10_namesIn_5
      exact hnp _ ⟨fun _ => ⟨fun _ => hQ, fun h => absurd (he.mp hx) h⟩, fun h => absurd rfl h⟩
    · refine ⟨-1, Or.inr ⟨rfl, fun p hp => ?_⟩, fun Q hQ => ?_⟩
      · cases p with
        | zero => exact hx hp.1
        | succ p => exact hn1 p hp
      · unfold l_X10_namesIn_5
        exact hnp _ ⟨fun _ => ⟨fun h => absurd (he.mpr h) hx, fun _ => hQ⟩, fun h => absurd rfl h⟩
  | cons p L ih =>
    intro i x y hs
    obtain ⟨hr, rfl, rfl, hs2⟩ := hs
    have a1 := h.1 _ _ hr
    have hno : ∀ Q : Int32 → St → Prop, (wp_X10_isName (gB v 13 p.2) (fun (r4 : Int32) => ((r4 = 0 → Q (-1 : Int32) v) ∧ (¬ r4 = 0 → wp_X10_behind (pR p.2) v (fun (r5 : Int64) (u6 : St) => l_X10_namesIn_5 Q (fun (y7 : Int32) (y8 : Int64) (u9 : St) => ((y8 = (4294967296 : Int64) → Q y7 u9) ∧ (¬ y8 = (4294967296 : Int64) → Q (-1 : Int32) u9))) (L.length + 1) (nI (i + 1)) r5 u6))))) → l_X10_namesIn_5 Q (fun (y7 : Int32) (y8 : Int64) (u9 : St) => ((y8 = (4294967296 : Int64) → Q y7 u9) ∧ (¬ y8 = (4294967296 : Int64) → Q (-1 : Int32) u9))) (L.length + 1 + 1) (nI i) (pR p.2) v := fun Q hQ => by
      rw [l_X10_namesIn_5]
      exact rPair_p a1.2 ⟨fun h => absurd h (by decide), fun _ => first_p a1.2 (by rw [nI_1]; exact hQ)⟩
    have hn0 : ¬ Lnm r T u v 0 (pC p.1) (pR p.2) := fun h0 => pC_ne_a (by omega) (by omega) h0.1.symm
    rcases (h.2.2.2 _ _ hr).1 with ⟨z, e1, e2⟩ | ⟨k, hk, e1, e2⟩ | ⟨c2, d2, hr2, e1, e2⟩
    · refine ⟨-1, Or.inr ⟨rfl, fun q hq => ?_⟩, fun Q hQ => hno Q (by rw [e2]; exact rName_n ⟨fun _ => hQ, fun h => absurd rfl h⟩)⟩
      cases q with
      | zero => exact hn0 hq
      | succ q =>
        obtain ⟨⟨k, hk, h4, _⟩, _⟩ := (Lnm_pair h hn hr).mp hq
        exact aC_ne_n (by omega) (e1.symm.trans h4)
    · obtain ⟨z, hz, q1⟩ := ih (i + 1) _ _ hs2
      refine ⟨z, ?_, fun Q hQ => hno Q (by rw [e2]; exact rName_a (by omega) ⟨fun h => absurd h (by decide), fun _ => behind_p a1.2 (q1 Q hQ)⟩)⟩
      rcases hz with ⟨q, hq, ez, hl⟩ | ⟨ez, hl⟩
      · exact Or.inl ⟨q + 1, by simp only [List.length_cons]; omega, by rw [ez]; congr 1; omega, (Lnm_pair h hn hr).mpr ⟨⟨k, hk, e1, e2⟩, hl⟩⟩
      · refine Or.inr ⟨ez, fun q hq => ?_⟩
        cases q with
        | zero => exact hn0 hq
        | succ q => exact hl q ((Lnm_pair h hn hr).mp hq).2
    · have a2 := h.1 _ _ hr2
      refine ⟨-1, Or.inr ⟨rfl, fun q hq => ?_⟩, fun Q hQ => hno Q (by rw [e2]; exact rName_p a2.2 ⟨fun _ => hQ, fun h => absurd rfl h⟩)⟩
      cases q with
      | zero => exact hn0 hq
      | succ q =>
        obtain ⟨⟨k, hk, h4, _⟩, _⟩ := (Lnm_pair h hn hr).mp hq
        exact pC_ne_a (by omega) (by omega) (h4.symm.trans e1)
theorem names_both {N : Nat → Nat} {r T n t} {u v : St} {m : Nat} {x y : Int64} (hN : LN N n t) (h : HpR r T n u v) (hs : SP r u) (hT : T ≤ 150) (hT0 : 0 < T) (hm : m < 100) (ho : ob r T x y) : (Lnm r T u v m x y ∧ (∀ Q : Int32 → St → Prop, Q 1 u → wp_X0_isListOfNames N x (nI m) u Q) ∧ (∀ Q : Int32 → St → Prop, Q (nI m) v → wp_X10_namesIn y v Q)) ∨ ((∀ Q : Int32 → St → Prop, Q 0 u → wp_X0_isListOfNames N x (nI m) u Q) ∧ (∃ z, z ≠ nI m ∧ ∀ Q : Int32 → St → Prop, Q z v → wp_X10_namesIn y v Q)) := by
  have hn := hN.2.2.2.2.2.2.2.2.1
  obtain ⟨L, hL, hl⟩ := spine_ex h hs hn ho
  obtain ⟨b, hb, q1⟩ := isNames_C hN h hT hT0 m hm m 0 x y (by omega) ho
  obtain ⟨z, hz, q2⟩ := namesIn_R h hT hT0 hn L 0 x y hL
  -- the number of names is one alone
  have huniq : ∀ (p q : Nat) (x y : Int64), Lnm r T u v p x y → Lnm r T u v q x y → p = q := by
    intro p
    induction p with
    | zero =>
      intro q x y h1 h2
      cases q with
      | zero => rfl
      | succ q =>
        obtain ⟨c, d, k, hr, e, _⟩ := h2
        have a1 := h.1 _ _ hr
        exact absurd (h1.1.symm.trans e) (pC_ne_a (by omega) (by omega))
    | succ p ih =>
      intro q x y h1 h2
      cases q with
      | zero =>
        obtain ⟨c, d, k, hr, e, _⟩ := h1
        have a1 := h.1 _ _ hr
        exact absurd (h2.1.symm.trans e) (pC_ne_a (by omega) (by omega))
      | succ q =>
        obtain ⟨c, d, k, hr, e1, e2, _, _, _, h3⟩ := h1
        subst e1
        subst e2
        rw [ih q _ _ h3 ((Lnm_pair h hn hr).mp h2).2]
  rcases hb with ⟨rfl, hb⟩ | ⟨rfl, hb⟩
  · refine Or.inr ⟨fun Q hQ => ⟨m + 1, q1 Q hQ⟩, z, ?_, fun Q hQ => ⟨L.length + 1, q2 Q hQ⟩⟩
    rcases hz with ⟨p, hp, e, h9⟩ | ⟨e, _⟩
    · intro e2
      rw [e] at e2
      have := (nI_eq (by omega) (by omega)).mp e2
      obtain rfl : p = m := by omega
      exact hb h9
    · intro e2
      rw [e] at e2
      have h1 : nI m < 0 := by rw [← e2]; decide
      exact nI_pos (by omega) h1
  · refine Or.inl ⟨hb, fun Q hQ => ⟨m + 1, q1 Q hQ⟩, fun Q hQ => ⟨L.length + 1, q2 Q ?_⟩⟩
    rcases hz with ⟨p, hp, e, h9⟩ | ⟨e, h9⟩
    · have := huniq p m x y h9 hb
      subst this
      rw [e, Nat.zero_add]
      exact hQ
    · exact absurd hb (h9 m)
