/-! PURE: lists without repetition -/
theorem nd_inj {f : Nat → Nat → Prop} (hinj : ∀ x z y, f x y → f z y → x = z) : ∀ (l1 l2 : List Nat), l1.Nodup → (∀ x ∈ l1, ∃ y ∈ l2, f x y) → l1.length ≤ l2.length := by
  intro l1
  induction l1 with
  | nil => intro l2 _ _; exact Nat.zero_le _
  | cons x l1 ih =>
    intro l2 hn h
    obtain ⟨y, hy, hxy⟩ := h x List.mem_cons_self
    obtain ⟨hx, hn1⟩ := List.nodup_cons.mp hn
    have h1 := ih (l2.erase y) hn1 (fun z hz => by
      obtain ⟨w, hw, hzw⟩ := h z (List.mem_cons_of_mem _ hz)
      refine ⟨w, (List.mem_erase_of_ne ?_).mpr hw, hzw⟩
      intro e
      subst e
      exact hx (hinj x z w hxy hzw ▸ hz))
    have h2 := List.length_erase_of_mem hy
    have h3 : 0 < l2.length := List.length_pos_of_mem hy
    simp only [List.length_cons]
    omega
theorem nd_le {l : List Nat} {n : Nat} (h : l.Nodup) (hb : ∀ x ∈ l, x < n) : l.length ≤ n := by
  have := nd_inj (f := fun x y => x = y) (fun x z y h1 h2 => h1.trans h2.symm) l (List.range n) h (fun x hx => ⟨x, List.mem_range.mpr (hb x hx), rfl⟩)
  rwa [List.length_range] at this
theorem nd_eq {f : Nat → Nat → Prop} (i1 : ∀ x z y, f x y → f z y → x = z) (i2 : ∀ x y w, f x y → f x w → y = w) {l1 l2 : List Nat} (h1 : l1.Nodup) (h2 : l2.Nodup) (t1 : ∀ x ∈ l1, ∃ y ∈ l2, f x y) (t2 : ∀ y ∈ l2, ∃ x ∈ l1, f x y) : l1.length = l2.length :=
  Nat.le_antisymm (nd_inj i1 l1 l2 h1 t1) (nd_inj (f := fun y x => f x y) (fun y w x a b => i2 x y w a b) l2 l1 h2 t2)
/-! the relation of objects: T names are known, r pairs cells of the class with cells of the reference -/
def ob (r : Nat → Nat → Prop) (T : Nat) (x y : Int64) : Prop := (∃ n : Int32, x = nC n ∧ y = nR n) ∨ (∃ k : Nat, k < T ∧ x = aC k ∧ y = aR k) ∨ (∃ c d : Nat, r c d ∧ x = pC c ∧ y = pR d)
/-- r is a bijection between cells, closed under both parts; rk falls along them -/
def hp (r : Nat → Nat → Prop) (T n : Nat) (ca cd : Nat → Int64) (ra rd : Nat → Int64) : Prop :=
  (∀ c d, r c d → c < n ∧ d < 1000) ∧ (∀ c d e, r c d → r c e → d = e) ∧ (∀ c b d, r c d → r b d → c = b) ∧ (∀ c d, r c d → ob r T (ca c) (ra d) ∧ ob r T (cd c) (rd d))
def fall (r : Nat → Nat → Prop) (ca cd : Nat → Int64) (rk : Nat → Nat) : Prop := ∀ c d, r c d → ∀ b, (ca c = pC b ∨ cd c = pC b) → rk b < rk c
theorem aC_ne_n {k : Nat} (hk : k < 150) {n : Int32} : nC n ≠ aC k := fun e => by
  have h1 := nC_lt n (k := 1099511627776) (by decide) (by decide)
  rw [e] at h1
  exact aC_nlt (m := 1099511627776) (by omega) (by omega) h1
theorem pC_ne_n {c : Nat} (hc : c < 1000) {n : Int32} : nC n ≠ pC c := fun e => by
  have h1 := nC_lt n (k := 1099511627776) (by decide) (by decide)
  rw [e] at h1
  exact pC_nlt (m := 1099511627776) (by omega) (by omega) h1
theorem aC_inj {k j : Nat} (hk : k < 150) (hj : j < 150) (e : aC k = aC j) : k = j := by
  have := (pk_lEQ (a := 1099511627776 + k) (b := 1099511627776 + j) (by omega) (by omega)).mp e
  omega
theorem aR_inj {k j : Nat} (hk : k < 150) (hj : j < 150) (e : aR k = aR j) : k = j := by
  have := (pk_lEQ (a := 4294967296 + k) (b := 4294967296 + j) (by omega) (by omega)).mp e
  omega
theorem pC_inj {c b : Nat} (hc : c < 1000) (hb : b < 1000) (e : pC c = pC b) : c = b := by
  have := (pk_lEQ (a := 2199023255552 + c) (b := 2199023255552 + b) (by omega) (by omega)).mp e
  omega
theorem pR_inj {c b : Nat} (hc : c < 1000) (hb : b < 1000) (e : pR c = pR b) : c = b := by
  have := (pk_lEQ (a := 8589934592 + c) (b := 8589934592 + b) (by omega) (by omega)).mp e
  omega
theorem pC_ne_a {c k : Nat} (hc : c < 1000) (hk : k < 150) : aC k ≠ pC c := fun e => by
  have := (pk_lEQ (a := 1099511627776 + k) (b := 2199023255552 + c) (by omega) (by omega)).mp e
  omega
theorem pR_ne_a {c k : Nat} (hc : c < 1000) (hk : k < 150) : aR k ≠ pR c := fun e => by
  have := (pk_lEQ (a := 4294967296 + k) (b := 8589934592 + c) (by omega) (by omega)).mp e
  omega
theorem aR_ne_n {k : Nat} (hk : k < 150) {n : Int32} : nR n ≠ aR k := fun e => by
  rw [nR_eq] at e
  have h1 := nR_lt n
  have := (pk_lEQ (a := n.toBitVec.toNat) (b := 4294967296 + k) (by omega) (by omega)).mp e
  omega
theorem pR_ne_n {c : Nat} (hc : c < 1000) {n : Int32} : nR n ≠ pR c := fun e => by
  rw [nR_eq] at e
  have h1 := nR_lt n
  have := (pk_lEQ (a := n.toBitVec.toNat) (b := 8589934592 + c) (by omega) (by omega)).mp e
  omega
/-- related objects are told apart alike -/
theorem ob_eq {r : Nat → Nat → Prop} {T n : Nat} (hT : T ≤ 150) (hn : n ≤ 1000) (hb : ∀ c d, r c d → c < n ∧ d < 1000) (i1 : ∀ c d e, r c d → r c e → d = e) (i2 : ∀ c b d, r c d → r b d → c = b) {x y a b : Int64} (h1 : ob r T x y) (h2 : ob r T a b) : x = a ↔ y = b := by
  rcases h1 with ⟨m, rfl, rfl⟩ | ⟨k, hk, rfl, rfl⟩ | ⟨c, d, hr, rfl, rfl⟩ <;> rcases h2 with ⟨m2, rfl, rfl⟩ | ⟨k2, hk2, rfl, rfl⟩ | ⟨c2, d2, hr2, rfl, rfl⟩
  · exact ⟨fun e => by rw [nC_inj e], fun e => by rw [nR_inj e]⟩
  · exact ⟨fun e => absurd e (aC_ne_n (by omega)), fun e => absurd e (aR_ne_n (by omega))⟩
  · have := hb _ _ hr2
    exact ⟨fun e => absurd e (pC_ne_n (by omega)), fun e => absurd e (pR_ne_n (by omega))⟩
  · exact ⟨fun e => absurd e.symm (aC_ne_n (by omega)), fun e => absurd e.symm (aR_ne_n (by omega))⟩
  · exact ⟨fun e => by rw [aC_inj (by omega) (by omega) e], fun e => by rw [aR_inj (by omega) (by omega) e]⟩
  · have := hb _ _ hr2
    exact ⟨fun e => absurd e (pC_ne_a (by omega) (by omega)), fun e => absurd e (pR_ne_a (by omega) (by omega))⟩
  · have := hb _ _ hr
    exact ⟨fun e => absurd e.symm (pC_ne_n (by omega)), fun e => absurd e.symm (pR_ne_n (by omega))⟩
  · have := hb _ _ hr
    exact ⟨fun e => absurd e.symm (pC_ne_a (by omega) (by omega)), fun e => absurd e.symm (pR_ne_a (by omega) (by omega))⟩
  · have h3 := hb _ _ hr
    have h4 := hb _ _ hr2
    refine ⟨fun e => ?_, fun e => ?_⟩
    · have := pC_inj (by omega) (by omega) e
      subst this
      rw [i1 _ _ _ hr hr2]
    · have := pR_inj (by omega) (by omega) e
      subst this
      rw [i2 _ _ _ hr hr2]
