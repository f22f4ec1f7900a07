abbrev St : Type := (Nat → Int32) × (Nat → Int64) × (Nat → Nat → Int32) × (Nat → Nat → Int64)
abbrev Gd : Type := (Nat → Nat) × (Nat → Nat) × (Nat → ClassId)
def gI (u : St) (k : Nat) : Int32 := u.1 k
def gJ (u : St) (k : Nat) : Int64 := u.2.1 k
def gA (u : St) (k : Nat) : Nat → Int32 := u.2.2.1 k
def gB (u : St) (k : Nat) : Nat → Int64 := u.2.2.2 k
def sI (u : St) (k : Nat) (v : Int32) : St := (va_up u.1 k v, u.2)
def sJ (u : St) (k : Nat) (v : Int64) : St := (u.1, va_up u.2.1 k v, u.2.2)
def sA (u : St) (k : Nat) (f : Nat → Int32) : St := (u.1, u.2.1, va_up u.2.2.1 k f, u.2.2.2)
def sB (u : St) (k : Nat) (f : Nat → Int64) : St := (u.1, u.2.1, u.2.2.1, va_up u.2.2.2 k f)
def vz (r : Int32) : Prop := r = 0 ∨ r = 1
theorem vz_0 : vz 0 := Or.inl rfl
theorem vz_1 : vz 1 := Or.inr rfl
theorem vz_n {r : Int32} (h : vz r) : narrow .boolean (.int r) = .int r := by rcases h with rfl | rfl <;> rfl
theorem vz_f {r : Int32} (h : vz r) : fits .boolean (.int r) = true := by rcases h with rfl | rfl <;> rfl
def Ev (D : va_G) (tys : List (ClassId × FieldType)) (p : Program) (s : State) (m : MethodId) (c : Code) (cc : ByteArray) (own : String) (args : Array Value) : Prop :=
  p.tables.exec = Jvm.exec ∧ c.code = cc ∧ s.vm.findClass own = some m.cls ∧ (∀ w ∈ WS, w.before args s = true) ∧ va_K D vwCl tys s
def wC (G : Gd) (u : St) : va_W := [(G.1 0, .inr (8, [.ref (G.1 1), .ref (G.1 2), .ref (G.1 3), .ref (G.1 4), .ref (G.1 5), .ref (G.1 6), .ref (G.1 7), .int (gI u 7)])), (G.1 1, .inr (6, [.ref (G.1 9), .int (gI u 101), .int (gI u 102), .int (gI u 103)])), (G.1 2, .inr (3, [.ref (G.1 10), .ref (G.1 11), .int (gI u 202), .int (gI u 203)])), (G.1 3, .inr (7, [.ref (G.1 12), .ref (G.1 13), .ref (G.1 14), .int (gI u 303), .int (gI u 304)])), (G.1 4, .inr (1, [.ref (G.1 8), .ref (G.1 2), .ref (G.1 3), .ref (G.1 15)])), (G.1 5, .inr (5, [.ref (G.1 1), .ref (G.1 2), .ref (G.1 8), .ref (G.1 4), .ref (G.1 16), .ref (G.1 17), .ref (G.1 18), .ref (G.1 19), .ref (G.1 20), .int (gI u 509), .int (gI u 510), .int (gI u 511), .int (gI u 512), .long (gJ u 513)])), (G.1 6, .inr (2, [.ref (G.1 8), .ref (G.1 2), .ref (G.1 3), .ref (G.1 4), .int (gI u 604), .ref (G.1 21), .int (gI u 606), .int (gI u 607), .int (gI u 608), .int (gI u 609), .long (gJ u 610), .long (gJ u 611), .long (gJ u 612), .long (gJ u 613), .long (gJ u 614)])), (G.1 7, .inr (4, [.ref (G.1 8), .ref (G.1 2), .ref (G.1 22), .ref (G.1 23), .ref (G.1 24), .int (gI u 705), .int (gI u 706)])), (G.1 8, .inr (0, [.ref (G.1 25), .ref (G.1 26), .ref (G.1 27), .ref (G.1 28), .ref (G.1 29), .int (gI u 805), .int (gI u 806), .int (gI u 807)])), (G.1 9, .inl (G.2.2 9, 2000, .inl (gA u 100))), (G.1 10, .inl (G.2.2 10, 150, .inr (.inl (gB u 200)))), (G.1 11, .inl (G.2.2 11, 150, .inr (.inl (gB u 201)))), (G.1 12, .inl (G.2.2 12, G.2.1 300, .inl (gA u 300))), (G.1 13, .inl (G.2.2 13, G.2.1 301, .inl (gA u 301))), (G.1 14, .inl (G.2.2 14, G.2.1 302, .inr (.inl (gB u 302)))), (G.1 15, .inl (G.2.2 15, 2, .inr (.inl (gB u 403)))), (G.1 16, .inl (G.2.2 16, 2000, .inr (.inl (gB u 504)))), (G.1 17, .inl (G.2.2 17, 60, .inl (gA u 505))), (G.1 18, .inl (G.2.2 18, 60, .inr (.inl (gB u 506)))), (G.1 19, .inl (G.2.2 19, 60, .inr (.inl (gB u 507)))), (G.1 20, .inl (G.2.2 20, 0, .inr (.inl (gB u 508)))), (G.1 21, .inl (G.2.2 21, 8, .inr (.inl (gB u 605)))), (G.1 22, .inl (G.2.2 22, 400, .inl (gA u 702))), (G.1 23, .inl (G.2.2 23, 400, .inr (.inl (gB u 703)))), (G.1 24, .inl (G.2.2 24, 12, .inl (gA u 704))), (G.1 25, .inl (G.2.2 25, G.2.1 800, .inr (.inl (gB u 800)))), (G.1 26, .inl (G.2.2 26, G.2.1 801, .inr (.inl (gB u 801)))), (G.1 27, .inl (G.2.2 27, G.2.1 802, .inl (gA u 802))), (G.1 28, .inl (G.2.2 28, G.2.1 803, .inr (.inl (gB u 803)))), (G.1 29, .inl (G.2.2 29, G.2.1 804, .inl (gA u 804)))]
def tyC (G : Gd) : List (ClassId × FieldType) := [(G.2.2 9, .char), (G.2.2 10, .long), (G.2.2 11, .long), (G.2.2 12, .int), (G.2.2 13, .int), (G.2.2 14, .long), (G.2.2 15, .long), (G.2.2 16, .long), (G.2.2 17, .int), (G.2.2 18, .long), (G.2.2 19, .long), (G.2.2 20, .long), (G.2.2 21, .long), (G.2.2 22, .char), (G.2.2 23, .long), (G.2.2 24, .char), (G.2.2 25, .long), (G.2.2 26, .long), (G.2.2 27, .int), (G.2.2 28, .long), (G.2.2 29, .int)]
theorem wC_D {A : Nat → Prop} {G : Gd} {u v : St} (h : va_D A (wC G u)) : va_D A (wC G v) := by
  have e : (wC G v).map Prod.fst = (wC G u).map Prod.fst := rfl
  have key : ∀ (k : Nat) (q : Nat × va_E), (wC G v)[k]? = some q → ∃ q0, (wC G u)[k]? = some q0 ∧ q0.1 = q.1 := by
    intro k q hk
    have h1 : ((wC G v).map Prod.fst)[k]? = some q.1 := by rw [List.getElem?_map, hk]; rfl
    rw [e, List.getElem?_map] at h1
    cases h2 : (wC G u)[k]? with
    | none => rw [h2] at h1; cases h1
    | some q0 => rw [h2] at h1; exact ⟨q0, rfl, Option.some.inj h1⟩
  refine ⟨fun i j x y hi hj hxy => ?_, fun k q hk => ?_⟩
  · obtain ⟨x0, a1, a2⟩ := key i x hi
    obtain ⟨y0, b1, b2⟩ := key j y hj
    exact h.1 i j x0 y0 a1 b1 (a2.trans (hxy.trans b2.symm))
  · obtain ⟨q0, a1, a2⟩ := key k q hk
    rw [← a2]; exact h.2 k q0 a1
def wR (G : Gd) (u : St) : va_W := [(G.1 0, .inr (9, [.int (gI u 0), .int (gI u 1), .int (gI u 2), .int (gI u 3), .ref (G.1 1), .int (gI u 5), .int (gI u 6), .int (gI u 7), .int (gI u 8), .int (gI u 9), .int (gI u 10), .ref (G.1 2), .int (gI u 12), .ref (G.1 3), .ref (G.1 4), .ref (G.1 5), .int (gI u 16), .ref (G.1 6), .int (gI u 18), .ref (G.1 7), .ref (G.1 8), .int (gI u 21), .ref (G.1 9), .int (gI u 23), .int (gI u 24), .int (gI u 25), .ref (G.1 10), .ref (G.1 11), .ref (G.1 12), .int (gI u 29), .int (gI u 30), .long (gJ u 31), .int (gI u 32), .ref (G.1 13), .ref (G.1 14), .ref (G.1 15), .ref (G.1 16), .ref (G.1 17), .ref (G.1 18), .int (gI u 39), .long (gJ u 40), .long (gJ u 41), .ref (G.1 19), .int (gI u 43)])), (G.1 1, .inl (G.2.2 1, 2000, .inl (gA u 4))), (G.1 2, .inl (G.2.2 2, 400, .inl (gA u 11))), (G.1 3, .inl (G.2.2 3, 1000, .inr (.inl (gB u 13)))), (G.1 4, .inl (G.2.2 4, 1000, .inr (.inl (gB u 14)))), (G.1 5, .inl (G.2.2 5, 1000, .inl (gA u 15))), (G.1 6, .inl (G.2.2 6, 1000, .inr (.inl (gB u 17)))), (G.1 7, .inl (G.2.2 7, 150, .inr (.inl (gB u 19)))), (G.1 8, .inl (G.2.2 8, 150, .inr (.inl (gB u 20)))), (G.1 9, .inl (G.2.2 9, 150, .inr (.inl (gB u 22)))), (G.1 10, .inl (G.2.2 10, 61, .inl (gA u 26))), (G.1 11, .inl (G.2.2 11, 61, .inr (.inl (gB u 27)))), (G.1 12, .inl (G.2.2 12, 61, .inl (gA u 28))), (G.1 13, .inl (G.2.2 13, 200, .inl (gA u 33))), (G.1 14, .inl (G.2.2 14, 200, .inr (.inl (gB u 34)))), (G.1 15, .inl (G.2.2 15, 200, .inr (.inl (gB u 35)))), (G.1 16, .inl (G.2.2 16, 200, .inr (.inl (gB u 36)))), (G.1 17, .inl (G.2.2 17, 200, .inl (gA u 37))), (G.1 18, .inl (G.2.2 18, 1600, .inr (.inl (gB u 38)))), (G.1 19, .inl (G.2.2 19, 8, .inr (.inl (gB u 42))))]
def tyR (G : Gd) : List (ClassId × FieldType) := [(G.2.2 1, .int), (G.2.2 2, .int), (G.2.2 3, .long), (G.2.2 4, .long), (G.2.2 5, .boolean), (G.2.2 6, .long), (G.2.2 7, .long), (G.2.2 8, .long), (G.2.2 9, .long), (G.2.2 10, .int), (G.2.2 11, .long), (G.2.2 12, .int), (G.2.2 13, .int), (G.2.2 14, .long), (G.2.2 15, .long), (G.2.2 16, .long), (G.2.2 17, .int), (G.2.2 18, .long), (G.2.2 19, .long)]
theorem wR_D {A : Nat → Prop} {G : Gd} {u v : St} (h : va_D A (wR G u)) : va_D A (wR G v) := by
  have e : (wR G v).map Prod.fst = (wR G u).map Prod.fst := rfl
  have key : ∀ (k : Nat) (q : Nat × va_E), (wR G v)[k]? = some q → ∃ q0, (wR G u)[k]? = some q0 ∧ q0.1 = q.1 := by
    intro k q hk
    have h1 : ((wR G v).map Prod.fst)[k]? = some q.1 := by rw [List.getElem?_map, hk]; rfl
    rw [e, List.getElem?_map] at h1
    cases h2 : (wR G u)[k]? with
    | none => rw [h2] at h1; cases h1
    | some q0 => rw [h2] at h1; exact ⟨q0, rfl, Option.some.inj h1⟩
  refine ⟨fun i j x y hi hj hxy => ?_, fun k q hk => ?_⟩
  · obtain ⟨x0, a1, a2⟩ := key i x hi
    obtain ⟨y0, b1, b2⟩ := key j y hj
    exact h.1 i j x0 y0 a1 b1 (a2.trans (hxy.trans b2.symm))
  · obtain ⟨q0, a1, a2⟩ := key k q hk
    rw [← a2]; exact h.2 k q0 a1
def wN (G : Gd) (u : St) : va_W := [(G.1 0, .inr (3, [.ref (G.1 1), .ref (G.1 2), .int (gI u 2), .int (gI u 3)])), (G.1 1, .inl (G.2.2 1, 150, .inr (.inl (gB u 0)))), (G.1 2, .inl (G.2.2 2, 150, .inr (.inl (gB u 1))))]
def tyN (G : Gd) : List (ClassId × FieldType) := [(G.2.2 1, .long), (G.2.2 2, .long)]
theorem wN_D {A : Nat → Prop} {G : Gd} {u v : St} (h : va_D A (wN G u)) : va_D A (wN G v) := by
  have e : (wN G v).map Prod.fst = (wN G u).map Prod.fst := rfl
  have key : ∀ (k : Nat) (q : Nat × va_E), (wN G v)[k]? = some q → ∃ q0, (wN G u)[k]? = some q0 ∧ q0.1 = q.1 := by
    intro k q hk
    have h1 : ((wN G v).map Prod.fst)[k]? = some q.1 := by rw [List.getElem?_map, hk]; rfl
    rw [e, List.getElem?_map] at h1
    cases h2 : (wN G u)[k]? with
    | none => rw [h2] at h1; cases h1
    | some q0 => rw [h2] at h1; exact ⟨q0, rfl, Option.some.inj h1⟩
  refine ⟨fun i j x y hi hj hxy => ?_, fun k q hk => ?_⟩
  · obtain ⟨x0, a1, a2⟩ := key i x hi
    obtain ⟨y0, b1, b2⟩ := key j y hj
    exact h.1 i j x0 y0 a1 b1 (a2.trans (hxy.trans b2.symm))
  · obtain ⟨q0, a1, a2⟩ := key k q hk
    rw [← a2]; exact h.2 k q0 a1
