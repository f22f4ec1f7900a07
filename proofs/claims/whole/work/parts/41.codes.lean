/-! PURE: reading and writing the state -/
theorem gI_sI (u : St) (k j : Nat) (v : Int32) : gI (sI u k v) j = if j = k then v else gI u j := rfl
theorem gI_sJ (u : St) (k j : Nat) (v : Int64) : gI (sJ u k v) j = gI u j := rfl
theorem gI_sA (u : St) (k j : Nat) (f : Nat → Int32) : gI (sA u k f) j = gI u j := rfl
theorem gI_sB (u : St) (k j : Nat) (f : Nat → Int64) : gI (sB u k f) j = gI u j := rfl
theorem gJ_sI (u : St) (k j : Nat) (v : Int32) : gJ (sI u k v) j = gJ u j := rfl
theorem gJ_sJ (u : St) (k j : Nat) (v : Int64) : gJ (sJ u k v) j = if j = k then v else gJ u j := rfl
theorem gJ_sA (u : St) (k j : Nat) (f : Nat → Int32) : gJ (sA u k f) j = gJ u j := rfl
theorem gJ_sB (u : St) (k j : Nat) (f : Nat → Int64) : gJ (sB u k f) j = gJ u j := rfl
theorem gA_sI (u : St) (k j : Nat) (v : Int32) : gA (sI u k v) j = gA u j := rfl
theorem gA_sJ (u : St) (k j : Nat) (v : Int64) : gA (sJ u k v) j = gA u j := rfl
theorem gA_sA (u : St) (k j : Nat) (f : Nat → Int32) : gA (sA u k f) j = if j = k then f else gA u j := rfl
theorem gA_sB (u : St) (k j : Nat) (f : Nat → Int64) : gA (sB u k f) j = gA u j := rfl
theorem gB_sI (u : St) (k j : Nat) (v : Int32) : gB (sI u k v) j = gB u j := rfl
theorem gB_sJ (u : St) (k j : Nat) (v : Int64) : gB (sJ u k v) j = gB u j := rfl
theorem gB_sA (u : St) (k j : Nat) (f : Nat → Int32) : gB (sA u k f) j = gB u j := rfl
theorem gB_sB (u : St) (k j : Nat) (f : Nat → Int64) : gB (sB u k f) j = if j = k then f else gB u j := rfl
/-! the codes of objects: class (C) and reference (R) -/
def nC (n : Int32) : Int64 := n.toInt64
def nR (n : Int32) : Int64 := n.toInt64 &&& 4294967295
def aC (k : Nat) : Int64 := lN (1099511627776 + k)
def aR (k : Nat) : Int64 := lN (4294967296 + k)
def pC (c : Nat) : Int64 := lN (2199023255552 + c)
def pR (d : Nat) : Int64 := lN (8589934592 + d)
theorem nC_toInt (n : Int32) : (nC n).toInt = n.toInt := by
  unfold nC; simp
theorem nC_lo (n : Int32) : -2147483648 ≤ (nC n).toInt ∧ (nC n).toInt < 2147483648 := by
  rw [nC_toInt]
  have h1 := Int32.le_toInt n
  have h2 := Int32.toInt_lt n
  constructor <;> omega
theorem nR_eq (n : Int32) : nR n = lN n.toBitVec.toNat := by
  unfold nR
  obtain ⟨m, hm, e⟩ := wb_of n.toInt64
  have h1 : n.toInt64.toBitVec.toNat = m := by rw [e, wb_tn hm]
  have h2 : n.toInt64.toBitVec = n.toBitVec.signExtend 64 := by simp
  rw [h2, BitVec.toNat_signExtend] at h1
  have h3 : n.toBitVec.toNat < 2 ^ 32 := n.toBitVec.isLt
  rw [e, show (4294967295 : Int64) = lN (2 ^ 32 - 1) from rfl, wb_mask hm (by decide)]
  congr 1
  rw [BitVec.toNat_setWidth] at h1
  split at h1 <;> omega
theorem nR_lt (n : Int32) : n.toBitVec.toNat < 4294967296 := n.toBitVec.isLt
theorem nC_inj {a b : Int32} (h : nC a = nC b) : a = b := by
  have := congrArg Int64.toInt h
  rw [nC_toInt, nC_toInt] at this
  exact Int32.toInt_inj.mp this
theorem nR_inj {a b : Int32} (h : nR a = nR b) : a = b := by
  rw [nR_eq, nR_eq] at h
  have h1 := nR_lt a
  have h2 := nR_lt b
  have := (pk_lEQ (by omega) (by omega)).mp h
  exact Int32.toBitVec_inj.mp (BitVec.eq_of_toNat_eq this)
theorem nR_back (n : Int32) : (nR n).toInt32 = n := by
  rw [nR_eq, lN_i]
  apply Int32.toBitVec_inj.mp
  show BitVec.ofNat 32 _ = _
  simp
theorem nC_back (n : Int32) : (nC n).toInt32 = n := by unfold nC; simp
/-- the code of an object of the class: its kind, told by tests -/
theorem nC_lt (n : Int32) {k : Nat} (h1 : 2147483648 ≤ k) (h2 : k < 2 ^ 63) : nC n < lN k := by
  rw [Int64.lt_iff_toInt_lt, pk_lT h2]
  have := nC_lo n
  omega
theorem aC_lt {k m : Nat} (h : 1099511627776 + k < m) (h2 : m < 2 ^ 63) : aC k < lN m := (pk_lLT (by omega) h2).mpr h
theorem aC_nlt {k m : Nat} (h : m ≤ 1099511627776 + k) (h2 : 1099511627776 + k < 2 ^ 63) : ¬ aC k < lN m := fun h3 => by
  have := (pk_lLT h2 (by omega)).mp h3
  omega
theorem pC_nlt {c m : Nat} (h : m ≤ 2199023255552 + c) (h2 : 2199023255552 + c < 2 ^ 63) : ¬ pC c < lN m := fun h3 => by
  have := (pk_lLT h2 (by omega)).mp h3
  omega
theorem pC_lt {c m : Nat} (h : 2199023255552 + c < m) (h2 : m < 2 ^ 63) : pC c < lN m := (pk_lLT (by omega) h2).mpr h
/-! Word: the kinds -/
theorem isNumber_n {n : Int32} {Q : Int32 → Prop} (h : Q 1) : wp_X8_isNumber (nC n) Q := ⟨fun c => absurd (nC_lt n (k := 1099511627776) (by decide) (by decide)) (Int64.not_lt.mpr c), fun _ => h⟩
theorem isNumber_a {k : Nat} {Q : Int32 → Prop} (hk : k < 150) (h : Q 0) : wp_X8_isNumber (aC k) Q := ⟨fun _ => h, fun c => absurd (Int64.not_lt.mp (aC_nlt (m := 1099511627776) (by omega) (by omega))) c⟩
theorem isNumber_p {c : Nat} {Q : Int32 → Prop} (hc : c < 1000) (h : Q 0) : wp_X8_isNumber (pC c) Q := ⟨fun _ => h, fun d => absurd (Int64.not_lt.mp (pC_nlt (m := 1099511627776) (by omega) (by omega))) d⟩
theorem isPair_n {n : Int32} {Q : Int32 → Prop} (h : Q 0) : wp_X8_isPair (nC n) Q := ⟨fun _ => h, fun c => absurd (nC_lt n (k := 2199023255552) (by decide) (by decide)) c⟩
theorem isPair_a {k : Nat} {Q : Int32 → Prop} (hk : k < 150) (h : Q 0) : wp_X8_isPair (aC k) Q := ⟨fun _ => h, fun c => absurd (aC_lt (m := 2199023255552) (by omega) (by omega)) c⟩
theorem isPair_p {c : Nat} {Q : Int32 → Prop} (hc : c < 1000) (h : Q 1) : wp_X8_isPair (pC c) Q := ⟨fun d => absurd d (pC_nlt (m := 2199023255552) (by omega) (by omega)), fun _ => ⟨fun d => absurd (pC_lt (m := 3298534883328) (by omega) (by omega)) (Int64.not_lt.mpr d), fun _ => h⟩⟩
theorem isName_n {n : Int32} {Q : Int32 → Prop} (h : Q 0) : wp_X8_isName (nC n) Q := ⟨fun _ => h, fun c => absurd (nC_lt n (k := 1099511627776) (by decide) (by decide)) c⟩
theorem isName_a {k : Nat} {Q : Int32 → Prop} (hk : k < 150) (h : Q 1) : wp_X8_isName (aC k) Q := ⟨fun d => absurd d (aC_nlt (m := 1099511627776) (by omega) (by omega)), fun _ => ⟨fun d => absurd (aC_lt (m := 2199023255552) (by omega) (by omega)) (Int64.not_lt.mpr d), fun _ => h⟩⟩
theorem isName_p {c : Nat} {Q : Int32 → Prop} (hc : c < 1000) (h : Q 0) : wp_X8_isName (pC c) Q := ⟨fun d => absurd d (pC_nlt (m := 1099511627776) (by omega) (by omega)), fun _ => ⟨fun _ => h, fun d => absurd (Int64.not_lt.mp (pC_nlt (m := 2199023255552) (by omega) (by omega))) d⟩⟩
/-! the reference's tests -/
theorem rPair_n {n : Int32} {Q : Int32 → Prop} (h : Q 0) : wp_X10_isPair (nR n) Q := ⟨fun _ => h, fun c => absurd (by rw [nR_eq]; exact (pk_lLT (b := 8589934592) (by have := nR_lt n; omega) (by omega)).mpr (by have := nR_lt n; omega)) c⟩
theorem rPair_a {k : Nat} {Q : Int32 → Prop} (hk : k < 150) (h : Q 0) : wp_X10_isPair (aR k) Q := ⟨fun _ => h, fun c => absurd ((pk_lLT (b := 8589934592) (by omega) (by omega)).mpr (by omega)) c⟩
theorem rPair_p {d : Nat} {Q : Int32 → Prop} (hd : d < 1000) (h : Q 1) : wp_X10_isPair (pR d) Q := ⟨fun c => absurd ((pk_lLT (b := 8589934592) (by omega) (by omega)).mp c) (by omega), fun _ => h⟩
theorem rNumber_n {n : Int32} {Q : Int32 → Prop} (h : Q 1) : wp_X10_isNumber (nR n) Q := by
  have h1 := nR_lt n
  rw [nR_eq]
  exact ⟨fun c => absurd ((pk_lLT (b := 0) (by omega) (by omega)).mp c) (by omega), fun _ => ⟨fun c => absurd ((pk_lLE (a := 4294967296) (by omega) (by omega)).mp c) (by omega), fun _ => h⟩⟩
theorem rNumber_a {k : Nat} {Q : Int32 → Prop} (hk : k < 150) (h : Q 0) : wp_X10_isNumber (aR k) Q := ⟨fun _ => h, fun _ => ⟨fun _ => h, fun c => absurd ((pk_lLE (a := 4294967296) (by omega) (by omega)).mpr (by omega)) c⟩⟩
theorem rNumber_p {d : Nat} {Q : Int32 → Prop} (hd : d < 1000) (h : Q 0) : wp_X10_isNumber (pR d) Q := ⟨fun _ => h, fun _ => ⟨fun _ => h, fun c => absurd ((pk_lLE (a := 4294967296) (by omega) (by omega)).mpr (by omega)) c⟩⟩
theorem rName_n {n : Int32} {Q : Int32 → Prop} (h : Q 0) : wp_X10_isName (nR n) Q := ⟨fun _ => h, fun c => absurd (by rw [nR_eq]; exact (pk_lLT (b := 4294967296) (by have := nR_lt n; omega) (by omega)).mpr (nR_lt n)) c⟩
theorem rName_a {k : Nat} {Q : Int32 → Prop} (hk : k < 150) (h : Q 1) : wp_X10_isName (aR k) Q := ⟨fun c => absurd ((pk_lLT (b := 4294967296) (by omega) (by omega)).mp c) (by omega), fun _ => ⟨fun c => absurd ((pk_lLE (a := 8589934592) (by omega) (by omega)).mp c) (by omega), fun _ => h⟩⟩
theorem rName_p {d : Nat} {Q : Int32 → Prop} (hd : d < 1000) (h : Q 0) : wp_X10_isName (pR d) Q := ⟨fun _ => h, fun _ => ⟨fun _ => h, fun c => absurd ((pk_lLE (a := 8589934592) (by omega) (by omega)).mpr (by omega)) c⟩⟩
/-- the cell of a pair -/
theorem pC_cell {c : Nat} (hc : c < 1000) : (pC c - (2199023255552 : Int64)).toInt32 = nI c := by
  unfold pC
  rw [show (2199023255552 : Int64) = lN 2199023255552 from rfl, lN_sub (by omega), lN_i]
  rw [Nat.add_sub_cancel_left]
theorem pR_cell {d : Nat} (hd : d < 1000) : (pR d - (8589934592 : Int64)).toInt32 = nI d := by
  unfold pR
  rw [show (8589934592 : Int64) = lN 8589934592 from rfl, lN_sub (by omega), lN_i]
  rw [Nat.add_sub_cancel_left]
theorem aC_place {k : Nat} (hk : k < 150) : (aC k - (1099511627776 : Int64)).toInt32 = nI k := by
  unfold aC
  rw [show (1099511627776 : Int64) = lN 1099511627776 from rfl, lN_sub (by omega), lN_i]
  rw [Nat.add_sub_cancel_left]
theorem aR_place {k : Nat} (hk : k < 150) : (aR k - (4294967296 : Int64)).toInt32 = nI k := by
  unfold aR
  rw [show (4294967296 : Int64) = lN 4294967296 from rfl, lN_sub (by omega), lN_i]
  rw [Nat.add_sub_cancel_left]
