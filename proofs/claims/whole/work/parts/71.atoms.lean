/-! PURE: numbers and names in the text -/
theorem sI_sI (v : St) (k : Nat) (f g : Int32) : sI (sI v k f) k g = sI v k g := by
  unfold sI
  refine congrArg (fun z => (z, v.2)) ?_
  funext j
  show (if j = k then g else if j = k then f else v.1 j) = (if j = k then g else v.1 j)
  split <;> rfl
theorem sI_self (v : St) (k : Nat) (x : Int32) (h : gI v k = x) : sI v k x = v := by
  unfold sI
  have : va_up v.1 k x = v.1 := by
    funext j
    show (if j = k then x else v.1 j) = v.1 j
    split
    · rename_i e; rw [e]; exact h.symm
    · rfl
  rw [this]
theorem numC {N : Nat → Nat} {tx L p k k9} {c1 : Int32} (hp : p ≤ 2001) (hk : ∀ j, j < k → dg tx L (p + j)) (hnk : ¬ dg tx L (p + k)) (h9 : k9 = min k 9) : ∀ (d i : Nat) (u : St), i + d = k9 → TX tx L u → gI u 512 = nI (p + i) → ∀ K : Int32 → Int32 → St → Prop, K (nI k9) (nI (nv tx p k9)) (sI u 512 (nI (p + k9))) → l_X5_takeNumber_18 N c1 K (d + 1) (nI i) (nI (nv tx p i)) u := by
  intro d
  induction d with
  | zero =>
    intro i u hi ht h512 K hK
    obtain rfl : i = k9 := by omega
    rw [sI_self u 512 _ h512] at hK
    unfold l_X5_takeNumber_18
    by_cases h9k : 9 ≤ i
    · exact sq (nI_le (a := 9) h9k (by omega)) hK
    · obtain rfl : i = k := by omega
      refine sf (nI_ge (a := i) (b := 9) (by omega) (by omega)) ?_
      rw [h512]
      refine cD (Q := fun _ => True) ht (by omega) (fun c hc _ => hc _ (fun h => absurd h hnk) (fun _ => sq rfl hK))
  | succ d ih =>
    intro i u hi ht h512 K hK
    have hi9 : i < 9 := by omega
    have hdg := hk i (by omega)
    unfold l_X5_takeNumber_18
    refine sf (nI_ge (a := i) (b := 9) (by omega) (by omega)) ?_
    rw [h512]
    refine cD (Q := fun _ => True) ht (by omega) (fun c hc _ => hc _ (fun _ => sf (by decide) ?_) (fun h => absurd hdg h))
    rw [h512]
    refine cD (Q := fun _ => True) ht (by omega) (fun c hc he => ?_)
    rw [he hdg, nI_1, h512, nI_1]
    have e : (nI (nv tx p i) * (10 : Int32) + nI (tx (p + i))) - (48 : Int32) = nI (nv tx p (i + 1)) := by
      have h2 := hdg.2
      unfold dgc at h2
      rw [show nI (nv tx p i) * (10 : Int32) = nI (nv tx p i * 10) from pk_mul _ 10, nI_add, show nI (nv tx p i * 10 + tx (p + i)) - (48 : Int32) = nI (nv tx p i * 10 + tx (p + i) - 48) from pk_sub (b := 48) (by omega)]
      show nI _ = nI (nv tx p i * 10 + (tx (p + i) - 48))
      rw [show nv tx p i * 10 + tx (p + i) - 48 = nv tx p i * 10 + (tx (p + i) - 48) from by omega]
    rw [e]
    refine ih (i + 1) (sI u 512 (nI (p + i + 1))) (by omega) ht rfl K ?_
    rw [sI_sI]
    exact hK
theorem numR {tx L p k} {Q : Int32 → St → Prop} {c2 : Int32} {K : Int32 → Int64 → St → Prop} {v : St} (hp : p ≤ 2001) (ht : TXR tx L v) (hk : ∀ j, j < k → dg tx L (p + j)) (hnk : ¬ dg tx L (p + k)) (hK : k ≤ 9 → K (nI (p + k)) (lN (nv tx p k)) v) (hQ : 9 < k → Q ((-1 : Int32) - nI (p + 9)) v) : ∀ (d i : Nat), i + d = min k 9 → l_X10_atom_91 Q c2 (nI p) K (d + 1) (nI (p + i)) (lN (nv tx p i)) v := by
  have hsub : ∀ i, nI (p + i) - nI p = nI i := fun i => by rw [pk_sub (by omega), Nat.add_sub_cancel_left]
  intro d
  induction d with
  | zero =>
    intro i hi
    unfold l_X10_atom_91
    refine rD ht (by omega) (fun c hc _ => ?_)
    by_cases h9 : k ≤ 9
    · obtain rfl : i = k := by omega
      exact hc _ (fun h => absurd h hnk) (fun _ => sq rfl (hK h9))
    · obtain rfl : i = 9 := by omega
      refine hc _ (fun _ => sf (by decide) (sq ?_ (hQ (by omega)))) (fun h => absurd (hk 9 (by omega)) h)
      rw [hsub]; rfl
  | succ d ih =>
    intro i hi
    have hdg := hk i (by omega)
    unfold l_X10_atom_91
    refine rD ht (by omega) (fun c hc _ => hc _ (fun _ => sf (by decide) (sf ?_ ?_)) (fun h => absurd hdg h))
    · rw [hsub]
      exact fun e => absurd ((nI_eq (a := i) (b := 9) (by omega) (by omega)).mp e) (by omega)
    · refine rD ht (by omega) (fun c hc he => ?_)
      rw [he hdg, nI_1]
      have h2 := hdg.2
      unfold dgc at h2
      have e : (lN (nv tx p i) * (10 : Int64) + (nI (tx (p + i))).toInt64) - (48 : Int64) = lN (nv tx p (i + 1)) := by
        rw [nI_l (by omega), show lN (nv tx p i) * (10 : Int64) = lN (nv tx p i * 10) from lN_mul _ 10, lN_add, show lN (nv tx p i * 10 + tx (p + i)) - (48 : Int64) = lN (nv tx p i * 10 + tx (p + i) - 48) from lN_sub (b := 48) (by omega)]
        show lN _ = lN (nv tx p i * 10 + (tx (p + i) - 48))
        rw [show nv tx p i * 10 + tx (p + i) - 48 = nv tx p i * 10 + (tx (p + i) - 48) from by omega]
      rw [e]
      exact ih (i + 1) (by omega)
theorem nameC {N : Nat → Nat} {tx L p k k12} (hp : p ≤ 2001) (hk : ∀ j, j < k → 0 < lv tx L (p + j)) (hnk : ¬ 0 < lv tx L (p + k)) (h12 : k12 = min k 12) : ∀ (d i : Nat) (u : St), i + d = k12 → TX tx L u → gI u 512 = nI (p + i) → ∀ K : Int64 → St → Prop, K (lN (sv tx L p k12)) (sI u 512 (nI (p + k12))) → l_X5_takeName_4 N K (d + 1) (nI i) (lN (sv tx L p i)) u := by
  intro d
  induction d with
  | zero =>
    intro i u hi ht h512 K hK
    obtain rfl : i = k12 := by omega
    rw [sI_self u 512 _ h512] at hK
    unfold l_X5_takeName_4
    by_cases h9k : 12 ≤ i
    · exact sq (nI_le (a := 12) h9k (by omega)) hK
    · obtain rfl : i = k := by omega
      refine sf (nI_ge (a := i) (b := 12) (by omega) (by omega)) ?_
      rw [h512]
      refine cL ht (by omega) (fun c hc => hc _ (sq ?_ hK))
      rw [show lv tx L (p + i) = 0 from by omega]; decide
  | succ d ih =>
    intro i u hi ht h512 K hK
    have hdg := hk i (by omega)
    have hlt := lvt_lt tx L (p + i)
    unfold l_X5_takeName_4
    refine sf (nI_ge (a := i) (b := 12) (by omega) (by omega)) ?_
    rw [h512]
    refine cL ht (by omega) (fun c hc => hc _ (sf (nI_nle hdg (by omega)) ?_))
    rw [h512]
    refine cL ht (by omega) (fun c hc => hc _ ?_)
    rw [nI_1, h512, nI_1, nI_l (by omega), show lN (sv tx L p i) * (37 : Int64) = lN (sv tx L p i * 37) from lN_mul _ 37, lN_add]
    refine ih (i + 1) (sI u 512 (nI (p + i + 1))) (by omega) ht rfl K ?_
    rw [sI_sI]
    exact hK
theorem nameR {tx L p k} {Q : Int32 → St → Prop} {K : Int32 → Int64 → St → Prop} {v : St} (hp : p ≤ 2001) (ht : TXR tx L v) (hk : ∀ j, j < k → 0 < lv tx L (p + j)) (hnk : ¬ 0 < lv tx L (p + k)) (hK : k ≤ 12 → K (nI (p + k)) (lN (sv tx L p k)) v) (hQ : 12 < k → Q ((-1 : Int32) - nI (p + 12)) v) : ∀ (d i : Nat), i + d = min k 12 → l_X10_atom_23 Q (nI p) K (d + 1) (nI (p + i)) (lN (sv tx L p i)) v := by
  have hsub : ∀ i, nI (p + i) - nI p = nI i := fun i => by rw [pk_sub (by omega), Nat.add_sub_cancel_left]
  intro d
  induction d with
  | zero =>
    intro i hi
    unfold l_X10_atom_23
    refine rL ht (by omega) (fun c hc => hc _ ?_)
    have hlt := lvt_lt tx L (p + i)
    by_cases h9 : k ≤ 12
    · obtain rfl : i = k := by omega
      refine sq ?_ (hK h9)
      rw [show lv tx L (p + i) = 0 from by omega]; decide
    · obtain rfl : i = 12 := by omega
      refine sf (nI_nle (hk 12 (by omega)) (by omega)) (sq ?_ (hQ (by omega)))
      rw [hsub]; rfl
  | succ d ih =>
    intro i hi
    have hdg := hk i (by omega)
    have hlt := lvt_lt tx L (p + i)
    unfold l_X10_atom_23
    refine rL ht (by omega) (fun c hc => hc _ (sf (nI_nle hdg (by omega)) (sf ?_ ?_)))
    · rw [hsub]
      exact fun e => absurd ((nI_eq (a := i) (b := 12) (by omega) (by omega)).mp e) (by omega)
    · refine rL ht (by omega) (fun c hc => hc _ ?_)
      rw [nI_1, nI_l (by omega), show lN (sv tx L p i) * (37 : Int64) = lN (sv tx L p i * 37) from lN_mul _ 37, lN_add]
      exact ih (i + 1) (by omega)
def AtOK (tx : Nat → Nat) (L q p : Nat) (tv : Int64) : Prop := ∀ v, TXR tx L v → ∀ Q : Int32 → St → Prop, Q (nI p) (sJ v 31 tv) → wp_X10_atom (nI q) v Q
def AtBad (tx : Nat → Nat) (L q p : Nat) : Prop := ∀ v, TXR tx L v → ∀ Q : Int32 → St → Prop, Q ((-1 : Int32) - nI p) v → wp_X10_atom (nI q) v Q
/-- a number of the reference: from: where its digits begin; k: how many they are -/
theorem atom_num {tx L q from_ k} (hq : q < L) (hL : L ≤ 2000) (hc : ¬ (65 ≤ tx q ∧ tx q ≤ 90)) (hf : (tx q = 45 ∧ from_ = q + 1) ∨ (tx q ≠ 45 ∧ from_ = q)) (hk : ∀ j, j < k → dg tx L (from_ + j)) (hnk : ¬ dg tx L (from_ + k)) :
    (k = 0 → AtBad tx L q from_) ∧ (9 < k → AtBad tx L q (from_ + 9)) ∧ (0 < k → k ≤ 9 → AtOK tx L q (from_ + k) (nR (if tx q = 45 then -(nI (nv tx from_ k)) else nI (nv tx from_ k)))) := by
  have hfl : from_ ≤ 2001 := by omega
  -- the walk to the loop
  have walk : ∀ (v : St) (Q : Int32 → St → Prop), TXR tx L v → (9 < k → Q ((-1 : Int32) - nI (from_ + 9)) v) → (k ≤ 9 → ((nI (from_ + k) = nI from_ → Q ((-1 : Int32) - nI (from_ + k)) v) ∧ (¬ nI (from_ + k) = nI from_ → Q (nI (from_ + k)) (sJ v 31 (nR (if tx q = 45 then -(nI (nv tx from_ k)) else nI (nv tx from_ k))))))) → wp_X10_atom (nI q) v Q := fun v Q hv hb hg => by
    have hcc := (hv.2.2 q hq).2
    refine charAt_in hv hq ?_
    have i65 : (nI (tx q) < (65 : Int32)) ↔ tx q < 65 := lI (b := 65) (by omega) (by omega)
    have i90 : ((90 : Int32) < nI (tx q)) ↔ 90 < tx q := lI (a := 90) (by omega) (by omega)
    have i45 : (nI (tx q) = (45 : Int32)) ↔ tx q = 45 := nI_eq (b := 45) (by omega) (by omega)
    have hneg : (-(lN (nv tx from_ k))).toInt32 = -(nI (nv tx from_ k)) := by rw [Int64.toInt32_neg, lN_i]
    have core : ((nI (tx q) = (45 : Int32) → (∃ k19 : Nat, l_X10_atom_91 Q (nI (tx q)) (nI q + (1 : Int32)) (fun (y14 : Int32) (y15 : Int64) (u16 : St) => ((y14 = (nI q + (1 : Int32)) → Q ((-1 : Int32) - y14) u16) ∧ (¬ y14 = (nI q + (1 : Int32)) → ((nI (tx q) = (45 : Int32) → wp_X10_number (((-y15)).toInt32) (fun (r18 : Int64) => Q y14 (sJ u16 31 r18))) ∧ (¬ nI (tx q) = (45 : Int32) → wp_X10_number ((y15).toInt32) (fun (r17 : Int64) => Q y14 (sJ u16 31 r17))))))) k19 (nI q + (1 : Int32)) (0 : Int64) v)) ∧ (¬ nI (tx q) = (45 : Int32) → (∃ k13 : Nat, l_X10_atom_91 Q (nI (tx q)) (nI q) (fun (y8 : Int32) (y9 : Int64) (u10 : St) => ((y8 = nI q → Q ((-1 : Int32) - y8) u10) ∧ (¬ y8 = nI q → ((nI (tx q) = (45 : Int32) → wp_X10_number (((-y9)).toInt32) (fun (r12 : Int64) => Q y8 (sJ u10 31 r12))) ∧ (¬ nI (tx q) = (45 : Int32) → wp_X10_number ((y9).toInt32) (fun (r11 : Int64) => Q y8 (sJ u10 31 r11))))))) k13 (nI q) (0 : Int64) v))) := by
      rcases hf with ⟨h45, rfl⟩ | ⟨h45, rfl⟩
      · refine sq (i45.mpr h45) ⟨min k 9 + 1, ?_⟩
        rw [nI_1]
        have := numR (Q := Q) (c2 := nI (tx q)) (K := fun (y14 : Int32) (y15 : Int64) (u16 : St) => ((y14 = nI (q + 1) → Q ((-1 : Int32) - y14) u16) ∧ (¬ y14 = nI (q + 1) → ((nI (tx q) = (45 : Int32) → wp_X10_number (((-y15)).toInt32) (fun (r18 : Int64) => Q y14 (sJ u16 31 r18))) ∧ (¬ nI (tx q) = (45 : Int32) → wp_X10_number ((y15).toInt32) (fun (r17 : Int64) => Q y14 (sJ u16 31 r17))))))) hfl hv hk hnk (fun h9 => ⟨fun e => (hg h9).1 e, fun e => sq (i45.mpr h45) (by
          rw [hneg]
          have := (hg h9).2 e
          rw [if_pos h45] at this
          exact this)⟩) hb (min k 9) 0 (by omega)
        exact this
      · refine sf (fun e => h45 (i45.mp e)) ⟨min k 9 + 1, ?_⟩
        have := numR (Q := Q) (c2 := nI (tx from_)) (K := fun (y8 : Int32) (y9 : Int64) (u10 : St) => ((y8 = nI from_ → Q ((-1 : Int32) - y8) u10) ∧ (¬ y8 = nI from_ → ((nI (tx from_) = (45 : Int32) → wp_X10_number (((-y9)).toInt32) (fun (r12 : Int64) => Q y8 (sJ u10 31 r12))) ∧ (¬ nI (tx from_) = (45 : Int32) → wp_X10_number ((y9).toInt32) (fun (r11 : Int64) => Q y8 (sJ u10 31 r11))))))) hfl hv hk hnk (fun h9 => ⟨fun e => (hg h9).1 e, fun e => sf (fun e => h45 (i45.mp e)) (by
          rw [lN_i]
          have := (hg h9).2 e
          rw [if_neg h45] at this
          exact this)⟩) hb (min k 9) 0 (by omega)
        exact this
    refine ⟨fun _ => core, fun h1 => ⟨fun _ => core, fun h2 => ?_⟩⟩
    rw [i65] at h1
    rw [i90] at h2
    exact absurd ⟨by omega, by omega⟩ hc
  have heq : nI (from_ + k) = nI from_ ↔ k = 0 ∨ 2 ^ 30 < k := by
    constructor
    · intro e
      by_cases hk9 : k < 2 ^ 30
      · have := (nI_eq (by omega) (by omega)).mp e
        omega
      · by_cases hh : k = 2 ^ 30
        · subst hh
          have := (nI_eq (by omega) (by omega)).mp e
          omega
        · right; omega
    · intro h
      rcases h with h | h
      · subst h; rfl
      · exfalso
        have := (hk (2 ^ 30) h).1
        omega
  refine ⟨fun h0 v hv Q hQ => walk v Q hv (fun h => by omega) (fun _ => sq (heq.mpr (Or.inl h0)) ?_), fun h9 v hv Q hQ => walk v Q hv (fun _ => hQ) (fun h => by omega), fun h0 h9 v hv Q hQ => walk v Q hv (fun h => by omega) (fun _ => sf (fun e => by have := heq.mp e; omega) hQ)⟩
  subst h0
  exact hQ
theorem atom_name {tx L q k} (hq : q < L) (hL : L ≤ 2000) (hc : 65 ≤ tx q ∧ tx q ≤ 90) (hk : ∀ j, j < k → 0 < lv tx L (q + j)) (hnk : ¬ 0 < lv tx L (q + k)) :
    (12 < k → AtBad tx L q (q + 12)) ∧ (k ≤ 12 → AtOK tx L q (q + k) (-(lN (sv tx L q k)))) := by
  have walk : ∀ (v : St) (Q : Int32 → St → Prop), TXR tx L v → (12 < k → Q ((-1 : Int32) - nI (q + 12)) v) → (k ≤ 12 → Q (nI (q + k)) (sJ v 31 (-(lN (sv tx L q k))))) → wp_X10_atom (nI q) v Q := fun v Q hv hb hg => by
    refine charAt_in hv hq (sf ?_ (sf ?_ ⟨min k 12 + 1, ?_⟩))
    · exact nI_nlt (a := tx q) (b := 65) hc.1 (by omega)
    · exact nI_nlt (a := 90) (b := tx q) hc.2 (by omega)
    · exact nameR (by omega) hv hk hnk hg hb (min k 12) 0 (by omega)
  exact ⟨fun h v hv Q hQ => walk v Q hv (fun _ => hQ) (fun h2 => by omega), fun h v hv Q hQ => walk v Q hv (fun h2 => by omega) (fun _ => hQ)⟩
/-- what is neither letter, digit nor '-' is no atom -/
theorem atom_none {tx L q} (hq : q < L) (hL : L ≤ 2000) (hc : ¬ (65 ≤ tx q ∧ tx q ≤ 90)) (hd : ¬ dgc (tx q)) (h45 : tx q ≠ 45) : AtBad tx L q q :=
  (atom_num (k := 0) (from_ := q) hq hL hc (Or.inr ⟨h45, rfl⟩) (fun j hj => absurd hj (by omega)) (fun h => hd h.2)).1 rfl
