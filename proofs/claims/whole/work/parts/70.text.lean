/-! PURE: the text -/
def TX (tx : Nat → Nat) (L : Nat) (u : St) : Prop := gI u 101 = nI L ∧ L ≤ 2000 ∧ ∀ k, k < L → gA u 100 k = nI (tx k) ∧ tx k < 128
def TXR (tx : Nat → Nat) (L : Nat) (v : St) : Prop := gI v 5 = nI L ∧ L ≤ 2000 ∧ ∀ k, k < L → gA v 4 k = nI (tx k) ∧ tx k < 128
theorem at_in {N : Nat → Nat} {tx L u p} {Q : Int32 → St → Prop} (h : TX tx L u) (hp : p < L) (hQ : Q (nI (tx p)) u) : wp_X6_at N (nI p) u Q := by
  obtain ⟨h1, h2, h3⟩ := h
  unfold wp_X6_at
  rw [h1, nI_clamp (show p < 2 ^ 31 by omega), (h3 p hp).1]
  exact sf (nI_pos (by omega)) (sq (nI_lt hp (by omega)) ⟨vp_in_nI (by omega) (by omega), hQ⟩)
theorem at_out {N : Nat → Nat} {tx L u p} {Q : Int32 → St → Prop} (h : TX tx L u) (hp : L ≤ p) (hp2 : p ≤ 3000) (hQ : Q (-1) u) : wp_X6_at N (nI p) u Q := by
  obtain ⟨h1, h2, h3⟩ := h
  unfold wp_X6_at
  rw [h1]
  exact sf (nI_pos (by omega)) (sf (nI_nlt hp (by omega)) hQ)
theorem charAt_in {tx L v p} {Q : Int32 → St → Prop} (h : TXR tx L v) (hp : p < L) (hQ : Q (nI (tx p)) v) : wp_X10_charAt (nI p) v Q := by
  obtain ⟨h1, h2, h3⟩ := h
  unfold wp_X10_charAt
  rw [h1, nI_clamp (show p < 2 ^ 31 by omega), (h3 p hp).1]
  exact sf (nI_ge hp (by omega)) ⟨vp_in_nI (by omega) (by omega), hQ⟩
theorem charAt_out {tx L v p} {Q : Int32 → St → Prop} (h : TXR tx L v) (hp : L ≤ p) (hp2 : p ≤ 3000) (hQ : Q (-1) v) : wp_X10_charAt (nI p) v Q := by
  obtain ⟨h1, h2, h3⟩ := h
  unfold wp_X10_charAt
  rw [h1]
  exact sq (nI_le hp (by omega)) hQ
/-- the value of a letter or digit of a name -/
def dv (c : Nat) : Nat := if 65 ≤ c ∧ c ≤ 90 then c - 64 else if 48 ≤ c ∧ c ≤ 57 then c - 21 else 0
theorem lI {a b : Nat} (ha : a < 2 ^ 31) (hb : b < 2 ^ 31) : nI a < nI b ↔ a < b := nI_ltI ha hb
theorem digitOf_C {c : Nat} {Q : Int32 → Prop} (hc : c < 128) (h : Q (nI (dv c))) : wp_X3_digitOf (nI c) Q := by
  have i65 : (nI c < (65 : Int32)) ↔ c < 65 := lI (b := 65) (by omega) (by omega)
  have i48 : (nI c < (48 : Int32)) ↔ c < 48 := lI (b := 48) (by omega) (by omega)
  have i57 : ((57 : Int32) < nI c) ↔ 57 < c := lI (a := 57) (by omega) (by omega)
  have i90 : ((90 : Int32) < nI c) ↔ 90 < c := lI (a := 90) (by omega) (by omega)
  unfold wp_X3_digitOf
  rw [i65, i48, i57, i90]
  unfold dv at h
  have hdig : 48 ≤ c → c ≤ 57 → (nI c - (48 : Int32)) + (27 : Int32) = nI (c - 21) := fun h1 h2 => by
    rw [show nI c - (48 : Int32) = nI (c - 48) from pk_sub (b := 48) h1, show nI (c - 48) + (27 : Int32) = nI (c - 48 + 27) from nI_add _ 27, show c - 48 + 27 = c - 21 from by omega]
  have hlow : (c < 48 → Q 0) ∧ (¬ c < 48 → ((57 < c → Q 0) ∧ (¬ 57 < c → Q ((nI c - (48 : Int32)) + (27 : Int32))))) ∨ (65 ≤ c ∧ c ≤ 90) := by
    by_cases h9 : 65 ≤ c ∧ c ≤ 90
    · exact Or.inr h9
    · left
      rw [if_neg h9] at h
      refine ⟨fun h1 => ?_, fun h1 => ⟨fun h2 => ?_, fun h2 => ?_⟩⟩
      · rw [if_neg (by omega)] at h; exact h
      · rw [if_neg (by omega)] at h; exact h
      · rw [if_pos (by omega)] at h
        rw [hdig (by omega) (by omega)]; exact h
  refine ⟨fun h1 => ?_, fun h1 => ⟨fun h2 => ?_, fun h2 => ?_⟩⟩
  · rcases hlow with hl | hl
    · exact hl
    · omega
  · rcases hlow with hl | hl
    · exact hl
    · omega
  · rw [if_pos (by omega)] at h
    rw [show nI c - (65 : Int32) = nI (c - 65) from pk_sub (b := 65) (by omega), show nI (c - 65) + (1 : Int32) = nI (c - 65 + 1) from nI_add _ 1, show c - 65 + 1 = c - 64 from by omega]
    exact h
theorem digitOf_R {c : Nat} {Q : Int32 → Prop} (hc : c < 128) (h : Q (nI (dv c))) : wp_X10_digitOf (nI c) Q := by
  have i65 : (nI c < (65 : Int32)) ↔ c < 65 := lI (b := 65) (by omega) (by omega)
  have i48 : (nI c < (48 : Int32)) ↔ c < 48 := lI (b := 48) (by omega) (by omega)
  have i57 : ((57 : Int32) < nI c) ↔ 57 < c := lI (a := 57) (by omega) (by omega)
  have i90 : ((90 : Int32) < nI c) ↔ 90 < c := lI (a := 90) (by omega) (by omega)
  unfold wp_X10_digitOf
  rw [i65, i48, i57, i90]
  unfold dv at h
  have hdig : 48 ≤ c → c ≤ 57 → (nI c - (21 : Int32)) = nI (c - 21) := fun h1 h2 => pk_sub (b := 21) (by omega)
  have hlow : (c < 48 → Q 0) ∧ (¬ c < 48 → ((57 < c → Q 0) ∧ (¬ 57 < c → Q (nI c - (21 : Int32))))) ∨ (65 ≤ c ∧ c ≤ 90) := by
    by_cases h9 : 65 ≤ c ∧ c ≤ 90
    · exact Or.inr h9
    · left
      rw [if_neg h9] at h
      refine ⟨fun h1 => ?_, fun h1 => ⟨fun h2 => ?_, fun h2 => ?_⟩⟩
      · rw [if_neg (by omega)] at h; exact h
      · rw [if_neg (by omega)] at h; exact h
      · rw [if_pos (by omega)] at h
        rw [hdig (by omega) (by omega)]; exact h
  refine ⟨fun h1 => ?_, fun h1 => ⟨fun h2 => ?_, fun h2 => ?_⟩⟩
  · rcases hlow with hl | hl
    · exact hl
    · omega
  · rcases hlow with hl | hl
    · exact hl
    · omega
  · rw [if_pos (by omega)] at h
    rw [show nI c - (64 : Int32) = nI (c - 64) from pk_sub (b := 64) (by omega)]
    exact h
theorem digitOf_m1 {Q : Int32 → Prop} (h : Q 0) : wp_X3_digitOf (-1) Q := ⟨fun _ => ⟨fun _ => h, fun c => absurd (by decide) c⟩, fun c => absurd (by decide) c⟩
theorem digitOf_m1R {Q : Int32 → Prop} (h : Q 0) : wp_X10_digitOf (-1) Q := ⟨fun _ => ⟨fun _ => h, fun c => absurd (by decide) c⟩, fun c => absurd (by decide) c⟩
def dgc (c : Nat) : Prop := 48 ≤ c ∧ c ≤ 57
theorem isDigit_1 {c : Nat} {Q : Int32 → Prop} (hd : dgc c) (h : Q 1) : wp_X5_isDigit (nI c) Q := by
  obtain ⟨h1, h2⟩ := hd
  exact sf (nI_nlt (a := c) (b := 48) h1 (by omega)) (sf (nI_nlt (a := 57) (b := c) h2 (by omega)) h)
theorem isDigit_0 {c : Nat} {Q : Int32 → Prop} (hc : c < 128) (hd : ¬ dgc c) (h : Q 0) : wp_X5_isDigit (nI c) Q := by
  refine ⟨fun _ => h, fun h1 => ⟨fun _ => h, fun h2 => ?_⟩⟩
  exfalso
  apply hd
  refine ⟨Classical.byContradiction (fun h3 => h1 (nI_lt (b := 48) (by omega) (by omega))), Classical.byContradiction (fun h3 => h2 (nI_lt (a := 57) (by omega) (by omega)))⟩
theorem isDigit_m1 {Q : Int32 → Prop} (h : Q 0) : wp_X5_isDigit (-1) Q := ⟨fun _ => h, fun c => absurd (by decide) c⟩
theorem digit_1 {c : Nat} {Q : Int32 → Prop} (hd : dgc c) (h : Q 1) : wp_X10_digit (nI c) Q := by
  obtain ⟨h1, h2⟩ := hd
  exact sf (nI_nlt (a := c) (b := 48) h1 (by omega)) (sf (nI_nlt (a := 57) (b := c) h2 (by omega)) h)
theorem digit_0 {c : Nat} {Q : Int32 → Prop} (hc : c < 128) (hd : ¬ dgc c) (h : Q 0) : wp_X10_digit (nI c) Q := isDigit_0 (Q := Q) hc hd h
theorem digit_m1 {Q : Int32 → Prop} (h : Q 0) : wp_X10_digit (-1) Q := ⟨fun _ => h, fun c => absurd (by decide) c⟩
/-- digits and letters of the text at a place -/
def dg (tx : Nat → Nat) (L p : Nat) : Prop := p < L ∧ dgc (tx p)
def lv (tx : Nat → Nat) (L p : Nat) : Nat := if p < L then dv (tx p) else 0
theorem cD {N : Nat → Nat} {tx L u p} {Q : Int32 → Prop} {R : Int32 → St → Prop} (h : TX tx L u) (hp : p ≤ 3000) (hR : ∀ c : Int32, (∀ Q : Int32 → Prop, (dg tx L p → Q 1) → (¬ dg tx L p → Q 0) → wp_X5_isDigit c Q) → (dg tx L p → c = nI (tx p)) → R c u) : wp_X6_at N (nI p) u R := by
  by_cases hl : p < L
  · refine at_in h hl (hR _ (fun Q h1 h2 => ?_) (fun _ => rfl))
    by_cases hd : dgc (tx p)
    · exact isDigit_1 hd (h1 ⟨hl, hd⟩)
    · exact isDigit_0 (h.2.2 p hl).2 hd (h2 (fun h => hd h.2))
  · exact at_out h (by omega) hp (hR _ (fun Q h1 h2 => isDigit_m1 (h2 (fun h => hl h.1))) (fun h => absurd h.1 hl))
theorem rD {tx L v p} {R : Int32 → St → Prop} (h : TXR tx L v) (hp : p ≤ 3000) (hR : ∀ c : Int32, (∀ Q : Int32 → Prop, (dg tx L p → Q 1) → (¬ dg tx L p → Q 0) → wp_X10_digit c Q) → (dg tx L p → c = nI (tx p)) → R c v) : wp_X10_charAt (nI p) v R := by
  by_cases hl : p < L
  · refine charAt_in h hl (hR _ (fun Q h1 h2 => ?_) (fun _ => rfl))
    by_cases hd : dgc (tx p)
    · exact digit_1 hd (h1 ⟨hl, hd⟩)
    · exact digit_0 (h.2.2 p hl).2 hd (h2 (fun h => hd h.2))
  · exact charAt_out h (by omega) hp (hR _ (fun Q h1 h2 => digit_m1 (h2 (fun h => hl h.1))) (fun h => absurd h.1 hl))
theorem cL {N : Nat → Nat} {tx L u p} {R : Int32 → St → Prop} (h : TX tx L u) (hp : p ≤ 3000) (hR : ∀ c : Int32, (∀ Q : Int32 → Prop, Q (nI (lv tx L p)) → wp_X3_digitOf c Q) → R c u) : wp_X6_at N (nI p) u R := by
  by_cases hl : p < L
  · exact at_in h hl (hR _ (fun Q hQ => digitOf_C (h.2.2 p hl).2 (by unfold lv at hQ; rw [if_pos hl] at hQ; exact hQ)))
  · exact at_out h (by omega) hp (hR _ (fun Q hQ => digitOf_m1 (by unfold lv at hQ; rw [if_neg hl] at hQ; exact hQ)))
theorem rL {tx L v p} {R : Int32 → St → Prop} (h : TXR tx L v) (hp : p ≤ 3000) (hR : ∀ c : Int32, (∀ Q : Int32 → Prop, Q (nI (lv tx L p)) → wp_X10_digitOf c Q) → R c v) : wp_X10_charAt (nI p) v R := by
  by_cases hl : p < L
  · exact charAt_in h hl (hR _ (fun Q hQ => digitOf_R (h.2.2 p hl).2 (by unfold lv at hQ; rw [if_pos hl] at hQ; exact hQ)))
  · exact charAt_out h (by omega) hp (hR _ (fun Q hQ => digitOf_m1R (by unfold lv at hQ; rw [if_neg hl] at hQ; exact hQ)))
/-- how many in a row -/
theorem run_ex (P : Nat → Prop) (L : Nat) (hP : ∀ p, P p → p < L) : ∀ (d p : Nat), L ≤ p + d → ∃ k, (∀ j, j < k → P (p + j)) ∧ ¬ P (p + k) := by
  intro d
  induction d with
  | zero => intro p hp; exact ⟨0, fun j hj => absurd hj (by omega), fun h => by have := hP _ h; omega⟩
  | succ d ih =>
    intro p hp
    by_cases h : P p
    · obtain ⟨k, h1, h2⟩ := ih (p + 1) (by omega)
      refine ⟨k + 1, fun j hj => ?_, by rw [show p + (k + 1) = p + 1 + k from by omega]; exact h2⟩
      cases j with
      | zero => exact h
      | succ j => rw [show p + (j + 1) = p + 1 + j from by omega]; exact h1 j (by omega)
    · exact ⟨0, fun j hj => absurd hj (by omega), h⟩
/-- the value of k digits from p on -/
def nv (tx : Nat → Nat) (p : Nat) : Nat → Nat
  | 0 => 0
  | k + 1 => nv tx p k * 10 + (tx (p + k) - 48)
theorem nv_lt {tx L p} : ∀ k, (∀ j, j < k → dg tx L (p + j)) → nv tx p k < 10 ^ k := by
  intro k
  induction k with
  | zero => intro _; exact Nat.one_pos
  | succ k ih =>
    intro h
    have h1 := ih (fun j hj => h j (by omega))
    have h2 := (h k (by omega)).2
    unfold dgc at h2
    rw [Nat.pow_succ]
    show nv tx p k * 10 + (tx (p + k) - 48) < _
    omega
def sv (tx : Nat → Nat) (L p : Nat) : Nat → Nat
  | 0 => 0
  | k + 1 => sv tx L p k * 37 + lv tx L (p + k)
theorem dv_lt (c : Nat) : dv c < 37 := by
  unfold dv
  split
  · omega
  · split <;> omega
theorem lvt_lt (tx : Nat → Nat) (L p : Nat) : lv tx L p < 37 := by
  unfold lv
  split
  · exact dv_lt _
  · omega
theorem sv_lt {tx L p} : ∀ k, sv tx L p k < 37 ^ k := by
  intro k
  induction k with
  | zero => exact Nat.one_pos
  | succ k ih =>
    have := lvt_lt tx L (p + k)
    rw [Nat.pow_succ]
    show sv tx L p k * 37 + lv tx L (p + k) < _
    omega
theorem sv_pos {tx L p} (h : 0 < lv tx L p) : ∀ k, 0 < k → 0 < sv tx L p k := by
  intro k
  induction k with
  | zero => intro h; omega
  | succ k ih =>
    intro _
    show 0 < sv tx L p k * 37 + lv tx L (p + k)
    by_cases hk : k = 0
    · subst hk; rw [Nat.add_zero]; omega
    · have := ih (by omega); omega
