/-! PURE: the class's room and the reference's are the same -/
theorem ob_pC {r : Nat → Nat → Prop} {T n b : Nat} {y : Int64} (hT : T ≤ 150) (hn : n ≤ 1000) (hb : ∀ c d, r c d → c < n ∧ d < 1000) (h : ob r T (pC b) y) (hbn : b < 1000) : ∃ d, r b d ∧ y = pR d := by
  rcases h with ⟨m, e, _⟩ | ⟨k, hk, e, _⟩ | ⟨c, d, hr, e, ey⟩
  · exact absurd e.symm (pC_ne_n hbn)
  · exact absurd e.symm (pC_ne_a hbn (by omega))
  · have h1 := hb _ _ hr
    have := pC_inj hbn (by omega) e
    subst this
    exact ⟨d, hr, ey⟩
theorem ob_pR {r : Nat → Nat → Prop} {T n b : Nat} {x : Int64} (hT : T ≤ 150) (hb : ∀ c d, r c d → c < n ∧ d < 1000) (h : ob r T x (pR b)) (hbn : b < 1000) : ∃ c, r c b ∧ x = pC c := by
  rcases h with ⟨m, _, e⟩ | ⟨k, hk, _, e⟩ | ⟨c, d, hr, ex, e⟩
  · exact absurd e.symm (pR_ne_n hbn)
  · exact absurd e.symm (pR_ne_a hbn (by omega))
  · have h1 := hb _ _ hr
    have := pR_inj hbn (by omega) e
    subst this
    exact ⟨c, hr, ex⟩
theorem ob_wd {r : Nat → Nat → Prop} {T n : Nat} {x y : Int64} (hT : T ≤ 150) (hb : ∀ c d, r c d → c < n ∧ d < 1000) (h : ob r T x y) : wd y := by
  rcases h with ⟨m, _, e⟩ | ⟨k, hk, _, e⟩ | ⟨c, d, hr, _, e⟩
  · exact Or.inl ⟨m, e⟩
  · exact Or.inr (Or.inl ⟨k, by omega, e⟩)
  · exact Or.inr (Or.inr ⟨d, (hb _ _ hr).2, e⟩)
def HpR (r : Nat → Nat → Prop) (T n : Nat) (u v : St) : Prop := hp r T n (gB u 800) (gB u 801) (gB v 13) (gB v 14)
theorem kid_r {r : Nat → Nat → Prop} {T n : Nat} {u v : St} (hT : T ≤ 150) (hn : n ≤ 1000) (h : HpR r T n u v) {c d b : Nat} (hr : r c d) (hb : b < n) (hk : kid u c b) : ∃ e, r b e ∧ rkid v d e := by
  obtain ⟨h1, h2⟩ := h.2.2.2 c d hr
  rcases hk with hk | hk
  · rw [hk] at h1
    obtain ⟨e, he, ee⟩ := ob_pC hT hn h.1 h1 (by omega)
    exact ⟨e, he, Or.inl ee⟩
  · rw [hk] at h2
    obtain ⟨e, he, ee⟩ := ob_pC hT hn h.1 h2 (by omega)
    exact ⟨e, he, Or.inr ee⟩
theorem rkid_r {r : Nat → Nat → Prop} {T n : Nat} {u v : St} (hT : T ≤ 150) (h : HpR r T n u v) {c d e : Nat} (hr : r c d) (hb : e < 1000) (hk : rkid v d e) : ∃ b, r b e ∧ kid u c b := by
  obtain ⟨h1, h2⟩ := h.2.2.2 c d hr
  rcases hk with hk | hk
  · rw [hk] at h1
    obtain ⟨b, he, ee⟩ := ob_pR hT h.1 h1 hb
    exact ⟨b, he, Or.inl ee⟩
  · rw [hk] at h2
    obtain ⟨b, he, ee⟩ := ob_pR hT h.1 h2 hb
    exact ⟨b, he, Or.inr ee⟩
theorem held_r {r : Nat → Nat → Prop} {T n : Nat} {u v v1 : St} {root : Int64 → Prop} {HL : List Nat} (hT : T ≤ 150) (h : HpR r T n u v) (hH : Ho v root v1 HL 0) (ii : ∀ d, d < 1000 → root (pR d) → ∃ c, r c d) : ∀ d ∈ HL, ∃ c, r c d :=
  hH.2.2.2.2 (fun d => ∃ c, r c d) ii (fun d hd ⟨c, hr⟩ e he hk => (rkid_r hT h hr he hk).elim (fun b hb => ⟨b, hb.1⟩))
theorem room_join {r : Nat → Nat → Prop} {T n R w m k : Nat} {x y : Int64} {u v v1 : St} {root : Int64 → Prop} {FL HL : List Nat} {W : (Int32 → St → Prop) → Prop} (hT : T ≤ 150) (hn : n ≤ 1000)
    (hd : (k ≤ FL.length ∧ ∀ Q : Int32 → St → Prop, Q 1 u → W Q) ∨ (∃ (u1 : St) (ML F1 : List Nat), frK u u1 ∧ RI u1 n (R + 1) ∧ Swept u n T w m x y u1 ML F1 ∧ ∀ Q : Int32 → St → Prop, (k ≤ F1.length → Q 1 u1) → (¬ k ≤ F1.length → Q 0 u1) → W Q))
    (h : HpR r T n u v) (hF : FR u n FL) (hdis : ∀ c d, r c d → c ∉ FL) (hR : RI u n R) (hH : Ho v root v1 HL 0)
    (i1 : ∀ c, c < n → rt u T w m x y (pC c) → ∃ d, r c d ∧ root (pR d)) (i2 : ∀ d, d < 1000 → root (pR d) → ∃ c, r c d ∧ rt u T w m x y (pC c)) :
    ∃ (u1 : St) (R1 : Nat) (F1 : List Nat), frK u u1 ∧ R1 ≤ R + 1 ∧ RI u1 n R1 ∧ FR u1 n F1 ∧ (∀ c d, r c d → d ∈ HL → c ∉ F1) ∧ (HL.length + k ≤ n → k ≤ F1.length) ∧ ∀ Q : Int32 → St → Prop, (HL.length + k ≤ n → Q 1 u1) → (¬ HL.length + k ≤ n → Q 0 u1) → W Q := by
  have hdom := held_r hT h hH (fun d hd hr => (i2 d hd hr).elim (fun c hc => ⟨c, hc.1⟩))
  rcases hd with ⟨hk, hq⟩ | ⟨u1, ML, F1, f1, f2, ⟨s1, s2, s3, s4, s5, s6, s7⟩, hq⟩
  · -- the partners of HL and the free row are different cells
    have hle : HL.length + FL.length ≤ n := by
      have hex : ∀ d : Nat, ∃ c : Nat, d ∈ HL → r c d := fun d => by
        by_cases hd : d ∈ HL
        · exact (hdom d hd).elim (fun c hc => ⟨c, fun _ => hc⟩)
        · exact ⟨0, fun h => absurd h hd⟩
      obtain ⟨g, hg⟩ := Classical.axiomOfChoice hex
      have hnd : (HL.map g ++ FL).Nodup := by
        refine List.nodup_append.mpr ⟨?_, hF.2.1, ?_⟩
        · have hn0 := hH.1.1
          have aux : ∀ l : List Nat, l.Nodup → (∀ d ∈ l, r (g d) d) → (l.map g).Nodup := by
            intro l
            induction l with
            | nil => intro _ _; exact List.nodup_nil
            | cons a l ih =>
              intro h1 h2
              obtain ⟨ha, hl⟩ := List.nodup_cons.mp h1
              refine List.nodup_cons.mpr ⟨fun hm => ?_, ih hl (fun d hd => h2 d (List.mem_cons_of_mem _ hd))⟩
              obtain ⟨b, hb, eb⟩ := List.mem_map.mp hm
              have r1 := h2 b (List.mem_cons_of_mem _ hb)
              have r2 := h2 a List.mem_cons_self
              rw [eb] at r1
              exact ha (h.2.1 _ _ _ r2 r1 ▸ hb)
          exact aux HL hn0 hg
        · intro a ha b hb e
          obtain ⟨d, hd, ed⟩ := List.mem_map.mp ha
          subst e
          exact hdis a d (ed ▸ hg d hd) hb
      have := nd_le hnd (n := n) (fun x hx => by
        rcases List.mem_append.mp hx with hx | hx
        · obtain ⟨d, hd, ed⟩ := List.mem_map.mp hx
          rw [← ed]
          exact (h.1 _ _ (hg d hd)).1
        · exact hF.2.2.1 x hx)
      rwa [List.length_append, List.length_map] at this
    exact ⟨u, R, FL, frK_rf u, Nat.le_succ _, hR, hF, fun c d hr _ => hdis c d hr, fun _ => hk, fun Q hQ1 _ => hq Q (hQ1 (by omega))⟩
  · have hm : ∀ c ∈ ML, ∃ d ∈ HL, r c d := by
      intro c hc
      have := s7 (fun c => ∃ d ∈ HL, r c d) (fun c hc hr => by
        obtain ⟨d, hrd, hrt⟩ := i1 c hc hr
        exact ⟨d, hH.2.2.2.1 d (h.1 _ _ hrd).2 hrt, hrd⟩) (fun c hc ⟨d, hd, hr⟩ b hb hk => by
        obtain ⟨e, he, hke⟩ := kid_r hT hn h hr hb hk
        refine ⟨e, ?_, he⟩
        rcases hH.2.2.1 d hd with ⟨j, hj, _⟩ | h9
        · omega
        · exact h9 e (h.1 _ _ he).2 ((rkid_fr hH.2.1 d e).mpr hke)) c hc
      exact this
    have hm2 : ∀ d ∈ HL, ∃ c ∈ ML, r c d := by
      intro d hd
      exact hH.2.2.2.2 (fun d => ∃ c ∈ ML, r c d) (fun d hd hr => by
        obtain ⟨c, hrc, hrt⟩ := i2 d hd hr
        exact ⟨c, s6 c (h.1 _ _ hrc).1 hrt, hrc⟩) (fun d hd ⟨c, hc, hr⟩ e he hk => by
        obtain ⟨b, hb, hkb⟩ := rkid_r hT h hr he hk
        exact ⟨b, s5 c hc b (h.1 _ _ hb).1 hkb, hb⟩) d hd
    have hlen : ML.length = HL.length := nd_eq (f := r) (fun x z y a b => h.2.2.1 x z y a b) (fun x y w a b => h.2.1 x y w a b) s3 hH.1.1 hm hm2
    have hle : ML.length + F1.length = n := by
      have a1 : (ML ++ F1).Nodup := List.nodup_append.mpr ⟨s3, s1.2.1, fun a ha b hb e => by
        subst e
        exact (s2 a (s4 a ha)).mp hb ha⟩
      have a2 := nd_le a1 (n := n) (fun x hx => by
        rcases List.mem_append.mp hx with hx | hx
        · exact s4 x hx
        · exact s1.2.2.1 x hx)
      have a3 := nd_inj (f := fun x y => x = y) (fun x z y p q => p.trans q.symm) (List.range n) (ML ++ F1) List.nodup_range (fun x hx => by
        have hx2 := List.mem_range.mp hx
        refine ⟨x, ?_, rfl⟩
        by_cases hh : x ∈ ML
        · exact List.mem_append_left _ hh
        · exact List.mem_append_right _ ((s2 x hx2).mpr hh))
      rw [List.length_append] at a2 a3
      rw [List.length_range] at a3
      omega
    refine ⟨u1, R + 1, F1, f1, Nat.le_refl _, f2, s1, fun c d hr hd hc => ?_, fun hh => by omega, fun Q hQ1 hQ0 => hq Q (fun hh => hQ1 (by omega)) (fun hh => hQ0 (by omega))⟩
    obtain ⟨c2, hc2, hr2⟩ := hm2 d hd
    have := h.2.2.1 _ _ _ hr hr2
    subst this
    exact (s2 c (h.1 _ _ hr).1).mp hc hc2
