/-! WHAT HANGS TOGETHER by a set s of wires. -/
def kGs (c : kC) (s : Nat → Bool) (u v : Nat) : Bool := kEx (fun e => s e && (decide (c 1 e = u ∧ c 2 e = v) || decide (c 1 e = v ∧ c 2 e = u))) (c 11 1)
theorem kGs_iff {c : kC} {s : Nat → Bool} {u v : Nat} : kGs c s u v = true ↔ ∃ e, e < c 11 1 ∧ s e = true ∧ ((c 1 e = u ∧ c 2 e = v) ∨ (c 1 e = v ∧ c 2 e = u)) := by
  unfold kGs
  rw [kEx_iff]
  simp only [Bool.and_eq_true, Bool.or_eq_true, decide_eq_true_eq]
def kRe (c : kC) (s : Nat → Bool) (u v : Nat) : Bool := kD (kGs c s) (c 11 0) u 8 v
theorem kRe_iff {c : kC} {s : Nat → Bool} {u v : Nat} (hv : kV c) (hu : u < c 11 0) (hw : v < c 11 0) : kRe c s u v = true ↔ ∃ n, kD (kGs c s) (c 11 0) u n v = true :=
  ⟨fun h => ⟨8, h⟩, fun ⟨n, h⟩ => kD_le (by have := hv.1; omega) (kD_sat hu hw h)⟩
theorem kRe_r {c : kC} {s : Nat → Bool} {u : Nat} : kRe c s u u = true := kD_le (Nat.zero_le _) (kD_0.2 rfl)
theorem kRe_min {c : kC} {s : Nat → Bool} {u v : Nat} {P : Nat → Prop} (h0 : P u) (hs : ∀ e, e < c 11 1 → s e = true → (P (c 1 e) → P (c 2 e)) ∧ (P (c 2 e) → P (c 1 e))) (h : kRe c s u v = true) : P v := by
  have : ∀ n v, kD (kGs c s) (c 11 0) u n v = true → P v := fun n => by
    induction n with
    | zero => intro v h; rw [kD_0.1 h]; exact h0
    | succ n ih =>
      intro v h
      rcases kD_s.1 h with h1 | ⟨x, h1, h2, h3⟩
      · exact ih v h1
      · obtain ⟨e, e1, e2, e3⟩ := kGs_iff.1 h3
        have := hs e e1 e2
        have hx := ih x h2
        rcases e3 with ⟨q1, q2⟩ | ⟨q1, q2⟩
        · rw [← q2]; exact this.1 (by rw [q1]; exact hx)
        · rw [← q1]; exact this.2 (by rw [q2]; exact hx)
  exact this 8 v h
theorem kRe_st {c : kC} {s : Nat → Bool} {u x y e : Nat} (hv : kV c) (hu : u < c 11 0) (he : e < c 11 1) (hs : s e = true) (hxy : (c 1 e = x ∧ c 2 e = y) ∨ (c 1 e = y ∧ c 2 e = x)) (h : kRe c s u x = true) : kRe c s u y = true := by
  have hE := hv.2.2.1 e he
  have hx : x < c 11 0 := by omega
  have hy : y < c 11 0 := by omega
  obtain ⟨n, hn⟩ := (kRe_iff hv hu hx).1 h
  exact (kRe_iff hv hu hy).2 ⟨n + 1, kD_s.2 (Or.inr ⟨x, hx, hn, kGs_iff.2 ⟨e, he, hs, hxy⟩⟩)⟩
theorem kRe_t {c : kC} {s : Nat → Bool} {u v w : Nat} (hv : kV c) (hu : u < c 11 0) (h1 : kRe c s u v = true) (h2 : kRe c s v w = true) : kRe c s u w = true :=
  kRe_min (P := fun x => kRe c s u x = true) h1 (fun e he hs => ⟨fun h => kRe_st hv hu he hs (Or.inl ⟨rfl, rfl⟩) h, fun h => kRe_st hv hu he hs (Or.inr ⟨rfl, rfl⟩) h⟩) h2
theorem kRe_s {c : kC} {s : Nat → Bool} {u v : Nat} (hv : kV c) (h : kRe c s u v = true) : kRe c s v u = true :=
  kRe_min (P := fun x => kRe c s x u = true) kRe_r (fun e he hs => by
    have hE := hv.2.2.1 e he
    exact ⟨fun h => kRe_t hv hE.2.1 (kRe_st hv hE.2.1 he hs (Or.inr ⟨rfl, rfl⟩) kRe_r) h, fun h => kRe_t hv hE.1 (kRe_st hv hE.1 he hs (Or.inl ⟨rfl, rfl⟩) kRe_r) h⟩) h
theorem kRe_mo {c : kC} {s s' : Nat → Bool} {u v : Nat} (hv : kV c) (hu : u < c 11 0) (hm : ∀ e, e < c 11 1 → s e = true → s' e = true) (h : kRe c s u v = true) : kRe c s' u v = true :=
  kRe_min (P := fun x => kRe c s' u x = true) kRe_r (fun e he hs => ⟨fun h => kRe_st hv hu he (hm e he hs) (Or.inl ⟨rfl, rfl⟩) h, fun h => kRe_st hv hu he (hm e he hs) (Or.inr ⟨rfl, rfl⟩) h⟩) h
theorem b_iff {a b : Bool} (h : a = true ↔ b = true) : a = b := by
  cases a <;> cases b
  · rfl
  · exact absurd (h.2 rfl) nft
  · exact absurd (h.1 rfl) nft
  · rfl
theorem kRe_x {c : kC} {s s' : Nat → Bool} {u v : Nat} (hv : kV c) (hu : u < c 11 0) (hm : ∀ e, e < c 11 1 → s e = s' e) : kRe c s u v = kRe c s' u v :=
  b_iff ⟨kRe_mo hv hu (fun e he h => by rw [← hm e he]; exact h), kRe_mo hv hu (fun e he h => by rw [hm e he]; exact h)⟩
/-- one wire more -/
theorem kRe_1 {c : kC} {s s' : Nat → Bool} {e0 u v : Nat} (hv : kV c) (hu : u < c 11 0) (hw : v < c 11 0) (he : e0 < c 11 1) (hs : ∀ e, e < c 11 1 → (s' e = true ↔ s e = true ∨ e = e0)) : kRe c s' u v = true ↔ (kRe c s u v = true ∨ (kRe c s u (c 1 e0) = true ∧ kRe c s (c 2 e0) v = true) ∨ (kRe c s u (c 2 e0) = true ∧ kRe c s (c 1 e0) v = true)) := by
  have hE := hv.2.2.1 e0 he
  have hm : ∀ e, e < c 11 1 → s e = true → s' e = true := fun e h1 h2 => (hs e h1).2 (Or.inl h2)
  have hab : kRe c s' (c 1 e0) (c 2 e0) = true := kRe_st hv hE.1 he ((hs e0 he).2 (Or.inr rfl)) (Or.inl ⟨rfl, rfl⟩) kRe_r
  refine ⟨fun h => ?_, fun h => ?_⟩
  · refine kRe_min (P := fun v => kRe c s u v = true ∨ (kRe c s u (c 1 e0) = true ∧ kRe c s (c 2 e0) v = true) ∨ (kRe c s u (c 2 e0) = true ∧ kRe c s (c 1 e0) v = true)) (Or.inl kRe_r) (fun e h1 h2 => ?_) h
    rcases (hs e h1).1 h2 with h3 | h3
    · refine ⟨fun h => ?_, fun h => ?_⟩
      · rcases h with h | ⟨q1, q2⟩ | ⟨q1, q2⟩
        · exact Or.inl (kRe_st hv hu h1 h3 (Or.inl ⟨rfl, rfl⟩) h)
        · exact Or.inr (Or.inl ⟨q1, kRe_st hv hE.2.1 h1 h3 (Or.inl ⟨rfl, rfl⟩) q2⟩)
        · exact Or.inr (Or.inr ⟨q1, kRe_st hv hE.1 h1 h3 (Or.inl ⟨rfl, rfl⟩) q2⟩)
      · rcases h with h | ⟨q1, q2⟩ | ⟨q1, q2⟩
        · exact Or.inl (kRe_st hv hu h1 h3 (Or.inr ⟨rfl, rfl⟩) h)
        · exact Or.inr (Or.inl ⟨q1, kRe_st hv hE.2.1 h1 h3 (Or.inr ⟨rfl, rfl⟩) q2⟩)
        · exact Or.inr (Or.inr ⟨q1, kRe_st hv hE.1 h1 h3 (Or.inr ⟨rfl, rfl⟩) q2⟩)
    · subst h3
      refine ⟨fun h => ?_, fun h => ?_⟩
      · rcases h with h | ⟨q1, q2⟩ | ⟨q1, q2⟩
        · exact Or.inr (Or.inl ⟨h, kRe_r⟩)
        · exact Or.inr (Or.inl ⟨q1, kRe_r⟩)
        · exact Or.inl q1
      · rcases h with h | ⟨q1, q2⟩ | ⟨q1, q2⟩
        · exact Or.inr (Or.inr ⟨h, kRe_r⟩)
        · exact Or.inl q1
        · exact Or.inr (Or.inr ⟨q1, kRe_r⟩)
  · rcases h with h | ⟨q1, q2⟩ | ⟨q1, q2⟩
    · exact kRe_mo hv hu hm h
    · exact kRe_t hv hu (kRe_t hv hu (kRe_mo hv hu hm q1) hab) (kRe_mo hv hE.2.1 hm q2)
    · exact kRe_t hv hu (kRe_t hv hu (kRe_mo hv hu hm q1) (kRe_s hv hab)) (kRe_mo hv hE.1 hm q2)
/-- the least tower of its part -/
def kMn (c : kC) (s : Nat → Bool) (t : Nat) : Bool := !kEx (fun u => kRe c s u t) t
theorem kMn_iff {c : kC} {s : Nat → Bool} {t : Nat} : kMn c s t = true ↔ ∀ u, u < t → kRe c s u t = false := by
  unfold kMn
  rw [Bool.not_eq_true']
  refine ⟨fun h u hu => ?_, fun h => ?_⟩
  · cases h2 : kRe c s u t
    · rfl
    · rw [kEx_iff.2 ⟨u, hu, h2⟩] at h; cases h
  · cases h2 : kEx (fun u => kRe c s u t) t
    · rfl
    · obtain ⟨u, hu, h3⟩ := kEx_iff.1 h2
      rw [h u hu] at h3; cases h3
theorem kMn_ex {c : kC} {s : Nat → Bool} {t : Nat} (hv : kV c) (ht : t < c 11 0) : ∃ m, m ≤ t ∧ kRe c s m t = true ∧ kMn c s m = true ∧ ∀ u, u < m → kRe c s u t = false := by
  rcases kFs_cs (f := fun u => kRe c s u t) (t + 1) with ⟨-, h2⟩ | ⟨e, h1, h2, h3, h4⟩
  · have := h2 t (by omega)
    rw [kRe_r] at this; cases this
  · refine ⟨e, by omega, h3, kMn_iff.2 (fun u hu => ?_), h4⟩
    cases h5 : kRe c s u e
    · rfl
    · have := kRe_t hv (show u < c 11 0 by omega) h5 h3
      rw [h4 u hu] at this; cases this
/-- how many parts -/
def kCo (c : kC) (s : Nat → Bool) : Nat := kCnt (kMn c s) (c 11 0)
theorem kCo_x {c : kC} {s s' : Nat → Bool} (hv : kV c) (hm : ∀ e, e < c 11 1 → s e = s' e) : kCo c s = kCo c s' := by
  unfold kCo
  refine kCnt_ext _ (fun t ht => b_iff ?_)
  rw [kMn_iff, kMn_iff]
  exact ⟨fun h u hu => by rw [← kRe_x hv (by omega) hm]; exact h u hu, fun h u hu => by rw [kRe_x hv (by omega) hm]; exact h u hu⟩
theorem kCo_r {c : kC} {s s' : Nat → Bool} (hm : ∀ u v, u < c 11 0 → v < c 11 0 → kRe c s u v = kRe c s' u v) : kCo c s = kCo c s' := by
  unfold kCo
  refine kCnt_ext _ (fun t ht => b_iff ?_)
  rw [kMn_iff, kMn_iff]
  exact ⟨fun h u hu => by rw [← hm u t (by omega) ht]; exact h u hu, fun h u hu => by rw [hm u t (by omega) ht]; exact h u hu⟩
theorem kCo_mo {c : kC} {s s' : Nat → Bool} (hv : kV c) (hm : ∀ e, e < c 11 1 → s e = true → s' e = true) : kCo c s' ≤ kCo c s := by
  unfold kCo
  refine kCnt_mono _ (fun t ht h => ?_)
  rw [kMn_iff] at h ⊢
  intro u hu
  cases h2 : kRe c s u t
  · rfl
  · have := kRe_mo hv (show u < c 11 0 by omega) hm h2
    rw [h u hu] at this; cases this
theorem kCnt_rm {f g : Nat → Bool} {M : Nat} : ∀ n, M < n → f M = true → (∀ t, t < n → (g t = true ↔ f t = true ∧ t ≠ M)) → kCnt g n + 1 = kCnt f n
  | 0, h, _, _ => absurd h (Nat.not_lt_zero _)
  | n + 1, h, hf, hg => by
    rw [kCnt_s, kCnt_s]
    by_cases e : M = n
    · subst e
      have h1 : g M = false := by
        cases h2 : g M
        · rfl
        · exact absurd rfl ((hg M (by omega)).1 h2).2
      rw [h1, hf, if_neg nft, if_pos rfl, kCnt_ext (S := g) (T := f) M (fun i hi => b_iff ⟨fun h => ((hg i (by omega)).1 h).1, fun h => (hg i (by omega)).2 ⟨h, by omega⟩⟩)]
    · have ih := kCnt_rm n (by omega) hf (fun t ht => hg t (by omega))
      have h1 : g n = f n := b_iff ⟨fun h => ((hg n (by omega)).1 h).1, fun h => (hg n (by omega)).2 ⟨h, fun q => e q.symm⟩⟩
      rw [h1]; omega
/-- a wire within a part changes nothing; one between two makes one of them -/
theorem kCo_1 {c : kC} {s s' : Nat → Bool} {e0 : Nat} (hv : kV c) (he : e0 < c 11 1) (hs : ∀ e, e < c 11 1 → (s' e = true ↔ s e = true ∨ e = e0)) : kCo c s = kCo c s' + (if kRe c s (c 1 e0) (c 2 e0) = true then 0 else 1) := by
  have hE := hv.2.2.1 e0 he
  by_cases hr : kRe c s (c 1 e0) (c 2 e0) = true
  · rw [if_pos hr, Nat.add_zero]
    refine kCo_r (fun u v hu hw => b_iff ?_)
    rw [kRe_1 hv hu hw he hs]
    refine ⟨Or.inl, fun h => ?_⟩
    rcases h with h | ⟨q1, q2⟩ | ⟨q1, q2⟩
    · exact h
    · exact kRe_t hv hu (kRe_t hv hu q1 hr) q2
    · exact kRe_t hv hu (kRe_t hv hu q1 (kRe_s hv hr)) q2
  · rw [if_neg hr]
    obtain ⟨ma, a1, a2, a3, a4⟩ := kMn_ex (s := s) hv hE.1
    obtain ⟨mb, b1, b2, b3, b4⟩ := kMn_ex (s := s) hv hE.2.1
    have hne : ma ≠ mb := fun e => hr (by
      subst e
      exact kRe_t hv hE.1 (kRe_s hv a2) b2)
    -- a least tower of s in the part of a is ma, of b is mb
    have la : ∀ t, t < c 11 0 → kMn c s t = true → kRe c s (c 1 e0) t = true → t = ma := fun t ht h1 h2 => by
      rcases Nat.lt_trichotomy t ma with h | h | h
      · have := a4 t h
        rw [kRe_s hv h2] at this; cases this
      · exact h
      · have := kMn_iff.1 h1 ma h
        rw [kRe_t hv (by omega) a2 h2] at this; cases this
    have lb : ∀ t, t < c 11 0 → kMn c s t = true → kRe c s (c 2 e0) t = true → t = mb := fun t ht h1 h2 => by
      rcases Nat.lt_trichotomy t mb with h | h | h
      · have := b4 t h
        rw [kRe_s hv h2] at this; cases this
      · exact h
      · have := kMn_iff.1 h1 mb h
        rw [kRe_t hv (by omega) b2 h2] at this; cases this
    have ga : ∀ u, u < c 11 0 → kRe c s u (c 1 e0) = true → ma ≤ u := fun u hu h => by
      rcases Nat.lt_or_ge u ma with h1 | h1
      · have := a4 u h1
        rw [h] at this; cases this
      · exact h1
    have gb : ∀ u, u < c 11 0 → kRe c s u (c 2 e0) = true → mb ≤ u := fun u hu h => by
      rcases Nat.lt_or_ge u mb with h1 | h1
      · have := b4 u h1
        rw [h] at this; cases this
      · exact h1
    have hT : ∀ t, t < c 11 0 → (kMn c s' t = true ↔ kMn c s t = true ∧ t ≠ max ma mb) := fun t ht => by
      rw [kMn_iff]
      refine ⟨fun h => ⟨kMn_iff.2 (fun u hu => ?_), fun e => ?_⟩, fun ⟨h1, h2⟩ u hu => ?_⟩
      · cases h2 : kRe c s u t
        · rfl
        · have := (kRe_1 hv (show u < c 11 0 by omega) ht he hs).2 (Or.inl h2)
          rw [h u hu] at this; cases this
      · rcases Nat.lt_or_gt_of_ne hne with hlt | hlt
        · have e2 : t = mb := by omega
          subst e2
          have := (kRe_1 hv (show ma < c 11 0 by omega) ht he hs).2 (Or.inr (Or.inl ⟨a2, kRe_s hv b2⟩))
          rw [h ma hlt] at this; cases this
        · have e2 : t = ma := by omega
          subst e2
          have := (kRe_1 hv (show mb < c 11 0 by omega) ht he hs).2 (Or.inr (Or.inr ⟨b2, kRe_s hv a2⟩))
          rw [h mb hlt] at this; cases this
      · cases h3 : kRe c s' u t
        · rfl
        · exfalso
          have hu' : u < c 11 0 := by omega
          rcases (kRe_1 hv hu' ht he hs).1 h3 with h4 | ⟨q1, q2⟩ | ⟨q1, q2⟩
          · have := kMn_iff.1 h1 u hu
            rw [h4] at this; cases this
          · have e1 := lb t ht h1 q2
            have e2 := ga u hu' q1
            omega
          · have e1 := la t ht h1 q2
            have e2 := gb u hu' q1
            omega
    have hMm : kMn c s (max ma mb) = true := by
      rcases Nat.lt_or_gt_of_ne hne with hlt | hlt
      · rw [Nat.max_eq_right (by omega)]; exact b3
      · rw [Nat.max_eq_left (by omega)]; exact a3
    exact (kCnt_rm (f := kMn c s) (g := kMn c s') (M := max ma mb) (c 11 0) (by omega) hMm hT).symm
