/-! WORK: what the pure reader tells may be done. -/
theorem wH1_b {c : kC} {w : Int} (hv : kV c) : wH1 c w ≤ 9999 := by
  obtain ⟨⟨v0, v1, v2, v3⟩, -⟩ := hv
  unfold wH1; split <;> omega
theorem wH2_b {c : kC} {w : Int} (hv : kV c) : wH2 c w ≤ 9999 := by
  obtain ⟨⟨v0, v1, v2, v3⟩, -⟩ := hv
  unfold wH2
  split
  · omega
  · split <;> omega
theorem wS_in {f : Nat → Int} {n i j : Nat} {c : kC} {w : Int} (hv : kV c) (hi : i ≤ n) (hw : 0 ≤ w ∧ w ≤ 6) (h : (wS f n c w i).1 = Sum.inr j) : i ≤ j ∧ (w < 5 → i < j) ∧ j ≤ n ∧ wOk c (wS f n c w i).2 := by
  unfold wS at h ⊢
  by_cases h56 : w = 5 ∨ w = 6
  · rw [if_pos h56] at h ⊢
    cases h
    exact ⟨Nat.le_refl _, fun z => by omega, hi, hw, Int.le_refl _, Int.le_refl _, by show (0 : Int) ≤ 9999; decide, by show (0 : Int) ≤ 9999; decide, fun z => by have z' : w < 5 := z; omega, fun z => by have z' : w < 4 := z; omega⟩
  · rw [if_neg h56] at h ⊢
    have h' : (wN2 f n c w (Sum.inr i)).1 = Sum.inr j := h
    unfold wN2 at h' ⊢
    have bb := kNs_b (f := f) (n := n) (s := Sum.inr i) (lo := 0) (hi := wH1 c w) (by decide) (wH1_b hv)
    by_cases h4 : w = 4
    · rw [if_pos h4] at h' ⊢
      obtain ⟨i', a1, -, a3, a4, a5, a6⟩ := kNs_in (show (kNs f n 0 (wH1 c w) (Sum.inr i)).1 = Sum.inr j from h')
      cases a1
      exact ⟨by omega, fun _ => a5, a6 hi, hw, a3, Int.le_refl _, bb.2, by show (0 : Int) ≤ 9999; decide, fun _ => a4, fun z => by have z' : w < 4 := z; omega⟩
    · rw [if_neg h4] at h' ⊢
      have b2 := kNs_b (f := f) (n := n) (s := (wN1 f n c w (Sum.inr i)).1) (lo := 0) (hi := wH2 c w) (by decide) (wH2_b hv)
      obtain ⟨k, a1, -, a3, a4, a5, a6⟩ := kNs_in h'
      obtain ⟨i', d1, -, d3, d4, d5, d6⟩ := kNs_in (show (kNs f n 0 (wH1 c w) (Sum.inr i)).1 = Sum.inr k from a1)
      cases d1
      exact ⟨by omega, fun _ => by omega, a6 (d6 hi), hw, d3, a3, bb.2, b2.2, fun _ => d4, fun _ => a4⟩
theorem wS_f {f : Nat → Int} {n i : Nat} {c : kC} {w : Int} {e : Int × Nat} (hi : i ≤ n) (h : (wS f n c w i).1 = Sum.inl e) : e.2 ≤ n := by
  unfold wS at h
  by_cases h56 : w = 5 ∨ w = 6
  · rw [if_pos h56] at h; cases h
  · rw [if_neg h56] at h
    have h' : (wN2 f n c w (Sum.inr i)).1 = Sum.inl e := h
    unfold wN2 at h'
    by_cases h4 : w = 4
    · rw [if_pos h4] at h'
      exact kNs_f hi (show (kNs f n 0 (wH1 c w) (Sum.inr i)).1 = Sum.inl e from h')
    · rw [if_neg h4] at h'
      cases ha : (wN1 f n c w (Sum.inr i)).1 with
      | inl e' =>
        rw [ha] at h'
        cases h'
        exact kNs_f hi (show (kNs f n 0 (wH1 c w) (Sum.inr i)).1 = Sum.inl e from ha)
      | inr k =>
        rw [ha] at h'
        obtain ⟨i', d1, -, d3, d4, d5, d6⟩ := kNs_in (show (kNs f n 0 (wH1 c w) (Sum.inr i)).1 = Sum.inr k from ha)
        cases d1
        exact kNs_f (d6 hi) h'
/-- a whole step with its sign -/
theorem wS_g {f : Nat → Int} {n i : Nat} {c : kC} (hv : kV c) (hi : i ≤ n) (h1 : kU3 f n i ≠ -1) (h7 : kU3 f n i ≠ 7) : (∃ e, kSs f n 59 (wS f n c (kU3 f n i) (kLe f n i)).1 = Sum.inl e ∧ e.2 ≤ n) ∨ (∃ j, kSs f n 59 (wS f n c (kU3 f n i) (kLe f n i)).1 = Sum.inr j ∧ i + 3 + 1 ≤ j ∧ j ≤ n ∧ wOk c (wS f n c (kU3 f n i) (kLe f n i)).2) := by
  have hs := kSkp_ge (f := f) (n := n) (i := i)
  have hle := kLe_le (f := f) hi
  have cs := kU3_cs (f := f) (n := n) (i := i)
  have hw : 0 ≤ kU3 f n i ∧ kU3 f n i ≤ 6 := by omega
  cases hz : (wS f n c (kU3 f n i) (kLe f n i)).1 with
  | inl e => exact Or.inl ⟨e, rfl, wS_f hle hz⟩
  | inr k =>
    obtain ⟨a1, a2, a3, a4⟩ := wS_in hv hle hw hz
    cases hg : kSs f n 59 (Sum.inr k) with
    | inl e => exact Or.inl ⟨e, rfl, kSs_f a3 hg⟩
    | inr j =>
      obtain ⟨k', b1, b2, b3⟩ := kSs_in hg
      cases b1
      refine Or.inr ⟨j, rfl, ?_, b3, a4⟩
      by_cases w5 : kU3 f n i < 5
      · have := a2 w5; omega
      · omega
def wGL (f : Nat → Int) (n : Nat) (c : kC) (D i : Nat) (r : wRL D) : Prop := match r with
  | Sum.inl e => e.2 ≤ n
  | Sum.inr z => i + wSm (wWt D) z.2 ≤ z.1 ∧ z.1 ≤ n ∧ wAll (wV c D) z.2 ∧ kGb f n z.1 93 = true
theorem wB_g {f : Nat → Int} {n i D : Nat} {c : kC} {R : Nat → wR D} (hn : n ≤ 600) (hi : i ≤ n) (hR : ∀ k, k ≤ n → wG n c D k (R k)) : (∃ r, kRun (wBst f n R) jfu (i, []) = some r) ∧ wGL f n c D i (wB f n R (Sum.inr i)) := by
  obtain ⟨r, r1, r2⟩ := kRun_ex (step := wBst f n R) (fun s => i + wSm (wWt D) s.2 ≤ s.1 ∧ s.1 ≤ n ∧ wAll (wV c D) s.2) (fun s => n - s.1) (fun r => wGL f n c D i r) (fun s hs => by
    obtain ⟨k, l⟩ := s
    obtain ⟨b1, b2, b3⟩ := hs
    dsimp only at b1 b2 b3
    have h1 := kSkp_le (f := f) b2
    have h2 := kSkp_ge (f := f) (n := n) (i := k)
    unfold wBst
    dsimp only
    by_cases g : kGb f n k 93 = true
    · rw [if_pos g]
      exact Or.inl ⟨_, rfl, by show i + wSm (wWt D) l ≤ kSkp f n k; omega, h1, b3, by show kGb f n (kSkp f n k) 93 = true; rw [kGb_s]; exact g⟩
    · rw [if_neg g]
      have gr := hR k b2
      unfold wG at gr
      cases hz : R k with
      | inl e => rw [hz] at gr; exact Or.inl ⟨_, rfl, gr⟩
      | inr z =>
        rw [hz] at gr
        obtain ⟨j, t⟩ := z
        obtain ⟨a1, a2, a3⟩ := gr
        dsimp only at a1 a2 a3
        refine Or.inr ⟨_, rfl, by show n - j < n - k; omega, ?_, a2, wAll_a l b3 a3⟩
        show i + wSm (wWt D) (l ++ [t]) ≤ j
        rw [wSm_a]; omega) jfu (i, []) (jfu_lt (by show n - i < 4000000; omega)) ⟨Nat.le_refl _, hi, trivial⟩
  refine ⟨⟨r, r1⟩, ?_⟩
  unfold wB
  dsimp only
  rw [r1]
  exact r2
theorem wAg_g {f : Nat → Int} {n i i0 D : Nat} {c : kC} {R : Nat → wR D} (hn : n ≤ 600) (hi : i ≤ n) (h5 : i0 + 5 ≤ i) (hR : ∀ k, k ≤ n → wG n c D k (R k)) : wG n c (D + 1) i0 (wAg f n R i) := by
  unfold wAg
  cases hz : (kNs f n 0 30 (Sum.inr i)).1 with
  | inl e => exact kNs_f hi hz
  | inr j =>
    obtain ⟨i', d1, d2, d3, d4, d5, d6⟩ := kNs_in hz
    cases d1
    cases hg : kSs f n 91 (Sum.inr j) with
    | inl e => exact kSs_f (d6 hi) hg
    | inr k =>
      obtain ⟨j', e1, e2, e3⟩ := kSs_in hg
      cases e1
      have gb := (wB_g (f := f) (c := c) hn e3 hR).2
      unfold wGL at gb
      cases hb : wB f n R (Sum.inr k) with
      | inl e => rw [hb] at gb; exact gb
      | inr z =>
        rw [hb] at gb
        obtain ⟨p, l⟩ := z
        obtain ⟨g1, g2, g3, g4⟩ := gb
        dsimp only at g1 g2 g3 g4 ⊢
        have gl := kGb_l g4
        rw [kSs_y g4]
        cases hq : kSs f n 59 (Sum.inr (kSkp f n p + 1)) with
        | inl e => exact kSs_f (by omega) hq
        | inr q =>
          obtain ⟨j', m1, m2, m3⟩ := kSs_in hq
          cases m1
          refine ⟨?_, m3, ⟨d3, d4⟩, g3⟩
          show i0 + (wSm (wWt D) l + 4) + 1 ≤ q
          omega
theorem wRd_g {f : Nat → Int} {n : Nat} {c : kC} (hn : n ≤ 600) (hv : kV c) : ∀ (D i : Nat), i ≤ n → wG n c D i (wRd f n c D i)
  | 0, i, hi => by
    have hs := kSkp_le (f := f) hi
    unfold wRd
    by_cases h1 : kU3 f n i = -1
    · rw [if_pos h1]; exact hs
    · rw [if_neg h1]
      by_cases h7 : kU3 f n i = 7
      · rw [if_pos h7]; exact hs
      · rw [if_neg h7]
        rcases wS_g hv hi h1 h7 with ⟨e, e1, e2⟩ | ⟨j, e1, e2, e3, e4⟩
        · rw [e1]; exact e2
        · rw [e1]; exact ⟨e2, e3, e4⟩
  | D + 1, i, hi => by
    have hs := kSkp_le (f := f) hi
    have hsg := kSkp_ge (f := f) (n := n) (i := i)
    unfold wRd
    by_cases h1 : kU3 f n i = -1
    · rw [if_pos h1]; exact hs
    · rw [if_neg h1]
      by_cases h7 : kU3 f n i = 7
      · rw [if_pos h7]
        have cs := kU3_cs (f := f) (n := n) (i := i)
        exact wAg_g hn (kLe_le hi) (by omega) (fun k hk => wRd_g hn hv D k hk)
      · rw [if_neg h7]
        rcases wS_g hv hi h1 h7 with ⟨e, e1, e2⟩ | ⟨j, e1, e2, e3, e4⟩
        · rw [e1]; exact e2
        · rw [e1]; exact ⟨e2, e3, e4⟩
