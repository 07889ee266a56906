/-! THE FOUR WORDS of a city. -/
theorem kRun_s {σ ρ : Type} {step : σ → ρ ⊕ σ} {N : Nat} {s : σ} : kRun step (N + 1) s = match step s with
    | Sum.inl r => some r
    | Sum.inr s' => kRun step N s' := rfl
theorem kWst_y {f : Nat → Int} {s L i j k a e : Nat} (ha : a < L) (he : kWen s L a = e) (hq : kWq f s a e i j = true) : kWst f s L i j (k, a) = Sum.inl (k : Int) := by
  unfold kWst; dsimp only; rw [if_pos ha, he, if_pos hq]
theorem kWst_n {f : Nat → Int} {s L i j k a e : Nat} (ha : a < L) (he : kWen s L a = e) (hq : ¬ kWq f s a e i j = true) : kWst f s L i j (k, a) = Sum.inr (k + 1, e + 1) := by
  unfold kWst; dsimp only; rw [if_pos ha, he, if_neg hq]
theorem kWst_e {f : Nat → Int} {s L i j k a : Nat} (ha : ¬ a < L) : kWst f s L i j (k, a) = Sum.inl (-1) := by
  unfold kWst; dsimp only; rw [if_neg ha]
def kW1 (f : Nat → Int) (i j : Nat) : Int := if kWq f 1 0 5 i j = true then 0 else if kWq f 1 6 10 i j = true then 1 else if kWq f 1 11 17 i j = true then 2 else if kWq f 1 18 24 i j = true then 3 else -1
theorem kW1_r {f : Nat → Int} {i j : Nat} : kRun (kWst f 1 24 i j) jfu ((0 : Nat), (0 : Nat)) = some (kW1 f i j) := by
  obtain ⟨N, hN⟩ : ∃ N, jfu = N + 5 := ⟨jfu - 5, by have := jfu_ge; omega⟩
  have e0 : kWen 1 24 0 = 5 := by decide +kernel
  have e1 : kWen 1 24 6 = 10 := by decide +kernel
  have e2 : kWen 1 24 11 = 17 := by decide +kernel
  have e3 : kWen 1 24 18 = 24 := by decide +kernel
  rw [hN]
  unfold kW1
  rw [kRun_s]
  by_cases h0 : kWq f 1 0 5 i j = true
  · rw [kWst_y (by decide) e0 h0, if_pos h0]; rfl
  · rw [kWst_n (by decide) e0 h0, if_neg h0]
    show kRun (kWst f 1 24 i j) (N + 3 + 1) (1, 6) = _
    rw [kRun_s]
    by_cases h1 : kWq f 1 6 10 i j = true
    · rw [kWst_y (by decide) e1 h1, if_pos h1]; rfl
    · rw [kWst_n (by decide) e1 h1, if_neg h1]
      show kRun (kWst f 1 24 i j) (N + 2 + 1) (2, 11) = _
      rw [kRun_s]
      by_cases h2 : kWq f 1 11 17 i j = true
      · rw [kWst_y (by decide) e2 h2, if_pos h2]; rfl
      · rw [kWst_n (by decide) e2 h2, if_neg h2]
        show kRun (kWst f 1 24 i j) (N + 1 + 1) (3, 18) = _
        rw [kRun_s]
        by_cases h3 : kWq f 1 18 24 i j = true
        · rw [kWst_y (by decide) e3 h3, if_pos h3]; rfl
        · rw [kWst_n (by decide) e3 h3, if_neg h3]
          show kRun (kWst f 1 24 i j) (N + 1) (4, 25) = _
          rw [kRun_s, kWst_e (by decide)]
theorem kWqv {f : Nat → Int} {n i s0 s a e L : Nat} (hL : e - a = L) (h6 : L ≤ 6) (h1 : 1 ≤ L) (hs : ∀ t, t < L → 97 ≤ jsc s ((t : Nat) : Int) ∧ jsc s ((t : Nat) : Int) ≤ 122) (hc : ∀ t, t < L → jsc s0 ((a + t : Nat) : Int) = jsc s ((t : Nat) : Int)) : kWq f s0 a e (kSkp f n i) (kLe f n i) = true ↔ kWv f n i = kPk (fun t => jsc s (t : Int)) L := by
  rw [kWq_i, kWv_i h6 h1 hs, hL]
  refine ⟨fun h => ⟨h.1.symm, fun t ht => ?_⟩, fun h => ⟨h.1.symm, fun t ht => ?_⟩⟩
  · rw [← h.2 t ht]; exact hc t ht
  · rw [h.2 t ht]; exact hc t ht
theorem kW5 {f : Nat → Int} {n i : Nat} : kWq f 1 0 5 (kSkp f n i) (kLe f n i) = true ↔ kWv f n i = kPk (fun t => jsc 5 (t : Int)) 5 := kWqv rfl (by decide) (by decide) (by decide +kernel) (by decide +kernel)
theorem kW6 {f : Nat → Int} {n i : Nat} : kWq f 1 6 10 (kSkp f n i) (kLe f n i) = true ↔ kWv f n i = kPk (fun t => jsc 6 (t : Int)) 4 := kWqv rfl (by decide) (by decide) (by decide +kernel) (by decide +kernel)
theorem kW7 {f : Nat → Int} {n i : Nat} : kWq f 1 11 17 (kSkp f n i) (kLe f n i) = true ↔ kWv f n i = kPk (fun t => jsc 7 (t : Int)) 6 := kWqv rfl (by decide) (by decide) (by decide +kernel) (by decide +kernel)
theorem kW8 {f : Nat → Int} {n i : Nat} : kWq f 1 18 24 (kSkp f n i) (kLe f n i) = true ↔ kWv f n i = kPk (fun t => jsc 8 (t : Int)) 6 := kWqv rfl (by decide) (by decide) (by decide +kernel) (by decide +kernel)
