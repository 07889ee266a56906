/-! PACKED words are as good as words. -/
theorem jshl_5 {a : Nat} (ha : a < 33554432) : jshl (a : Int) 5 = ((32 * a : Nat) : Int) := by
  unfold jshl
  refine jti ?_ (by omega)
  have h5 : ((Int32.ofInt ((5 : Nat) : Int) &&& 31).toBitVec.smod 32).toNat = 5 := jshs_f ⟨5, by omega⟩
  have hs : (Int32.ofInt (a : Int) <<< (Int32.ofInt ((5 : Nat) : Int) &&& 31)).toBitVec.toNat = 32 * a := by
    rw [Int32.toBitVec_shiftLeft, BitVec.shiftLeft_eq', h5, BitVec.toNat_shiftLeft]
    have : (Int32.ofInt (a : Int)).toBitVec.toNat = a := by
      rw [Int32.toBitVec_ofInt, BitVec.toNat_ofInt]; omega
    rw [this, Nat.shiftLeft_eq]; omega
  exact hs
def kPn (g : Nat → Int) : Nat → Nat
  | 0 => 0
  | t + 1 => 32 * kPn g t + (g t - 96).toNat
theorem kPk_n {g : Nat → Int} : ∀ L, L ≤ 6 → (∀ t, t < L → 97 ≤ g t ∧ g t ≤ 122) → kPk g L = ((kPn g L : Nat) : Int) ∧ kPn g L < 32 ^ L
  | 0, _, _ => ⟨rfl, Nat.zero_lt_one⟩
  | t + 1, h6, h => by
    obtain ⟨h1, h2⟩ := kPk_n t (by omega) (fun u hu => h u (by omega))
    have hd := h t (by omega)
    have h5 : 32 ^ t ≤ 32 ^ 5 := Nat.pow_le_pow_right (by decide) (by omega)
    have e : kPn g (t + 1) = 32 * kPn g t + (g t - 96).toNat := rfl
    obtain ⟨d, hdd⟩ : ∃ d : Nat, g t - 96 = (d : Int) := ⟨(g t - 96).toNat, by omega⟩
    have hd2 : (g t - 96).toNat = d := by rw [hdd]; rfl
    refine ⟨?_, ?_⟩
    · show jbor (jshl (kPk g t) 5) (jw (g t - 96)) = _
      rw [h1, jshl_5 (by omega), hdd, jwi (by omega) (by omega), jbor_n (by omega) (by omega), e, hd2]
      have := Nat.two_pow_add_eq_or_of_lt (i := 5) (b := d) (by omega) (kPn g t)
      rw [show (2 : Nat) ^ 5 = 32 from rfl] at this
      rw [this]
    · rw [e, hd2, Nat.pow_succ]; omega
theorem kPn_i {g g' : Nat → Int} : ∀ L L', (∀ t, t < L → 97 ≤ g t ∧ g t ≤ 122) → (∀ t, t < L' → 97 ≤ g' t ∧ g' t ≤ 122) → kPn g L = kPn g' L' → L = L' ∧ ∀ t, t < L → g t = g' t
  | 0, 0, _, _, _ => ⟨rfl, fun t h => absurd h (Nat.not_lt_zero _)⟩
  | 0, k + 1, _, h', e => by
    have e2 : (0 : Nat) = 32 * kPn g' k + (g' k - 96).toNat := e
    have := h' k (by omega)
    omega
  | k + 1, 0, h, _, e => by
    have e2 : 32 * kPn g k + (g k - 96).toNat = 0 := e
    have := h k (by omega)
    omega
  | k + 1, k' + 1, h, h', e => by
    have e2 : 32 * kPn g k + (g k - 96).toNat = 32 * kPn g' k' + (g' k' - 96).toNat := e
    have d1 := h k (by omega)
    have d2 := h' k' (by omega)
    obtain ⟨q1, q2⟩ := kPn_i k k' (fun t ht => h t (by omega)) (fun t ht => h' t (by omega)) (by omega)
    subst q1
    refine ⟨rfl, fun t ht => ?_⟩
    by_cases z : t = k
    · rw [z]; omega
    · exact q2 t (by omega)
theorem kPn_c {g g' : Nat → Int} : ∀ L, (∀ t, t < L → g t = g' t) → kPn g L = kPn g' L
  | 0, _ => rfl
  | k + 1, h => by
    show 32 * kPn g k + (g k - 96).toNat = 32 * kPn g' k + (g' k - 96).toNat
    rw [kPn_c k (fun t ht => h t (by omega)), h k (by omega)]
theorem kWv_i {f : Nat → Int} {n i s L : Nat} (h6 : L ≤ 6) (h1 : 1 ≤ L) (hs : ∀ t, t < L → 97 ≤ jsc s ((t : Nat) : Int) ∧ jsc s ((t : Nat) : Int) ≤ 122) : kWv f n i = kPk (fun t => jsc s (t : Int)) L ↔ (kLe f n i - kSkp f n i = L ∧ ∀ t, t < L → f (kSkp f n i + t) = jsc s (t : Int)) := by
  have hl : ∀ t, t < kLe f n i - kSkp f n i → 97 ≤ f (kSkp f n i + t) ∧ f (kSkp f n i + t) ≤ 122 := fun t ht => of_decide_eq_true (kWh_in (P := kIl f) (n := n) (i := kSkp f n i) (j := kSkp f n i + t) (by omega) (by unfold kLe at ht; omega))
  have e2 := kPk_n (g := fun t => jsc s (t : Int)) L h6 hs
  unfold kWv
  by_cases h : 6 < kLe f n i - kSkp f n i
  · rw [if_pos h, e2.1]
    refine ⟨fun z => ?_, fun z => by omega⟩
    obtain ⟨k, rfl⟩ : ∃ k, L = k + 1 := ⟨L - 1, by omega⟩
    have e3 : kPn (fun t => jsc s (t : Int)) (k + 1) = 32 * kPn (fun t => jsc s (t : Int)) k + (jsc s (k : Int) - 96).toNat := rfl
    have := hs k (by omega)
    omega
  · rw [if_neg h]
    have e1 := kPk_n (g := fun t => f (kSkp f n i + t)) (kLe f n i - kSkp f n i) (by omega) hl
    rw [e1.1, e2.1]
    refine ⟨fun z => ?_, fun z => ?_⟩
    · obtain ⟨q1, q2⟩ := kPn_i (g := fun t => f (kSkp f n i + t)) (g' := fun t => jsc s (t : Int)) _ L hl hs (by omega)
      exact ⟨q1, fun t ht => q2 t (by omega)⟩
    · rw [z.1, kPn_c (g := fun t => f (kSkp f n i + t)) (g' := fun t => jsc s (t : Int)) L (fun t ht => z.2 t ht)]
/-- the class's likeness of words, told plainly -/
theorem kWq_i {f : Nat → Int} {s a e i j : Nat} : kWq f s a e i j = true ↔ (e - a = j - i ∧ ∀ t, t < e - a → jsc s ((a + t : Nat) : Int) = f (i + t)) := by
  unfold kWq
  rw [decide_eq_true_eq]
  refine ⟨fun h => ⟨h.1, fun t ht => of_decide_eq_true (kWh_in (P := kWm f s a i) (n := e - a) (i := 0) (Nat.zero_le _) (by omega))⟩, fun h => ⟨h.1, ?_⟩⟩
  have hle := kWh_le (P := kWm f s a i) (n := e - a) (i := 0) (Nat.zero_le _)
  by_cases hlt : kWh (kWm f s a i) (e - a) 0 < e - a
  · have := kWh_no hlt
    unfold kWm at this
    exact absurd (h.2 _ hlt) (of_decide_eq_false this)
  · omega
