/-! PACKED words are as good as words. -/
theorem jshl_5 {a : Nat} (ha : a < 33554432) : jshl (a : Int) 5 = ((32 * a : Nat) : Int) := by
  unfold jshl
  refine jti ?_ (by omega)
  have h5 : ((Int32.ofInt ((5 : Nat) : Int) &&& 31).toBitVec.smod 32).toNat = 5 := jshs_f ⟨5, by omega⟩
  have hs : (Int32.ofInt (a : Int) <<< (Int32.ofInt ((5 : Nat) : Int) &&& 31)).toBitVec.toNat = 32 * a := by
    rw [Int32.toBitVec_shiftLeft, BitVec.shiftLeft_eq', h5, BitVec.toNat_shiftLeft]
    have : (Int32.ofInt (a : Int)).toBitVec.toNat = a := by
      rw [Int32.toBitVec_ofInt, BitVec.toNat_ofInt]; omega
    rw [this, Nat.shiftLeft_eq]; omega
  exact hs
def kPn (g : Nat → Int) : Nat → Nat
  | 0 => 0
  | t + 1 => 32 * kPn g t + (g t - 96).toNat
theorem kPk_n {g : Nat → Int} : ∀ L, L ≤ 6 → (∀ t, t < L → 97 ≤ g t ∧ g t ≤ 122) → kPk g L = ((kPn g L : Nat) : Int) ∧ kPn g L < 32 ^ L
  | 0, _, _ => ⟨rfl, Nat.zero_lt_one⟩
  | t + 1, h6, h => by
    obtain ⟨h1, h2⟩ := kPk_n t (by omega) (fun u hu => h u (by omega))
    have hd := h t (by omega)
    have h5 : 32 ^ t ≤ 32 ^ 5 := Nat.pow_le_pow_right (by decide) (by omega)
    have e : kPn g (t + 1) = 32 * kPn g t + (g t - 96).toNat := rfl
    obtain ⟨d, hdd⟩ : ∃ d : Nat, g t - 96 = (d : Int) := ⟨(g t - 96).toNat, by omega⟩
    have hd2 : (g t - 96).toNat = d := by rw [hdd]; rfl
    refine ⟨?_, ?_⟩
    · show jbor (jshl (kPk g t) 5) (jw (g t - 96)) = _
      rw [h1, jshl_5 (by omega), hdd, jwi (by omega) (by omega), jbor_n (by omega) (by omega), e, hd2]
      have := Nat.two_pow_add_eq_or_of_lt (i := 5) (b := d) (by omega) (kPn g t)
      rw [show (2 : Nat) ^ 5 = 32 from rfl] at this
      rw [this]
    · rw [e, hd2, Nat.pow_succ]; omega
theorem kPn_i {g g' : Nat → Int} : ∀ L L', (∀ t, t < L → 97 ≤ g t ∧ g t ≤ 122) → (∀ t, t < L' → 97 ≤ g' t ∧ g' t ≤ 122) → kPn g L = kPn g' L' → L = L' ∧ ∀ t, t < L → g t = g' t
  | 0, 0, _, _, _ => ⟨rfl, fun t h => absurd h (Nat.not_lt_zero _)⟩
  | 0, k + 1, _, h', e => by
    have e2 : (0 : Nat) = 32 * kPn g' k + (g' k - 96).toNat := e
    have := h' k (by omega)
    omega
  | k + 1, 0, h, _, e => by
    have e2 : 32 * kPn g k + (g k - 96).toNat = 0 := e
    have := h k (by omega)
    omega
  | k + 1, k' + 1, h, h', e => by
    have e2 : 32 * kPn g k + (g k - 96).toNat = 32 * kPn g' k' + (g' k' - 96).toNat := e
    have d1 := h k (by omega)
    have d2 := h' k' (by omega)
    obtain ⟨q1, q2⟩ := kPn_i k k' (fun t ht => h t (by omega)) (fun t ht => h' t (by omega)) (by omega)
    subst q1
    refine ⟨rfl, fun t ht => ?_⟩
    by_cases z : t = k
    · rw [z]; omega
    · exact q2 t (by omega)
theorem kPn_c {g g' : Nat → Int} : ∀ L, (∀ t, t < L → g t = g' t) → kPn g L = kPn g' L
  | 0, _ => rfl
  | k + 1, h => by
    show 32 * kPn g k + (g k - 96).toNat = 32 * kPn g' k + (g' k - 96).toNat
    rw [kPn_c k (fun t ht => h t (by omega)), h k (by omega)]
