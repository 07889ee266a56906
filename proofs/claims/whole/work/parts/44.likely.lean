/-! LIKELY: numbers. -/
theorem jt_nl {z : Nat} (h : z < 9223372036854775808) : (Int64.ofInt (z : Int)).toInt = z := jt_gl ⟨by omega, by omega⟩
theorem jwl_n {z : Nat} (h : z < 9223372036854775808) : jwl (z : Int) = z := jt_nl h
theorem jdivl_n {a b : Nat} (ha : a < 9223372036854775808) (hb : b < 9223372036854775808) : jdivl a b = ((a / b : Nat) : Int) := by
  unfold jdivl
  rw [Int64.toInt_div, jt_nl ha, jt_nl hb, ← Int.ofNat_tdiv]
  have h : a / b < 9223372036854775808 := Nat.lt_of_le_of_lt (Nat.div_le_self _ _) ha
  have e : jwl ((a / b : Nat) : Int) = ((a / b : Nat) : Int).bmod (2 ^ 64) := by unfold jwl; rw [Int64.toInt_ofInt]
  rw [← e, jwl_n h]
theorem jreml_n {a b : Nat} (ha : a < 9223372036854775808) (hb : b < 9223372036854775808) : jreml a b = ((a % b : Nat) : Int) := by
  have h0 : a / b < 9223372036854775808 := Nat.lt_of_le_of_lt (Nat.div_le_self _ _) ha
  have hq : Int64.ofInt (a : Int) / Int64.ofInt (b : Int) = Int64.ofInt ((a / b : Nat) : Int) := by
    refine Int64.toInt_inj.1 ?_
    rw [jt_nl h0]
    exact jdivl_n ha hb
  unfold jreml
  rw [hq, ← Int64.ofInt_mul, ← Int64.ofInt_sub]
  have h1 := Nat.div_add_mod a b
  have h2 : ((a : Int) - ((a / b : Nat) : Int) * (b : Int)) = ((a % b : Nat) : Int) := by
    have : ((b * (a / b) : Nat) : Int) = ((a / b : Nat) : Int) * (b : Int) := by rw [Int.natCast_mul, Int.mul_comm]
    omega
  rw [h2]
  exact jt_nl (Nat.lt_of_le_of_lt (Nat.mod_le _ _) ha)
theorem jcmp_n {a b : Nat} : (jcmp (a : Int) (b : Int) = 0 ↔ a = b) ∧ (0 < jcmp (a : Int) (b : Int) ↔ b < a) := by
  unfold jcmp
  by_cases h1 : (b : Int) < (a : Int)
  · rw [if_pos h1]; omega
  · rw [if_neg h1]
    by_cases h2 : (a : Int) = (b : Int)
    · rw [if_pos h2]; omega
    · rw [if_neg h2]; omega
/-- Euclid's loop, in 2 k + 1 steps -/
theorem gcd_lp {body : Int × Int → Option ((Int × Int) ⊕ Int)} (hb : ∀ x y : Nat, x < 9223372036854775808 → y < 9223372036854775808 → body ((x : Int), (y : Int)) = some (if y = 0 then Sum.inr (x : Int) else Sum.inl ((y : Int), ((x % y : Nat) : Int)))) : ∀ (k n x y : Nat), x < 9223372036854775808 → y < 9223372036854775808 → y < 2 ^ k → 2 * k + 1 ≤ n → jlp body n ((x : Int), (y : Int)) = some ((Nat.gcd x y : Nat) : Int)
  | 0, n + 1, x, y, hx, hy, hk, hn => by
    have : y = 0 := by omega
    subst this
    have := hb x 0 hx hy
    rw [if_pos rfl] at this
    rw [jlp_dn this, Nat.gcd_zero_right]
  | k + 1, n, x, y, hx, hy, hk, hn => by
    obtain ⟨n', rfl⟩ : ∃ n', n = n' + 1 + 1 + 1 := ⟨n - 3, by omega⟩
    have h1 := hb x y hx hy
    by_cases y0 : y = 0
    · subst y0
      rw [if_pos rfl] at h1
      rw [jlp_dn h1, Nat.gcd_zero_right]
    · rw [if_neg y0] at h1
      rw [jlp_st h1]
      have hr : x % y < y := Nat.mod_lt _ (by omega)
      have hg : Nat.gcd x y = Nat.gcd y (x % y) := by rw [Nat.gcd_comm, Nat.gcd_rec y x, Nat.gcd_comm]
      generalize x % y = r at hr hg
      have h2 := hb y r hy (by omega)
      by_cases r0 : r = 0
      · subst r0
        rw [if_pos rfl] at h2
        rw [jlp_dn h2, hg, Nat.gcd_zero_right]
      · rw [if_neg r0] at h2
        rw [jlp_st h2]
        have hs : y % r < r := Nat.mod_lt _ (by omega)
        have hdm := Nat.div_add_mod y r
        have hq : 1 ≤ y / r := (Nat.one_le_div_iff (by omega)).2 (by omega)
        have hmul : r * 1 ≤ r * (y / r) := Nat.mul_le_mul_left r hq
        have hpow : 2 ^ (k + 1) = 2 * 2 ^ k := by rw [Nat.pow_succ]; omega
        have hg2 : Nat.gcd y r = Nat.gcd r (y % r) := by rw [Nat.gcd_comm, Nat.gcd_rec r y, Nat.gcd_comm]
        rw [gcd_lp hb k (n' + 1) r (y % r) (by omega) (by omega) (by omega) (by omega), hg, hg2]
theorem sp_288 {a b : Nat} {x : Int} {m : jm} (ha : a < 9223372036854775808) (hb : b < 2 ^ 40) (hb0 : 0 < b) : jf_288 a b x m = some (((if x = 0 then a else b) / Nat.gcd a b : Nat) : Int) := by
  have hb9 : b < 9223372036854775808 := Nat.lt_of_lt_of_le hb (by decide)
  have hgp : 0 < Nat.gcd a b := Nat.gcd_pos_of_pos_right _ hb0
  have hgl : Nat.gcd a b ≤ b := Nat.le_of_dvd hb0 (Nat.gcd_dvd_right a b)
  unfold jf_288
  rw [gcd_lp (fun x y hx hy => ?hb) 40 jfu a b ha hb9 hb (Nat.le_trans (by decide) jfu_ge)]
  case hb =>
    dsimp only
    have hc : jcmp (y : Int) 0 = 0 ↔ y = 0 := (jcmp_n (a := y) (b := 0)).1
    by_cases y0 : y = 0
    · rw [if_pos (hc.2 y0), if_pos y0]
    · rw [if_neg (fun e => y0 (hc.1 e)), if_neg y0, if_pos (by omega), jreml_n hx hy]
  rw [jsb]
  by_cases hx : x = 0
  · rw [if_pos hx, if_pos hx, jsb, if_pos (show ¬ ((Nat.gcd a b : Nat) : Int) = 0 by omega), jdivl_n ha (by omega)]
  · rw [if_neg hx, if_neg hx, jsb, if_pos (show ¬ ((Nat.gcd a b : Nat) : Int) = 0 by omega), jdivl_n hb9 (by omega)]
/-- halving as long as it goes: what is left is in least terms -/
def kHv : Nat → Nat × Nat → Nat × Nat
  | 0, s => s
  | n + 1, s => if 1 < s.2 ∧ s.1 % 2 = 0 then kHv n (s.1 / 2, s.2 / 2) else s
theorem kHv_s {n : Nat} {s : Nat × Nat} : kHv (n + 1) s = if 1 < s.2 ∧ s.1 % 2 = 0 then kHv n (s.1 / 2, s.2 / 2) else s := rfl
theorem odd_cop {x s : Nat} (h : x % 2 = 1) : Nat.gcd x (2 ^ s) = 1 := by
  have h2 : Nat.gcd x 2 = 1 := by
    rw [Nat.gcd_comm, Nat.gcd_rec, h]; rfl
  exact Nat.Coprime.pow_right s h2
theorem kHv_g : ∀ (s n x : Nat), s ≤ n → kHv n (x, 2 ^ s) = (x / Nat.gcd x (2 ^ s), 2 ^ s / Nat.gcd x (2 ^ s))
  | 0, n, x, _ => by
    have : Nat.gcd x (2 ^ 0) = 1 := Nat.gcd_one_right x
    rw [this, Nat.div_one, Nat.div_one]
    cases n with
    | zero => rfl
    | succ n => rw [kHv_s, if_neg (by show ¬ (1 < 2 ^ 0 ∧ _); omega)]
  | s + 1, 0, x, h => absurd h (by omega)
  | s + 1, n + 1, x, h => by
    rw [kHv_s]
    have hp : 2 ^ (s + 1) = 2 * 2 ^ s := by rw [Nat.pow_succ, Nat.mul_comm]
    have hpos : 0 < 2 ^ s := Nat.pow_pos (by decide)
    by_cases hx : x % 2 = 0
    · rw [if_pos ⟨by show 1 < 2 ^ (s + 1); omega, hx⟩]
      have hx2 : x = 2 * (x / 2) := by omega
      have e1 : 2 ^ (s + 1) / 2 = 2 ^ s := by rw [hp]; exact Nat.mul_div_cancel_left _ (by decide)
      show kHv n (x / 2, 2 ^ (s + 1) / 2) = _
      rw [e1, kHv_g s n (x / 2) (by omega)]
      have eg : Nat.gcd x (2 ^ (s + 1)) = 2 * Nat.gcd (x / 2) (2 ^ s) := by
        rw [hp]
        conv => lhs; rw [hx2]
        exact Nat.gcd_mul_left 2 _ _
      rw [eg, hp]
      conv => rhs; rw [hx2]
      rw [Nat.mul_div_mul_left _ _ (by decide : 0 < 2), Nat.mul_div_mul_left _ _ (by decide : 0 < 2), Nat.mul_div_cancel_left _ (by decide : 0 < 2)]
    · rw [if_neg (fun e => hx e.2), odd_cop (by omega), Nat.div_one, Nat.div_one]
/-! the way itself -/
/-- the first wire of a way leads nearer -/
theorem kFh_ok {G : Nat → Nat → Bool} {T a b : Nat} (hT : T ≤ 8) (ha : a < T) (hb : b < T) (h : 0 < kDs G T a b) : ∃ v, v < T ∧ kFh G T a b = (v : Int) ∧ G a v = true ∧ kDs G T v b = kDs G T a b - 1 := by
  have hex : ∃ v, v < T ∧ G a v = true ∧ kDs G T v b = kDs G T a b - 1 := by
    unfold kDs at h
    rcases kFs_cs (f := fun n => kD G T a n b) 8 with ⟨h1, -⟩ | ⟨e, h1, h2, h3, h4⟩
    · omega
    · rw [h2] at h
      obtain ⟨n, rfl⟩ : ∃ n, e = n + 1 := ⟨e - 1, by omega⟩
      rcases (kD_first n ha hb).1 h3 with h5 | ⟨v, h5, h6, h7⟩
      · have := h4 n (by omega)
        rw [h5] at this; cases this
      · refine ⟨v, h5, h6, ?_⟩
        have e1 : kDs G T v b = n := by
          unfold kDs
          refine kFs_yes (f := fun n => kD G T v n b) h7 (fun i hi => ?_) 8 (by omega)
          cases h8 : kD G T v i b
          · rfl
          · have h9 := (kD_first i ha hb).2 (Or.inr ⟨v, h5, h6, h8⟩)
            rw [h4 (i + 1) (by omega)] at h9; cases h9
        have e2 : kDs G T a b = ((n + 1 : Nat) : Int) := by unfold kDs; exact h2
        rw [e1, e2]; omega
  unfold kFh
  rw [if_pos h]
  rcases kFs_cs (f := fun k => G a k && decide (kDs G T k b = kDs G T a b - 1)) T with ⟨h1, h2⟩ | ⟨e, h1, h2, h3, -⟩
  · obtain ⟨v, q1, q2, q3⟩ := hex
    have := h2 v q1
    rw [q2, decide_eq_true q3] at this; cases this
  · have h4 := Bool.and_eq_true_iff.1 h3
    exact ⟨e, h1, h2, h4.1, of_decide_eq_true h4.2⟩
theorem kDs_0 {G : Nat → Nat → Bool} {T a b : Nat} : kDs G T a b = 0 ↔ a = b := by
  unfold kDs
  rcases kFs_cs (f := fun n => kD G T a n b) 8 with ⟨h1, h2⟩ | ⟨e, h1, h2, h3, h4⟩
  · rw [h1]
    refine ⟨fun h => by omega, fun h => ?_⟩
    have := h2 0 (by decide)
    rw [kD_0.2 h.symm] at this; cases this
  · rw [h2]
    refine ⟨fun h => ?_, fun h => ?_⟩
    · have : e = 0 := by omega
      subst this
      exact (kD_0.1 h3).symm
    · by_cases e0 : e = 0
      · omega
      · have := h4 0 (by omega)
        rw [kD_0.2 h.symm] at this; cases this
def kPos (G : Nat → Nat → Bool) (T a b : Nat) : Nat → Nat
  | 0 => a
  | k + 1 => (kFh G T (kPos G T a b k) b).toNat
theorem kPos_d {G : Nat → Nat → Bool} {T a b : Nat} (hT : T ≤ 8) (ha : a < T) (hb : b < T) : ∀ k : Nat, (k : Int) ≤ kDs G T a b → kPos G T a b k < T ∧ kDs G T (kPos G T a b k) b = kDs G T a b - k
  | 0, _ => ⟨ha, by show kDs G T a b = _; omega⟩
  | k + 1, h => by
    obtain ⟨h1, h2⟩ := kPos_d (G := G) hT ha hb k (by omega)
    obtain ⟨v, q1, q2, q3, q4⟩ := kFh_ok (G := G) hT h1 hb (by omega)
    have e : kPos G T a b (k + 1) = v := by
      show (kFh G T (kPos G T a b k) b).toNat = v
      rw [q2]; rfl
    rw [e]
    exact ⟨q1, by omega⟩
/-- of sixteen parts, those by which he comes over from u to v -/
def kPa (c : kC) (p : kP) (cl : List Int) (w : Nat) (a : Int × Int × Int) (q : Nat) (u v : Nat) : Nat :=
  (if kOv c w (kLn c p cl w (kJo c u v).toNat (if (c 1 (kJo c u v).toNat : Int) = (u : Int) then 0 else 1) 0 a) = true then 16 - q else 0) + (if kOv c w (kLn c p cl w (kJo c u v).toNat (if (c 1 (kJo c u v).toNat : Int) = (u : Int) then 0 else 1) 1 a) = true then q else 0)
theorem kPa_a {b1 b2 : Bool} {q : Nat} (h : q ≤ 16) : (if b1 = true then 16 - q else 0) + (if b2 = true then q else 0) ≤ 16 := by
  cases b1 <;> cases b2 <;> simp <;> omega
theorem kPa_b {c : kC} {p : kP} {cl : List Int} {w : Nat} {a : Int × Int × Int} {q u v : Nat} (h : q ≤ 16) : kPa c p cl w a q u v ≤ 16 := by
  unfold kPa; exact kPa_a h
def kUp (f : Nat → Nat) : Nat → Nat
  | 0 => 1
  | k + 1 => kUp f k * f k
theorem kUp_b {f : Nat → Nat} (hf : ∀ k, f k ≤ 16) : ∀ k, kUp f k ≤ 16 ^ k
  | 0 => Nat.le_refl _
  | k + 1 => by
    show kUp f k * f k ≤ 16 ^ k * 16
    exact Nat.mul_le_mul (kUp_b hf k) (hf k)
theorem p16 {k : Nat} (h : k < 8) : 16 ^ k ≤ 268435456 := Nat.pow_le_pow_right (n := 16) (by decide) (show k ≤ 7 by omega)
