/-! TOOLS: partial answers, bits. -/
theorem jo_p {α : Type} {c : Prop} [Decidable c] {A B : Option α} {P : α → Prop} (h : c) (k : jo A P) : jo (if c then A else B) P := by rw [if_pos h]; exact k
theorem jo_q {α : Type} {c : Prop} [Decidable c] {A B : Option α} {P : α → Prop} (h : ¬ c) (k : jo B P) : jo (if c then A else B) P := by rw [if_neg h]; exact k
theorem jo_c {α β : Type} {x : Option α} {f : α → Option β} {R : α → Prop} {P : β → Prop} (h : jo x R) (k : ∀ a, R a → jo (f a) P) : jo (x.bind f) P := jo_bi (jo_mono h k)
theorem jo_e {α β : Type} {x : Option α} {f : α → Option β} {a : α} {P : β → Prop} (h : x = some a) (k : jo (f a) P) : jo (x.bind f) P := by rw [h]; exact k
theorem jo_and {α : Type} {x : Option α} {P R : α → Prop} (h : jo x P) (d : jD x R) : jo x (fun a => P a ∧ R a) := by
  cases x with
  | none => exact h
  | some a => exact ⟨h, d a rfl⟩
theorem jo_same {α : Type} {x : Option α} {P R : α → Prop} (h : jo x P) (d : jo x R) : jo x (fun a => P a ∧ R a) := by
  cases x with
  | none => exact h
  | some a => exact ⟨h, d⟩
/-! bits -/
theorem jti {z : Int32} {n : Nat} (h : z.toBitVec.toNat = n) (hn : n < 2147483648) : z.toInt = n := by
  show z.toBitVec.toInt = _
  rw [BitVec.toInt_eq_toNat_of_lt (by omega), h]
theorem jbn {a : Nat} (h : a < 2147483648) : (Int32.ofInt (a : Int)).toBitVec.toNat = a := by
  show (BitVec.ofInt 32 (a : Int)).toNat = a
  rw [BitVec.ofInt_natCast, BitVec.toNat_ofNat]; omega
theorem jbor_n {a b : Nat} (ha : a < 2147483648) (hb : b < 2147483648) : jbor a b = ((a ||| b : Nat) : Int) := by
  unfold jbor
  refine jti ?_ (Nat.or_lt_two_pow (n := 31) ha hb)
  rw [Int32.toBitVec_or, BitVec.toNat_or, jbn ha, jbn hb]
theorem jband_n {a b : Nat} (ha : a < 2147483648) (hb : b < 2147483648) : jband a b = ((a &&& b : Nat) : Int) := by
  unfold jband
  refine jti ?_ (Nat.and_lt_two_pow (n := 31) a hb)
  rw [Int32.toBitVec_and, BitVec.toNat_and, jbn ha, jbn hb]
theorem jshl_f : ∀ k : Fin 31, jshl 1 ((k : Nat) : Int) = ((2 ^ (k : Nat) : Nat) : Int) := by decide +kernel
theorem jshl_n {k : Nat} (h : k < 31) : jshl 1 (k : Int) = ((2 ^ k : Nat) : Int) := jshl_f ⟨k, h⟩
theorem jshs_f : ∀ k : Fin 32, ((Int32.ofInt ((k : Nat) : Int) &&& 31).toBitVec.smod 32).toNat = (k : Nat) := by decide +kernel
theorem jshr_n {a k : Nat} (ha : a < 2147483648) (hk : k < 32) : jshr a k = ((a >>> k : Nat) : Int) := by
  unfold jshr
  rw [pk_shr _ _ k (jshs_f ⟨k, hk⟩), jt_g ⟨by omega, by omega⟩]; rfl
theorem jtst {a k : Nat} (ha : a < 2147483648) (hk : k < 32) : jband (jshr a k) 1 = if a.testBit k then 1 else 0 := by
  have h1 : a >>> k ≤ a := by rw [Nat.shiftRight_eq_div_pow]; exact Nat.div_le_self _ _
  rw [jshr_n ha hk, show (1 : Int) = ((1 : Nat) : Int) from rfl, jband_n (by omega) (by omega), Nat.and_one_is_mod, Nat.shiftRight_eq_div_pow, ← Nat.toNat_testBit]
  cases a.testBit k <;> rfl
/-- a set told by bits -/
def kB (f : Nat → Bool) : Nat → Nat
  | 0 => 0
  | n + 1 => kB f n ||| (if f n then 2 ^ n else 0)
theorem kB_lt {f : Nat → Bool} : ∀ n, kB f n < 2 ^ n
  | 0 => Nat.zero_lt_one
  | n + 1 => by
    show kB f n ||| _ < _
    refine Nat.or_lt_two_pow ?_ ?_
    · exact Nat.lt_trans (kB_lt n) (Nat.pow_lt_pow_right (by decide) (Nat.lt_succ_self n))
    · split
      · exact Nat.pow_lt_pow_right (by decide) (Nat.lt_succ_self n)
      · exact Nat.pow_pos (by decide)
theorem kB_tb {f : Nat → Bool} {k : Nat} : ∀ n, (kB f n).testBit k = (decide (k < n) && f k)
  | 0 => by
    show (0 : Nat).testBit k = _
    rw [Nat.zero_testBit]; simp
  | n + 1 => by
    show (kB f n ||| _).testBit k = _
    rw [Nat.testBit_or, kB_tb n]
    by_cases h : f n = true
    · rw [if_pos h, Nat.testBit_two_pow]
      by_cases e : n = k
      · subst e; simp [h]
      · have : decide (k < n + 1) = decide (k < n) := by simp; omega
        rw [this]; simp [e]
    · rw [if_neg h, Nat.zero_testBit, Bool.or_false]
      by_cases e : k = n
      · subst e; simp [h]
      · have : decide (k < n + 1) = decide (k < n) := by simp; omega
        rw [this]
theorem kB_ext {f g : Nat → Bool} : ∀ n, (∀ i, i < n → f i = g i) → kB f n = kB g n
  | 0, _ => rfl
  | n + 1, h => by
    show kB f n ||| _ = kB g n ||| _
    rw [kB_ext n (fun i hi => h i (by omega)), h n (by omega)]
theorem two_pow_le {n k : Nat} (h : n ≤ k) : 2 ^ n ≤ 2 ^ k := Nat.pow_le_pow_right (by decide) h
theorem kB_31 {f : Nat → Bool} {n : Nat} (h : n ≤ 31) : kB f n < 2147483648 := Nat.lt_of_lt_of_le (kB_lt n) (two_pow_le (k := 31) h)
theorem jbit_n {b : Bool} {k : Nat} (h : k < 31) : (if b = true then jshl 1 (k : Int) else 0) = (((if b = true then 2 ^ k else 0 : Nat)) : Int) := by
  cases b
  · rfl
  · rw [if_pos rfl, if_pos rfl]; exact jshl_n h
theorem kBit_lt {b : Bool} {k : Nat} (h : k < 31) : (if b = true then 2 ^ k else 0 : Nat) < 2147483648 := by
  split
  · exact (Nat.pow_lt_pow_iff_right (a := 2) (m := 31) (by decide)).2 h
  · decide
theorem kB_acc {f : Nat → Bool} : ∀ n, n ≤ 31 → kAcc (fun i (a : Int) => jbor a (if f i = true then jshl 1 (i : Int) else 0)) 0 n = ((kB f n : Nat) : Int)
  | 0, _ => rfl
  | n + 1, h => by
    show jbor (kAcc _ 0 n) _ = _
    rw [kB_acc n (by omega), jbit_n (by omega), jbor_n (kB_31 (by omega)) (kBit_lt (by omega))]; rfl
/-- a loop that gathers bits -/
theorem kB_lp {body : Int × Int → Option ((Int × Int) ⊕ Int)} {n : Nat} (f : Nat → Bool) (hn : n ≤ 31) (hs : ∀ i, i < n → ∀ x : Int, body (x, (i : Int)) = some (Sum.inl (jbor x (if f i = true then jshl 1 (i : Int) else 0), ((i + 1 : Nat) : Int)))) (he : ∀ x : Int, body (x, (n : Int)) = some (Sum.inr x)) : jlp body jfu ((0 : Int), (0 : Int)) = some ((kB f n : Nat) : Int) := by
  rw [← kB_acc n hn]
  exact kAcc_lp n _ (by omega) hs (he _)
theorem jbor_0 {x : Int} (hx : jg x) : jbor x 0 = x := by
  unfold jbor
  rw [show Int32.ofInt 0 = 0 from rfl, Int32.or_zero]; exact jt_g hx
