/-! MATCH: what it says; the class. -/
def kMf (ab : Nat → Bool) (F : Nat → Int) (set : Nat) : Nat → Int
  | 0 => F set
  | w + 1 => if (ab w && !set.testBit w) = true then (if kMf ab F set w < 1 + F (set ||| 2 ^ w) then 1 + F (set ||| 2 ^ w) else kMf ab F set w) else kMf ab F set w
theorem kMf_s {ab : Nat → Bool} {F : Nat → Int} {set w : Nat} : kMf ab F set (w + 1) = if (ab w && !set.testBit w) = true then (if kMf ab F set w < 1 + F (set ||| 2 ^ w) then 1 + F (set ||| 2 ^ w) else kMf ab F set w) else kMf ab F set w := rfl
theorem kMf_cut {ab : Nat → Bool} {F : Nat → Int} {set n : Nat} : ∀ k, (∀ w, n ≤ w → ab w = false) → kMf ab F set (n + k) = kMf ab F set n
  | 0, _ => rfl
  | k + 1, h => by
    show kMf ab F set (n + k + 1) = _
    rw [kMf_s, h (n + k) (by omega), Bool.false_and, if_neg nft, kMf_cut k h]
theorem kMf_ext {ab ac : Nat → Bool} {F : Nat → Int} {set : Nat} : ∀ n, (∀ w, w < n → ab w = ac w) → kMf ab F set n = kMf ac F set n
  | 0, _ => rfl
  | n + 1, h => by rw [kMf_s, kMf_s, kMf_ext n (fun w hw => h w (by omega)), h n (by omega)]
/-- how many of the last r letters can be given, once the walkers in set are taken -/
def kMo (ab : Nat → Nat → Bool) (W N : Nat) : Nat → Nat → Int
  | 0, _ => 0
  | r + 1, set => kMf (ab (N - (r + 1))) (kMo ab W N r) set W
theorem kMf_b {ab : Nat → Bool} {F : Nat → Int} {r : Nat} (hF : ∀ s, 0 ≤ F s ∧ F s ≤ r) {set : Nat} : ∀ n, 0 ≤ kMf ab F set n ∧ kMf ab F set n ≤ r + 1
  | 0 => ⟨(hF set).1, by have := (hF set).2; show F set ≤ _; omega⟩
  | n + 1 => by
    have ih := kMf_b (ab := ab) hF (set := set) n
    have := hF (set ||| 2 ^ n)
    rw [kMf_s]
    repeat' split
    all_goals omega
theorem kMo_b {ab : Nat → Nat → Bool} {W N : Nat} : ∀ r s, 0 ≤ kMo ab W N r s ∧ kMo ab W N r s ≤ r
  | 0, _ => ⟨Int.le_refl _, Int.le_refl _⟩
  | r + 1, s => by
    have := kMf_b (ab := ab (N - (r + 1))) (kMo_b (ab := ab) (W := W) (N := N) r) (set := s) W
    exact ⟨this.1, by have := this.2; show kMf _ _ _ _ ≤ _; omega⟩
/-- what is taken ahead of letter l, and whose l is -/
def kCh (ab : Nat → Nat → Bool) (W N l tk : Nat) : Int := kFs (fun k => (ab l k && !tk.testBit k) && decide (1 + kMo ab W N (N - (l + 1)) (tk ||| 2 ^ k) = kMo ab W N (N - l) tk)) W
def kTk (ab : Nat → Nat → Bool) (W N : Nat) : Nat → Nat
  | 0 => 0
  | l + 1 => if kCh ab W N l (kTk ab W N l) = -1 then kTk ab W N l else kTk ab W N l ||| 2 ^ (kCh ab W N l (kTk ab W N l)).toNat
theorem kTk_s {ab : Nat → Nat → Bool} {W N l : Nat} : kTk ab W N (l + 1) = if kCh ab W N l (kTk ab W N l) = -1 then kTk ab W N l else kTk ab W N l ||| 2 ^ (kCh ab W N l (kTk ab W N l)).toNat := rfl
theorem kCh_b {ab : Nat → Nat → Bool} {W N l tk : Nat} : -1 ≤ kCh ab W N l tk ∧ kCh ab W N l tk < W := by
  unfold kCh
  rcases kFs_cs (f := fun k => (ab l k && !tk.testBit k) && decide (1 + kMo ab W N (N - (l + 1)) (tk ||| 2 ^ k) = kMo ab W N (N - l) tk)) W with ⟨h, -⟩ | ⟨e, h1, h2, -⟩
  · rw [h]; omega
  · rw [h2]; omega
theorem kTk_lt {ab : Nat → Nat → Bool} {W N : Nat} : ∀ l, kTk ab W N l < 2 ^ W
  | 0 => Nat.pow_pos (by decide)
  | l + 1 => by
    have ih := kTk_lt (ab := ab) (W := W) (N := N) l
    have hb := kCh_b (ab := ab) (W := W) (N := N) (l := l) (tk := kTk ab W N l)
    rw [kTk_s]
    split
    · exact ih
    · exact Nat.or_lt_two_pow ih ((Nat.pow_lt_pow_iff_right (a := 2) (by decide)).2 (by omega))
def kAb (c : kC) (p : kP) (cl : List Int) (l w : Nat) : Bool := decide (kBr c p cl w l ≠ -1)
/-! sets: taken away -/
theorem jbn_m1 : (Int32.ofInt (-1)).toBitVec.toNat = 4294967295 := by decide +kernel
theorem jandn {a t : Nat} (ha : a < 2147483648) (ht : t < 2147483648) : jband a (jbxor t (-1)) = ((a &&& (t ^^^ 4294967295) : Nat) : Int) := by
  unfold jband jbxor
  rw [Int32.ofInt_toInt]
  refine jti ?_ (Nat.lt_of_le_of_lt Nat.and_le_left ha)
  rw [Int32.toBitVec_and, BitVec.toNat_and, Int32.toBitVec_xor, BitVec.toNat_xor, jbn ha, jbn ht, jbn_m1]
theorem tb_andn {a t k : Nat} (hk : k < 32) : (a &&& (t ^^^ 4294967295)).testBit k = (a.testBit k && !t.testBit k) := by
  rw [Nat.testBit_and, Nat.testBit_xor, show (4294967295 : Nat) = 2 ^ 32 - 1 from rfl, Nat.testBit_two_pow_sub_one, decide_eq_true hk, Bool.xor_true]
theorem sp_45 {m : jm} {l k t A : Nat} (hl : l < 8) (hk : k < 6) (hA : A < 256) (ht : t < 64) (h : ja m 60 l = (A : Int)) : jf_45 l k t m = some (b2i (A.testBit k && !t.testBit k)) := by
  have h1 : A &&& (t ^^^ 4294967295) ≤ A := Nat.and_le_left
  unfold jf_45
  rw [if_pos (by omega), Int.toNat_natCast, h, jandn (by omega) (by omega), jtst (by omega) (by omega), tb_andn (by omega)]
  cases (A.testBit k && !t.testBit k) <;> rfl
/-- a row of 64 numbers -/
def kRw (m : jm) (k a : Nat) (F : Nat → Int) : Prop := ∀ s, s < 64 → ja m k (64 * a + s) = F s
theorem or_64 {t k : Nat} (ht : t < 64) (hk : k < 6) : t ||| 2 ^ k < 64 := Nat.or_lt_two_pow (n := 6) ht ((Nat.pow_lt_pow_iff_right (a := 2) (m := 6) (by decide)).2 hk)
theorem p64 {k : Nat} (hk : k < 6) : 2 ^ k < 64 := (Nat.pow_lt_pow_iff_right (a := 2) (m := 6) (by decide)).2 hk
theorem ix_1 {l t : Nat} (hl : l < 8) (ht : t < 64) : jw (jw (jw ((l : Int) + 1) * 64) + (t : Int)) = ((64 * (l + 1) + t : Nat) : Int) := by
  rw [jwi (x := (l : Int) + 1) (by omega) (by omega), jwi (x := _ * 64) (by omega) (by omega), jwi (by omega) (by omega)]; omega
theorem ix_0 {l t : Nat} (hl : l < 9) (ht : t < 64) : jw (jw ((l : Int) * 64) + (t : Int)) = ((64 * l + t : Nat) : Int) := by
  rw [jwi (x := _ * 64) (by omega) (by omega), jwi (by omega) (by omega)]; omega
theorem sp_46 {m : jm} {l k t : Nat} {F : Nat → Int} (hl : l < 8) (hk : k < 6) (ht : t < 64) (h : kRw m 61 (l + 1) F) (hF : ∀ s, 0 ≤ F s ∧ F s ≤ 100) : jf_46 l k t m = some (1 + F (t ||| 2 ^ k)) := by
  have h1 := or_64 ht hk
  have h2 := p64 hk
  have h3 := hF (t ||| 2 ^ k)
  unfold jf_46
  rw [jshl_n (by omega), jbor_n (by omega) (by omega), ix_1 hl h1, if_pos (by omega), Int.toNat_natCast, h _ h1, jwi (by omega) (by omega)]
theorem jmax_if {x y : Int} : jmax x y = if x < y then y else x := rfl
theorem sp_44 {m : jm} {l t A : Nat} {F : Nat → Int} (hl : l < 8) (ht : t < 64) (hA : A < 256) (h60 : ja m 60 l = (A : Int)) (h : kRw m 61 (l + 1) F) (hF : ∀ s, 0 ≤ F s ∧ F s ≤ 100) : jf_44 l t m = some (js m 61 (64 * l + t) (kMf (fun k => A.testBit k) F t 6)) := by
  unfold jf_44
  rw [ix_1 hl ht, if_pos (by omega), Int.toNat_natCast, h t ht]
  rw [jlp_fr (a := (F t, (0 : Int))) (c := kMf (fun k => A.testBit k) F t 6) 6 (fun k => (kMf (fun k => A.testBit k) F t k, (k : Int))) (by decide) rfl ?hs ?he]
  case he => rfl
  case hs =>
    intro k hk
    dsimp only
    rw [if_pos (show (k : Int) < 6 by omega), sp_45 hl hk hA ht h60, jsb, sp_46 hl hk ht h hF, jsb, jwn (n := k) (by omega), kMf_s]
    cases (A.testBit k && !t.testBit k)
    · rw [if_pos (show b2i false = 0 from rfl), jsb, if_neg nft]
    · rw [if_neg (show ¬ b2i true = 0 by decide), jsb, if_pos (rfl : true = true)]; rfl
  rw [jsb, ix_0 (by omega) ht, if_pos (by omega), jle_eq, Int.toNat_natCast]
theorem sl_43 {m : jm} {c : kC} {p : kP} {cl : List Int} (H : kK 0 m c p cl) : jo (jf_43 m) (fun r => r.1 = kMo (kAb c p cl) (c 11 2) (c 11 3) (c 11 3) 0 ∧ (∀ l, l < c 11 3 → ja r.2 62 l = kCh (kAb c p cl) (c 11 2) (c 11 3) l (kTk (kAb c p cl) (c 11 2) (c 11 3) l)) ∧ jfr true jW_43 m r.2) := by
  have hn := H.1.1
  have hj : ∀ {P : Int × jm → Prop}, jo (jf_43 m) P → jo (jf_43 m) (fun r => P r ∧ jfr true jW_43 m r.2) := fun h => jo_and h jx_43
  refine jo_mono (hj (P := fun r => r.1 = kMo (kAb c p cl) (c 11 2) (c 11 3) (c 11 3) 0 ∧ (∀ l, l < c 11 3 → ja r.2 62 l = kCh (kAb c p cl) (c 11 2) (c 11 3) l (kTk (kAb c p cl) (c 11 2) (c 11 3) l))) ?_) (fun r hr => ⟨hr.1.1, hr.1.2, hr.2⟩)
  have h26 : 2 ^ c 11 2 ≤ 64 := two_pow_le (k := 6) hn.2.2.1
  have hAb : ∀ l, kB (kAb c p cl l) (c 11 2) < 256 := fun l => kB_8 (by omega)
  have cut : ∀ l F s, kMf (fun k => (kB (kAb c p cl l) (c 11 2)).testBit k) F s 6 = kMf (kAb c p cl l) F s (c 11 2) := fun l F s => by
    have h1 := kMf_cut (ab := fun k => (kB (kAb c p cl l) (c 11 2)).testBit k) (F := F) (set := s) (n := c 11 2) (6 - c 11 2) (fun w hw => by rw [kB_tb, decide_eq_false (by omega)]; rfl)
    rw [show c 11 2 + (6 - c 11 2) = 6 by omega] at h1
    rw [h1]
    exact kMf_ext _ (fun w hw => by rw [kB_tb, decide_eq_true hw, Bool.true_and])
  unfold jf_43
  -- who is able
  refine jo_c (R := fun r => (∀ l, l < c 11 3 → ja r 60 l = ((kB (kAb c p cl l) (c 11 2) : Nat) : Int)) ∧ jfr true (fun k _ => k = 60 ∨ k = 57 ∨ k = 49 ∨ k = 29) m r) ?_ (fun r hr => ?_)
  · refine jo_for (c 11 3) jfu (fun i (s : Int × jm) => s.1 = i ∧ (∀ l, l < i → ja s.2 60 l = ((kB (kAb c p cl l) (c 11 2) : Nat) : Int)) ∧ jfr true (fun k _ => k = 60 ∨ k = 57 ∨ k = 49 ∨ k = 29) m s.2) (jfu_lt (by omega)) ?_ ?_ _ ⟨rfl, fun t ht => absurd ht (Nat.not_lt_zero _), jfr_r⟩
    · intro i hi s hs
      obtain ⟨x, m'⟩ := s
      obtain ⟨h1, h2, h3⟩ := hs
      dsimp only at h1 h2 h3 ⊢
      subst h1
      have H1 := kK_fr H h3 (fun k j hk => by unfold kQK; omega)
      rw [kK_n H1 (i := 3) (by decide), if_pos (show (i : Int) < (c 11 3 : Int) by omega), if_pos (show 0 ≤ (i : Int) ∧ (i : Int) < 8 by omega), jle_eq, Int.toNat_natCast, jwn (n := i) (by omega)]
      refine jo_c (R := fun r => ja r 60 i = ((kB (kAb c p cl i) (c 11 2) : Nat) : Int) ∧ jfr true (fun k j => (k = 60 ∧ j = i) ∨ k = 57 ∨ k = 49 ∨ k = 29) m' r) ?_ (fun r hr => ?_)
      · refine jo_for (c 11 2) jfu (fun w (s : Int × jm) => s.1 = w ∧ ja s.2 60 i = ((kB (kAb c p cl i) w : Nat) : Int) ∧ jfr true (fun k j => (k = 60 ∧ j = i) ∨ k = 57 ∨ k = 49 ∨ k = 29) m' s.2) (jfu_lt (by omega)) ?_ ?_ _ ⟨rfl, by show ja (js m' 60 i 0) 60 i = 0; rw [ja_js1]; rfl, jfr_js jfr_r (Or.inl ⟨rfl, rfl⟩)⟩
        · intro w hw s hs
          obtain ⟨y, m2⟩ := s
          obtain ⟨g1, g2, g3⟩ := hs
          dsimp only at g1 g2 g3 ⊢
          subst g1
          have H2 := kK_fr H1 g3 (fun k j hk => by unfold kQK; omega)
          have hb8 := kB_8 (f := kAb c p cl i) (n := w) (by omega)
          have hp := p64 (k := w) (by omega)
          rw [kK_n H2 (i := 2) (by decide), if_pos (show (w : Int) < (c 11 2 : Int) by omega), if_pos (show 0 ≤ (i : Int) ∧ (i : Int) < 8 by omega), jwn (n := w) (by omega)]
          refine jo_c (sl_126 H2 hw hi) (fun r hr => ?_)
          have ef : (if r.1 = -1 then some (0 : Int) else some (jshl 1 (w : Int))) = some (if kAb c p cl i w = true then jshl 1 (w : Int) else 0) := by
            rw [hr.1]
            unfold kAb
            by_cases h : kBr c p cl w i = -1
            · rw [if_pos h, if_neg (by simp [h])]
            · rw [if_neg h, if_pos (by simp [h])]
          rw [ef, jsb, if_pos (show 0 ≤ (i : Int) ∧ (i : Int) < 8 by omega), jle_eq, g2, jbit_n (by omega), jbor_n (by omega) (kBit_lt (by omega))]
          refine ⟨rfl, ?_, jfr_js (jfr_t g3 hr.2 (fun e => e) (fun k j hk => Or.inr hk)) (Or.inl ⟨rfl, rfl⟩)⟩
          show ja (js r.2 60 i _) 60 i = ((kB (kAb c p cl i) (w + 1) : Nat) : Int)
          rw [ja_js1]
          exact jw_nat (Nat.lt_of_lt_of_le (kB_8 (f := kAb c p cl i) (n := w + 1) (by omega)) (by decide))
        · intro s hs
          obtain ⟨y, m2⟩ := s
          obtain ⟨g1, g2, g3⟩ := hs
          dsimp only at g1 g2 g3 ⊢
          have H2 := kK_fr H1 g3 (fun k j hk => by unfold kQK; omega)
          rw [kK_n H2 (i := 2) (by decide), if_neg (by omega)]
          exact ⟨g2, g3⟩
      · refine ⟨rfl, fun l hl => ?_, jfr_t h3 hr.2 (fun e => e) (fun k j hk => by omega)⟩
        show ja r 60 l = _
        by_cases e : l = i
        · rw [e]; exact hr.1
        · rw [ja_fr hr.2 (by omega)]; exact h2 l (by omega)
    · intro s hs
      obtain ⟨x, m'⟩ := s
      obtain ⟨h1, h2, h3⟩ := hs
      dsimp only at h1 h2 h3 ⊢
      have H1 := kK_fr H h3 (fun k j hk => by unfold kQK; omega)
      rw [kK_n H1 (i := 3) (by decide), if_neg (by omega)]
      exact ⟨h2, h3⟩
  obtain ⟨hA, hf⟩ := hr
  rw [sp_334, jsb]
  have hf1 : jfr true (fun k _ => k = 61) r (jfl r 61 0) := jx_334 _ (sp_334 (a := 61) (x := 0) (m := r))
  have H1 := kK_fr (kK_fr H hf (fun k j hk => by unfold kQK; omega)) hf1 (fun k j hk => by unfold kQK; omega)
  have hA1 : ∀ l, l < c 11 3 → ja (jfl r 61 0) 60 l = ((kB (kAb c p cl l) (c 11 2) : Nat) : Int) := fun l hl => by rw [ja_fr hf1 (by decide)]; exact hA l hl
  have hz : ∀ j, j < 576 → ja (jfl r 61 0) 61 j = 0 := fun j hj => by
    unfold ja jfl
    dsimp only
    rw [if_pos ⟨rfl, hj⟩]; rfl
  generalize jfl r 61 0 = r1 at H1 hA1 hz
  rw [kK_n H1 (i := 3) (by decide)]
  -- the rows
  refine jo_c (R := fun t => (∀ q, q ≤ c 11 3 → kRw t 61 (c 11 3 - q) (kMo (kAb c p cl) (c 11 2) (c 11 3) q)) ∧ jfr true (fun k _ => k = 61) r1 t) ?_ (fun t ht => ?_)
  · refine jo_for (c 11 3) jfu (fun i (s : Int × jm) => s.1 = (c 11 3 : Int) - 1 - i ∧ (∀ q, q ≤ i → kRw s.2 61 (c 11 3 - q) (kMo (kAb c p cl) (c 11 2) (c 11 3) q)) ∧ jfr true (fun k _ => k = 61) r1 s.2) (jfu_lt (by omega)) ?_ ?_ _ ⟨by show jw _ = _; rw [jwi (by omega) (by omega)]; omega, fun q hq s hs => ?_, jfr_r⟩
    · intro i hi s hs
      obtain ⟨x, m'⟩ := s
      obtain ⟨h1, h2, h3⟩ := hs
      dsimp only at h1 h2 h3 ⊢
      have el : x = ((c 11 3 - (i + 1) : Nat) : Int) := by omega
      have hl : c 11 3 - (i + 1) < c 11 3 := by omega
      subst el
      rw [if_neg (show ¬ ((c 11 3 - (i + 1) : Nat) : Int) < 0 by omega)]
      have ej : jw (((c 11 3 - (i + 1) : Nat) : Int) + -1) = (c 11 3 : Int) - 1 - ((i + 1 : Nat) : Int) := by rw [jwi (by omega) (by omega)]; omega
      rw [ej]
      refine jo_c (R := fun t => kRw t 61 (c 11 3 - (i + 1)) (kMo (kAb c p cl) (c 11 2) (c 11 3) (i + 1)) ∧ jfr true (fun k j => k = 61 ∧ 64 * (c 11 3 - (i + 1)) ≤ j ∧ j < 64 * (c 11 3 - (i + 1)) + 64) m' t) ?_ (fun t ht => ?_)
      · refine jo_for 64 jfu (fun tk (s : Int × jm) => s.1 = tk ∧ (∀ s', s' < tk → ja s.2 61 (64 * (c 11 3 - (i + 1)) + s') = kMo (kAb c p cl) (c 11 2) (c 11 3) (i + 1) s') ∧ jfr true (fun k j => k = 61 ∧ 64 * (c 11 3 - (i + 1)) ≤ j ∧ j < 64 * (c 11 3 - (i + 1)) + 64) m' s.2) (jfu_lt (by decide)) ?_ ?_ _ ⟨rfl, fun t ht => absurd ht (Nat.not_lt_zero _), jfr_r⟩
        · intro tk htk s hs
          obtain ⟨y, m2⟩ := s
          obtain ⟨g1, g2, g3⟩ := hs
          dsimp only at g1 g2 g3 ⊢
          subst g1
          have h60 : ja m2 60 (c 11 3 - (i + 1)) = ((kB (kAb c p cl (c 11 3 - (i + 1))) (c 11 2) : Nat) : Int) := by rw [ja_fr g3 (by omega), ja_fr h3 (by decide)]; exact hA1 _ hl
          have hrw : kRw m2 61 (c 11 3 - (i + 1) + 1) (kMo (kAb c p cl) (c 11 2) (c 11 3) i) := fun s' hs' => by
            rw [ja_fr g3 (by omega), show c 11 3 - (i + 1) + 1 = c 11 3 - i by omega]
            exact h2 i (Nat.le_refl _) s' hs'
          have hFb : ∀ s', 0 ≤ kMo (kAb c p cl) (c 11 2) (c 11 3) i s' ∧ kMo (kAb c p cl) (c 11 2) (c 11 3) i s' ≤ 100 := fun s' => by
            have := kMo_b (ab := kAb c p cl) (W := c 11 2) (N := c 11 3) i s'
            omega
          have hob := kMo_b (ab := kAb c p cl) (W := c 11 2) (N := c 11 3) (i + 1) tk
          rw [if_pos (show (tk : Int) < 64 by omega), sp_44 (by omega) htk (hAb _) h60 hrw hFb, jsb, cut, jwn (n := tk) (by omega)]
          refine ⟨rfl, fun s' hs' => ?_, jfr_js g3 ⟨rfl, by omega, by omega⟩⟩
          show ja (js m2 61 _ _) 61 _ = _
          rw [ja_js]
          by_cases e : s' = tk
          · rw [if_pos ⟨rfl, by omega⟩, e]
            show jw (kMo (kAb c p cl) (c 11 2) (c 11 3) (i + 1) tk) = _
            exact jwi (by omega) (by omega)
          · rw [if_neg (by omega)]; exact g2 s' (by omega)
        · intro s hs
          obtain ⟨y, m2⟩ := s
          obtain ⟨g1, g2, g3⟩ := hs
          dsimp only at g1 g2 g3 ⊢
          rw [if_neg (by omega)]
          exact ⟨fun s' hs' => g2 s' hs', g3⟩
      · refine ⟨rfl, fun q hq => ?_, jfr_t h3 ht.2 (fun e => e) (fun k j hk => hk.1)⟩
        by_cases e : q = i + 1
        · rw [e]; exact ht.1
        · intro s' hs'
          show ja t 61 _ = _
          rw [ja_fr ht.2 (by omega)]; exact h2 q (by omega) s' hs'
    · intro s hs
      obtain ⟨x, m'⟩ := s
      obtain ⟨h1, h2, h3⟩ := hs
      dsimp only at h1 h2 h3 ⊢
      rw [if_pos (by omega)]
      exact ⟨h2, h3⟩
    · have : q = 0 := by omega
      subst this
      exact hz _ (by omega)
  obtain ⟨hR, hf2⟩ := ht
  have hA2 : ∀ l, l < c 11 3 → ja t 60 l = ((kB (kAb c p cl l) (c 11 2) : Nat) : Int) := fun l hl => by rw [ja_fr hf2 (by decide)]; exact hA1 l hl
  have H2 := kK_fr H1 hf2 (fun k j hk => by unfold kQK; omega)
  -- the choice
  unfold jf_47
  refine jo_c (R := fun u => (∀ l, l < c 11 3 → ja u 62 l = kCh (kAb c p cl) (c 11 2) (c 11 3) l (kTk (kAb c p cl) (c 11 2) (c 11 3) l)) ∧ jfr true (fun k _ => k = 62) t u) ?_ (fun u hu => ?_)
  · refine jo_c (R := fun u => (∀ l, l < c 11 3 → ja u 62 l = kCh (kAb c p cl) (c 11 2) (c 11 3) l (kTk (kAb c p cl) (c 11 2) (c 11 3) l)) ∧ jfr true (fun k _ => k = 62) t u) ?_ (fun u hu => hu)
    refine jo_for (c 11 3) jfu (fun i (s : Int × Int × jm) => s.2.1 = i ∧ s.1 = ((kTk (kAb c p cl) (c 11 2) (c 11 3) i : Nat) : Int) ∧ (∀ l, l < i → ja s.2.2 62 l = kCh (kAb c p cl) (c 11 2) (c 11 3) l (kTk (kAb c p cl) (c 11 2) (c 11 3) l)) ∧ jfr true (fun k _ => k = 62) t s.2.2) (jfu_lt (by omega)) ?_ ?_ _ ⟨rfl, rfl, fun t ht => absurd ht (Nat.not_lt_zero _), jfr_r⟩
    · intro i hi s hs
      obtain ⟨tk, x, m'⟩ := s
      obtain ⟨h1, h2, h3, h4⟩ := hs
      dsimp only at h1 h2 h3 h4 ⊢
      subst h1 h2
      have H3 := kK_fr H2 h4 (fun k j hk => by unfold kQK; omega)
      have htk := kTk_lt (ab := kAb c p cl) (W := c 11 2) (N := c 11 3) i
      have hcb := kCh_b (ab := kAb c p cl) (W := c 11 2) (N := c 11 3) (l := i) (tk := kTk (kAb c p cl) (c 11 2) (c 11 3) i)
      have h60 : ja m' 60 i = ((kB (kAb c p cl i) (c 11 2) : Nat) : Int) := by rw [ja_fr h4 (by decide)]; exact hA2 i hi
      have hrw : kRw m' 61 (i + 1) (kMo (kAb c p cl) (c 11 2) (c 11 3) (c 11 3 - (i + 1))) := fun s' hs' => by
        have := hR (c 11 3 - (i + 1)) (by omega) s' hs'
        rw [show c 11 3 - (c 11 3 - (i + 1)) = i + 1 by omega] at this
        rw [ja_fr h4 (by decide)]; exact this
      have hrw0 : kRw m' 61 i (kMo (kAb c p cl) (c 11 2) (c 11 3) (c 11 3 - i)) := fun s' hs' => by
        have := hR (c 11 3 - i) (by omega) s' hs'
        rw [show c 11 3 - (c 11 3 - i) = i by omega] at this
        rw [ja_fr h4 (by decide)]; exact this
      have hFb : ∀ s', 0 ≤ kMo (kAb c p cl) (c 11 2) (c 11 3) (c 11 3 - (i + 1)) s' ∧ kMo (kAb c p cl) (c 11 2) (c 11 3) (c 11 3 - (i + 1)) s' ≤ 100 := fun s' => by
        have := kMo_b (ab := kAb c p cl) (W := c 11 2) (N := c 11 3) (c 11 3 - (i + 1)) s'
        omega
      generalize htke : kTk (kAb c p cl) (c 11 2) (c 11 3) i = tk at htk hcb
      have htk6 : tk < 64 := Nat.lt_of_lt_of_le htk h26
      have e48 : jf_48 (i : Int) (tk : Int) m' = some (kCh (kAb c p cl) (c 11 2) (c 11 3) i tk) := by
        have h6 : kFs (fun k => ((kB (kAb c p cl i) (c 11 2)).testBit k && !tk.testBit k) && decide (1 + kMo (kAb c p cl) (c 11 2) (c 11 3) (c 11 3 - (i + 1)) (tk ||| 2 ^ k) = kMo (kAb c p cl) (c 11 2) (c 11 3) (c 11 3 - i) tk)) 6 = kCh (kAb c p cl) (c 11 2) (c 11 3) i tk := by
          unfold kCh
          have e1 := kFs_ext (f := fun k => ((kB (kAb c p cl i) (c 11 2)).testBit k && !tk.testBit k) && decide (1 + kMo (kAb c p cl) (c 11 2) (c 11 3) (c 11 3 - (i + 1)) (tk ||| 2 ^ k) = kMo (kAb c p cl) (c 11 2) (c 11 3) (c 11 3 - i) tk)) (g := fun k => (kAb c p cl i k && !tk.testBit k) && decide (1 + kMo (kAb c p cl) (c 11 2) (c 11 3) (c 11 3 - (i + 1)) (tk ||| 2 ^ k) = kMo (kAb c p cl) (c 11 2) (c 11 3) (c 11 3 - i) tk)) (c 11 2) (fun k hk => by rw [kB_tb, decide_eq_true hk, Bool.true_and])
          rw [← e1]
          rcases kFs_cs (f := fun k => ((kB (kAb c p cl i) (c 11 2)).testBit k && !tk.testBit k) && decide (1 + kMo (kAb c p cl) (c 11 2) (c 11 3) (c 11 3 - (i + 1)) (tk ||| 2 ^ k) = kMo (kAb c p cl) (c 11 2) (c 11 3) (c 11 3 - i) tk)) (c 11 2) with ⟨q1, q2⟩ | ⟨e, q1, q2, q3, q4⟩
          · rw [q1]
            refine kFs_no 6 (fun k hk => ?_)
            by_cases hkw : k < c 11 2
            · exact q2 k hkw
            · rw [kB_tb, decide_eq_false hkw]; rfl
          · rw [q2]; exact kFs_yes q3 q4 6 (by omega)
        rw [← h6]
        unfold jf_48
        refine kFs_lp _ (by decide) (fun k hk => ?_) rfl
        rw [if_pos (show (k : Int) < 6 by omega), sp_45 (by omega) hk (hAb i) htk6 h60, jsb, sp_46 (by omega) hk htk6 hrw hFb, jsb, ix_0 (by omega) htk6, if_pos (show 0 ≤ ((64 * i + tk : Nat) : Int) ∧ ((64 * i + tk : Nat) : Int) < 576 by omega), Int.toNat_natCast, hrw0 tk htk6, jwn (n := k) (by omega)]
        cases ((kB (kAb c p cl i) (c 11 2)).testBit k && !tk.testBit k)
        · rw [if_pos (show b2i false = 0 from rfl), Bool.false_and]; rfl
        · rw [if_neg (show ¬ b2i true = 0 by decide), Bool.true_and]
          by_cases he : 1 + kMo (kAb c p cl) (c 11 2) (c 11 3) (c 11 3 - (i + 1)) (tk ||| 2 ^ k) = kMo (kAb c p cl) (c 11 2) (c 11 3) (c 11 3 - i) tk
          · rw [if_pos he, decide_eq_true he]; rfl
          · rw [if_neg he, decide_eq_false he]; rfl
      rw [kK_n H3 (i := 3) (by decide), if_pos (show (i : Int) < (c 11 3 : Int) by omega), e48, jsb, if_pos (show 0 ≤ (i : Int) ∧ (i : Int) < 8 by omega), jle_eq, Int.toNat_natCast, if_pos (show 0 ≤ (i : Int) ∧ (i : Int) < 8 by omega), ja_js1, jwi (x := kCh _ _ _ _ _) (by omega) (by omega), if_pos (show 0 ≤ (i : Int) ∧ (i : Int) < 8 by omega), jwn (n := i) (by omega)]
      have hks := kTk_s (ab := kAb c p cl) (W := c 11 2) (N := c 11 3) (l := i)
      rw [htke] at hks
      have h62 : ∀ l, l < i + 1 → ja (js m' 62 i (kCh (kAb c p cl) (c 11 2) (c 11 3) i tk)) 62 l = kCh (kAb c p cl) (c 11 2) (c 11 3) l (kTk (kAb c p cl) (c 11 2) (c 11 3) l) := fun l hl => by
        rw [ja_js]
        by_cases e : l = i
        · rw [if_pos ⟨rfl, e⟩, e, htke, jwi (by omega) (by omega)]
        · rw [if_neg (fun f => e f.2)]; exact h3 l (by omega)
      by_cases hm : kCh (kAb c p cl) (c 11 2) (c 11 3) i tk = -1
      · rw [if_pos hm, jsb]
        rw [if_pos hm] at hks
        exact ⟨rfl, by rw [hks], h62, jfr_js h4 rfl⟩
      · rw [if_neg hm, jsb]
        rw [if_neg hm] at hks
        refine ⟨rfl, ?_, h62, jfr_js h4 rfl⟩
        have ec : kCh (kAb c p cl) (c 11 2) (c 11 3) i tk = (((kCh (kAb c p cl) (c 11 2) (c 11 3) i tk).toNat : Nat) : Int) := by omega
        have hp := p64 (k := (kCh (kAb c p cl) (c 11 2) (c 11 3) i tk).toNat) (by omega)
        show jbor (tk : Int) (jshl 1 (kCh (kAb c p cl) (c 11 2) (c 11 3) i tk)) = _
        rw [hks]
        conv => lhs; rw [ec]
        rw [jshl_n (by omega), jbor_n (by omega) (by omega)]
    · intro s hs
      obtain ⟨tk, x, m'⟩ := s
      obtain ⟨h1, h2, h3, h4⟩ := hs
      dsimp only at h1 h2 h3 h4 ⊢
      have H3 := kK_fr H2 h4 (fun k j hk => by unfold kQK; omega)
      rw [kK_n H3 (i := 3) (by decide), if_neg (by omega)]
      exact ⟨h3, h4⟩
  · rw [if_pos (by decide)]
    refine ⟨?_, hu.1⟩
    have := hR (c 11 3) (Nat.le_refl _) 0 (by decide)
    rw [Nat.sub_self] at this
    show ja u 61 0 = _
    rw [ja_fr hu.2 (by decide)]; exact this
