/-! PARTS in the class and in the model. -/
def kEf (c : kC) (s : Nat → Bool) (f : Nat → Bool) : Nat → Nat → Bool
  | 0 => f
  | e + 1 => fun v => kEf c s f e v || (s e && (kEf c s f e (c 1 e) || kEf c s f e (c 2 e)) && (decide (v = c 1 e) || decide (v = c 2 e)))
theorem kEf_s {c : kC} {s f : Nat → Bool} {e v : Nat} : kEf c s f (e + 1) v = (kEf c s f e v || (s e && (kEf c s f e (c 1 e) || kEf c s f e (c 2 e)) && (decide (v = c 1 e) || decide (v = c 2 e)))) := rfl
theorem kEf_m1 {c : kC} {s f : Nat → Bool} {e v : Nat} (h : kEf c s f e v = true) : kEf c s f (e + 1) v = true := by rw [kEf_s, h]; rfl
theorem kEf_m {c : kC} {s f : Nat → Bool} {e v : Nat} (h : kEf c s f e v = true) : ∀ k, kEf c s f (e + k) v = true
  | 0 => h
  | k + 1 => kEf_m1 (kEf_m h k)
theorem kEf_le {c : kC} {s f : Nat → Bool} {e n v : Nat} (hn : e ≤ n) (h : kEf c s f e v = true) : kEf c s f n v = true := by
  have := kEf_m h (n - e)
  rw [show e + (n - e) = n by omega] at this; exact this
def kPf (c : kC) (s : Nat → Bool) (t : Nat) : Nat → Nat → Bool
  | 0 => fun v => decide (v = t)
  | r + 1 => kEf c s (kPf c s t r) (c 11 1)
theorem kPf_snd {c : kC} {s : Nat → Bool} {t : Nat} (hv : kV c) (ht : t < c 11 0) : ∀ r v, kPf c s t r v = true → kRe c s t v = true
  | 0, v, h => by rw [of_decide_eq_true h]; exact kRe_r
  | r + 1, v, h => by
    have ih := kPf_snd (s := s) hv ht r
    have : ∀ e, e ≤ c 11 1 → ∀ v, kEf c s (kPf c s t r) e v = true → kRe c s t v = true := fun e => by
      induction e with
      | zero => intro _ v h; exact ih v h
      | succ e ih2 =>
        intro he v h
        have ih3 := ih2 (by omega)
        rw [kEf_s] at h
        simp only [Bool.or_eq_true, Bool.and_eq_true, decide_eq_true_eq] at h
        rcases h with h | ⟨⟨h1, h2⟩, h3⟩
        · exact ih3 v h
        · have ha : kRe c s t (c 1 e) = true := h2.elim (ih3 _) (fun h => kRe_st hv ht (by omega) h1 (Or.inr ⟨rfl, rfl⟩) (ih3 _ h))
          have hb : kRe c s t (c 2 e) = true := h2.elim (fun h => kRe_st hv ht (by omega) h1 (Or.inl ⟨rfl, rfl⟩) (ih3 _ h)) (ih3 _)
          rcases h3 with h3 | h3
          · rw [h3]; exact ha
          · rw [h3]; exact hb
    exact this (c 11 1) (Nat.le_refl _) v h
theorem kPf_cmp {c : kC} {s : Nat → Bool} {t : Nat} : ∀ r v, kD (kGs c s) (c 11 0) t r v = true → kPf c s t r v = true
  | 0, v, h => decide_eq_true (kD_0.1 h)
  | r + 1, v, h => by
    show kEf c s (kPf c s t r) (c 11 1) v = true
    rcases kD_s.1 h with h1 | ⟨u, h1, h2, h3⟩
    · exact kEf_le (e := 0) (Nat.zero_le _) (kPf_cmp r v h1)
    · obtain ⟨e, e1, e2, e3⟩ := kGs_iff.1 h3
      have hu := kPf_cmp r u h2
      have hue : kEf c s (kPf c s t r) e u = true := kEf_le (e := 0) (Nat.zero_le _) hu
      refine kEf_le (e := e + 1) (by omega) ?_
      rw [kEf_s, e2]
      rcases e3 with ⟨q1, q2⟩ | ⟨q1, q2⟩
      · rw [q1, hue, q2]; simp
      · rw [q2, hue, q1]; simp
theorem kPf_8 {c : kC} {s : Nat → Bool} {t v : Nat} (hv : kV c) (ht : t < c 11 0) : kPf c s t 8 v = kRe c s t v := b_iff ⟨kPf_snd hv ht 8 v, kPf_cmp 8 v⟩
theorem kB_2 {f : Nat → Bool} {n a b : Nat} (ha : a < n) (hb : b < n) : (kB f n &&& (2 ^ a ||| 2 ^ b) = 0 ↔ (f a = false ∧ f b = false)) ∧ kB f n ||| (2 ^ a ||| 2 ^ b) = kB (fun v => f v || (decide (v = a) || decide (v = b))) n := by
  refine ⟨⟨fun h => ?_, fun h => ?_⟩, ?_⟩
  · have h1 : (kB f n &&& (2 ^ a ||| 2 ^ b)).testBit a = false := by rw [h]; exact Nat.zero_testBit a
    have h2 : (kB f n &&& (2 ^ a ||| 2 ^ b)).testBit b = false := by rw [h]; exact Nat.zero_testBit b
    rw [Nat.testBit_and, Nat.testBit_or, kB_tb, Nat.testBit_two_pow, Nat.testBit_two_pow] at h1 h2
    simp [ha] at h1
    simp [hb] at h2
    exact ⟨h1, h2⟩
  · refine Nat.eq_of_testBit_eq (fun k => ?_)
    rw [Nat.testBit_and, Nat.testBit_or, kB_tb, Nat.testBit_two_pow, Nat.testBit_two_pow, Nat.zero_testBit]
    by_cases k1 : a = k
    · subst k1; rw [h.1]; simp
    · by_cases k2 : b = k
      · subst k2; rw [h.2]; simp
      · rw [decide_eq_false k1, decide_eq_false k2]; simp
  · refine Nat.eq_of_testBit_eq (fun k => ?_)
    rw [Nat.testBit_or, Nat.testBit_or, kB_tb, kB_tb, Nat.testBit_two_pow, Nat.testBit_two_pow]
    have d1 : decide (a = k) = decide (k = a) := by by_cases h : a = k <;> simp [h, eq_comm]
    have d2 : decide (b = k) = decide (k = b) := by by_cases h : b = k <;> simp [h, eq_comm]
    rw [d1, d2]
    by_cases hk : k < n
    · rw [decide_eq_true hk]; simp
    · rw [decide_eq_false hk, decide_eq_false (show ¬ k = a by omega), decide_eq_false (show ¬ k = b by omega)]; rfl
theorem sp_38 {q : Nat} {m : jm} {c : kC} {p : kP} {cl : List Int} {t S : Nat} (H : kK q m c p cl) (ht : t < c 11 0) (hS : S < 4096) : jf_38 t S m = some ((kB (kRe c (fun e => S.testBit e) t) (c 11 0) : Nat) : Int) := by
  have hn := H.1.1
  have n1 := kK_n H (i := 1) (by decide)
  unfold jf_38
  rw [jlp_fr (a := (jshl 1 (t : Int), (0 : Int))) (c := ((kB (kRe c (fun e => S.testBit e) t) (c 11 0) : Nat) : Int)) 8 (fun r => (((kB (kPf c (fun e => S.testBit e) t r) (c 11 0) : Nat) : Int), (r : Int))) (by decide) ?h0 ?hs ?he]
  case h0 => rw [jshl_n (by omega), ← kB_one ht]; rfl
  case he =>
    dsimp only
    rw [if_neg (by decide)]
    refine congrArg (fun (x : Nat) => some (Sum.inr (x : Int))) (kB_ext _ (fun v hv => kPf_8 H.1 ht))
  case hs =>
    intro r hr
    dsimp only
    rw [if_pos (show (r : Int) < 8 by omega)]
    rw [jlp_fr (a := (((kB (kPf c (fun e => S.testBit e) t r) (c 11 0) : Nat) : Int), (0 : Int))) (c := ((kB (kPf c (fun e => S.testBit e) t (r + 1)) (c 11 0) : Nat) : Int)) (c 11 1) (fun e => (((kB (kEf c (fun e => S.testBit e) (kPf c (fun e => S.testBit e) t r) e) (c 11 0) : Nat) : Int), (e : Int))) (by omega) rfl ?hs2 ?he2]
    case he2 =>
      dsimp only
      rw [n1, if_neg (by omega)]; rfl
    case hs2 =>
      intro e he
      have hE := H.1.2.2.1 e he
      have h8 := kB_8 (f := kEf c (fun e => S.testBit e) (kPf c (fun e => S.testBit e) t r) e) hn.1
      have pa : 2 ^ c 1 e < 256 := (Nat.pow_lt_pow_iff_right (a := 2) (m := 8) (by decide)).2 (by omega)
      have pb : 2 ^ c 2 e < 256 := (Nat.pow_lt_pow_iff_right (a := 2) (m := 8) (by decide)).2 (by omega)
      have pab : 2 ^ c 1 e ||| 2 ^ c 2 e < 256 := Nat.or_lt_two_pow (n := 8) pa pb
      obtain ⟨z1, z2⟩ := kB_2 (f := kEf c (fun e => S.testBit e) (kPf c (fun e => S.testBit e) t r) e) hE.1 hE.2.1
      dsimp only
      rw [n1, if_pos (show (e : Int) < (c 11 1 : Int) by omega), if_pos (show 0 ≤ (e : Int) ∧ (e : Int) < 12 by omega), if_pos (show 0 ≤ (e : Int) ∧ (e : Int) < 12 by omega), Int.toNat_natCast, kK_A H he, kK_B H he, jtst (by omega) (by omega), jshl_n (by omega), jshl_n (by omega), jbor_n (by omega) (by omega), jband_n (by omega) (by omega), jbor_n (by omega) (by omega), z2, jwn (n := e) (by omega)]
      have fin : ∀ g : Nat → Bool, (∀ v, v < c 11 0 → g v = kEf c (fun e => S.testBit e) (kPf c (fun e => S.testBit e) t r) (e + 1) v) → ((kB g (c 11 0) : Nat) : Int) = ((kB (kEf c (fun e => S.testBit e) (kPf c (fun e => S.testBit e) t r) (e + 1)) (c 11 0) : Nat) : Int) := fun g hg => congrArg (fun (x : Nat) => (x : Int)) (kB_ext _ hg)
      cases hs : S.testBit e
      · rw [if_neg nft, if_neg (by decide), jsb]
        rw [fin _ (fun v hv => by rw [kEf_s, hs]; simp)]
      · rw [if_pos (rfl : true = true), if_pos (rfl : (1 : Int) = 1)]
        by_cases hz : kB (kEf c (fun e => S.testBit e) (kPf c (fun e => S.testBit e) t r) e) (c 11 0) &&& (2 ^ c 1 e ||| 2 ^ c 2 e) = 0
        · rw [if_pos (by omega), jsb]
          rw [fin _ (fun v hv => by rw [kEf_s, hs, (z1.1 hz).1, (z1.1 hz).2]; simp)]
        · rw [if_neg (by omega), jsb]
          have hor : (kEf c (fun e => S.testBit e) (kPf c (fun e => S.testBit e) t r) e (c 1 e) || kEf c (fun e => S.testBit e) (kPf c (fun e => S.testBit e) t r) e (c 2 e)) = true := by
            cases h1 : kEf c (fun e => S.testBit e) (kPf c (fun e => S.testBit e) t r) e (c 1 e)
            · cases h2 : kEf c (fun e => S.testBit e) (kPf c (fun e => S.testBit e) t r) e (c 2 e)
              · exact absurd (z1.2 ⟨h1, h2⟩) hz
              · rfl
            · rfl
          rw [fin _ (fun v hv => by rw [kEf_s, hs, hor]; simp)]
    rw [jsb, jwn (n := r) (by omega)]
  rfl
theorem sp_37 {q : Nat} {m : jm} {c : kC} {p : kP} {cl : List Int} {S : Nat} (H : kK q m c p cl) (hS : S < 4096) : jf_37 S m = some ((kCo c (fun e => S.testBit e) : Nat) : Int) := by
  have hn := H.1.1
  have n0 := kK_n H (i := 0) (by decide)
  unfold jf_37
  rw [jlp_fr (a := ((0 : Int), (0 : Int), (0 : Int))) (c := ((kCo c (fun e => S.testBit e) : Nat) : Int)) (c 11 0) (fun k => (((kCnt (kMn c (fun e => S.testBit e)) k : Nat) : Int), ((kB (fun v => kEx (fun u => kRe c (fun e => S.testBit e) u v) k) (c 11 0) : Nat) : Int), (k : Int))) (by omega) ?h0 ?hs ?he]
  case h0 =>
    have : kB (fun v => kEx (fun u => kRe c (fun e => S.testBit e) u v) 0) (c 11 0) = 0 := kB_0.2 (kCnt_z _ (fun i _ => rfl))
    rw [this]; rfl
  case he =>
    dsimp only
    rw [n0, if_neg (by omega)]; rfl
  case hs =>
    intro k hk
    have h8 := kB_8 (f := fun v => kEx (fun u => kRe c (fun e => S.testBit e) u v) k) hn.1
    have h8' := kB_8 (f := kRe c (fun e => S.testBit e) k) hn.1
    have hc := kCnt_le (S := kMn c (fun e => S.testBit e)) k
    dsimp only
    rw [n0, if_pos (show (k : Int) < (c 11 0 : Int) by omega), jtst (by omega) (by omega), kB_tb, decide_eq_true hk, Bool.true_and, sp_38 H hk hS, jsb, jwn (n := k) (by omega), jbor_n (by omega) (by omega), kCnt_s]
    have hmn : kMn c (fun e => S.testBit e) k = !kEx (fun u => kRe c (fun e => S.testBit e) u k) k := rfl
    rw [hmn]
    cases hx : kEx (fun u => kRe c (fun e => S.testBit e) u k) k
    · rw [if_neg nft, if_pos rfl, jsb, Bool.not_false, if_pos (rfl : true = true), jwn (by omega)]
      refine congrArg (fun (x : Nat) => some (Sum.inl (((kCnt (kMn c (fun e => S.testBit e)) k + 1 : Nat) : Int), (x : Int), ((k + 1 : Nat) : Int)))) ?_
      refine Nat.eq_of_testBit_eq (fun j => ?_)
      rw [Nat.testBit_or, kB_tb, kB_tb, kB_tb, kEx_s]
      cases decide (j < c 11 0) <;> rfl
    · rw [if_pos (rfl : true = true), if_neg (by decide), jsb, Bool.not_true, if_neg nft, Nat.add_zero]
      refine congrArg (fun (x : Nat) => some (Sum.inl (((kCnt (kMn c (fun e => S.testBit e)) k : Nat) : Int), (x : Int), ((k + 1 : Nat) : Int)))) ?_
      refine kB_ext _ (fun v hv => b_iff ?_)
      rw [kEx_s, Bool.or_eq_true]
      refine ⟨Or.inl, fun h => h.elim (fun h => h) (fun h => ?_)⟩
      obtain ⟨u, hu, h2⟩ := kEx_iff.1 hx
      exact kEx_iff.2 ⟨u, hu, kRe_t H.1 (by omega) h2 h⟩
  rfl
/-- the greatest of some numbers -/
def kMxx (f : Nat → Nat) : Nat → Nat
  | 0 => 0
  | n + 1 => if kMxx f n < f n then f n else kMxx f n
theorem kMxx_s {f : Nat → Nat} {n : Nat} : kMxx f (n + 1) = if kMxx f n < f n then f n else kMxx f n := rfl
theorem kMxx_le {f : Nat → Nat} {x : Nat} : ∀ n, kMxx f n ≤ x ↔ ∀ k, k < n → f k ≤ x
  | 0 => ⟨fun _ k hk => absurd hk (Nat.not_lt_zero _), fun _ => Nat.zero_le _⟩
  | n + 1 => by
    have ih := kMxx_le (f := f) (x := x) n
    rw [kMxx_s]
    refine ⟨fun h k hk => ?_, fun h => ?_⟩
    · by_cases hl : kMxx f n < f n
      · rw [if_pos hl] at h
        by_cases e : k = n
        · rw [e]; exact h
        · exact ih.1 (by omega) k (by omega)
      · rw [if_neg hl] at h
        by_cases e : k = n
        · rw [e]; omega
        · exact ih.1 h k (by omega)
    · have h1 := ih.2 (fun k hk => h k (by omega))
      have h2 := h n (by omega)
      split <;> omega
theorem kMxx_eq {f g : Nat → Nat} {n : Nat} (h1 : ∀ k, k < n → ∃ j, j < n ∧ f k ≤ g j) (h2 : ∀ k, k < n → ∃ j, j < n ∧ g k ≤ f j) : kMxx f n = kMxx g n := by
  refine Nat.le_antisymm ((kMxx_le n).2 (fun k hk => ?_)) ((kMxx_le n).2 (fun k hk => ?_))
  · obtain ⟨j, a, b⟩ := h1 k hk
    exact Nat.le_trans b ((kMxx_le n).1 (Nat.le_refl _) j a)
  · obtain ⟨j, a, b⟩ := h2 k hk
    exact Nat.le_trans b ((kMxx_le n).1 (Nat.le_refl _) j a)
def kAll (c : kC) : Nat := 2 ^ c 11 1 - 1
theorem kAll_b {c : kC} (hv : kV c) : kAll c < 4096 := by
  have : 2 ^ c 11 1 ≤ 2 ^ 12 := two_pow_le hv.1.2.1
  unfold kAll; omega
theorem kAll_tb {c : kC} {e : Nat} (he : e < c 11 1) : (kAll c).testBit e = true := by
  unfold kAll; rw [Nat.testBit_two_pow_sub_one]; exact decide_eq_true he
theorem jAll {c : kC} (hv : kV c) : jw (jshl 1 ((c 11 1 : Nat) : Int) - 1) = ((kAll c : Nat) : Int) := by
  have h1 : 2 ^ c 11 1 ≤ 2 ^ 12 := two_pow_le hv.1.2.1
  have h2 : 0 < 2 ^ c 11 1 := Nat.pow_pos (by decide)
  have hn := hv.1
  rw [jshl_n (by omega), jwi (by omega) (by omega)]
  unfold kAll; omega
theorem sp_36 {q : Nat} {m : jm} {c : kC} {p : kP} {cl : List Int} (H : kK q m c p cl) : jf_36 m = some ((kAll c : Nat) : Int) := by
  unfold jf_36
  rw [kK_n H (i := 1) (by decide), jAll H.1]
/-- how many towers hang with k -/
def kSiz (c : kC) (k : Nat) : Nat := kCnt (kRe c (fun e => (kAll c).testBit e) k) (c 11 0)
theorem sp_39 {q : Nat} {m : jm} {c : kC} {p : kP} {cl : List Int} (H : kK q m c p cl) : jf_39 m = some ((kMxx (kSiz c) (c 11 0) : Nat) : Int) := by
  have hn := H.1.1
  have n0 := kK_n H (i := 0) (by decide)
  unfold jf_39
  rw [jlp_fr (a := ((0 : Int), (0 : Int))) (c := ((kMxx (kSiz c) (c 11 0) : Nat) : Int)) (c 11 0) (fun k => (((kMxx (kSiz c) k : Nat) : Int), (k : Int))) (by omega) rfl ?hs ?he]
  case he =>
    dsimp only
    rw [n0, if_neg (by omega)]
  case hs =>
    intro k hk
    dsimp only
    rw [n0, if_pos (show (k : Int) < (c 11 0 : Int) by omega), sp_36 H, jsb, sp_38 H hk (kAll_b H.1), jsb, sp_333 (kB_8 hn.1), jsb, jwn (n := k) (by omega), kMxx_s]
    have e1 : kCnt (fun i => (kB (kRe c (fun e => (kAll c).testBit e) k) (c 11 0)).testBit i) 8 = kSiz c k := by
      rw [kCnt_8 (kB_lt _) hn.1]
      exact kCnt_ext _ (fun i hi => by rw [kB_tb, decide_eq_true hi, Bool.true_and])
    rw [e1]
    unfold jmax
    by_cases h : kMxx (kSiz c) k < kSiz c k
    · rw [if_pos h, if_pos (show ((kMxx (kSiz c) k : Nat) : Int) < ((kSiz c k : Nat) : Int) by omega)]
    · rw [if_neg h, if_neg (show ¬ ((kMxx (kSiz c) k : Nat) : Int) < ((kSiz c k : Nat) : Int) by omega)]
  rfl
