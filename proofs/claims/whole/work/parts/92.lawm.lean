/-! LAW in the model: words, steps told. -/
theorem kWh_eq {P : Nat → Bool} {n i e : Nat} (h1 : i ≤ e) (h2 : e ≤ n) (h3 : ∀ t, i ≤ t → t < e → P t = true) (h4 : e < n → P e = false) : kWh P n i = e := by
  have a := kWh_ge (P := P) (n := n) (i := i)
  have b := kWh_le (P := P) (n := n) (i := i) (by omega)
  by_cases c : kWh P n i < e
  · have := kWh_no (P := P) (n := n) (i := i) (by omega)
    rw [h3 _ a c] at this; cases this
  · by_cases d : e < kWh P n i
    · have := kWh_in (P := P) (n := n) (i := i) h1 d
      rw [h4 (by omega)] at this; cases this
    · omega
def kQ4 (f : Nat → Int) (n i : Nat) : Bool := kWq f 2 21 28 (kSkp f n i) (kLe f n i)
theorem kC4s : ∀ t, t < 7 → jsc 2 ((21 + t : Nat) : Int) = jsc 11 ((t : Nat) : Int) ∧ 97 ≤ jsc 11 ((t : Nat) : Int) ∧ jsc 11 ((t : Nat) : Int) ≤ 122 := by decide +kernel
def kP4 (f : Nat → Int) (n a t : Nat) : Bool := decide (a + t < n ∧ f (a + t) = jsc 11 ((t : Nat) : Int))
theorem kQ4_i {f : Nat → Int} {n i : Nat} (hi : i ≤ n) : kQ4 f n i = true ↔ (kWh (kP4 f n (kSkp f n i)) 7 0 = 7 ∧ ¬ (kSkp f n i + 7 < n ∧ (97 ≤ f (kSkp f n i + 7) ∧ f (kSkp f n i + 7) ≤ 122))) := by
  have hs := kSkp_le (f := f) hi
  have hl := kLe_le (f := f) hi
  have hg := kLe_ge (f := f) (n := n) (i := i)
  unfold kQ4
  rw [kWq_i]
  constructor
  · intro ⟨h1, h2⟩
    refine ⟨kWh_eq (by omega) (by omega) (fun t _ ht => ?_) (fun h => by omega), fun ⟨z1, z2⟩ => ?_⟩
    · refine decide_eq_true ⟨by omega, ?_⟩
      rw [← h2 t (by omega)]; exact (kC4s t ht).1
    · have hno := kWh_no (P := kIl f) (n := n) (i := kSkp f n i) (by show kLe f n i < n; omega)
      have e : kWh (kIl f) n (kSkp f n i) = kSkp f n i + 7 := by show kLe f n i = _; omega
      rw [e] at hno
      exact of_decide_eq_false hno z2
  · intro ⟨h1, h2⟩
    have hp : ∀ t, t < 7 → kSkp f n i + t < n ∧ f (kSkp f n i + t) = jsc 11 ((t : Nat) : Int) := fun t ht => of_decide_eq_true (kWh_in (P := kP4 f n (kSkp f n i)) (n := 7) (i := 0) (by omega) (by omega))
    have e : kLe f n i = kSkp f n i + 7 := by
      refine kWh_eq (P := kIl f) (by omega) (by have := (hp 6 (by omega)).1; omega) (fun t ht1 ht2 => ?_) (fun h => decide_eq_false (fun z => h2 ⟨h, z⟩))
      have a := (hp (t - kSkp f n i) (by omega)).2
      have b := (kC4s (t - kSkp f n i) (by omega)).2
      rw [show kSkp f n i + (t - kSkp f n i) = t by omega] at a
      exact decide_eq_true (by rw [a]; exact b)
    refine ⟨by omega, fun t ht => ?_⟩
    rw [(hp t (by omega)).2]; exact (kC4s t (by omega)).1
theorem sl_221 {m : jm} {f : Nat → Int} {n i : Nat} (hi : i ≤ n) (H : kTm m f n (kSkp f n i)) : jo (jf_221 11 m) (fun r => (r.1 = b2i (kQ4 f n i) ∧ kTm r.2 f n (kSkp f n i)) ∧ jfr true jW_221 m r.2) := by
  refine jo_and ?_ jx_221
  have h6 := H.1.1
  have hs := kSkp_le (f := f) hi
  unfold jf_221
  refine jo_c (sl_198 H) (fun p hp => ?_)
  rw [kSkp_2] at hp
  obtain ⟨-, p2, -⟩ := hp
  have eL : jsl_ 11 = ((7 : Nat) : Int) := rfl
  rw [p2.2.2.2, p2.2.2.1, eL]
  have fin : jo (jlp (α := Int) (β := Int × jm) (fun s2 => if s2 < ((7 : Nat) : Int) then if jw ((kSkp f n i : Int) + s2) < (n : Int) then if 0 ≤ jw ((kSkp f n i : Int) + s2) ∧ jw ((kSkp f n i : Int) + s2) < 600 then if 0 ≤ s2 ∧ s2 < ((7 : Nat) : Int) then if ja p.2 69 (jw ((kSkp f n i : Int) + s2)).toNat = jsc 11 s2 then some (Sum.inl (jw (s2 + 1))) else some (Sum.inr (0, p.2)) else none else none else some (Sum.inr (0, p.2)) else Option.bind (α := Int) (if jw ((kSkp f n i : Int) + ((7 : Nat) : Int)) < (n : Int) then if 0 ≤ jw ((kSkp f n i : Int) + ((7 : Nat) : Int)) ∧ jw ((kSkp f n i : Int) + ((7 : Nat) : Int)) < 600 then Option.bind (α := Int) (jf_200 (ja p.2 69 (jw ((kSkp f n i : Int) + ((7 : Nat) : Int))).toNat) p.2) fun p7 => if p7 = 0 then some ((1 : Int)) else some ((0 : Int)) else none else some ((1 : Int))) fun t5 => some (Sum.inr (t5, p.2))) jfu 0) (fun r => r.1 = b2i (kQ4 f n i) ∧ kTm r.2 f n (kSkp f n i)) := by
    have ad : ∀ t : Nat, t ≤ 7 → jw ((kSkp f n i : Int) + (t : Int)) = ((kSkp f n i + t : Nat) : Int) := fun t ht => by rw [jwi (by omega) (by omega)]; omega
    refine jo_scan (P := kP4 f n (kSkp f n i)) (n := 7) (i := 0) (I := fun j (s : Int) => s = (j : Int)) (by decide) (by decide) (fun j s _ hj hpj hs' => ?_) (fun s hs' => ?_) rfl
    · have hpj' : kSkp f n i + j < n ∧ f (kSkp f n i + j) = jsc 11 ((j : Nat) : Int) := of_decide_eq_true hpj
      rw [hs', if_pos (by omega), ad j (by omega), if_pos (by omega), if_pos (by omega), if_pos (by omega), Int.toNat_natCast, p2.2.1 _ hpj'.1, if_pos hpj'.2, jwn (by omega)]
      rfl
    · have iff := kQ4_i (f := f) hi
      have hle := kWh_le (P := kP4 f n (kSkp f n i)) (n := 7) (i := 0) (by decide)
      by_cases h7 : kWh (kP4 f n (kSkp f n i)) 7 0 = 7
      · rw [hs', h7, if_neg (by omega), ad 7 (by omega)]
        by_cases hb : kSkp f n i + 7 < n
        · rw [if_pos (by omega), if_pos (by omega), Int.toNat_natCast, p2.2.1 _ hb, sp_200, jsb]
          by_cases hsm : 97 ≤ f (kSkp f n i + 7) ∧ f (kSkp f n i + 7) ≤ 122
          · have q : kQ4 f n i = false := by
              cases h : kQ4 f n i with
              | false => rfl
              | true => exact absurd ⟨hb, hsm⟩ (iff.1 h).2
            rw [if_pos hsm, if_neg Int.one_ne_zero, jsb, q]
            exact ⟨rfl, p2⟩
          · rw [if_neg hsm, if_pos rfl, jsb, iff.2 ⟨h7, fun z => hsm z.2⟩]
            exact ⟨rfl, p2⟩
        · rw [if_neg (by omega), jsb, iff.2 ⟨h7, fun z => hb z.1⟩]
          exact ⟨rfl, p2⟩
      · have q : kQ4 f n i = false := by
          cases h : kQ4 f n i with
          | false => rfl
          | true => exact absurd (iff.1 h).1 h7
        have hno : ¬ (kSkp f n i + kWh (kP4 f n (kSkp f n i)) 7 0 < n ∧ f (kSkp f n i + kWh (kP4 f n (kSkp f n i)) 7 0) = jsc 11 ((kWh (kP4 f n (kSkp f n i)) 7 0 : Nat) : Int)) := of_decide_eq_false (kWh_no (P := kP4 f n (kSkp f n i)) (n := 7) (i := 0) (by omega))
        generalize kWh (kP4 f n (kSkp f n i)) 7 0 = w at *
        rw [hs', if_pos (by omega), ad w (by omega)]
        by_cases hb : kSkp f n i + w < n
        · rw [if_pos (by omega), if_pos (by omega), if_pos (by omega), Int.toNat_natCast, p2.2.1 _ hb, if_neg (fun z => hno ⟨hb, z⟩), q]
          exact ⟨rfl, p2⟩
        · rw [if_neg (by omega), q]
          exact ⟨rfl, p2⟩
  exact fin
/-! the words of a law -/
theorem kPwc : kPw 12 5 = 20317291 ∧ kPw 13 4 = 599653 ∧ kPw 14 4 = 408612 ∧ kPw 15 4 = 370116 ∧ kPw 16 3 = 8877 ∧ kPw 17 3 = 6631 ∧ kPw 18 5 = 19057966 ∧ kPw 19 3 = 4153 ∧ kPw 9 5 = 12748404 ∧ kPw 10 4 = 441972 := by decide +kernel
theorem kQ4_0 {f : Nat → Int} {n i : Nat} (h : kQ4 f n i = true) : kWv f n i = 0 := by
  have := (kWq_i.1 h).1
  unfold kWv
  rw [if_pos (by omega)]
theorem kU2_x {f : Nat → Int} {n i : Nat} : kU2 f n i = if kWv f n i = 20317291 then 0 else if kWv f n i = 599653 then 1 else if kWv f n i = 408612 then 2 else if kWv f n i = 370116 then 3 else if kQ4 f n i = true then 4 else if kWv f n i = 8877 then 5 else if kWv f n i = 6631 then 6 else if kWv f n i = 19057966 then 7 else if kWv f n i = 4153 then 8 else if kWv f n i = 12748404 then 9 else if kWv f n i = 441972 then 10 else -1 := by
  obtain ⟨p12, p13, p14, p15, p16, p17, p18, p19, p9, p10⟩ := kPwc
  unfold kPw at p12 p13 p14 p15 p16 p17 p18 p19 p9 p10
  have q0 : kWq f 2 0 5 (kSkp f n i) (kLe f n i) = true ↔ kWv f n i = 20317291 := by rw [← p12]; exact kWqv rfl (by decide) (by decide) (by decide +kernel) (by decide +kernel)
  have q1 : kWq f 2 6 10 (kSkp f n i) (kLe f n i) = true ↔ kWv f n i = 599653 := by rw [← p13]; exact kWqv rfl (by decide) (by decide) (by decide +kernel) (by decide +kernel)
  have q2 : kWq f 2 11 15 (kSkp f n i) (kLe f n i) = true ↔ kWv f n i = 408612 := by rw [← p14]; exact kWqv rfl (by decide) (by decide) (by decide +kernel) (by decide +kernel)
  have q3 : kWq f 2 16 20 (kSkp f n i) (kLe f n i) = true ↔ kWv f n i = 370116 := by rw [← p15]; exact kWqv rfl (by decide) (by decide) (by decide +kernel) (by decide +kernel)
  have q5 : kWq f 2 29 32 (kSkp f n i) (kLe f n i) = true ↔ kWv f n i = 8877 := by rw [← p16]; exact kWqv rfl (by decide) (by decide) (by decide +kernel) (by decide +kernel)
  have q6 : kWq f 2 33 36 (kSkp f n i) (kLe f n i) = true ↔ kWv f n i = 6631 := by rw [← p17]; exact kWqv rfl (by decide) (by decide) (by decide +kernel) (by decide +kernel)
  have q7 : kWq f 2 37 42 (kSkp f n i) (kLe f n i) = true ↔ kWv f n i = 19057966 := by rw [← p18]; exact kWqv rfl (by decide) (by decide) (by decide +kernel) (by decide +kernel)
  have q8 : kWq f 2 43 46 (kSkp f n i) (kLe f n i) = true ↔ kWv f n i = 4153 := by rw [← p19]; exact kWqv rfl (by decide) (by decide) (by decide +kernel) (by decide +kernel)
  have q9 : kWq f 2 47 52 (kSkp f n i) (kLe f n i) = true ↔ kWv f n i = 12748404 := by rw [← p9]; exact kWqv rfl (by decide) (by decide) (by decide +kernel) (by decide +kernel)
  have q10 : kWq f 2 53 57 (kSkp f n i) (kLe f n i) = true ↔ kWv f n i = 441972 := by rw [← p10]; exact kWqv rfl (by decide) (by decide) (by decide +kernel) (by decide +kernel)
  show (if kWq f 2 0 5 (kSkp f n i) (kLe f n i) = true then (0 : Int) else if kWq f 2 6 10 (kSkp f n i) (kLe f n i) = true then 1 else if kWq f 2 11 15 (kSkp f n i) (kLe f n i) = true then 2 else if kWq f 2 16 20 (kSkp f n i) (kLe f n i) = true then 3 else if kQ4 f n i = true then 4 else if kWq f 2 29 32 (kSkp f n i) (kLe f n i) = true then 5 else if kWq f 2 33 36 (kSkp f n i) (kLe f n i) = true then 6 else if kWq f 2 37 42 (kSkp f n i) (kLe f n i) = true then 7 else if kWq f 2 43 46 (kSkp f n i) (kLe f n i) = true then 8 else if kWq f 2 47 52 (kSkp f n i) (kLe f n i) = true then 9 else if kWq f 2 53 57 (kSkp f n i) (kLe f n i) = true then 10 else -1) = _
  simp only [q0, q1, q2, q3, q5, q6, q7, q8, q9, q10]
/-- a fact's word, where it isn't least or most -/
theorem sl_220 {m : jm} {f : Nat → Int} {n i : Nat} (hi : i ≤ n) (H : kTm m f n (kSkp f n i)) (h9 : kWv f n i ≠ 12748404) (h10 : kWv f n i ≠ 441972) : jo (jf_220 m) (fun r => (r.1 = kU2 f n i ∧ kTm r.2 f n (kSkp f n i)) ∧ jfr true jW_220 m r.2) := by
  refine jo_and ?_ jx_220
  obtain ⟨p12, p13, p14, p15, p16, p17, p18, p19, p9, p10⟩ := kPwc
  have e12 : ∀ M, jf_202 12 M = some 20317291 := fun M => by rw [← p12]; exact sp_202 (s := 12) (L := 5) rfl (by decide)
  have e13 : ∀ M, jf_202 13 M = some 599653 := fun M => by rw [← p13]; exact sp_202 (s := 13) (L := 4) rfl (by decide)
  have e14 : ∀ M, jf_202 14 M = some 408612 := fun M => by rw [← p14]; exact sp_202 (s := 14) (L := 4) rfl (by decide)
  have e15 : ∀ M, jf_202 15 M = some 370116 := fun M => by rw [← p15]; exact sp_202 (s := 15) (L := 4) rfl (by decide)
  have e16 : ∀ M, jf_202 16 M = some 8877 := fun M => by rw [← p16]; exact sp_202 (s := 16) (L := 3) rfl (by decide)
  have e17 : ∀ M, jf_202 17 M = some 6631 := fun M => by rw [← p17]; exact sp_202 (s := 17) (L := 3) rfl (by decide)
  have e18 : ∀ M, jf_202 18 M = some 19057966 := fun M => by rw [← p18]; exact sp_202 (s := 18) (L := 5) rfl (by decide)
  have e19 : ∀ M, jf_202 19 M = some 4153 := fun M => by rw [← p19]; exact sp_202 (s := 19) (L := 3) rfl (by decide)
  unfold jf_220
  refine jo_c (sl_221 hi H) (fun p1 h1 => ?_)
  obtain ⟨⟨a1, a2⟩, -⟩ := h1
  rw [a1]
  cases q : kQ4 f n i with
  | true =>
    have v0 := kQ4_0 q
    have e : kU2 f n i = 4 := by
      rw [kU2_x, v0]
      rw [if_neg (by decide), if_neg (by decide), if_neg (by decide), if_neg (by decide), if_pos q]
    rw [show b2i true = 1 from rfl, if_neg Int.one_ne_zero, e]
    exact ⟨rfl, a2⟩
  | false =>
    rw [show b2i false = 0 from rfl, if_pos rfl]
    refine jo_c (sl_199 a2) (fun p2 h2 => ?_)
    rw [kWv_2, kSkp_2] at h2
    obtain ⟨b1, b2, -⟩ := h2
    simp only [e12, e13, e14, e15, e16, e17, e18, e19, jsb, jite_some]
    rw [b1, kU2_x, q, if_neg (show ¬ (false = true) by simp)]
    refine ⟨?_, b2⟩
    show _ = _
    rw [if_neg h9, if_neg h10]
/-! what the model has told so far -/
def kCe (m : jm) (l : List Int) : Prop := ja m 67 33 = (l.length : Int) ∧ ∀ t, t < l.length → 0 ≤ ja m 80 t ∧ ja m 80 t ≤ 7 ∧ (ja m 80 t = 0 → 0 ≤ ja m 81 t ∧ ja m 81 t ≤ 999) ∧ (ja m 80 t = 1 → 0 ≤ ja m 81 t ∧ ja m 81 t ≤ 8) ∧ kEn (ja m 80 t) (ja m 81 t) = l.getD t 0
theorem kCe_fr {b : Bool} {W : Nat → Nat → Prop} {m m' : jm} {l : List Int} (H : kCe m l) (h : jfr b W m m') (hz : ∀ k j, W k j → ¬ (k = 80 ∨ k = 81 ∨ (k = 67 ∧ j = 33))) : kCe m' l := ⟨by rw [ja_fr h (fun e => hz _ _ e (by omega))]; exact H.1, fun t ht => by rw [ja_fr h (fun e => hz _ _ e (by omega)), ja_fr h (fun e => hz _ _ e (by omega))]; exact H.2 t ht⟩
def kMl (m : jm) (f : Nat → Int) (n o : Nat) (z : qLs) : Prop := kMz m f n z.1 ∧ kCe m z.2 ∧ ∀ i, z.1 = Sum.inr i → ja m 67 7 = (o : Int) ∧ z.2.length ≤ i
theorem kMl_f {m : jm} {f : Nat → Int} {n o o' : Nat} {e : Int × Nat} {l : List Int} (H : kMl m f n o (Sum.inl e, l)) : kMl m f n o' (Sum.inl e, l) := ⟨H.1, H.2.1, fun i h => by cases h⟩
theorem kMl_fr {b : Bool} {W : Nat → Nat → Prop} {m m' : jm} {f : Nat → Int} {n o : Nat} {z : qLs} (H : kMl m f n o z) (h : jfr b W m m') (hz : ∀ k j, W k j → ¬ (k = 69 ∨ k = 80 ∨ k = 81 ∨ (k = 67 ∧ ((3 ≤ j ∧ j ≤ 7) ∨ j = 33)))) : kMl m' f n o z := ⟨kMz_fr H.1 h (fun k j w => by have := hz k j w; omega), kCe_fr H.2.1 h (fun k j w => by have := hz k j w; omega), fun i hi => ⟨by rw [ja_fr h (fun e => hz _ _ e (by omega))]; exact (H.2.2 i hi).1, (H.2.2 i hi).2⟩⟩
theorem kMl_sig {m : jm} {f : Nat → Int} {n o : Nat} {x : Int} {z : qLs} (H : kMl m f n o z) (hx : x ≠ 0) : jo (jf_211 x m) (fun r => kMl r f n o (kSx f n x z)) := by
  refine jo_mono (sl_211g H.1 hx) (fun r hr => ⟨hr.1, kCe_fr H.2.1 hr.2 (fun k j h => by unfold jW_211 at h; omega), fun i hi => ?_⟩)
  obtain ⟨j, h1, h2, -⟩ := kSs_in (show kSs f n x z.1 = Sum.inr i from hi)
  have := H.2.2 j h1
  exact ⟨by rw [ja_fr hr.2 (by unfold jW_211; omega)]; exact this.1, by show z.2.length ≤ i; omega⟩
theorem sl_218 {m : jm} {f : Nat → Int} {n o : Nat} {w a : Int} {z : qLs} (hn : n ≤ 150) (H : kMl m f n o z) (hl : ∀ i, z.1 = Sum.inr i → z.2.length + 1 ≤ i) (h1 : 0 ≤ w ∧ w ≤ 7) (h2 : w = 0 → 0 ≤ a ∧ a ≤ 999) (h3 : w = 1 → 0 ≤ a ∧ a ≤ 8) (h4 : jg a) : jo (jf_218 w a m) (fun r => kMl r f n o (kEm (kEn w a) z)) := by
  obtain ⟨s, l⟩ := z
  obtain ⟨H1, H2, H3⟩ := H
  dsimp only at H1 H2 H3 hl
  unfold jf_218
  rw [kMz_g H1]
  cases s with
  | inl e => rw [kOkz_l, jsb, if_pos rfl]; exact ⟨H1, H2, fun i h => by cases h⟩
  | inr i =>
    have hi := H1.1.1.2.1
    have hl1 := hl i rfl
    obtain ⟨g1, g2⟩ := H3 i rfl
    rw [kOkz_r, jsb, if_neg Int.one_ne_zero, H2.1, if_pos (by omega), Int.toNat_natCast, jle_eq, ja_jsk (show (67 : Nat) ≠ 80 by decide), H2.1, if_pos (by omega), Int.toNat_natCast, jle_eq, ja_jsk (show (67 : Nat) ≠ 81 by decide), ja_jsk (show (67 : Nat) ≠ 80 by decide), H2.1, jle_eq, jwn (by omega)]
    refine ⟨kMz_js (kMz_js (kMz_js H1 (by omega)) (by omega)) (by omega), ⟨?_, fun t ht => ?_⟩, fun j hj => ⟨?_, ?_⟩⟩
    · show ja (js _ 67 33 _) 67 33 = ((l ++ [kEn w a]).length : Int)
      rw [ja_js1, List.length_append, List.length_singleton, jwi (by omega) (by omega)]
    · have ht' : t < l.length + 1 := by rw [show (kEm (kEn w a) (Sum.inr i, l)).2 = l ++ [kEn w a] from rfl, List.length_append, List.length_singleton] at ht; exact ht
      rw [show (kEm (kEn w a) (Sum.inr i, l)).2 = l ++ [kEn w a] from rfl]
      by_cases e : t = l.length
      · subst e
        have w1 : ja (js (js (js m 80 l.length w) 81 l.length a) 67 33 ((l.length + 1 : Nat) : Int)) 80 l.length = w := by rw [ja_jsk (by decide), ja_jsk (by decide), ja_js1, jwi (by omega) (by omega)]
        have w2 : ja (js (js (js m 80 l.length w) 81 l.length a) 67 33 ((l.length + 1 : Nat) : Int)) 81 l.length = a := by rw [ja_jsk (by decide), ja_js1]; exact jw_id h4
        rw [w1, w2, kGetD_e]
        exact ⟨h1.1, h1.2, h2, h3, rfl⟩
      · have w1 : ja (js (js (js m 80 l.length w) 81 l.length a) 67 33 ((l.length + 1 : Nat) : Int)) 80 t = ja m 80 t := by rw [ja_jsk (by decide), ja_jsk (by decide), ja_jsj e]
        have w2 : ja (js (js (js m 80 l.length w) 81 l.length a) 67 33 ((l.length + 1 : Nat) : Int)) 81 t = ja m 81 t := by rw [ja_jsk (by decide), ja_jsj e, ja_jsk (by decide)]
        rw [w1, w2, kGetD_a (by omega)]
        exact H2.2 t (by omega)
    · rw [ja_jsj (by decide), ja_jsk (by decide), ja_jsk (by decide)]; exact g1
    · cases hj
      show (l ++ [kEn w a]).length ≤ i
      rw [List.length_append, List.length_singleton]; omega
