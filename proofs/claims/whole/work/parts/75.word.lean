/-! WORDS on the tape, in the class. -/
def kWm (f : Nat → Int) (s a i t : Nat) : Bool := decide (jsc s ((a + t : Nat) : Int) = f (i + t))
/-- the word from i to j is what stands in string s from a to e -/
def kWq (f : Nat → Int) (s a e i j : Nat) : Bool := decide (e - a = j - i ∧ kWh (kWm f s a i) (e - a) 0 = e - a)
theorem sl_119 {m : jm} {f : Nat → Int} {n i j s a e : Nat} (H : kTc m f n j) (h4 : ja m 1 4 = (i : Int)) (hij : i ≤ j) (hae : a ≤ e) (he : (e : Int) ≤ jsl_ s) (hs : jsl_ s ≤ 4096) : jo (jf_119 s a e m) (fun b => b = b2i (kWq f s a e i j)) := by
  obtain ⟨h1, h2, h3⟩ := H.1
  unfold jf_119 kWq
  rw [H.2.2.2, h4, show jw ((e : Int) - (a : Int)) = ((e - a : Nat) : Int) by rw [jwi (by omega) (by omega)]; omega, show jw ((j : Int) - (i : Int)) = ((j - i : Nat) : Int) by rw [jwi (by omega) (by omega)]; omega]
  by_cases hl : e - a = j - i
  · rw [if_pos (show ((e - a : Nat) : Int) = ((j - i : Nat) : Int) by omega)]
    have hle := kWh_le (P := kWm f s a i) (n := e - a) (i := 0) (Nat.zero_le _)
    refine jo_scan (P := kWm f s a i) (n := e - a) (i := 0) (I := fun t (x : Int) => x = (t : Int)) (by omega) (Nat.zero_le _) (fun t x ht0 ht hp hx => ?_) (fun x hx => ?_) rfl
    · have hp' : jsc s ((a + t : Nat) : Int) = f (i + t) := of_decide_eq_true hp
      rw [hx, if_pos (show (t : Int) < ((e - a : Nat) : Int) by omega), show jw ((a : Int) + (t : Int)) = ((a + t : Nat) : Int) by rw [jwi (by omega) (by omega)]; omega, if_pos (show 0 ≤ ((a + t : Nat) : Int) ∧ ((a + t : Nat) : Int) < jsl_ s by omega), show jw ((i : Int) + (t : Int)) = ((i + t : Nat) : Int) by rw [jwi (by omega) (by omega)]; omega, if_pos (show 0 ≤ ((i + t : Nat) : Int) ∧ ((i + t : Nat) : Int) < 600 by omega), Int.toNat_natCast, H.2.1 (i + t) (by omega), if_pos hp', jwn (by omega)]
      exact rfl
    · rw [hx]
      by_cases hw : kWh (kWm f s a i) (e - a) 0 = e - a
      · rw [if_neg (show ¬ ((kWh (kWm f s a i) (e - a) 0 : Nat) : Int) < ((e - a : Nat) : Int) by omega), decide_eq_true ⟨hl, hw⟩]; exact rfl
      · have hlt : kWh (kWm f s a i) (e - a) 0 < e - a := by omega
        have hno : ¬ jsc s ((a + kWh (kWm f s a i) (e - a) 0 : Nat) : Int) = f (i + kWh (kWm f s a i) (e - a) 0) := of_decide_eq_false (kWh_no hlt)
        rw [decide_eq_false (fun z => hw z.2)]
        generalize kWh (kWm f s a i) (e - a) 0 = t at hlt hno
        rw [if_pos (show (t : Int) < ((e - a : Nat) : Int) by omega), show jw ((a : Int) + (t : Int)) = ((a + t : Nat) : Int) by rw [jwi (by omega) (by omega)]; omega, if_pos (show 0 ≤ ((a + t : Nat) : Int) ∧ ((a + t : Nat) : Int) < jsl_ s by omega), show jw ((i : Int) + (t : Int)) = ((i + t : Nat) : Int) by rw [jwi (by omega) (by omega)]; omega, if_pos (show 0 ≤ ((i + t : Nat) : Int) ∧ ((i + t : Nat) : Int) < 600 by omega), Int.toNat_natCast, H.2.1 (i + t) (by omega), if_neg hno]
        exact rfl
  · rw [if_neg (show ¬ ((e - a : Nat) : Int) = ((j - i : Nat) : Int) by omega), decide_eq_false (fun z => hl z.1)]
    exact rfl
/-- where a word of string s ends -/
def kWen (s L a : Nat) : Nat := kWh (fun t => decide (jsc s (t : Int) ≠ 32)) L a
theorem sl_118 {m : jm} {s L a : Nat} (hL : jsl_ s = (L : Int)) (h6 : L ≤ 600) (ha : a ≤ L) : jo (jf_118 s a m) (fun r => r = ((kWen s L a : Nat) : Int)) := by
  unfold jf_118
  refine jo_c (R := fun r => r = ((kWen s L a : Nat) : Int)) ?_ (fun r hr => hr)
  refine jo_scan (P := fun t => decide (jsc s (t : Int) ≠ 32)) (n := L) (i := a) (I := fun t (x : Int) => x = (t : Int)) h6 ha (fun t x ht0 ht hp hx => ?_) (fun x hx => ?_) rfl
  · have hp' : jsc s (t : Int) ≠ 32 := of_decide_eq_true hp
    rw [hx, hL, if_pos (show (t : Int) < (L : Int) by omega), if_pos (show 0 ≤ (t : Int) ∧ (t : Int) < (L : Int) by omega), if_neg hp', jwn (by omega)]
    exact rfl
  · have hle := kWh_le (P := fun t => decide (jsc s (t : Int) ≠ 32)) ha
    rw [hx, hL]
    by_cases hw : kWh (fun t => decide (jsc s (t : Int) ≠ 32)) L a < L
    · have hno : ¬ jsc s ((kWh (fun t => decide (jsc s (t : Int) ≠ 32)) L a : Nat) : Int) ≠ 32 := of_decide_eq_false (kWh_no (P := fun t => decide (jsc s (t : Int) ≠ 32)) hw)
      rw [if_pos (show ((kWh (fun t => decide (jsc s (t : Int) ≠ 32)) L a : Nat) : Int) < (L : Int) by omega), if_pos (show 0 ≤ ((kWh (fun t => decide (jsc s (t : Int) ≠ 32)) L a : Nat) : Int) ∧ ((kWh (fun t => decide (jsc s (t : Int) ≠ 32)) L a : Nat) : Int) < (L : Int) by omega), if_pos (Classical.not_not.1 hno)]
      exact rfl
    · rw [if_neg (show ¬ ((kWh (fun t => decide (jsc s (t : Int) ≠ 32)) L a : Nat) : Int) < (L : Int) by omega)]
      exact rfl
/-- which word of s the word from i to j is -/
def kWst (f : Nat → Int) (s L i j : Nat) (z : Nat × Nat) : Int ⊕ (Nat × Nat) := if z.2 < L then (if kWq f s z.2 (kWen s L z.2) i j = true then Sum.inl (z.1 : Int) else Sum.inr (z.1 + 1, kWen s L z.2 + 1)) else Sum.inl (-1)
def kLe (f : Nat → Int) (n i : Nat) : Nat := kWh (kIl f) n (kSkp f n i)
theorem sl_117 {m : jm} {f : Nat → Int} {n i s L : Nat} (H : kTc m f n i) (hL : jsl_ s = (L : Int)) (h6 : L ≤ 100) : ∃ r, kRun (kWst f s L (kSkp f n i) (kLe f n i)) jfu ((0 : Nat), (0 : Nat)) = some r ∧ jo (jf_117 s m) (fun b => b.1 = r ∧ kTc b.2 f n (kLe f n i) ∧ ja b.2 1 4 = (kSkp f n i : Int) ∧ (r = -1 → ja b.2 1 5 = 1 ∧ ja b.2 1 6 = (kSkp f n i : Int)) ∧ (r ≠ -1 → ja b.2 1 5 = ja m 1 5 ∧ ja b.2 1 6 = ja m 1 6)) := by
  obtain ⟨h1, h2, h3⟩ := H.1
  have hs1 := kSkp_le (f := f) h2
  have hs2 := kWh_ge (P := kIl f) (n := n) (i := kSkp f n i)
  have hs3 := kWh_le (P := kIl f) (n := n) hs1
  obtain ⟨A, hA, a1, a2, a3⟩ := jo_ex.1 (sl_116 H)
  have key : jo (jlp (α := jm) (β := jm) (fun s3 => if (ja s3 1 3) < (ja s3 1 2) then if 0 ≤ (ja s3 1 3) ∧ (ja s3 1 3) < 600 then if (ja s3 2 (ja s3 1 3).toNat) < 97 then some (Sum.inr (s3)) else if 0 ≤ (ja s3 1 3) ∧ (ja s3 1 3) < 600 then if 122 < (ja s3 2 (ja s3 1 3).toNat) then some (Sum.inr (s3)) else jle (js s3 1 3 (jw ((ja s3 1 3) + 1))) fun m9 => some (Sum.inl (m9)) else none else none else some (Sum.inr (s3))) jfu (js A.2 1 4 (ja A.2 1 3))) (fun M => kTc M f n (kLe f n i) ∧ ja M 1 4 = (kSkp f n i : Int) ∧ ja M 1 5 = ja m 1 5 ∧ ja M 1 6 = ja m 1 6) := by
    refine jo_scan (P := kIl f) (n := n) (i := kSkp f n i) (I := fun j M => kTc M f n j ∧ ja M 1 4 = (kSkp f n i : Int) ∧ ja M 1 5 = ja m 1 5 ∧ ja M 1 6 = ja m 1 6) h1 hs1 (fun j M hij hj hp hM => ?_) (fun M hM => ?_) ⟨kTc_js a2 (by omega), by rw [ja_js1, a2.2.2.2, jwi (by omega) (by omega)], by rw [ja_jsj (by decide), ja_fr a3 (by unfold jW_116; omega)], by rw [ja_jsj (by decide), ja_fr a3 (by unfold jW_116; omega)]⟩
    · obtain ⟨b1, b2, b3, b4⟩ := hM
      have hp2 : 97 ≤ f j ∧ f j ≤ 122 := of_decide_eq_true hp
      rw [b1.2.2.2, b1.2.2.1, if_pos (show (j : Int) < (n : Int) by omega), if_pos (show 0 ≤ (j : Int) ∧ (j : Int) < 600 by omega), Int.toNat_natCast, b1.2.1 j hj, if_neg (show ¬ f j < 97 by omega), if_pos (show 0 ≤ (j : Int) ∧ (j : Int) < 600 by omega), if_neg (show ¬ 122 < f j by omega), jle_eq, jwn (by omega)]
      exact ⟨kTc_mv b1 (by omega), by rw [ja_jsj (by decide)]; exact b2, by rw [ja_jsj (by decide)]; exact b3, by rw [ja_jsj (by decide)]; exact b4⟩
    · obtain ⟨b1, b2, b3, b4⟩ := hM
      have fin : jo (some (Sum.inr (α := jm) M)) (jcase (fun _ => False) (fun M => kTc M f n (kLe f n i) ∧ ja M 1 4 = (kSkp f n i : Int) ∧ ja M 1 5 = ja m 1 5 ∧ ja M 1 6 = ja m 1 6)) := ⟨b1, b2, b3, b4⟩
      rw [b1.2.2.2, b1.2.2.1]
      by_cases hl : kWh (kIl f) n (kSkp f n i) < n
      · have hno : ¬ (97 ≤ f (kWh (kIl f) n (kSkp f n i)) ∧ f (kWh (kIl f) n (kSkp f n i)) ≤ 122) := of_decide_eq_false (kWh_no hl)
        rw [if_pos (show ((kWh (kIl f) n (kSkp f n i) : Nat) : Int) < (n : Int) by omega), if_pos (show 0 ≤ ((kWh (kIl f) n (kSkp f n i) : Nat) : Int) ∧ ((kWh (kIl f) n (kSkp f n i) : Nat) : Int) < 600 by omega), Int.toNat_natCast, b1.2.1 _ hl]
        by_cases h97 : f (kWh (kIl f) n (kSkp f n i)) < 97
        · rw [if_pos h97]; exact fin
        · rw [if_neg h97, if_pos (show 0 ≤ ((kWh (kIl f) n (kSkp f n i) : Nat) : Int) ∧ ((kWh (kIl f) n (kSkp f n i) : Nat) : Int) < 600 by omega), if_pos (show 122 < f (kWh (kIl f) n (kSkp f n i)) by omega)]; exact fin
      · rw [if_neg (show ¬ ((kWh (kIl f) n (kSkp f n i) : Nat) : Int) < (n : Int) by omega)]; exact fin
  obtain ⟨T, hT, c1, c2, c3, c4⟩ := jo_ex.1 key
  unfold jf_117
  rw [hA, jsb, jle_eq, hT, jsb]
  have hij : kSkp f n i ≤ kLe f n i := hs2
  refine jo_run (fun (a : Int × Int) (z : Nat × Nat) => a.1 = (z.1 : Int) ∧ a.2 = (z.2 : Int) ∧ z.2 ≤ L + 1 ∧ z.1 ≤ z.2) (fun z => L + 1 - z.2) (fun a z hz => ?_) jfu _ _ (jfu_lt (by show L + 1 - 0 < 4000000; omega)) ⟨rfl, rfl, Nat.zero_le _, Nat.le_refl _⟩
  obtain ⟨k, a0⟩ := z
  obtain ⟨z1, z2, z3, z4⟩ := hz
  dsimp only at z1 z2 z3 z4
  rw [z1, z2, hL]
  by_cases hl : a0 < L
  · have w1 := kWh_ge (P := fun t => decide (jsc s (t : Int) ≠ 32)) (n := L) (i := a0)
    have w2 := kWh_le (P := fun t => decide (jsc s (t : Int) ≠ 32)) (n := L) (i := a0) (by omega)
    obtain ⟨E, hE, e1⟩ := jo_ex.1 (sl_118 (m := T) (a := a0) hL (by omega) (by omega))
    obtain ⟨b, hb, e2⟩ := jo_ex.1 (sl_119 (s := s) (a := a0) (e := kWen s L a0) c1 c2 hij w1 (by rw [hL]; unfold kWen; omega) (by rw [hL]; omega))
    rw [if_pos (show (a0 : Int) < (L : Int) by omega), hE, jsb, e1, hb, jsb, e2]
    by_cases hq : kWq f s a0 (kWen s L a0) (kSkp f n i) (kLe f n i) = true
    · refine Or.inl ⟨(k : Int), by unfold kWst; dsimp only; rw [if_pos hl, if_pos hq], ?_⟩
      rw [hq, if_neg (show ¬ b2i true = 0 by decide)]
      exact ⟨rfl, c1, c2, fun z => by omega, fun _ => ⟨c3, c4⟩⟩
    · refine Or.inr ⟨(k + 1, kWen s L a0 + 1), by unfold kWst; dsimp only; rw [if_pos hl, if_neg hq], by show L + 1 - (kWen s L a0 + 1) < L + 1 - a0; unfold kWen; omega, ?_⟩
      rw [show kWq f s a0 (kWen s L a0) (kSkp f n i) (kLe f n i) = false by simpa using hq, if_pos (show b2i false = 0 by decide), jwn (by omega), jwn (by unfold kWen; omega)]
      exact ⟨rfl, rfl, by show kWen s L a0 + 1 ≤ L + 1; unfold kWen; omega, by show k + 1 ≤ kWen s L a0 + 1; unfold kWen; omega⟩
  · refine Or.inl ⟨-1, by unfold kWst; dsimp only; rw [if_neg hl], ?_⟩
    rw [if_neg (show ¬ (a0 : Int) < (L : Int) by omega), sp_120, jsb, c2]
    refine ⟨rfl, kTc_js (kTc_js c1 (by omega)) (by omega), ?_, fun _ => ⟨?_, ?_⟩, fun z => absurd rfl z⟩
    · show ja (js (js T 1 5 1) 1 6 _) 1 4 = _
      rw [ja_jsj (by decide), ja_jsj (by decide)]; exact c2
    · show ja (js (js T 1 5 1) 1 6 _) 1 5 = _
      rw [ja_jsj (by decide), ja_js1]; exact wo1
    · show ja (js (js T 1 5 1) 1 6 _) 1 6 = _
      rw [ja_js1, jwi (by omega) (by omega)]
