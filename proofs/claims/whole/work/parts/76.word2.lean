/-! WORDS in the model: letters packed into a number. -/
def kPk (g : Nat → Int) : Nat → Int
  | 0 => 0
  | t + 1 => jbor (jshl (kPk g t) 5) (jw (g t - 96))
theorem sp_202 {m : jm} {s L : Nat} (hL : jsl_ s = (L : Int)) (h6 : L ≤ 600) : jf_202 s m = some (kPk (fun t => jsc s (t : Int)) L) := by
  unfold jf_202
  rw [jlp_fr (a := ((0 : Int), (0 : Int))) (c := kPk (fun t => jsc s (t : Int)) L) L (fun t => (kPk (fun t => jsc s (t : Int)) t, (t : Int))) (by omega) rfl ?hs ?he]
  · rfl
  case hs =>
    intro t ht
    dsimp only
    rw [hL, if_pos (show (t : Int) < (L : Int) by omega), if_pos (show 0 ≤ (t : Int) ∧ (t : Int) < (L : Int) by omega), jwn (by omega)]
    rfl
  case he =>
    dsimp only
    rw [hL, if_neg (show ¬ (L : Int) < (L : Int) by omega)]
theorem sp_200 {x : Int} {m : jm} : jf_200 x m = some (if 97 ≤ x ∧ x ≤ 122 then 1 else 0) := by
  unfold jf_200
  by_cases h1 : x < 97
  · rw [if_pos h1, if_neg (by omega)]; rfl
  · rw [if_neg h1]
    by_cases h2 : 122 < x
    · rw [if_pos h2, if_neg (by omega)]; rfl
    · rw [if_neg h2, if_pos (by omega)]; rfl
/-- the word at i, packed; 0 if longer than six -/
def kWv (f : Nat → Int) (n i : Nat) : Int := if 6 < kLe f n i - kSkp f n i then 0 else kPk (fun t => f (kSkp f n i + t)) (kLe f n i - kSkp f n i)
theorem sl_199 {m : jm} {f : Nat → Int} {n i : Nat} (H : kTm m f n i) : jo (jf_199 m) (fun r => r.1 = kWv f n i ∧ kTm r.2 f n (kSkp f n i) ∧ jfr true jW_198 m r.2) := by
  obtain ⟨h1, h2, h3⟩ := H.1
  have hs1 := kSkp_le (f := f) h2
  have hs2 := kWh_ge (P := kIl f) (n := n) (i := kSkp f n i)
  have hs3 := kWh_le (P := kIl f) (n := n) hs1
  unfold jf_199
  refine jo_c (sl_198 H) (fun A hA => ?_)
  obtain ⟨a1, a2, a3⟩ := hA
  refine jo_c (R := fun (t : Int × Int) => t.2 = ((kLe f n i - kSkp f n i : Nat) : Int) ∧ (kLe f n i - kSkp f n i ≤ 6 → t.1 = kPk (fun t => f (kSkp f n i + t)) (kLe f n i - kSkp f n i))) ?_ (fun t ht => ?_)
  · refine jo_scan (P := kIl f) (n := n) (i := kSkp f n i) (I := fun j (s : Int × Int × Int) => s.2.2 = (j : Int) ∧ s.2.1 = ((j - kSkp f n i : Nat) : Int) ∧ (j - kSkp f n i ≤ 6 → s.1 = kPk (fun t => f (kSkp f n i + t)) (j - kSkp f n i))) h1 hs1 (fun j s hij hj hp hs => ?_) (fun s hs => ?_) ⟨a2.2.2.2, by rw [Nat.sub_self]; rfl, fun _ => by rw [Nat.sub_self]; rfl⟩
    · obtain ⟨b1, b2, b3⟩ := hs
      have hp2 : 97 ≤ f j ∧ f j ≤ 122 := of_decide_eq_true hp
      rw [b1, b2, a2.2.2.1, if_pos (show (j : Int) < (n : Int) by omega), if_pos (show 0 ≤ (j : Int) ∧ (j : Int) < 600 by omega), Int.toNat_natCast, a2.2.1 j hj, sp_200, jsb, if_pos hp2, if_neg Int.one_ne_zero, if_pos (show 0 ≤ (j : Int) ∧ (j : Int) < 600 by omega), jite_some, jsb, jwn (n := j) (by omega), jwn (n := j - kSkp f n i) (by omega)]
      refine ⟨rfl, by show ((j - kSkp f n i + 1 : Nat) : Int) = _; omega, fun h6 => ?_⟩
      show (if ((j - kSkp f n i : Nat) : Int) < 6 then _ else _) = _
      rw [if_pos (show ((j - kSkp f n i : Nat) : Int) < 6 by omega), b3 (by omega), show j + 1 - kSkp f n i = (j - kSkp f n i) + 1 by omega]
      show _ = jbor (jshl (kPk (fun t => f (kSkp f n i + t)) (j - kSkp f n i)) 5) (jw (f (kSkp f n i + (j - kSkp f n i)) - 96))
      rw [show kSkp f n i + (j - kSkp f n i) = j by omega]
    · obtain ⟨b1, b2, b3⟩ := hs
      have fin : jo (some (Sum.inr (α := Int × Int × Int) (s.1, s.2.1))) (jcase (fun _ => False) (fun (t : Int × Int) => t.2 = ((kLe f n i - kSkp f n i : Nat) : Int) ∧ (kLe f n i - kSkp f n i ≤ 6 → t.1 = kPk (fun t => f (kSkp f n i + t)) (kLe f n i - kSkp f n i)))) := ⟨b2, b3⟩
      rw [b1, a2.2.2.1]
      by_cases hl : kWh (kIl f) n (kSkp f n i) < n
      · have hno : ¬ (97 ≤ f (kWh (kIl f) n (kSkp f n i)) ∧ f (kWh (kIl f) n (kSkp f n i)) ≤ 122) := of_decide_eq_false (kWh_no hl)
        rw [if_pos (show ((kWh (kIl f) n (kSkp f n i) : Nat) : Int) < (n : Int) by omega), if_pos (show 0 ≤ ((kWh (kIl f) n (kSkp f n i) : Nat) : Int) ∧ ((kWh (kIl f) n (kSkp f n i) : Nat) : Int) < 600 by omega), Int.toNat_natCast, a2.2.1 _ hl, sp_200, jsb, if_neg hno, if_pos rfl]
        exact fin
      · rw [if_neg (show ¬ ((kWh (kIl f) n (kSkp f n i) : Nat) : Int) < (n : Int) by omega)]; exact fin
  · obtain ⟨t1, t2⟩ := ht
    rw [t1]
    unfold kWv
    by_cases h6 : 6 < kLe f n i - kSkp f n i
    · rw [if_pos (show 6 < ((kLe f n i - kSkp f n i : Nat) : Int) by omega), if_pos h6, jsb]; exact ⟨rfl, a2, a3⟩
    · rw [if_neg (show ¬ 6 < ((kLe f n i - kSkp f n i : Nat) : Int) by omega), if_neg h6, jsb]; exact ⟨t2 (by omega), a2, a3⟩
