/-! ROWS of a city, in the model: which word, and past it. -/
def kPw (s L : Nat) : Int := kPk (fun t => jsc s (t : Int)) L
theorem sp_201 {x : Int} {m : jm} : jf_201 x m = some (if x = kPw 5 5 then 1 else if x = kPw 6 4 then 1 else if x = kPw 7 6 then 1 else if x = kPw 8 6 then 1 else 0) := by
  unfold jf_201
  rw [sp_202 (s := 5) (L := 5) rfl (by decide), jsb, sp_202 (s := 6) (L := 4) rfl (by decide), jsb, sp_202 (s := 7) (L := 6) rfl (by decide), jsb, sp_202 (s := 8) (L := 6) rfl (by decide), jsb]
  unfold kPw
  rw [jite_some, jite_some, jite_some, jite_some, jsb]
theorem sl_205 {m : jm} {f : Nat → Int} {n i : Nat} (hi : i ≤ n) (H : kTm m f n (kSkp f n i)) : jo (jf_205 m) (fun r => kTm r f n (kLe f n i) ∧ jfr true jW_205 m r) := by
  refine jo_and ?_ jx_205
  obtain ⟨h1, h2, h3⟩ := H.1
  unfold jf_205
  refine jo_c (R := fun r => kTm r f n (kLe f n i)) ?_ (fun r hr => hr)
  refine jo_scan (P := kIl f) (n := n) (i := kSkp f n i) (I := fun j s => kTm s f n j) h1 h2 (fun j s hij hj hp hs => ?_) (fun s hs => ?_) H
  · have hp2 : 97 ≤ f j ∧ f j ≤ 122 := of_decide_eq_true hp
    rw [hs.2.2.2, hs.2.2.1, if_pos (show (j : Int) < (n : Int) by omega), if_pos (show 0 ≤ (j : Int) ∧ (j : Int) < 600 by omega), Int.toNat_natCast, hs.2.1 j hj, sp_200, jsb, if_pos hp2, if_neg Int.one_ne_zero, jle_eq, jwn (by omega)]
    exact kTm_mv hs (by omega)
  · have hle := hs.1.2.1
    rw [hs.2.2.2, hs.2.2.1]
    by_cases hl : kWh (kIl f) n (kSkp f n i) < n
    · have hno : ¬ (97 ≤ f (kWh (kIl f) n (kSkp f n i)) ∧ f (kWh (kIl f) n (kSkp f n i)) ≤ 122) := of_decide_eq_false (kWh_no hl)
      rw [if_pos (show ((kWh (kIl f) n (kSkp f n i) : Nat) : Int) < (n : Int) by omega), if_pos (show 0 ≤ ((kWh (kIl f) n (kSkp f n i) : Nat) : Int) ∧ ((kWh (kIl f) n (kSkp f n i) : Nat) : Int) < 600 by omega), Int.toNat_natCast, hs.2.1 _ hl, sp_200, jsb, if_neg hno, if_pos rfl]
      exact hs
    · rw [if_neg (show ¬ ((kWh (kIl f) n (kSkp f n i) : Nat) : Int) < (n : Int) by omega)]
      exact hs
theorem sp_204 {x : Int} {m : jm} : jf_204 x m = some (if (x = kPw 5 5 ∧ ja m 67 20 = 8) ∨ (x = kPw 6 4 ∧ ja m 67 21 = 12) ∨ (x = kPw 7 6 ∧ ja m 67 22 = 6) ∨ (x = kPw 8 6 ∧ ja m 67 23 = 8) then 1 else 0) := by
  have e5 : ∀ M, jf_202 5 M = some (kPw 5 5) := fun M => sp_202 (s := 5) (L := 5) rfl (by decide)
  have e6 : ∀ M, jf_202 6 M = some (kPw 6 4) := fun M => sp_202 (s := 6) (L := 4) rfl (by decide)
  have e7 : ∀ M, jf_202 7 M = some (kPw 7 6) := fun M => sp_202 (s := 7) (L := 6) rfl (by decide)
  have e8 : ∀ M, jf_202 8 M = some (kPw 8 6) := fun M => sp_202 (s := 8) (L := 6) rfl (by decide)
  unfold jf_204
  simp only [e5, e6, e7, e8, jsb]
  generalize kPw 5 5 = p5
  generalize kPw 6 4 = p6
  generalize kPw 7 6 = p7
  generalize kPw 8 6 = p8
  repeat' split
  all_goals first | rfl | (exfalso; omega)
