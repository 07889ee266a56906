theorem k_loop {X : Nat × (Nat → Int32)} {m : jm} (hX : X.1 ≤ 5120) (hI : Inv m) : jo (jf_332 X m) (fun r => r.1 = 1) := by
  unfold jf_332
  refine jo_wh (fun s : Int × jm => 0 ≤ s.1 ∧ s.1 ≤ 5120 ∧ Inv s.2) (fun s => (6000 - s.1).toNat) (fun s hs => ?_) jfu ((0 : Int), m) (jfu_lt (by show (6000 - (0 : Int)).toNat < 4000000; decide)) ⟨by show (0 : Int) ≤ 0; decide, by show (0 : Int) ≤ 5120; decide, hI⟩
  obtain ⟨h1, h4, hI⟩ := hs
  have e : jw ((X.1 : Int) - 10) = (X.1 : Int) - 10 := jwi (by omega) (by omega)
  rw [e]
  by_cases hl : (X.1 : Int) - 10 < s.1
  · rw [if_pos hl]; exact rfl
  · rw [if_neg hl, if_pos (by omega)]
    have h2 : s.1 + 10 ≤ (X.1 : Int) := by omega
    have fin : ∀ {f : (Nat × (Nat → Int32)) → Int × jm → Option ((Int × jm) ⊕ (Int × jm))}, kOp f X s → jo (f X s) (jcase (fun b => (0 ≤ b.1 ∧ b.1 ≤ 5120 ∧ Inv b.2) ∧ (6000 - b.1).toNat < (6000 - s.1).toNat) (fun r : Int × jm => r.1 = 1)) := fun h => jo_mono h (fun x hx => by
      cases x with
      | inl b =>
        have hx1 : b.1 = s.1 + 10 := hx.1
        exact ⟨⟨by omega, by omega, hx.2⟩, by omega⟩
      | inr c => exact hx.elim)
    generalize jband (X.2 s.1.toNat).toInt 63 = z
    by_cases z0 : z = 0
    · rw [if_pos z0]; exact fin (kop_0 h1 h2 hX (fun _ _ _ _ _ h0 h1 h2 h3 h4 => sy_0 h0 h1 h2 h3 h4 hI))
    rw [if_neg z0]
    by_cases z1 : z = 1
    · rw [if_pos z1]; exact fin (kop_1 h1 h2 hX (fun _ h0 => sy_1 h0 hI))
    rw [if_neg z1]
    by_cases z2 : z = 2
    · rw [if_pos z2]; exact fin (kop_2 h1 h2 hX (fun _ h0 => sy_2 h0 hI))
    rw [if_neg z2]
    by_cases z3 : z = 3
    · rw [if_pos z3]; exact fin (kop_3 h1 h2 hX (fun _ h0 => sy_3 h0 hI))
    rw [if_neg z3]
    by_cases z4 : z = 4
    · rw [if_pos z4]; exact fin (kop_4 h1 h2 hX (fun _ h0 => sy_4 h0 hI))
    rw [if_neg z4]
    by_cases z5 : z = 5
    · rw [if_pos z5]; exact fin (kop_5 h1 h2 hX (sy_5 hI))
    rw [if_neg z5]
    by_cases z6 : z = 6
    · rw [if_pos z6]; exact fin (kop_6 h1 h2 hX (sy_6 hI))
    rw [if_neg z6]
    by_cases z7 : z = 7
    · rw [if_pos z7]; exact fin (kop_7 h1 h2 hX (fun _ h0 => sy_7 h0 hI))
    rw [if_neg z7]
    by_cases z8 : z = 8
    · rw [if_pos z8]; exact fin (kop_8 h1 h2 hX (fun _ _ h0 h1 => sy_8 h0 h1 hI))
    rw [if_neg z8]
    by_cases z9 : z = 9
    · rw [if_pos z9]; exact fin (kop_9 h1 h2 hX (fun _ _ h0 h1 => sy_9 h0 h1 hI))
    rw [if_neg z9]
    by_cases z10 : z = 10
    · rw [if_pos z10]; exact fin (kop_10 h1 h2 hX (fun _ _ h0 h1 => sy_10 h0 h1 hI))
    rw [if_neg z10]
    by_cases z11 : z = 11
    · rw [if_pos z11]; exact fin (kop_11 h1 h2 hX (fun _ _ h0 h1 => sy_11 h0 h1 hI))
    rw [if_neg z11]
    by_cases z12 : z = 12
    · rw [if_pos z12]; exact fin (kop_12 h1 h2 hX (fun _ _ h0 h1 => sy_12 h0 h1 hI))
    rw [if_neg z12]
    by_cases z13 : z = 13
    · rw [if_pos z13]; exact fin (kop_13 h1 h2 hX (fun _ _ _ h0 h1 h2 => sy_13 h0 h1 h2 hI))
    rw [if_neg z13]
    by_cases z14 : z = 14
    · rw [if_pos z14]; exact fin (kop_14 h1 h2 hX (fun _ _ _ _ _ _ _ _ _ h0 h1 h2 h3 h4 h5 h6 h7 h8 => sy_14 h0 h1 h2 h3 h4 h5 h6 h7 h8 hI))
    rw [if_neg z14]
    by_cases z15 : z = 15
    · rw [if_pos z15]; exact fin (kop_15 h1 h2 hX (fun _ _ _ h0 h1 h2 => sy_15 h0 h1 h2 hI))
    rw [if_neg z15]
    by_cases z16 : z = 16
    · rw [if_pos z16]; exact fin (kop_16 h1 h2 hX (fun _ h0 => sy_16 h0 hI))
    rw [if_neg z16]
    by_cases z17 : z = 17
    · rw [if_pos z17]; exact fin (kop_17 h1 h2 hX (fun _ _ _ h0 h1 h2 => sy_17 h0 h1 h2 hI))
    rw [if_neg z17]
    by_cases z18 : z = 18
    · rw [if_pos z18]; exact fin (kop_18 h1 h2 hX (fun _ _ h0 h1 => sy_18 h0 h1 hI))
    rw [if_neg z18]
    by_cases z19 : z = 19
    · rw [if_pos z19]; exact fin (kop_19 h1 h2 hX (fun _ _ _ h0 h1 h2 => sy_19 h0 h1 h2 hI))
    rw [if_neg z19]
    by_cases z20 : z = 20
    · rw [if_pos z20]; exact fin (kop_20 h1 h2 hX (fun _ h0 => sy_20 h0 hI))
    rw [if_neg z20]
    by_cases z21 : z = 21
    · rw [if_pos z21]; exact fin (kop_21 h1 h2 hX (sy_21 hI))
    rw [if_neg z21]
    by_cases z22 : z = 22
    · rw [if_pos z22]; exact fin (kop_22 h1 h2 hX (fun _ h0 => sy_22 h0 hI))
    rw [if_neg z22]
    by_cases z23 : z = 23
    · rw [if_pos z23]; exact fin (kop_23 h1 h2 hX (fun _ _ h0 h1 => sy_23 h0 h1 hI))
    rw [if_neg z23]
    by_cases z24 : z = 24
    · rw [if_pos z24]; exact fin (kop_24 h1 h2 hX (fun _ _ h0 h1 => sy_24 h0 h1 hI))
    rw [if_neg z24]
    by_cases z25 : z = 25
    · rw [if_pos z25]; exact fin (kop_25 h1 h2 hX (sy_25 hI))
    rw [if_neg z25]
    by_cases z26 : z = 26
    · rw [if_pos z26]; exact fin (kop_26 h1 h2 hX (fun _ h0 => sy_26 h0 hI))
    rw [if_neg z26]
    by_cases z27 : z = 27
    · rw [if_pos z27]; exact fin (kop_27 h1 h2 hX (fun _ _ _ _ h0 h1 h2 h3 => sy_27 h0 h1 h2 h3 hI))
    rw [if_neg z27]
    by_cases z28 : z = 28
    · rw [if_pos z28]; exact fin (kop_28 h1 h2 hX (fun _ _ _ _ h0 h1 h2 h3 => sy_28 h0 h1 h2 h3 hI))
    rw [if_neg z28]
    by_cases z29 : z = 29
    · rw [if_pos z29]; exact fin (kop_29 h1 h2 hX (fun _ _ _ h0 h1 h2 => sy_29 h0 h1 h2 hI))
    rw [if_neg z29]
    by_cases z30 : z = 30
    · rw [if_pos z30]; exact fin (kop_30 h1 h2 hX (fun _ h0 => sy_30 h0 hI))
    rw [if_neg z30]
    by_cases z31 : z = 31
    · rw [if_pos z31]; exact fin (kop_31 h1 h2 hX (fun _ _ _ _ h0 h1 h2 h3 => sy_31 h0 h1 h2 h3 hI))
    rw [if_neg z31]
    by_cases z32 : z = 32
    · rw [if_pos z32]; exact fin (kop_32 h1 h2 hX (fun _ _ _ _ _ h0 h1 h2 h3 h4 => sy_32 h0 h1 h2 h3 h4 hI))
    rw [if_neg z32]
    by_cases z33 : z = 33
    · rw [if_pos z33]; exact fin (kop_33 h1 h2 hX (sy_33 hI))
    rw [if_neg z33]
    by_cases z34 : z = 34
    · rw [if_pos z34]; exact fin (kop_34 h1 h2 hX (sy_34 hI))
    rw [if_neg z34]
    by_cases z35 : z = 35
    · rw [if_pos z35]; exact fin (kop_35 h1 h2 hX (fun _ h0 => sy_35 h0 hI))
    rw [if_neg z35]
    by_cases z36 : z = 36
    · rw [if_pos z36]; exact fin (kop_36 h1 h2 hX (fun _ h0 => sy_36 h0 hI))
    rw [if_neg z36]
    exact ⟨⟨by show 0 ≤ jw (s.1 + 10); rw [jwi (by omega) (by omega)]; omega, by show jw (s.1 + 10) ≤ 5120; rw [jwi (by omega) (by omega)]; omega, hI⟩, by show (6000 - jw (s.1 + 10)).toNat < _; rw [jwi (by omega) (by omega)]; omega⟩
