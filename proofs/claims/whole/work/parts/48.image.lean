/-! IMAGE and RESTORE. -/
theorem sp_299k {i w : Nat} {m : jm} (hi : i < 3) (hw : ja m 67 39 = (w : Int)) : jf_299 i 1 m = some (js (jcp (jcp m (m.1 88) 101 0 (1157 * i) 68) ((jcp m (m.1 88) 101 0 (1157 * i) 68).1 90) 101 0 (1157 * i + 68) 1088) 101 (1157 * i + 1156) (w : Int)) := by
  have e1 : jw ((1157 : Int) * (i : Int)) = ((1157 * i : Nat) : Int) := by rw [jwi (by omega) (by omega)]; omega
  have e2 : ja (jcp (jcp m (m.1 88) 101 0 (1157 * i) 68) ((jcp m (m.1 88) 101 0 (1157 * i) 68).1 90) 101 0 (1157 * i + 68) 1088) 67 39 = (w : Int) := by rw [ja_jcp, if_neg (by omega), ja_jcp, if_neg (by omega)]; exact hw
  have h1 := sp_300k (q := 1157 * i) (n := 68) (a := 88) (m := m) (by decide) (by decide) (by omega)
  have h2 := sp_300k (q := 1157 * i + 68) (n := 1088) (a := 90) (m := jcp m (m.1 88) 101 0 (1157 * i) 68) (by decide) (by decide) (by omega)
  unfold jf_299
  rw [e1, show jf_300 ((1157 * i : Nat) : Int) 88 68 1 m = _ from h1, jsb]
  dsimp only
  rw [show jf_300 ((1157 * i + 68 : Nat) : Int) 90 1088 1 (jcp m (m.1 88) 101 0 (1157 * i) 68) = _ from h2, jsb]
  dsimp only
  rw [if_neg (by decide), if_pos (show 0 ≤ ((1157 * i + 68 + 1088 : Nat) : Int) ∧ ((1157 * i + 68 + 1088 : Nat) : Int) < 3471 by omega), jle_eq, e2, Int.toNat_natCast]; rfl
theorem sp_299r {i w : Nat} {m : jm} (hi : i < 3) (hw : ja m 101 (1157 * i + 1156) = (w : Int)) : jf_299 i 0 m = some (js (jcp (jcp m (m.1 101) 88 (1157 * i) 0 68) ((jcp m (m.1 101) 88 (1157 * i) 0 68).1 101) 90 (1157 * i + 68) 0 1088) 67 39 (w : Int)) := by
  have e1 : jw ((1157 : Int) * (i : Int)) = ((1157 * i : Nat) : Int) := by rw [jwi (by omega) (by omega)]; omega
  have e2 : ja (jcp (jcp m (m.1 101) 88 (1157 * i) 0 68) ((jcp m (m.1 101) 88 (1157 * i) 0 68).1 101) 90 (1157 * i + 68) 0 1088) 101 (1157 * i + 68 + 1088) = (w : Int) := by rw [ja_jcp, if_neg (by omega), ja_jcp, if_neg (by omega)]; exact hw
  have h1 := sp_300r (q := 1157 * i) (n := 68) (a := 88) (m := m) (by decide) (by decide) (by omega)
  have h2 := sp_300r (q := 1157 * i + 68) (n := 1088) (a := 90) (m := jcp m (m.1 101) 88 (1157 * i) 0 68) (by decide) (by decide) (by omega)
  unfold jf_299
  rw [e1, show jf_300 ((1157 * i : Nat) : Int) 88 68 0 m = _ from h1, jsb]
  dsimp only
  rw [show jf_300 ((1157 * i + 68 : Nat) : Int) 90 1088 0 (jcp m (m.1 101) 88 (1157 * i) 0 68) = _ from h2, jsb]
  dsimp only
  rw [if_pos (rfl : (0 : Int) = 0), if_pos (show 0 ≤ ((1157 * i + 68 + 1088 : Nat) : Int) ∧ ((1157 * i + 68 + 1088 : Nat) : Int) < 3471 by omega), jle_eq, Int.toNat_natCast, e2]; rfl
theorem sy_33 {m : jm} (h : Inv m) : kSe (fun m => jf_146 m) (fun m => jf_298 m) m := by
  obtain ⟨⟨c, cl, h1, h2, h3, h4, h5, h6, h7, h8, h9, h10, h11⟩, hT, hR⟩ := id h
  obtain ⟨i, a1, a2, a3, a4⟩ := id h10
  obtain ⟨w, b1, b2, b3, b4⟩ := id h9
  unfold kSe
  show jo (jf_146 m) (fun p => jo (jf_298 p.2) _)
  unfold jf_146 jf_51
  rw [a2]
  by_cases hi : i = 3
  · subst hi
    rw [if_neg (by decide), jsb, if_pos rfl, jsb]
    show jo (jf_298 m) _
    unfold jf_298
    have e : ja (js m 67 0 0) 67 66 = 3 := by rw [ja_jsj (by decide)]; exact a3
    rw [jle_eq, if_pos e]
    exact ⟨rfl, Inv_th h⟩
  have hi3 : i < 3 := by omega
  have e1 : jw ((i : Int) * 52) = ((52 * i : Nat) : Int) := by rw [jwi (by omega) (by omega)]; omega
  have e2 : jw ((i : Int) * 832) = ((832 * i : Nat) : Int) := by rw [jwi (by omega) (by omega)]; omega
  have e3 : jw ((w : Int) * 52) = ((52 * w : Nat) : Int) := by rw [jwi (by omega) (by omega)]; omega
  rw [if_pos (show (i : Int) < 3 by omega), e1, if_pos (by omega), jle_eq, Int.toNat_natCast]
  have f1 : ja (jcp m (m.1 48) 53 (0 : Int).toNat (52 * i) (52 : Int).toNat) 50 5 = (i : Int) := by rw [ja_jcp, if_neg (by omega)]; exact a2
  have f2 : ja (jcp m (m.1 48) 53 (0 : Int).toNat (52 * i) (52 : Int).toNat) 50 1 = (w : Int) := by rw [ja_jcp, if_neg (by omega)]; exact b2
  rw [f1, f2, e2, e3, if_pos (by omega), jle_eq, Int.toNat_natCast, Int.toNat_natCast]
  have rc2 : ∀ k j, ja (jcp (jcp m (m.1 48) 53 (0 : Int).toNat (52 * i) (52 : Int).toNat) ((jcp m (m.1 48) 53 (0 : Int).toNat (52 * i) (52 : Int).toNat).1 51) 52 (0 : Int).toNat (832 * i) (52 * w)) k j = if k = 52 ∧ 832 * i ≤ j ∧ j < 832 * i + 52 * w then ja m 51 (j - 832 * i) else if k = 53 ∧ 52 * i ≤ j ∧ j < 52 * i + 52 then ja m 48 (j - 52 * i) else ja m k j := fun k j => by
    rw [ja_jcp]
    by_cases q1 : k = 52 ∧ 832 * i ≤ j ∧ j < 832 * i + 52 * w
    · rw [if_pos q1, if_pos q1]
      show ja (jcp m (m.1 48) 53 (0 : Int).toNat (52 * i) (52 : Int).toNat) 51 (0 + (j - 832 * i)) = _
      rw [ja_jcp, if_neg (by omega), Nat.zero_add]
    · rw [if_neg q1, if_neg q1, ja_jcp]
      by_cases q2 : k = 53 ∧ 52 * i ≤ j ∧ j < 52 * i + 52
      · rw [if_pos (show k = 53 ∧ 52 * i ≤ j ∧ j < 52 * i + (52 : Int).toNat from q2), if_pos q2]
        show ja m 48 (0 + (j - 52 * i)) = _
        rw [Nat.zero_add]
      · rw [if_neg (show ¬ (k = 53 ∧ 52 * i ≤ j ∧ j < 52 * i + (52 : Int).toNat) from q2), if_neg q2]
  generalize jcp (jcp m (m.1 48) 53 (0 : Int).toNat (52 * i) (52 : Int).toNat) ((jcp m (m.1 48) 53 (0 : Int).toNat (52 * i) (52 : Int).toNat).1 51) 52 (0 : Int).toNat (832 * i) (52 * w) = m2 at rc2
  have g1 : ja m2 50 5 = (i : Int) := by rw [rc2, if_neg (by omega), if_neg (by omega)]; exact a2
  have g2 : ja m2 50 1 = (w : Int) := by rw [rc2, if_neg (by omega), if_neg (by omega)]; exact b2
  have g3 : ja (js m2 54 i (w : Int)) 50 5 = (i : Int) := by rw [ja_jsk (by decide)]; exact g1
  rw [g1, g2, if_pos (show 0 ≤ (i : Int) ∧ (i : Int) < 3 by omega), jle_eq, Int.toNat_natCast, g3, jle_eq, jwn (n := i) (by omega), jsb, if_neg (show ¬ (1 : Int) = 0 by decide), jsb]
  have rc : ∀ k j, ja (js (js m2 54 i (w : Int)) 50 5 ((i + 1 : Nat) : Int)) k j = if k = 50 ∧ j = 5 then ((i + 1 : Nat) : Int) else if k = 54 ∧ j = i then (w : Int) else ja m2 k j := fun k j => by
    rw [ja_js, jw_nat (by omega)]
    by_cases q1 : k = 50 ∧ j = 5
    · rw [if_pos q1, if_pos q1]
    · rw [if_neg q1, if_neg q1, ja_js, jw_nat (by omega)]
  generalize js (js m2 54 i (w : Int)) 50 5 ((i + 1 : Nat) : Int) = mc at rc
  show jo (jf_298 mc) _
  have zc : ∀ k j, ¬ (52 ≤ k ∧ k ≤ 54) → ¬ (k = 50 ∧ j = 5) → ja mc k j = ja m k j := fun k j q1 q2 => by
    rw [rc, if_neg q2, if_neg (by omega), rc2, if_neg (by omega), if_neg (by omega)]
  unfold jf_298
  have k1 : ja (js mc 67 0 0) 67 66 = (i : Int) := by rw [ja_jsj (by decide), zc _ _ (by omega) (by omega)]; exact a3
  have k2 : ja (js mc 67 0 0) 67 39 = (w : Int) := by rw [ja_jsj (by decide), zc _ _ (by omega) (by omega)]; exact b3
  rw [jle_eq, k1, if_neg (by omega), sp_299k hi3 k2, jsb]
  have rm2 : ∀ k j, ja (js (jcp (jcp (js mc 67 0 0) ((js mc 67 0 0).1 88) 101 0 (1157 * i) 68) ((jcp (js mc 67 0 0) ((js mc 67 0 0).1 88) 101 0 (1157 * i) 68).1 90) 101 0 (1157 * i + 68) 1088) 101 (1157 * i + 1156) (w : Int)) k j = if k = 101 ∧ j = 1157 * i + 1156 then (w : Int) else if k = 101 ∧ 1157 * i + 68 ≤ j ∧ j < 1157 * i + 1156 then ja mc 90 (j - (1157 * i + 68)) else if k = 101 ∧ 1157 * i ≤ j ∧ j < 1157 * i + 68 then ja mc 88 (j - 1157 * i) else if k = 67 ∧ j = 0 then 0 else ja mc k j := fun k j => by
    rw [ja_js, jw_nat (by omega)]
    by_cases q1 : k = 101 ∧ j = 1157 * i + 1156
    · rw [if_pos q1, if_pos q1]
    · rw [if_neg q1, if_neg q1, ja_jcp]
      by_cases q2 : k = 101 ∧ 1157 * i + 68 ≤ j ∧ j < 1157 * i + 1156
      · rw [if_pos (show k = 101 ∧ 1157 * i + 68 ≤ j ∧ j < 1157 * i + 68 + 1088 from ⟨q2.1, q2.2.1, by omega⟩), if_pos q2]
        show ja (jcp (js mc 67 0 0) ((js mc 67 0 0).1 88) 101 0 (1157 * i) 68) 90 (0 + (j - (1157 * i + 68))) = _
        rw [ja_jcp, if_neg (by omega), ja_jsk (by decide), Nat.zero_add]
      · rw [if_neg (show ¬ (k = 101 ∧ 1157 * i + 68 ≤ j ∧ j < 1157 * i + 68 + 1088) by omega), if_neg q2, ja_jcp]
        by_cases q3 : k = 101 ∧ 1157 * i ≤ j ∧ j < 1157 * i + 68
        · rw [if_pos q3, if_pos q3]
          show ja (js mc 67 0 0) 88 (0 + (j - 1157 * i)) = _
          rw [ja_jsk (by decide), Nat.zero_add]
        · rw [if_neg q3, if_neg q3, ja_js]; rfl
  generalize js (jcp (jcp (js mc 67 0 0) ((js mc 67 0 0).1 88) 101 0 (1157 * i) 68) ((jcp (js mc 67 0 0) ((js mc 67 0 0).1 88) 101 0 (1157 * i) 68).1 90) 101 0 (1157 * i + 68) 1088) 101 (1157 * i + 1156) (w : Int) = m3 at rm2
  have k3 : ja m3 67 66 = (i : Int) := by rw [rm2, if_neg (by omega), if_neg (by omega), if_neg (by omega), if_neg (by omega), zc _ _ (by omega) (by omega)]; exact a3
  rw [k3, jwn (n := i) (by omega), jle_eq]
  have rm : ∀ k j, ja (js m3 67 66 ((i + 1 : Nat) : Int)) k j = if k = 67 ∧ j = 66 then ((i + 1 : Nat) : Int) else ja m3 k j := fun k j => by rw [ja_js, jw_nat (by omega)]
  generalize js m3 67 66 ((i + 1 : Nat) : Int) = mm at rm
  have z : ∀ k j, ¬ (52 ≤ k ∧ k ≤ 54) → ¬ (k = 50 ∧ j = 5) → ¬ (k = 101) → ¬ (k = 67 ∧ j = 66) → ¬ (k = 67 ∧ j = 0) → ja mm k j = ja m k j := fun k j q1 q2 q3 q4 q5 => by
    rw [rm, if_neg q4, rm2, if_neg (fun e => q3 e.1), if_neg (fun e => q3 e.1), if_neg (fun e => q3 e.1), if_neg q5, zc k j q1 q2]
  have zx : ∀ k j, 50 ≤ k → k ≤ 54 → ja mm k j = ja mc k j := fun k j q1 q2 => by
    rw [rm, if_neg (by omega), rm2, if_neg (by omega), if_neg (by omega), if_neg (by omega), if_neg (by omega)]
  refine ⟨?_, ?_, ?_, ?_⟩
  · show ja mc 50 5 = ja mm 67 66
    rw [rc, if_pos ⟨rfl, rfl⟩, rm, if_pos ⟨rfl, rfl⟩]
  · refine kS_mk (m := m) (fun k j hk => z k j (by unfold kZ at hk; omega) (by unfold kZ at hk; omega) (by unfold kZ at hk; omega) (by unfold kZ at hk; omega) (by unfold kZ at hk; omega)) h1 h2 h3 h5 h6 h7 h8 ?_ ?_ ?_ ?_
    · exact kPost_e (fun j => z _ _ (by omega) (by omega) (by omega) (by omega) (by omega)) (fun j => z _ _ (by omega) (by omega) (by omega) (by omega) (by omega)) h4
    · exact kPast_e (z _ _ (by omega) (by omega) (by omega) (by omega) (by omega)) (z _ _ (by omega) (by omega) (by omega) (by omega) (by omega)) (fun j => z _ _ (by omega) (by omega) (by omega) (by omega) (by omega)) (fun j => z _ _ (by omega) (by omega) (by omega) (by omega) (by omega)) h9
    · refine ⟨i + 1, by omega, ?_, ?_, fun e he => ?_⟩
      · rw [zx _ _ (by omega) (by omega), rc, if_pos ⟨rfl, rfl⟩]
      · rw [rm, if_pos ⟨rfl, rfl⟩]
      · by_cases ei : e = i
        · subst ei
          refine ⟨?_, w, b1, ?_, ?_, fun r hr => ?_⟩
          · refine kPost_lt h1 (fun j hj => ?_) (fun j hj => ?_) h4
            · show ja mm 53 (52 * e + j) = ja m 48 j
              rw [zx _ _ (by omega) (by omega), rc, if_neg (by omega), if_neg (by omega), rc2, if_neg (by omega), if_pos ⟨rfl, by omega, by omega⟩]
              congr 1; omega
            · show ja mm 101 (1157 * e + j) = ja m 88 j
              rw [rm, if_neg (by omega), rm2, if_neg (by omega), if_neg (by omega), if_pos ⟨rfl, by omega, by omega⟩, zc _ _ (by omega) (by omega)]
              congr 1; omega
          · rw [zx _ _ (by omega) (by omega), rc, if_neg (by omega), if_pos ⟨rfl, rfl⟩]
          · rw [rm, if_neg (by omega), rm2, if_pos ⟨rfl, rfl⟩]
          · refine kPost_lt h1 (fun j hj => ?_) (fun j hj => ?_) (b4 r hr)
            · show ja mm 52 (832 * e + 52 * r + j) = ja m 51 (52 * r + j)
              rw [zx _ _ (by omega) (by omega), rc, if_neg (by omega), if_neg (by omega), rc2, if_pos ⟨rfl, by omega, by omega⟩]
              congr 1; omega
            · show ja mm 101 (1157 * e + 68 + 68 * r + j) = ja m 90 (68 * r + j)
              rw [rm, if_neg (by omega), rm2, if_neg (by omega), if_pos ⟨rfl, by omega, by omega⟩, zc _ _ (by omega) (by omega)]
              congr 1; omega
        · obtain ⟨c1, v, c2, c3, c4, c5⟩ := a4 e (by omega)
          have y52 : ∀ k j, (k = 52 → j < 832 * i) → (k = 53 → j < 52 * i) → (k = 54 → j < i) → 52 ≤ k → k ≤ 54 → ja mm k j = ja m k j := fun k j q1 q2 q3 q4 q5 => by
            rw [zx k j (by omega) (by omega), rc, if_neg (by omega), if_neg (by omega), rc2, if_neg (by omega), if_neg (by omega)]
          have y101 : ∀ j, j < 1157 * i → ja mm 101 j = ja m 101 j := fun j q => by
            rw [rm, if_neg (by omega), rm2, if_neg (by omega), if_neg (by omega), if_neg (by omega), if_neg (by omega), zc _ _ (by omega) (by omega)]
          refine ⟨kPost_lt h1 (fun j hj => y52 53 _ (by omega) (by omega) (by omega) (by omega) (by omega)) (fun j hj => y101 _ (by omega)) c1, v, c2, ?_, ?_, fun r hr => ?_⟩
          · rw [y52 54 _ (by omega) (by omega) (by omega) (by omega) (by omega)]; exact c3
          · rw [y101 _ (by omega)]; exact c4
          · exact kPost_lt h1 (fun j hj => y52 52 _ (by omega) (by omega) (by omega) (by omega) (by omega)) (fun j hj => y101 _ (by omega)) (c5 r hr)
    · rw [z _ _ (by omega) (by omega) (by omega) (by omega) (by omega), z _ _ (by omega) (by omega) (by omega) (by omega) (by omega)]; exact h11
  · exact kT_congr (fun k j hk => z k j (by unfold kQT at hk; omega) (by unfold kQT at hk; omega) (by unfold kQT at hk; omega) (by unfold kQT at hk; omega) (by unfold kQT at hk; omega)) hT
  · exact kR_congr (fun k j hk => z k j (by unfold kQR at hk; omega) (by unfold kQR at hk; omega) (by unfold kQR at hk; omega) (by unfold kQR at hk; omega) (by unfold kQR at hk; omega)) hR
theorem sy_34 {m : jm} (h : Inv m) : kSe (fun m => jf_147 m) (fun m => jf_301 m) m := by
  obtain ⟨⟨c, cl, h1, h2, h3, h4, h5, h6, h7, h8, h9, h10, h11⟩, hT, hR⟩ := id h
  obtain ⟨n, a1, a2, a3, a4⟩ := id h10
  unfold kSe
  show jo (jf_147 m) (fun p => jo (jf_301 p.2) _)
  unfold jf_147 jf_52
  rw [a2]
  cases n with
  | zero =>
    rw [if_neg (by decide), jsb, if_pos rfl]
    show jo (jf_301 m) _
    unfold jf_301
    have e : ja (js m 67 0 0) 67 66 = 0 := by rw [ja_jsj (by decide)]; exact a3
    rw [jle_eq, if_pos e]
    exact ⟨rfl, Inv_th h⟩
  | succ i =>
    obtain ⟨c1, w, b1, c3, c4, c5⟩ := a4 i (by omega)
    have e0 : jw (((i + 1 : Nat) : Int) - 1) = (i : Int) := by rw [jwi (by omega) (by omega)]; omega
    have e1 : jw ((i : Int) * 52) = ((52 * i : Nat) : Int) := by rw [jwi (by omega) (by omega)]; omega
    have e2 : jw ((i : Int) * 832) = ((832 * i : Nat) : Int) := by rw [jwi (by omega) (by omega)]; omega
    have e3 : jw ((w : Int) * 52) = ((52 * w : Nat) : Int) := by rw [jwi (by omega) (by omega)]; omega
    have f0 : ja (js m 50 5 (i : Int)) 50 5 = (i : Int) := by rw [ja_js1, jw_nat (by omega)]
    have f1 : ja (js m 50 5 (i : Int)) 54 i = (w : Int) := by rw [ja_jsk (by decide)]; exact c3
    have f2 : ja (js (js m 50 5 (i : Int)) 50 1 (w : Int)) 50 5 = (i : Int) := by rw [ja_jsj (by decide)]; exact f0
    rw [if_pos (show (0 : Int) < ((i + 1 : Nat) : Int) by omega), e0, jle_eq, f0, if_pos (show 0 ≤ (i : Int) ∧ (i : Int) < 3 by omega), Int.toNat_natCast, f1, jle_eq, f2, e1, if_pos (by omega), jle_eq, Int.toNat_natCast]
    have f3 : ja (jcp (js (js m 50 5 (i : Int)) 50 1 (w : Int)) ((js (js m 50 5 (i : Int)) 50 1 (w : Int)).1 53) 48 (52 * i) (0 : Int).toNat (52 : Int).toNat) 50 5 = (i : Int) := by rw [ja_jcp, if_neg (by omega)]; exact f2
    have f4 : ja (jcp (js (js m 50 5 (i : Int)) 50 1 (w : Int)) ((js (js m 50 5 (i : Int)) 50 1 (w : Int)).1 53) 48 (52 * i) (0 : Int).toNat (52 : Int).toNat) 50 1 = (w : Int) := by rw [ja_jcp, if_neg (by omega), ja_js1, jw_nat (by omega)]
    rw [f3, f4, e2, e3, if_pos (by omega), jle_eq, Int.toNat_natCast, Int.toNat_natCast, jsb, if_neg (show ¬ (1 : Int) = 0 by decide), jle_eq]
    have rc : ∀ k j, ja (js (jcp (jcp (js (js m 50 5 (i : Int)) 50 1 (w : Int)) ((js (js m 50 5 (i : Int)) 50 1 (w : Int)).1 53) 48 (52 * i) (0 : Int).toNat (52 : Int).toNat) ((jcp (js (js m 50 5 (i : Int)) 50 1 (w : Int)) ((js (js m 50 5 (i : Int)) 50 1 (w : Int)).1 53) 48 (52 * i) (0 : Int).toNat (52 : Int).toNat).1 52) 51 (832 * i) (0 : Int).toNat (52 * w)) 0 14 0) k j = if k = 0 ∧ j = 14 then 0 else if k = 51 ∧ j < 52 * w then ja m 52 (832 * i + j) else if k = 48 ∧ j < 52 then ja m 53 (52 * i + j) else if k = 50 ∧ j = 1 then (w : Int) else if k = 50 ∧ j = 5 then (i : Int) else ja m k j := fun k j => by
      rw [ja_js]
      by_cases q1 : k = 0 ∧ j = 14
      · rw [if_pos q1, if_pos q1]; rfl
      · rw [if_neg q1, if_neg q1, ja_jcp]
        by_cases q2 : k = 51 ∧ j < 52 * w
        · rw [if_pos (show k = 51 ∧ (0 : Int).toNat ≤ j ∧ j < (0 : Int).toNat + 52 * w from ⟨q2.1, Nat.zero_le _, by show j < 0 + 52 * w; omega⟩), if_pos q2]
          show ja (jcp (js (js m 50 5 (i : Int)) 50 1 (w : Int)) ((js (js m 50 5 (i : Int)) 50 1 (w : Int)).1 53) 48 (52 * i) (0 : Int).toNat (52 : Int).toNat) 52 (832 * i + (j - 0)) = _
          rw [ja_jcp, if_neg (by omega), ja_jsk (by decide), ja_jsk (by decide), Nat.sub_zero]
        · rw [if_neg (show ¬ (k = 51 ∧ (0 : Int).toNat ≤ j ∧ j < (0 : Int).toNat + 52 * w) from fun e => q2 ⟨e.1, by have := e.2.2; have e0 : (0 : Int).toNat = 0 := rfl; omega⟩), if_neg q2, ja_jcp]
          by_cases q3 : k = 48 ∧ j < 52
          · rw [if_pos (show k = 48 ∧ (0 : Int).toNat ≤ j ∧ j < (0 : Int).toNat + (52 : Int).toNat from ⟨q3.1, Nat.zero_le _, q3.2⟩), if_pos q3]
            show ja (js (js m 50 5 (i : Int)) 50 1 (w : Int)) 53 (52 * i + (j - 0)) = _
            rw [ja_jsk (by decide), ja_jsk (by decide), Nat.sub_zero]
          · rw [if_neg (show ¬ (k = 48 ∧ (0 : Int).toNat ≤ j ∧ j < (0 : Int).toNat + (52 : Int).toNat) from fun e => q3 ⟨e.1, e.2.2⟩), if_neg q3, ja_js, jw_nat (by omega)]
            by_cases q4 : k = 50 ∧ j = 1
            · rw [if_pos q4, if_pos q4]
            · rw [if_neg q4, if_neg q4, ja_js, jw_nat (by omega)]
    generalize js (jcp (jcp (js (js m 50 5 (i : Int)) 50 1 (w : Int)) ((js (js m 50 5 (i : Int)) 50 1 (w : Int)).1 53) 48 (52 * i) (0 : Int).toNat (52 : Int).toNat) ((jcp (js (js m 50 5 (i : Int)) 50 1 (w : Int)) ((js (js m 50 5 (i : Int)) 50 1 (w : Int)).1 53) 48 (52 * i) (0 : Int).toNat (52 : Int).toNat).1 52) 51 (832 * i) (0 : Int).toNat (52 * w)) 0 14 0 = mc at rc
    show jo (jf_301 mc) _
    have zc : ∀ k j, ¬ (k = 0 ∧ j = 14) → k ≠ 51 → k ≠ 48 → k ≠ 50 → ja mc k j = ja m k j := fun k j q1 q2 q3 q4 => by
      rw [rc, if_neg q1, if_neg (fun e => q2 e.1), if_neg (fun e => q3 e.1), if_neg (fun e => q4 e.1), if_neg (fun e => q4 e.1)]
    unfold jf_301
    have k1 : ja (js mc 67 0 0) 67 66 = ((i + 1 : Nat) : Int) := by rw [ja_jsj (by decide), zc _ _ (by omega) (by omega) (by omega) (by omega)]; exact a3
    rw [jle_eq, k1, if_neg (by omega), e0, jle_eq]
    have k2 : ja (js (js mc 67 0 0) 67 66 (i : Int)) 67 66 = (i : Int) := by rw [ja_js1, jw_nat (by omega)]
    have k3 : ja (js (js mc 67 0 0) 67 66 (i : Int)) 101 (1157 * i + 1156) = (w : Int) := by rw [ja_jsk (by decide), ja_jsk (by decide), zc _ _ (by omega) (by omega) (by omega) (by omega)]; exact c4
    rw [k2, sp_299r (by omega) k3, jsb, jle_eq]
    have rm0 : ∀ k j, ja (js (js mc 67 0 0) 67 66 (i : Int)) k j = if k = 67 ∧ j = 66 then (i : Int) else if k = 67 ∧ j = 0 then 0 else ja mc k j := fun k j => by
      rw [ja_js, jw_nat (by omega)]
      by_cases q1 : k = 67 ∧ j = 66
      · rw [if_pos q1, if_pos q1]
      · rw [if_neg q1, if_neg q1, ja_js]; rfl
    generalize js (js mc 67 0 0) 67 66 (i : Int) = m0 at rm0
    have rm : ∀ k j, ja (js (js (jcp (jcp m0 (m0.1 101) 88 (1157 * i) 0 68) ((jcp m0 (m0.1 101) 88 (1157 * i) 0 68).1 101) 90 (1157 * i + 68) 0 1088) 67 39 (w : Int)) 67 40 0) k j = if k = 67 ∧ j = 40 then 0 else if k = 67 ∧ j = 39 then (w : Int) else if k = 90 ∧ j < 1088 then ja m0 101 (1157 * i + 68 + j) else if k = 88 ∧ j < 68 then ja m0 101 (1157 * i + j) else ja m0 k j := fun k j => by
      rw [ja_js]
      by_cases q1 : k = 67 ∧ j = 40
      · rw [if_pos q1, if_pos q1]; rfl
      · rw [if_neg q1, if_neg q1, ja_js, jw_nat (by omega)]
        by_cases q2 : k = 67 ∧ j = 39
        · rw [if_pos q2, if_pos q2]
        · rw [if_neg q2, if_neg q2, ja_jcp]
          by_cases q3 : k = 90 ∧ j < 1088
          · rw [if_pos (show k = 90 ∧ 0 ≤ j ∧ j < 0 + 1088 from ⟨q3.1, Nat.zero_le _, by omega⟩), if_pos q3]
            show ja (jcp m0 (m0.1 101) 88 (1157 * i) 0 68) 101 (1157 * i + 68 + (j - 0)) = _
            rw [ja_jcp, if_neg (by omega), Nat.sub_zero]
          · rw [if_neg (show ¬ (k = 90 ∧ 0 ≤ j ∧ j < 0 + 1088) by omega), if_neg q3, ja_jcp]
            by_cases q4 : k = 88 ∧ j < 68
            · rw [if_pos (show k = 88 ∧ 0 ≤ j ∧ j < 0 + 68 from ⟨q4.1, Nat.zero_le _, by omega⟩), if_pos q4]
              show ja m0 101 (1157 * i + (j - 0)) = _
              rw [Nat.sub_zero]
            · rw [if_neg (show ¬ (k = 88 ∧ 0 ≤ j ∧ j < 0 + 68) by omega), if_neg q4]
    generalize js (js (jcp (jcp m0 (m0.1 101) 88 (1157 * i) 0 68) ((jcp m0 (m0.1 101) 88 (1157 * i) 0 68).1 101) 90 (1157 * i + 68) 0 1088) 67 39 (w : Int)) 67 40 0 = mm at rm
    have zm : ∀ k j, ¬ (k = 67 ∧ (j = 0 ∨ j = 39 ∨ j = 40 ∨ j = 66)) → k ≠ 88 → k ≠ 90 → ja mm k j = ja mc k j := fun k j q1 q2 q3 => by
      rw [rm, if_neg (by omega), if_neg (by omega), if_neg (by omega), if_neg (by omega), rm0, if_neg (by omega), if_neg (by omega)]
    have z : ∀ k j, ¬ (k = 67 ∧ (j = 0 ∨ j = 39 ∨ j = 40 ∨ j = 66)) → k ≠ 88 → k ≠ 90 → ¬ (k = 0 ∧ j = 14) → k ≠ 51 → k ≠ 48 → k ≠ 50 → ja mm k j = ja m k j := fun k j q1 q2 q3 q4 q5 q6 q7 => by
      rw [zm k j q1 q2 q3, zc k j q4 q5 q6 q7]
    have m101 : ∀ j, ja m0 101 j = ja m 101 j := fun j => by rw [rm0, if_neg (by omega), if_neg (by omega), zc _ _ (by omega) (by omega) (by omega) (by omega)]
    refine ⟨?_, ?_, ?_, ?_⟩
    · show ja mc 50 5 = ja mm 67 66
      rw [rc, if_neg (by omega), if_neg (by omega), if_neg (by omega), if_neg (by omega), if_pos ⟨rfl, rfl⟩, rm, if_neg (by omega), if_neg (by omega), if_neg (by omega), if_neg (by omega), rm0, if_pos ⟨rfl, rfl⟩]
    · refine kS_mk (m := m) (fun k j hk => z k j (by unfold kZ at hk; omega) (by unfold kZ at hk; omega) (by unfold kZ at hk; omega) (by unfold kZ at hk; omega) (by unfold kZ at hk; omega) (by unfold kZ at hk; omega) (by unfold kZ at hk; omega)) h1 h2 h3 h5 h6 h7 h8 ?_ ?_ ?_ ?_
      · refine kPost_lt h1 (fun j hj => ?_) (fun j hj => ?_) c1
        · show ja mm 48 j = ja m 53 (52 * i + j)
          rw [zm _ _ (by omega) (by omega) (by omega), rc, if_neg (by omega), if_neg (by omega), if_pos ⟨rfl, hj⟩]
        · show ja mm 88 j = ja m 101 (1157 * i + j)
          rw [rm, if_neg (by omega), if_neg (by omega), if_neg (by omega), if_pos ⟨rfl, hj⟩, m101]
      · refine ⟨w, b1, ?_, ?_, fun r hr => ?_⟩
        · rw [zm _ _ (by omega) (by omega) (by omega), rc, if_neg (by omega), if_neg (by omega), if_neg (by omega), if_pos ⟨rfl, rfl⟩]
        · rw [rm, if_neg (by omega), if_pos ⟨rfl, rfl⟩]
        · refine kPost_lt h1 (fun j hj => ?_) (fun j hj => ?_) (c5 r hr)
          · show ja mm 51 (52 * r + j) = ja m 52 (832 * i + 52 * r + j)
            rw [zm _ _ (by omega) (by omega) (by omega), rc, if_neg (by omega), if_pos ⟨rfl, by omega⟩, Nat.add_assoc]
          · show ja mm 90 (68 * r + j) = ja m 101 (1157 * i + 68 + 68 * r + j)
            rw [rm, if_neg (by omega), if_neg (by omega), if_pos ⟨rfl, by omega⟩, m101, Nat.add_assoc (1157 * i + 68)]
      · refine ⟨i, by omega, ?_, ?_, fun e he => ?_⟩
        · rw [zm _ _ (by omega) (by omega) (by omega), rc, if_neg (by omega), if_neg (by omega), if_neg (by omega), if_neg (by omega), if_pos ⟨rfl, rfl⟩]
        · rw [rm, if_neg (by omega), if_neg (by omega), if_neg (by omega), if_neg (by omega), rm0, if_pos ⟨rfl, rfl⟩]
        · obtain ⟨d1, v, d2, d3, d4, d5⟩ := a4 e (by omega)
          have y : ∀ k j, (52 ≤ k ∧ k ≤ 54) ∨ k = 101 → ja mm k j = ja m k j := fun k j q => z k j (by omega) (by omega) (by omega) (by omega) (by omega) (by omega) (by omega)
          exact ⟨kPost_e (fun j => y _ _ (by omega)) (fun j => y _ _ (by omega)) d1, v, d2, by rw [y _ _ (by omega)]; exact d3, by rw [y _ _ (by omega)]; exact d4, fun r hr => kPost_e (fun j => y _ _ (by omega)) (fun j => y _ _ (by omega)) (d5 r hr)⟩
      · rw [zm _ _ (by omega) (by omega) (by omega), rc, if_pos ⟨rfl, rfl⟩, rm, if_pos ⟨rfl, rfl⟩]
    · exact kT_congr (fun k j hk => z k j (by unfold kQT at hk; omega) (by unfold kQT at hk; omega) (by unfold kQT at hk; omega) (by unfold kQT at hk; omega) (by unfold kQT at hk; omega) (by unfold kQT at hk; omega) (by unfold kQT at hk; omega)) hT
    · exact kR_congr (fun k j hk => z k j (by unfold kQR at hk; omega) (by unfold kQR at hk; omega) (by unfold kQR at hk; omega) (by unfold kQR at hk; omega) (by unfold kQR at hk; omega) (by unfold kQR at hk; omega) (by unfold kQR at hk; omega)) hR
