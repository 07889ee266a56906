/-! UNDO, IMAGE, RESTORE. -/
theorem jcp_0 {m : jm} {f : Nat → Int32} {d sp dp : Nat} : jcp m f d sp dp 0 = m := by
  unfold jcp
  refine Prod.ext ?_ rfl
  funext a b
  show (if a = d ∧ dp ≤ b ∧ b < dp + 0 then f (sp + (b - dp)) else m.1 a b) = m.1 a b
  rw [if_neg (by omega)]
theorem jcp_st {m : jm} {s d sp dp i : Nat} (h : s ≠ d) : js (jcp m (m.1 s) d sp dp i) d (dp + i) (ja (jcp m (m.1 s) d sp dp i) s (sp + i)) = jcp m (m.1 s) d sp dp (i + 1) := by
  have e : Int32.ofInt (ja (jcp m (m.1 s) d sp dp i) s (sp + i)) = m.1 s (sp + i) := by
    rw [ja_jcp, if_neg (fun e => h e.1)]
    exact Int32.ofInt_toInt _
  unfold js
  rw [e]
  refine Prod.ext ?_ rfl
  funext a b
  show (if a = d ∧ b = dp + i then m.1 s (sp + i) else if a = d ∧ dp ≤ b ∧ b < dp + i then m.1 s (sp + (b - dp)) else m.1 a b) = if a = d ∧ dp ≤ b ∧ b < dp + (i + 1) then m.1 s (sp + (b - dp)) else m.1 a b
  by_cases h1 : a = d ∧ b = dp + i
  · rw [if_pos h1, if_pos (by omega)]
    have : sp + (b - dp) = sp + i := by omega
    rw [this]
  · rw [if_neg h1]
    by_cases h2 : a = d ∧ dp ≤ b ∧ b < dp + i
    · rw [if_pos h2, if_pos (by omega)]
    · rw [if_neg h2, if_neg (by omega)]
theorem sp_300k {q n : Nat} {a : Nat} {m : jm} (ha : a ≠ 101) (hn : n ≤ px_ln a) (hq : q + n ≤ 3471) : jf_300 q a n 1 m = some (((q + n : Nat) : Int), jcp m (m.1 a) 101 0 q n) := by
  unfold jf_300
  have hl := jln_le (a := a)
  rw [jlp_fr (c := jcp m (m.1 a) 101 0 q n) n (fun i => ((i : Int), jcp m (m.1 a) 101 0 q i)) (by omega) (by rw [jcp_0]; rfl) ?hs ?he]
  case he =>
    dsimp only
    rw [if_neg (by omega)]
  case hs =>
    intro i hi
    dsimp only
    rw [if_pos (show (i : Int) < (n : Int) by omega), if_neg (by decide), if_pos (show 0 ≤ (i : Int) ∧ (i : Int) < (px_ln a : Int) by omega), jwk (by omega), if_pos (show 0 ≤ ((q + i : Nat) : Int) ∧ ((q + i : Nat) : Int) < 3471 by omega), jle_eq, Int.toNat_natCast, Int.toNat_natCast, jsb, jwn (n := i) (by omega)]
    have := jcp_st (m := m) (s := a) (d := 101) (sp := 0) (dp := q) (i := i) ha
    rw [Nat.zero_add] at this
    rw [this]
  rw [jsb, jwk (by omega)]
theorem sp_300r {q n : Nat} {a : Nat} {m : jm} (ha : a ≠ 101) (hn : n ≤ px_ln a) (hq : q + n ≤ 3471) : jf_300 q a n 0 m = some (((q + n : Nat) : Int), jcp m (m.1 101) a q 0 n) := by
  unfold jf_300
  have hl := jln_le (a := a)
  rw [jlp_fr (c := jcp m (m.1 101) a q 0 n) n (fun i => ((i : Int), jcp m (m.1 101) a q 0 i)) (by omega) (by rw [jcp_0]; rfl) ?hs ?he]
  case he =>
    dsimp only
    rw [if_neg (by omega)]
  case hs =>
    intro i hi
    dsimp only
    rw [if_pos (show (i : Int) < (n : Int) by omega), if_pos (rfl : (0 : Int) = 0), jwk (by omega), if_pos (show 0 ≤ ((q + i : Nat) : Int) ∧ ((q + i : Nat) : Int) < 3471 by omega), if_pos (show 0 ≤ (i : Int) ∧ (i : Int) < (px_ln a : Int) by omega), jle_eq, Int.toNat_natCast, Int.toNat_natCast, jsb, jwn (n := i) (by omega)]
    have := jcp_st (m := m) (s := 101) (d := a) (sp := q) (dp := 0) (i := i) (fun e => ha e.symm)
    rw [Nat.zero_add] at this
    rw [this]
  rw [jsb, jwk (by omega)]
theorem kPc_lt {f g : Nat → Int} {c : kC} {p : kP} (hv : kV c) (h : ∀ j, j < 52 → g j = f j) (H : kPc f c p) : kPc g c p := by
  have hn := hv.1
  refine ⟨by rw [h 0 (by decide)]; exact H.1, by rw [h 1 (by decide)]; exact H.2.1, fun e he => ?_, fun w hw => ?_, fun l hl => ?_⟩
  · rw [h _ (by omega), h _ (by omega)]; exact H.2.2.1 e he
  · rw [h _ (by omega), h _ (by omega), h _ (by omega)]; exact H.2.2.2.1 w hw
  · rw [h _ (by omega)]; exact H.2.2.2.2 l hl
theorem kPm_lt {f g : Nat → Int} {c : kC} {p : kP} (hv : kV c) (h : ∀ j, j < 68 → g j = f j) (H : kPm f c p) : kPm g c p := by
  have hn := hv.1
  refine ⟨by rw [h 66 (by decide)]; exact H.1, by rw [h 67 (by decide)]; exact H.2.1, fun e he => ?_, fun w hw => ?_, fun l hl => ?_⟩
  · rw [h _ (by omega), h _ (by omega)]; exact H.2.2.1 e he
  · rw [h _ (by omega), h _ (by omega), h _ (by omega)]; exact H.2.2.2.1 w hw
  · rw [h _ (by omega), h _ (by omega), h _ (by omega)]; exact H.2.2.2.2 l hl
theorem kPost_lt {f g f' g' : Nat → Int} {c : kC} (hv : kV c) (h1 : ∀ j, j < 52 → f' j = f j) (h2 : ∀ j, j < 68 → g' j = g j) (H : kPost f g c) : kPost f' g' c := by
  obtain ⟨p, a, b, d⟩ := H
  exact ⟨p, kPc_lt hv h1 a, kPm_lt hv h2 b, d⟩
/-! parts of the invariant, kept where their places are -/
theorem kCc_e {m m' : jm} {c : kC} (h : ∀ k j, 3 ≤ k → k ≤ 14 → ja m' k j = ja m k j) (H : kCc m 3 c) : kCc m' 3 c := ⟨fun i hi => by rw [h _ _ (by omega) (by omega)]; exact H.1 i hi, fun k i hk hi => by rw [h _ _ (by omega) (by omega)]; exact H.2 k i hk hi⟩
theorem kCm_e {m m' : jm} {c : kC} (h1 : ∀ j, 24 ≤ j → j ≤ 27 → ja m' 67 j = ja m 67 j) (h : ∀ k j, 75 ≤ k → k ≤ 79 → ja m' k j = ja m k j) (H : kCm m 24 75 c) : kCm m' 24 75 c := by
  refine ⟨fun i hi => ?_, fun t ht => ?_, fun e he => ?_, fun w hw => ?_, fun l hl => ?_⟩
  · rw [h1 _ (by omega) (by omega)]; exact H.1 i hi
  · rw [h _ _ (by omega) (by omega)]; exact H.2.1 t ht
  · rw [h _ _ (by omega) (by omega), h _ _ (by omega) (by omega), h _ _ (by omega) (by omega)]; exact H.2.2.1 e he
  · rw [h _ _ (by omega) (by omega), h _ _ (by omega) (by omega), h _ _ (by omega) (by omega)]; exact H.2.2.2.1 w hw
  · rw [h _ _ (by omega) (by omega), h _ _ (by omega) (by omega), h _ _ (by omega) (by omega), h _ _ (by omega) (by omega)]; exact H.2.2.2.2 l hl
theorem kLc_e {m m' : jm} {cl : List Int} (h1 : ja m' 27 1 = ja m 27 1) (h : ∀ j, ja m' 28 j = ja m 28 j) (H : kLc m 27 cl) : kLc m' 27 cl := ⟨by rw [h1]; exact H.1, fun i hi => by rw [h]; exact H.2 i hi⟩
theorem kLm_e {m m' : jm} {cl : List Int} (h1 : ja m' 67 34 = ja m 67 34) (h2 : ∀ j, ja m' 82 j = ja m 82 j) (h3 : ∀ j, ja m' 83 j = ja m 83 j) (H : kLm m cl) : kLm m' cl := by
  unfold kLm at *
  rw [h1]
  rcases H with h | h
  · exact Or.inl h
  · exact Or.inr ⟨h.1, h.2.1, fun i hi => by rw [h2, h3]; exact h.2.2 i hi⟩
theorem kBk_e {m m' : jm} {c : kC} (h1 : ja m' 33 1 = ja m 33 1) (h2 : ja m' 67 52 = ja m 67 52) (h3 : ∀ j, ja m' 34 j = ja m 34 j) (h4 : ∀ j, ja m' 92 j = ja m 92 j) (H : kBk m c) : kBk m' c := ⟨by rw [h1, h2]; exact H.1, fun e he => by rw [h3, h4]; exact H.2 e he⟩
theorem kPast_e {m m' : jm} {c : kC} (h1 : ja m' 50 1 = ja m 50 1) (h2 : ja m' 67 39 = ja m 67 39) (h3 : ∀ j, ja m' 51 j = ja m 51 j) (h4 : ∀ j, ja m' 90 j = ja m 90 j) (H : kPast m c) : kPast m' c := by
  obtain ⟨n, a1, a2, a3, a4⟩ := H
  refine ⟨n, a1, by rw [h1]; exact a2, by rw [h2]; exact a3, fun i hi => ?_⟩
  have := a4 i hi
  obtain ⟨p, b1, b2, b3⟩ := this
  exact ⟨p, kPc_eq (fun j => h3 _) b1, kPm_eq (fun j => h4 _) b2, b3⟩
theorem kPost_e {f g f' g' : Nat → Int} {c : kC} (h1 : ∀ j, f' j = f j) (h2 : ∀ j, g' j = g j) (H : kPost f g c) : kPost f' g' c := by
  obtain ⟨p, b1, b2, b3⟩ := H
  exact ⟨p, kPc_eq h1 b1, kPm_eq h2 b2, b3⟩
theorem kImg_e {m m' : jm} {c : kC} (h1 : ja m' 50 5 = ja m 50 5) (h2 : ja m' 67 66 = ja m 67 66) (h3 : ∀ k j, 52 ≤ k → k ≤ 54 → ja m' k j = ja m k j) (h4 : ∀ j, ja m' 101 j = ja m 101 j) (H : kImg m c) : kImg m' c := by
  obtain ⟨n, a1, a2, a3, a4⟩ := H
  refine ⟨n, a1, by rw [h1]; exact a2, by rw [h2]; exact a3, fun i hi => ?_⟩
  obtain ⟨b1, w, b2, b3, b4, b5⟩ := a4 i hi
  refine ⟨kPost_e (fun j => h3 _ _ (by omega) (by omega)) (fun j => h4 _) b1, w, b2, by rw [h3 _ _ (by omega) (by omega)]; exact b3, by rw [h4]; exact b4, fun r hr => kPost_e (fun j => h3 _ _ (by omega) (by omega)) (fun j => h4 _) (b5 r hr)⟩
/-- all but the post, the past, the images and the refused steps -/
def kZ (k j : Nat) : Prop := (3 ≤ k ∧ k ≤ 14) ∨ (k = 67 ∧ 24 ≤ j ∧ j ≤ 27) ∨ (75 ≤ k ∧ k ≤ 79) ∨ (k = 27 ∧ j = 1) ∨ k = 28 ∨ (k = 67 ∧ j = 34) ∨ k = 82 ∨ k = 83 ∨ (k = 33 ∧ j = 1) ∨ (k = 67 ∧ j = 52) ∨ k = 34 ∨ k = 92
theorem kS_mk {m m' : jm} {c : kC} {cl : List Int} (h : kEq kZ m m') (h1 : kV c) (h2 : kCc m 3 c) (h3 : kCm m 24 75 c) (h5 : kWL cl) (h6 : kLc m 27 cl) (h7 : kLm m cl) (h8 : kBk m c) (h4 : kPost (fun j => ja m' 48 j) (fun j => ja m' 88 j) c) (h9 : kPast m' c) (h10 : kImg m' c) (h11 : ja m' 0 14 = ja m' 67 40) : kS m' :=
  ⟨c, cl, h1, kCc_e (fun k j a b => h k j (by unfold kZ; omega)) h2, kCm_e (fun j a b => h 67 j (by unfold kZ; omega)) (fun k j a b => h k j (by unfold kZ; omega)) h3, h4, h5, kLc_e (h _ _ (by unfold kZ; omega)) (fun j => h _ _ (by unfold kZ; omega)) h6, kLm_e (h _ _ (by unfold kZ; omega)) (fun j => h _ _ (by unfold kZ; omega)) (fun j => h _ _ (by unfold kZ; omega)) h7, kBk_e (h _ _ (by unfold kZ; omega)) (h _ _ (by unfold kZ; omega)) (fun j => h _ _ (by unfold kZ; omega)) (fun j => h _ _ (by unfold kZ; omega)) h8, h9, h10, h11⟩
/-! undo -/
theorem sy_6 {m : jm} (h : Inv m) : kSe (fun m => jf_143 m) (fun m => jf_245 m) m := by
  obtain ⟨⟨c, cl, h1, h2, h3, h4, h5, h6, h7, h8, h9, h10, h11⟩, hT, hR⟩ := id h
  obtain ⟨n, a1, a2, a3, a4⟩ := id h9
  unfold kSe
  show jo (jf_143 m) (fun p => jo (jf_245 p.2) _)
  unfold jf_143 jf_50
  rw [a2]
  cases n with
  | zero =>
    rw [if_neg (by decide), jsb, if_pos rfl]
    show jo (jf_245 m) _
    unfold jf_245
    have e : ja (js m 67 0 0) 67 39 = 0 := by rw [ja_jsj (by decide)]; exact a3
    rw [jle_eq, if_pos e]
    exact ⟨rfl, Inv_th h⟩
  | succ n =>
    rw [if_pos (show (0 : Int) < ((n + 1 : Nat) : Int) by omega), jle_eq]
    have e1 : jw (((n + 1 : Nat) : Int) - 1) = (n : Int) := by rw [jwi (by omega) (by omega)]; omega
    have e2 : ja (js m 50 1 (n : Int)) 50 1 = (n : Int) := by rw [ja_js1, jw_nat (by omega)]
    have e3 : jw ((n : Int) * 52) = ((52 * n : Nat) : Int) := by rw [jwi (by omega) (by omega)]; omega
    rw [e1, e2, e3, if_pos (by omega), jle_eq, Int.toNat_natCast, jsb, if_neg (show ¬ (1 : Int) = 0 by decide), jle_eq]
    have rc : ∀ k j, ja (js (jcp (js m 50 1 (n : Int)) ((js m 50 1 (n : Int)).1 51) 48 (52 * n) (0 : Int).toNat (52 : Int).toNat) 0 14 0) k j = if k = 0 ∧ j = 14 then 0 else if k = 48 ∧ j < 52 then ja m 51 (52 * n + j) else if k = 50 ∧ j = 1 then (n : Int) else ja m k j := fun k j => by
      rw [ja_js]
      by_cases q1 : k = 0 ∧ j = 14
      · rw [if_pos q1, if_pos q1]; rfl
      · rw [if_neg q1, if_neg q1, ja_jcp]
        by_cases q2 : k = 48 ∧ j < 52
        · rw [if_pos (show k = 48 ∧ (0 : Int).toNat ≤ j ∧ j < (0 : Int).toNat + (52 : Int).toNat from ⟨q2.1, Nat.zero_le _, q2.2⟩), if_pos q2]
          show ja (js m 50 1 (n : Int)) 51 (52 * n + (j - 0)) = _
          rw [ja_jsk (by decide), Nat.sub_zero]
        · rw [if_neg (show ¬ (k = 48 ∧ (0 : Int).toNat ≤ j ∧ j < (0 : Int).toNat + (52 : Int).toNat) from fun e => q2 ⟨e.1, e.2.2⟩), if_neg q2, ja_js, jw_nat (by omega)]
    generalize js (jcp (js m 50 1 (n : Int)) ((js m 50 1 (n : Int)).1 51) 48 (52 * n) (0 : Int).toNat (52 : Int).toNat) 0 14 0 = mc at rc
    show jo (jf_245 mc) _
    have ec : ja mc 50 1 = (n : Int) := by rw [rc]; rfl
    unfold jf_245
    have f1 : ja (js mc 67 0 0) 67 39 = ((n + 1 : Nat) : Int) := by rw [ja_jsj (by decide), rc, if_neg (by decide), if_neg (by decide), if_neg (by decide)]; exact a3
    rw [jle_eq, f1, if_neg (by omega), jle_eq, e1]
    rw [jlp_fr (a := ((0 : Int), js (js mc 67 0 0) 67 39 (n : Int))) (c := jcp (js (js mc 67 0 0) 67 39 (n : Int)) ((js (js mc 67 0 0) 67 39 (n : Int)).1 90) 88 (68 * n) 0 68) 68 (fun i => ((i : Int), jcp (js (js mc 67 0 0) 67 39 (n : Int)) ((js (js mc 67 0 0) 67 39 (n : Int)).1 90) 88 (68 * n) 0 i)) (by decide) (by rw [jcp_0]; rfl) ?hs ?he]
    case he => rfl
    case hs =>
      intro i hi
      dsimp only
      have g1 : ja (jcp (js (js mc 67 0 0) 67 39 (n : Int)) ((js (js mc 67 0 0) 67 39 (n : Int)).1 90) 88 (68 * n) 0 i) 67 39 = (n : Int) := by rw [ja_jcp, if_neg (by omega), ja_js1, jw_nat (by omega)]
      have g2 : jw (jw ((68 : Int) * (n : Int)) + (i : Int)) = ((68 * n + i : Nat) : Int) := by rw [jwi (x := 68 * _) (by omega) (by omega), jwi (by omega) (by omega)]; omega
      rw [if_pos (show (i : Int) < 68 by omega), g1, g2, if_pos (show 0 ≤ ((68 * n + i : Nat) : Int) ∧ ((68 * n + i : Nat) : Int) < 1088 by omega), if_pos (show 0 ≤ (i : Int) ∧ (i : Int) < 68 by omega), jle_eq, Int.toNat_natCast, Int.toNat_natCast, jwn (n := i) (by omega)]
      have := jcp_st (m := js (js mc 67 0 0) 67 39 (n : Int)) (s := 90) (d := 88) (sp := 68 * n) (dp := 0) (i := i) (by decide)
      rw [Nat.zero_add] at this
      rw [this]
    rw [jsb, jle_eq]
    have rm : ∀ k j, ja (js (jcp (js (js mc 67 0 0) 67 39 (n : Int)) ((js (js mc 67 0 0) 67 39 (n : Int)).1 90) 88 (68 * n) 0 68) 67 40 0) k j = if k = 67 ∧ j = 40 then 0 else if k = 88 ∧ j < 68 then ja mc 90 (68 * n + j) else if k = 67 ∧ j = 39 then (n : Int) else if k = 67 ∧ j = 0 then 0 else ja mc k j := fun k j => by
      rw [ja_js]
      by_cases q1 : k = 67 ∧ j = 40
      · rw [if_pos q1, if_pos q1]; rfl
      · rw [if_neg q1, if_neg q1, ja_jcp]
        by_cases q2 : k = 88 ∧ j < 68
        · rw [if_pos (show k = 88 ∧ 0 ≤ j ∧ j < 0 + 68 from ⟨q2.1, Nat.zero_le _, by omega⟩), if_pos q2]
          show ja (js (js mc 67 0 0) 67 39 (n : Int)) 90 (68 * n + (j - 0)) = _
          rw [ja_jsk (by decide), ja_jsk (by decide), Nat.sub_zero]
        · rw [if_neg (show ¬ (k = 88 ∧ 0 ≤ j ∧ j < 0 + 68) by omega), if_neg q2, ja_js]
          by_cases q3 : k = 67 ∧ j = 39
          · rw [if_pos q3, if_pos q3, jw_nat (by omega)]
          · rw [if_neg q3, if_neg q3, ja_js]; rfl
    generalize js (jcp (js (js mc 67 0 0) 67 39 (n : Int)) ((js (js mc 67 0 0) 67 39 (n : Int)).1 90) 88 (68 * n) 0 68) 67 40 0 = mm at rm
    have z : ∀ k j, ¬ (k = 67 ∧ j = 40) → ¬ (k = 88) → ¬ (k = 67 ∧ j = 39) → ¬ (k = 67 ∧ j = 0) → ¬ (k = 0 ∧ j = 14) → ¬ (k = 48) → ¬ (k = 50 ∧ j = 1) → ja mm k j = ja m k j := fun k j b1 b2 b3 b4 b5 b6 b7 => by
      rw [rm, if_neg b1, if_neg (fun e => b2 e.1), if_neg b3, if_neg b4, rc, if_neg b5, if_neg (fun e => b6 e.1), if_neg b7]
    refine ⟨?_, ?_, ?_, ?_⟩
    · show ja mc 50 1 = ja mm 67 39
      rw [ec, rm]; rfl
    · refine kS_mk (m := m) (fun k j hk => z k j (by unfold kZ at hk; omega) (by unfold kZ at hk; omega) (by unfold kZ at hk; omega) (by unfold kZ at hk; omega) (by unfold kZ at hk; omega) (by unfold kZ at hk; omega) (by unfold kZ at hk; omega)) h1 h2 h3 h5 h6 h7 h8 ?_ ?_ ?_ ?_
      · refine kPost_lt h1 (fun j hj => ?_) (fun j hj => ?_) (a4 n (by omega))
        · show ja mm 48 j = ja m 51 (52 * n + j)
          rw [rm, if_neg (by omega), if_neg (by omega), if_neg (by omega), if_neg (by omega), rc, if_neg (by omega), if_pos ⟨rfl, hj⟩]
        · show ja mm 88 j = ja m 90 (68 * n + j)
          rw [rm, if_neg (by omega), if_pos ⟨rfl, hj⟩, rc, if_neg (by omega), if_neg (by omega), if_neg (by omega)]
      · refine ⟨n, by omega, ?_, ?_, fun i hi => ?_⟩
        · rw [rm, if_neg (by decide), if_neg (by decide), if_neg (by decide), if_neg (by decide)]; exact ec
        · rw [rm]; rfl
        · exact kPost_e (fun j => z _ _ (by omega) (by omega) (by omega) (by omega) (by omega) (by omega) (by omega)) (fun j => z _ _ (by omega) (by omega) (by omega) (by omega) (by omega) (by omega) (by omega)) (a4 i (by omega))
      · exact kImg_e (z _ _ (by omega) (by omega) (by omega) (by omega) (by omega) (by omega) (by omega)) (z _ _ (by omega) (by omega) (by omega) (by omega) (by omega) (by omega) (by omega)) (fun k j b1 b2 => z _ _ (by omega) (by omega) (by omega) (by omega) (by omega) (by omega) (by omega)) (fun j => z _ _ (by omega) (by omega) (by omega) (by omega) (by omega) (by omega) (by omega)) h10
      · rw [rm, if_neg (by decide), if_neg (by decide), if_neg (by decide), if_neg (by decide), rc, if_pos (by decide), rm]; rfl
    · exact kT_congr (fun k j hk => z k j (by unfold kQT at hk; omega) (by unfold kQT at hk; omega) (by unfold kQT at hk; omega) (by unfold kQT at hk; omega) (by unfold kQT at hk; omega) (by unfold kQT at hk; omega) (by unfold kQT at hk; omega)) hT
    · exact kR_congr (fun k j hk => z k j (by unfold kQR at hk; omega) (by unfold kQR at hk; omega) (by unfold kQR at hk; omega) (by unfold kQR at hk; omega) (by unfold kQR at hk; omega) (by unfold kQR at hk; omega) (by unfold kQR at hk; omega)) hR
