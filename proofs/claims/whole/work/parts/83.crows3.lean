/-! ROWS of a city in the class: letter, wire. -/
theorem sl_18 {m : jm} {f : Nat → Int} {n i : Nat} {c : kC} (H : kTc m f n i) (hC : kCc m 15 c) (hv : c 11 0 ≤ 8) (hn : c 11 3 < 8) : jo (jf_18 m) (fun r => kOc2 m f n (kR3 f n (Sum.inr i) c).1 (kR3 f n (Sum.inr i) c).2 r) := by
  have e0 : ja m 15 0 = (c 11 0 : Int) := hC.1 0 (by decide)
  have e3 : ja m 15 3 = (c 11 3 : Int) := hC.1 3 (by decide)
  have hx : 0 ≤ (c 11 3 : Int) ∧ (c 11 3 : Int) < 8 := by omega
  have ht : jw ((c 11 0 : Int) - 1) = kTw c := jwi (by omega) (by omega)
  have ht8 : kTw c ≤ 7 := by unfold kTw; omega
  have G : ∀ M, jfr true (kWr c 3) m M → (ja M 15 0 = (c 11 0 : Int)) := fun M F => by rw [ja_fr F (by unfold kWr; omega)]; exact e0
  have W1 : ∀ k j, jW_121 k j → kWr c 3 k j := fun k j h => kWr_1 h
  have J : ∀ k j, 23 ≤ k → k ≤ 26 → j = c 11 3 → kWr c 3 k j := fun k j h1 h2 h3 => Or.inr (Or.inl ⟨by omega, by omega, by have := kWk_cs (k := k - 16); omega, h3⟩)
  unfold jf_18
  rw [e0, e3, ht]
  refine cl_num H (fun r1 a1 a2 a3 a4 a5 a6 => ?_) (fun r1 v1 a1 a2 a3 a4 a5 a6 a7 a8 => ?_) (by decide)
  · rw [if_pos hx, Int.toNat_natCast, jle_eq, show ja (js r1.2 23 (c 11 3) r1.1) 15 3 = (c 11 3 : Int) by rw [ja_jsk (by decide), ja_fr a6 (by unfold jW_121; omega)]; exact e3, if_pos hx, Int.toNat_natCast, ja_js1, a2, if_pos (by rfl)]
    have z : (kR3 f n (Sum.inr i) c).1 = Sum.inl (kNkd f n i, kSkp f n i) := by unfold kR3 kR3e kR3d kRb kRa; rw [a1]; rfl
    rw [z]
    exact ⟨rfl, by show ja (js r1.2 23 _ _) 1 5 = _; rw [ja_jsk (by decide)]; exact a3, by show ja (js r1.2 23 _ _) 1 6 = _; rw [ja_jsk (by decide)]; exact a4, a5⟩
  · have g1 : ja (js r1.2 23 (c 11 3) r1.1) 15 3 = (c 11 3 : Int) := by rw [ja_jsk (by decide), ja_fr a8 (by unfold jW_121; omega)]; exact e3
    have g0 : ja (js r1.2 23 (c 11 3) r1.1) 15 0 = (c 11 0 : Int) := by rw [ja_jsk (by decide), ja_fr a8 (by unfold jW_121; omega)]; exact e0
    rw [if_pos hx, Int.toNat_natCast, jle_eq, g1, g0, ht, if_pos hx, Int.toNat_natCast, ja_js1, a4, jwi (by omega) (by omega), if_neg (show ¬ (v1 : Int) = -1 by omega)]
    rw [a4] at g1
    have T1 := kTc_js (k := 23) (j := c 11 3) (x := (v1 : Int)) a5 (by omega)
    have F1 : jfr true (kWr c 3) m (js r1.2 23 (c 11 3) (v1 : Int)) := jfr_js (jfr_t jfr_r a8 (fun e => e) W1) (J _ _ (by decide) (by decide) rfl)
    have V1 : ja (js r1.2 23 (c 11 3) (v1 : Int)) 23 (c 11 3) = (v1 : Int) := by rw [ja_js1, jwi (by omega) (by omega)]
    have X1 : ja (js r1.2 23 (c 11 3) (v1 : Int)) 1 6 = ja m 1 6 := by rw [ja_jsk (by decide)]; exact a7
    clear g0
    generalize js r1.2 23 (c 11 3) (v1 : Int) = M1 at *
    refine cl_num T1 (fun r2 b1 b2 b3 b4 b5 b6 => ?_) (fun r2 v2 b1 b2 b3 b4 b5 b6 b7 b8 => ?_) (by decide)
    · rw [if_pos hx, jle_eq, show ja (js r2.2 24 (c 11 3) r2.1) 15 3 = (c 11 3 : Int) by rw [ja_jsk (by decide), ja_fr b6 (by unfold jW_121; omega)]; exact g1, if_pos hx, Int.toNat_natCast, ja_js1, b2, if_pos (by rfl)]
      have z : (kR3 f n (Sum.inr i) c).1 = Sum.inl (kNkd f n (kDe f n i), kSkp f n (kDe f n i)) := by unfold kR3 kR3e kR3d kRb kRa; rw [a1, b1]; rfl
      rw [z]
      exact ⟨rfl, by show ja (js r2.2 24 _ _) 1 5 = _; rw [ja_jsk (by decide)]; exact b3, by show ja (js r2.2 24 _ _) 1 6 = _; rw [ja_jsk (by decide)]; exact b4, b5⟩
    · have g2 : ja (js r2.2 24 (c 11 3) r2.1) 15 3 = (c 11 3 : Int) := by rw [ja_jsk (by decide), ja_fr b8 (by unfold jW_121; omega)]; exact g1
      rw [if_pos hx, jle_eq, g2, if_pos hx, Int.toNat_natCast, ja_js1, b4, jwi (by omega) (by omega), if_neg (show ¬ (v2 : Int) = -1 by omega)]
      rw [b4] at g2
      have T2 := kTc_js (k := 24) (j := c 11 3) (x := (v2 : Int)) b5 (by omega)
      have F2 : jfr true (kWr c 3) m (js r2.2 24 (c 11 3) (v2 : Int)) := jfr_js (jfr_t F1 b8 (fun e => e) W1) (J _ _ (by decide) (by decide) rfl)
      have V2 : ja (js r2.2 24 (c 11 3) (v2 : Int)) 23 (c 11 3) = (v1 : Int) := by rw [ja_jsk (by decide), ja_fr b8 (by unfold jW_121; omega)]; exact V1
      have V2' : ja (js r2.2 24 (c 11 3) (v2 : Int)) 24 (c 11 3) = (v2 : Int) := by rw [ja_js1, jwi (by omega) (by omega)]
      have X2 : ja (js r2.2 24 (c 11 3) (v2 : Int)) 1 6 = ja m 1 6 := by rw [ja_jsk (by decide), b7]; exact X1
      generalize js r2.2 24 (c 11 3) (v2 : Int) = M2 at *
      refine cl_num T2 (fun r3 d1 d2 d3 d4 d5 d6 => ?_) (fun r3 v3 d1 d2 d3 d4 d5 d6 d7 d8 => ?_) (by decide)
      · rw [if_pos hx, jle_eq, show ja (js r3.2 25 (c 11 3) r3.1) 15 3 = (c 11 3 : Int) by rw [ja_jsk (by decide), ja_fr d6 (by unfold jW_121; omega)]; exact g2, if_pos hx, Int.toNat_natCast, ja_js1, d2, if_pos (by rfl)]
        have z : (kR3 f n (Sum.inr i) c).1 = Sum.inl (kNkd f n (kDe f n (kDe f n i)), kSkp f n (kDe f n (kDe f n i))) := by unfold kR3 kR3e kR3d kRb kRa; rw [a1, b1, d1]; rfl
        rw [z]
        exact ⟨rfl, by show ja (js r3.2 25 _ _) 1 5 = _; rw [ja_jsk (by decide)]; exact d3, by show ja (js r3.2 25 _ _) 1 6 = _; rw [ja_jsk (by decide)]; exact d4, d5⟩
      · have g3 : ja (js r3.2 25 (c 11 3) r3.1) 15 3 = (c 11 3 : Int) := by rw [ja_jsk (by decide), ja_fr d8 (by unfold jW_121; omega)]; exact g2
        rw [if_pos hx, jle_eq, g3, if_pos hx, Int.toNat_natCast, ja_js1, d4, jwi (by omega) (by omega), if_neg (show ¬ (v3 : Int) = -1 by omega)]
        rw [d4] at g3
        have T3 := kTc_js (k := 25) (j := c 11 3) (x := (v3 : Int)) d5 (by omega)
        have F3 : jfr true (kWr c 3) m (js r3.2 25 (c 11 3) (v3 : Int)) := jfr_js (jfr_t F2 d8 (fun e => e) W1) (J _ _ (by decide) (by decide) rfl)
        have V3 : ja (js r3.2 25 (c 11 3) (v3 : Int)) 23 (c 11 3) = (v1 : Int) := by rw [ja_jsk (by decide), ja_fr d8 (by unfold jW_121; omega)]; exact V2
        have V3' : ja (js r3.2 25 (c 11 3) (v3 : Int)) 24 (c 11 3) = (v2 : Int) := by rw [ja_jsk (by decide), ja_fr d8 (by unfold jW_121; omega)]; exact V2'
        have V3'' : ja (js r3.2 25 (c 11 3) (v3 : Int)) 25 (c 11 3) = (v3 : Int) := by rw [ja_js1, jwi (by omega) (by omega)]
        have X3 : ja (js r3.2 25 (c 11 3) (v3 : Int)) 1 6 = ja m 1 6 := by rw [ja_jsk (by decide), d7]; exact X2
        generalize js r3.2 25 (c 11 3) (v3 : Int) = M3 at *
        refine cl_num T3 (fun r4 p1 p2 p3 p4 p5 p6 => ?_) (fun r4 v4 p1 p2 p3 p4 p5 p6 p7 p8 => ?_) (by decide)
        · rw [if_pos hx, jle_eq, show ja (js r4.2 26 (c 11 3) r4.1) 15 3 = (c 11 3 : Int) by rw [ja_jsk (by decide), ja_fr p6 (by unfold jW_121; omega)]; exact g3, if_pos hx, Int.toNat_natCast, ja_js1, p2, if_pos (by rfl)]
          have z : (kR3 f n (Sum.inr i) c).1 = Sum.inl (kNkd f n (kDe f n (kDe f n (kDe f n i))), kSkp f n (kDe f n (kDe f n (kDe f n i)))) := by unfold kR3 kR3e kR3d kRb kRa; rw [a1, b1, d1, p1]
          rw [z]
          exact ⟨rfl, by show ja (js r4.2 26 _ _) 1 5 = _; rw [ja_jsk (by decide)]; exact p3, by show ja (js r4.2 26 _ _) 1 6 = _; rw [ja_jsk (by decide)]; exact p4, p5⟩
        · have g4 : ja (js r4.2 26 (c 11 3) r4.1) 15 3 = (c 11 3 : Int) := by rw [ja_jsk (by decide), ja_fr p8 (by unfold jW_121; omega)]; exact g3
          rw [if_pos hx, jle_eq, g4, if_pos hx, Int.toNat_natCast, ja_js1, p4, jwi (by omega) (by omega), if_neg (show ¬ (v4 : Int) = -1 by omega), jle_eq, jwn (by omega)]
          have z : kR3 f n (Sum.inr i) c = (Sum.inr (kDe f n (kDe f n (kDe f n (kDe f n i)))), kApp c 3 (kV3 7 8 9 (v1 : Int) (v2 : Int) (v3 : Int) (v4 : Int))) := by unfold kR3 kR3e kR3d kRb kRa; rw [a1, b1, d1, p1]
          rw [z]
          refine ⟨rfl, kTc_js (kTc_js p5 (by omega)) (by omega), ?_, by show ja (js (js r4.2 26 _ _) 15 3 _) 1 6 = _; rw [ja_jsk (by decide), ja_jsk (by decide), p7]; exact X3⟩
          refine kCc_wr (m := m) (by decide) hC (jfr_js (jfr_js (jfr_t F3 p8 (fun e => e) W1) (J _ _ (by decide) (by decide) rfl)) (Or.inr (Or.inr ⟨rfl, rfl⟩))) ?_ (fun k hk hw => ?_)
          · rw [ja_js1, jwi (by omega) (by omega)]
          · have hk3 : k = 7 ∨ k = 8 ∨ k = 9 ∨ k = 10 := by have := kWk_cs (k := k); omega
            rcases hk3 with rfl | rfl | rfl | rfl
            · show ja (js (js r4.2 26 (c 11 3) (v4 : Int)) 15 3 _) 23 (c 11 3) = ((v1 : Int).toNat : Int)
              rw [ja_jsk (by decide), ja_jsk (by decide), ja_fr p8 (by unfold jW_121; omega), V3]; omega
            · show ja (js (js r4.2 26 (c 11 3) (v4 : Int)) 15 3 _) 24 (c 11 3) = ((v2 : Int).toNat : Int)
              rw [ja_jsk (by decide), ja_jsk (by decide), ja_fr p8 (by unfold jW_121; omega), V3']; omega
            · show ja (js (js r4.2 26 (c 11 3) (v4 : Int)) 15 3 _) 25 (c 11 3) = ((v3 : Int).toNat : Int)
              rw [ja_jsk (by decide), ja_jsk (by decide), ja_fr p8 (by unfold jW_121; omega), V3'']; omega
            · show ja (js (js r4.2 26 (c 11 3) (v4 : Int)) 15 3 _) 26 (c 11 3) = ((v4 : Int).toNat : Int)
              rw [ja_jsk (by decide), ja_js1, jwi (by omega) (by omega)]; omega
theorem sl_15 {m : jm} {f : Nat → Int} {n i : Nat} {c : kC} (H : kTc m f n i) (hC : kCc m 15 c) (hv : c 11 0 ≤ 8) (hn : c 11 1 < 12) : jo (jf_15 m) (fun r => kOc2 m f n (kR1 f n (Sum.inr i) c).1 (kR1 f n (Sum.inr i) c).2 r) := by
  have e0 : ja m 15 0 = (c 11 0 : Int) := hC.1 0 (by decide)
  have e1 : ja m 15 1 = (c 11 1 : Int) := hC.1 1 (by decide)
  have hx : 0 ≤ (c 11 1 : Int) ∧ (c 11 1 : Int) < 12 := by omega
  have ht : jw ((c 11 0 : Int) - 1) = kTw c := jwi (by omega) (by omega)
  have ht8 : kTw c ≤ 7 := by unfold kTw; omega
  have W1 : ∀ k j, jW_121 k j → kWr c 1 k j := fun k j h => kWr_1 h
  have J : ∀ k j, 17 ≤ k → k ≤ 19 → j = c 11 1 → kWr c 1 k j := fun k j h1 h2 h3 => Or.inr (Or.inl ⟨by omega, by omega, by have := kWk_cs (k := k - 16); omega, h3⟩)
  unfold jf_15
  rw [e0, ht]
  refine cl_num H (fun r1 a1 a2 a3 a4 a5 a6 => ?_) (fun r1 v1 a1 a2 a3 a4 a5 a6 a7 a8 => ?_) (by decide)
  · rw [a2, if_pos (by rfl)]
    have z : (kR1 f n (Sum.inr i) c).1 = Sum.inl (kNkd f n i, kSkp f n i) := by unfold kR1 kR1d kRb kRa; rw [a1]; rfl
    rw [z]
    exact ⟨rfl, a3, a4, a5⟩
  · have g0 : ja r1.2 15 0 = (c 11 0 : Int) := by rw [ja_fr a8 (by unfold jW_121; omega)]; exact e0
    rw [a4, if_neg (show ¬ (v1 : Int) = -1 by omega), g0, ht]
    refine cl_num a5 (fun r2 b1 b2 b3 b4 b5 b6 => ?_) (fun r2 v2 b1 b2 b3 b4 b5 b6 b7 b8 => ?_) (by decide)
    · rw [b2, if_pos (by rfl)]
      have z : (kR1 f n (Sum.inr i) c).1 = Sum.inl (kNkd f n (kDe f n i), kSkp f n (kDe f n i)) := by unfold kR1 kR1d kRb kRa; rw [a1, b1]; rfl
      rw [z]
      exact ⟨rfl, b3, b4, b5⟩
    · have F2 : jfr true (kWr c 1) m r2.2 := jfr_t (jfr_t jfr_r a8 (fun e => e) W1) b8 (fun e => e) W1
      have hs6 : kSkp f n (kDe f n i) ≤ 600 := by have := kSkp_le (f := f) a5.1.2.1; have := H.1.1; omega
      have zz : kRa f n (Sum.inr i) c = (Sum.inr (kDe f n i), (v1 : Int)) := a1
      have zb : kRb f n (Sum.inr i) c = (Sum.inr (kDe f n (kDe f n i)), (v2 : Int)) := by unfold kRb; rw [zz]; exact b1
      rw [b4, if_neg (show ¬ (v2 : Int) = -1 by omega)]
      have bad : ((v1 : Int) = (v2 : Int) ∨ kJo c v1 v2 ≠ -1) → jo ((jf_120 2 (ja r2.2 1 4) r2.2).bind fun p3 => some (p3.1, p3.2)) (fun r => kOc2 m f n (kR1 f n (Sum.inr i) c).1 (kR1 f n (Sum.inr i) c).2 r) := fun hz => by
        have z : (kR1 f n (Sum.inr i) c).1 = Sum.inl (2, kSkp f n (kDe f n i)) := by
          unfold kR1 kR1d; rw [zz, zb]
          show (kNs f n 0 9 (if (v1 : Int) = (v2 : Int) ∨ kJo c v1 v2 ≠ -1 then Sum.inl (2, kSkp f n (kDe f n i)) else Sum.inr (kDe f n (kDe f n i)))).1 = _
          rw [if_pos hz]; rfl
        rw [sp_120, jsb, z, b6]
        refine ⟨rfl, ?_, ?_, hs6⟩
        · show ja (js (js r2.2 1 5 2) 1 6 _) 1 5 = 2
          rw [ja_jsj (by decide), ja_js1]; exact jwi (by decide) (by decide)
        · show ja (js (js r2.2 1 5 2) 1 6 _) 1 6 = _
          rw [ja_js1, jwi (by omega) (by omega)]
      by_cases h12 : (v1 : Int) = (v2 : Int)
      · rw [if_pos h12]; exact bad (Or.inl h12)
      · rw [if_neg h12]
        have hj : jf_16 12 (v1 : Int) (v2 : Int) r2.2 = some (kJo c v1 v2) := sp_16' (by omega) (by rw [ja_fr b8 (by unfold jW_121; omega), ja_fr a8 (by unfold jW_121; omega)]; exact e1) (fun e he => by
          rw [ja_fr F2 (by unfold kWr; omega)]; exact hC.2 1 e (by decide) he) (fun e he => by
          rw [ja_fr F2 (by unfold kWr; omega)]; exact hC.2 2 e (by decide) he)
        rw [hj, jsb]
        by_cases hjo : kJo c v1 v2 = -1
        · rw [if_pos hjo]
          have zc : kWz f n c (kRa f n (Sum.inr i) c) (kRb f n (Sum.inr i) c) = Sum.inr (kDe f n (kDe f n i)) := by
            rw [zz, zb]
            show (if (v1 : Int) = (v2 : Int) ∨ kJo c v1 v2 ≠ -1 then (Sum.inl (2, kSkp f n (kDe f n i)) : kFS) else Sum.inr (kDe f n (kDe f n i))) = _
            rw [if_neg (by omega)]
          refine cl_num b5 (fun r3 d1 d2 d3 d4 d5 d6 => ?_) (fun r3 v3 d1 d2 d3 d4 d5 d6 d7 d8 => ?_) (by decide)
          · rw [d2, if_pos (by rfl)]
            have z : (kR1 f n (Sum.inr i) c).1 = Sum.inl (kNkd f n (kDe f n (kDe f n i)), kSkp f n (kDe f n (kDe f n i))) := by unfold kR1 kR1d; rw [zc, d1]
            rw [z]
            exact ⟨rfl, d3, d4, d5⟩
          · have F3 : jfr true (kWr c 1) m r3.2 := jfr_t F2 d8 (fun e => e) W1
            have g3 : ja r3.2 15 1 = (c 11 1 : Int) := by rw [ja_fr d8 (by unfold jW_121; omega), ja_fr b8 (by unfold jW_121; omega), ja_fr a8 (by unfold jW_121; omega)]; exact e1
            have z : kR1 f n (Sum.inr i) c = (Sum.inr (kDe f n (kDe f n (kDe f n i))), kApp c 1 (kV3 1 2 3 (v1 : Int) (v2 : Int) (v3 : Int) 0)) := by unfold kR1 kR1d; rw [zc, d1, zz, zb]
            rw [d4, if_neg (show ¬ (v3 : Int) = -1 by omega), g3, if_pos hx, Int.toNat_natCast, jle_eq, ja_jsk (show (15 : Nat) ≠ 17 by decide), g3, if_pos hx, Int.toNat_natCast, jle_eq, ja_jsk (show (15 : Nat) ≠ 18 by decide), ja_jsk (show (15 : Nat) ≠ 17 by decide), g3, if_pos hx, Int.toNat_natCast, jle_eq, ja_jsk (show (15 : Nat) ≠ 19 by decide), ja_jsk (show (15 : Nat) ≠ 18 by decide), ja_jsk (show (15 : Nat) ≠ 17 by decide), g3, jle_eq, jwn (by omega), z]
            refine ⟨rfl, kTc_js (kTc_js (kTc_js (kTc_js d5 (by omega)) (by omega)) (by omega)) (by omega), ?_, by show ja (js (js (js (js r3.2 17 _ _) 18 _ _) 19 _ _) 15 1 _) 1 6 = _; rw [ja_jsk (by decide), ja_jsk (by decide), ja_jsk (by decide), ja_jsk (by decide), d7, b7]; exact a7⟩
            refine kCc_wr (m := m) (by decide) hC (jfr_js (jfr_js (jfr_js (jfr_js F3 (J _ _ (by decide) (by decide) rfl)) (J _ _ (by decide) (by decide) rfl)) (J _ _ (by decide) (by decide) rfl)) (Or.inr (Or.inr ⟨rfl, rfl⟩))) ?_ (fun k hk hw => ?_)
            · rw [ja_js1, jwi (by omega) (by omega)]
            · have hk3 : k = 1 ∨ k = 2 ∨ k = 3 := by have := kWk_cs (k := k); omega
              rcases hk3 with rfl | rfl | rfl
              · show ja (js (js (js (js r3.2 17 (c 11 1) (v1 : Int)) 18 _ _) 19 _ _) 15 1 _) 17 (c 11 1) = ((v1 : Int).toNat : Int)
                rw [ja_jsk (by decide), ja_jsk (by decide), ja_jsk (by decide), ja_js1, jwi (by omega) (by omega)]; omega
              · show ja (js (js (js (js r3.2 17 (c 11 1) (v1 : Int)) 18 (c 11 1) (v2 : Int)) 19 _ _) 15 1 _) 18 (c 11 1) = ((v2 : Int).toNat : Int)
                rw [ja_jsk (by decide), ja_jsk (by decide), ja_js1, jwi (by omega) (by omega)]; omega
              · show ja (js (js (js (js r3.2 17 (c 11 1) (v1 : Int)) 18 _ _) 19 (c 11 1) (v3 : Int)) 15 1 _) 19 (c 11 1) = ((v3 : Int).toNat : Int)
                rw [ja_jsk (by decide), ja_js1, jwi (by omega) (by omega)]; omega
        · rw [if_neg hjo]; exact bad (Or.inr hjo)
theorem sl_13 {m : jm} {f : Nat → Int} {n i : Nat} {c : kC} {w : Int} (H : kTc m f n i) (hC : kCc m 15 c) (hv : c 11 0 ≤ 8) (hn : kFl c w = false) : jo (jf_13 w m) (fun r => kOc2 m f n (kRow f n w (Sum.inr i) c).1 (kRow f n w (Sum.inr i) c).2 r ∧ jfr true jW_13 m r.2) := by
  refine jo_and ?_ jx_13
  unfold jf_13
  unfold kRow
  unfold kFl at hn
  by_cases w0 : w = 0
  · rw [if_pos w0] at hn
    rw [if_pos w0]
    refine jo_c (sl_14 H hC (by have := of_decide_eq_false hn; omega)) (fun r hr => ?_)
    rw [if_pos w0]; exact hr
  · rw [if_neg w0] at hn
    rw [if_neg w0]
    by_cases w1 : w = 1
    · rw [if_pos w1] at hn
      rw [if_pos w1]
      refine jo_c (sl_15 H hC hv (by have := of_decide_eq_false hn; omega)) (fun r hr => ?_)
      rw [if_neg w0, if_pos w1]; exact hr
    · rw [if_neg w1] at hn
      rw [if_neg w1]
      by_cases w2 : w = 2
      · rw [if_pos w2] at hn
        rw [if_pos w2]
        refine jo_c (sl_17 H hC hv (by have := of_decide_eq_false hn; omega)) (fun r hr => ?_)
        rw [if_neg w0, if_neg w1, if_pos w2]; exact hr
      · rw [if_neg w2] at hn
        rw [if_neg w2]
        refine jo_c (sl_18 H hC hv (by have := of_decide_eq_false hn; omega)) (fun r hr => ?_)
        rw [if_neg w0, if_neg w1, if_neg w2]; exact hr
theorem sp_12 {m : jm} {c : kC} {w : Int} (hC : kCc m 15 c) : jf_12 w m = some (b2i (kFl c w)) := by
  have e : ∀ i, i < 4 → ja m 15 i = (c 11 i : Int) := fun i hi => hC.1 i hi
  unfold jf_12
  rw [e 0 (by decide), e 1 (by decide), e 2 (by decide), e 3 (by decide)]
  unfold kFl b2i
  repeat' split
  all_goals first | rfl | (exfalso; simp only [decide_eq_true_eq] at *; omega)
