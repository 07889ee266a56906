/-! ROWS of a city in the class. -/
def kOc2 (m : jm) (f : Nat → Int) (n : Nat) (s : kFS) (c' : kC) (r : Int × jm) : Prop := match s with
  | Sum.inl e => r.1 = 0 ∧ ja r.2 1 5 = e.1 ∧ ja r.2 1 6 = (e.2 : Int) ∧ e.2 ≤ 600
  | Sum.inr j => r.1 = 1 ∧ kTc r.2 f n j ∧ kCc r.2 15 c' ∧ ja r.2 1 6 = ja m 1 6
/-- what a row of kind t may write -/
def kWr (c : kC) (t k j : Nat) : Prop := (k = 1 ∧ 3 ≤ j ∧ j ≤ 6) ∨ (16 ≤ k ∧ k ≤ 26 ∧ kWk (k - 16) = t ∧ j = c 11 t) ∨ (k = 15 ∧ j = t)
theorem kWr_1 {c : kC} {t k j : Nat} (h : jW_121 k j) : kWr c t k j := by unfold jW_121 at h; exact Or.inl (by omega)
theorem kCc_wr {m m' : jm} {c : kC} {t : Nat} {v : Nat → Nat} (ht : t < 4) (H : kCc m 15 c) (F : jfr true (kWr c t) m m') (hn : ja m' 15 t = ((c 11 t + 1 : Nat) : Int)) (hv : ∀ k, k < 11 → kWk k = t → ja m' (15 + 1 + k) (c 11 t) = (v k : Int)) : kCc m' 15 (kApp c t v) := by
  refine kCc_app H hn (fun i hi hne => ja_fr F ?_) hv (fun k j hk hne => ja_fr F ?_)
  · intro z; unfold kWr at z; omega
  · intro z
    rcases z with z | z | z
    · omega
    · obtain ⟨z1, z2, z3, z4⟩ := z
      rw [show 15 + 1 + k - 16 = k by omega] at z3
      exact hne ⟨z3, z4⟩
    · omega
theorem sl_14 {m : jm} {f : Nat → Int} {n i : Nat} {c : kC} (H : kTc m f n i) (hC : kCc m 15 c) (hn : c 11 0 < 8) : jo (jf_14 m) (fun r => kOc2 m f n (kR0 f n (Sum.inr i) c).1 (kR0 f n (Sum.inr i) c).2 r) := by
  have e15 : ja m 15 0 = (c 11 0 : Int) := hC.1 0 (by decide)
  unfold jf_14
  rw [e15]
  refine cl_num H (fun r e1 e2 e3 e4 e5 e6 => ?_) (fun r v e1 e2 e3 e4 e5 e6 e7 e8 => ?_) (by decide)
  · have g15 : ja (js r.2 16 (c 11 0) r.1) 15 0 = (c 11 0 : Int) := by rw [ja_jsk (by decide), ja_fr e6 (by unfold jW_121; omega)]; exact e15
    rw [if_pos (show 0 ≤ (c 11 0 : Int) ∧ (c 11 0 : Int) < 8 by omega), Int.toNat_natCast, jle_eq, g15, if_pos (show 0 ≤ (c 11 0 : Int) ∧ (c 11 0 : Int) < 8 by omega), Int.toNat_natCast, ja_js1, e2, if_pos (by rfl)]
    show kOc2 m f n (kNs f n 0 40 (Sum.inr i)).1 _ _
    rw [e1]
    exact ⟨rfl, by show ja (js r.2 16 _ _) 1 5 = _; rw [ja_jsk (by decide)]; exact e3, by show ja (js r.2 16 _ _) 1 6 = _; rw [ja_jsk (by decide)]; exact e4, e5⟩
  · have g15 : ja (js r.2 16 (c 11 0) r.1) 15 0 = (c 11 0 : Int) := by rw [ja_jsk (by decide), ja_fr e8 (by unfold jW_121; omega)]; exact e15
    rw [if_pos (show 0 ≤ (c 11 0 : Int) ∧ (c 11 0 : Int) < 8 by omega), Int.toNat_natCast, jle_eq, g15, if_pos (show 0 ≤ (c 11 0 : Int) ∧ (c 11 0 : Int) < 8 by omega), Int.toNat_natCast, ja_js1, e4, jwi (by omega) (by omega), if_neg (show ¬ (v : Int) = -1 by omega), jle_eq, jwn (by omega)]
    show kOc2 m f n (kNs f n 0 40 (Sum.inr i)).1 (kApp c 0 (fun _ => (kNs f n 0 40 (Sum.inr i)).2.toNat)) _
    rw [e1]
    refine ⟨rfl, kTc_js (kTc_js e5 (by omega)) (by omega), ?_, by show ja (js (js r.2 16 _ _) 15 0 _) 1 6 = _; rw [ja_jsk (by decide), ja_jsk (by decide)]; exact e7⟩
    refine kCc_wr (m := m) (by decide) hC (jfr_js (jfr_js (jfr_t jfr_r e8 (fun e => e) (fun k j h => kWr_1 h)) (Or.inr (Or.inl ⟨by decide, by decide, rfl, rfl⟩))) (Or.inr (Or.inr ⟨rfl, rfl⟩))) ?_ (fun k hk hw => ?_)
    · rw [ja_js1, jwi (by omega) (by omega)]
    · have : k = 0 := by have := kWk_cs (k := k); omega
      subst this
      show ja (js (js r.2 16 (c 11 0) (v : Int)) 15 0 _) 16 (c 11 0) = ((v : Int).toNat : Int)
      rw [ja_jsk (by decide), ja_js1, jwi (by omega) (by omega)]; omega
theorem sl_17 {m : jm} {f : Nat → Int} {n i : Nat} {c : kC} (H : kTc m f n i) (hC : kCc m 15 c) (hv : c 11 0 ≤ 8) (hn : c 11 2 < 6) : jo (jf_17 m) (fun r => kOc2 m f n (kR2 f n (Sum.inr i) c).1 (kR2 f n (Sum.inr i) c).2 r) := by
  have e0 : ja m 15 0 = (c 11 0 : Int) := hC.1 0 (by decide)
  have e2 : ja m 15 2 = (c 11 2 : Int) := hC.1 2 (by decide)
  have hx : 0 ≤ (c 11 2 : Int) ∧ (c 11 2 : Int) < 6 := by omega
  have ht : jw ((c 11 0 : Int) - 1) = kTw c := jwi (by omega) (by omega)
  have ht8 : kTw c ≤ 7 := by unfold kTw; omega
  have G : ∀ M, jfr true (kWr c 2) m M → (ja M 15 0 = (c 11 0 : Int)) := fun M F => by rw [ja_fr F (by unfold kWr; omega)]; exact e0
  have W1 : ∀ k j, jW_121 k j → kWr c 2 k j := fun k j h => kWr_1 h
  have J : ∀ k j, 20 ≤ k → k ≤ 22 → j = c 11 2 → kWr c 2 k j := fun k j h1 h2 h3 => Or.inr (Or.inl ⟨by omega, by omega, by unfold kWk; rw [if_neg (by omega), if_neg (by omega), if_pos (by omega)], h3⟩)
  unfold jf_17
  rw [e0, e2, ht]
  refine cl_num H (fun r1 a1 a2 a3 a4 a5 a6 => ?_) (fun r1 v1 a1 a2 a3 a4 a5 a6 a7 a8 => ?_) (by decide)
  · rw [if_pos hx, Int.toNat_natCast, jle_eq, show ja (js r1.2 20 (c 11 2) r1.1) 15 2 = (c 11 2 : Int) by rw [ja_jsk (by decide), ja_fr a6 (by unfold jW_121; omega)]; exact e2, if_pos hx, Int.toNat_natCast, ja_js1, a2, if_pos (by rfl)]
    have z : (kR2 f n (Sum.inr i) c).1 = Sum.inl (kNkd f n i, kSkp f n i) := by unfold kR2 kR2d kR2b kRa; rw [a1]; rfl
    rw [z]
    exact ⟨rfl, by show ja (js r1.2 20 _ _) 1 5 = _; rw [ja_jsk (by decide)]; exact a3, by show ja (js r1.2 20 _ _) 1 6 = _; rw [ja_jsk (by decide)]; exact a4, a5⟩
  · have g1 : ja (js r1.2 20 (c 11 2) r1.1) 15 2 = (c 11 2 : Int) := by rw [ja_jsk (by decide), ja_fr a8 (by unfold jW_121; omega)]; exact e2
    rw [if_pos hx, Int.toNat_natCast, jle_eq, g1, if_pos hx, Int.toNat_natCast, ja_js1, a4, jwi (by omega) (by omega), if_neg (show ¬ (v1 : Int) = -1 by omega)]
    rw [a4] at g1
    have T1 := kTc_js (k := 20) (j := c 11 2) (x := (v1 : Int)) a5 (by omega)
    have F1 : jfr true (kWr c 2) m (js r1.2 20 (c 11 2) (v1 : Int)) := jfr_js (jfr_t jfr_r a8 (fun e => e) W1) (J _ _ (by decide) (by decide) rfl)
    have V1 : ja (js r1.2 20 (c 11 2) (v1 : Int)) 20 (c 11 2) = (v1 : Int) := by rw [ja_js1, jwi (by omega) (by omega)]
    have X1 : ja (js r1.2 20 (c 11 2) (v1 : Int)) 1 6 = ja m 1 6 := by rw [ja_jsk (by decide)]; exact a7
    generalize js r1.2 20 (c 11 2) (v1 : Int) = M1 at *
    refine cl_num T1 (fun r2 b1 b2 b3 b4 b5 b6 => ?_) (fun r2 v2 b1 b2 b3 b4 b5 b6 b7 b8 => ?_) (by decide)
    · rw [if_pos hx, jle_eq, show ja (js r2.2 21 (c 11 2) r2.1) 15 2 = (c 11 2 : Int) by rw [ja_jsk (by decide), ja_fr b6 (by unfold jW_121; omega)]; exact g1, if_pos hx, Int.toNat_natCast, ja_js1, b2, if_pos (by rfl)]
      have z : (kR2 f n (Sum.inr i) c).1 = Sum.inl (kNkd f n (kDe f n i), kSkp f n (kDe f n i)) := by unfold kR2 kR2d kR2b kRa; rw [a1, b1]; rfl
      rw [z]
      exact ⟨rfl, by show ja (js r2.2 21 _ _) 1 5 = _; rw [ja_jsk (by decide)]; exact b3, by show ja (js r2.2 21 _ _) 1 6 = _; rw [ja_jsk (by decide)]; exact b4, b5⟩
    · have g2 : ja (js r2.2 21 (c 11 2) r2.1) 15 2 = (c 11 2 : Int) := by rw [ja_jsk (by decide), ja_fr b8 (by unfold jW_121; omega)]; exact g1
      rw [if_pos hx, jle_eq, g2, if_pos hx, Int.toNat_natCast, ja_js1, b4, jwi (by omega) (by omega), if_neg (show ¬ (v2 : Int) = -1 by omega)]
      rw [b4] at g2
      have T2 := kTc_js (k := 21) (j := c 11 2) (x := (v2 : Int)) b5 (by omega)
      have F2 : jfr true (kWr c 2) m (js r2.2 21 (c 11 2) (v2 : Int)) := jfr_js (jfr_t F1 b8 (fun e => e) W1) (J _ _ (by decide) (by decide) rfl)
      have V2 : ja (js r2.2 21 (c 11 2) (v2 : Int)) 20 (c 11 2) = (v1 : Int) := by rw [ja_jsk (by decide), ja_fr b8 (by unfold jW_121; omega)]; exact V1
      have V2' : ja (js r2.2 21 (c 11 2) (v2 : Int)) 21 (c 11 2) = (v2 : Int) := by rw [ja_js1, jwi (by omega) (by omega)]
      have X2 : ja (js r2.2 21 (c 11 2) (v2 : Int)) 1 6 = ja m 1 6 := by rw [ja_jsk (by decide), b7]; exact X1
      generalize js r2.2 21 (c 11 2) (v2 : Int) = M2 at *
      refine cl_num T2 (fun r3 d1 d2 d3 d4 d5 d6 => ?_) (fun r3 v3 d1 d2 d3 d4 d5 d6 d7 d8 => ?_) (by decide)
      · rw [if_pos hx, jle_eq, show ja (js r3.2 22 (c 11 2) r3.1) 15 2 = (c 11 2 : Int) by rw [ja_jsk (by decide), ja_fr d6 (by unfold jW_121; omega)]; exact g2, if_pos hx, Int.toNat_natCast, ja_js1, d2, if_pos (by rfl)]
        have z : (kR2 f n (Sum.inr i) c).1 = Sum.inl (kNkd f n (kDe f n (kDe f n i)), kSkp f n (kDe f n (kDe f n i))) := by unfold kR2 kR2d kR2b kRa; rw [a1, b1, d1]
        rw [z]
        exact ⟨rfl, by show ja (js r3.2 22 _ _) 1 5 = _; rw [ja_jsk (by decide)]; exact d3, by show ja (js r3.2 22 _ _) 1 6 = _; rw [ja_jsk (by decide)]; exact d4, d5⟩
      · have g3 : ja (js r3.2 22 (c 11 2) r3.1) 15 2 = (c 11 2 : Int) := by rw [ja_jsk (by decide), ja_fr d8 (by unfold jW_121; omega)]; exact g2
        rw [if_pos hx, jle_eq, g3, if_pos hx, Int.toNat_natCast, ja_js1, d4, jwi (by omega) (by omega), if_neg (show ¬ (v3 : Int) = -1 by omega), jle_eq, jwn (by omega)]
        have z : kR2 f n (Sum.inr i) c = (Sum.inr (kDe f n (kDe f n (kDe f n i))), kApp c 2 (kV3 4 5 6 (v1 : Int) (v2 : Int) (v3 : Int) 0)) := by unfold kR2 kR2d kR2b kRa; rw [a1, b1, d1]
        rw [z]
        refine ⟨rfl, kTc_js (kTc_js d5 (by omega)) (by omega), ?_, by show ja (js (js r3.2 22 _ _) 15 2 _) 1 6 = _; rw [ja_jsk (by decide), ja_jsk (by decide), d7]; exact X2⟩
        refine kCc_wr (m := m) (by decide) hC (jfr_js (jfr_js (jfr_t F2 d8 (fun e => e) W1) (J _ _ (by decide) (by decide) rfl)) (Or.inr (Or.inr ⟨rfl, rfl⟩))) ?_ (fun k hk hw => ?_)
        · rw [ja_js1, jwi (by omega) (by omega)]
        · have hk3 : k = 4 ∨ k = 5 ∨ k = 6 := by have := kWk_cs (k := k); omega
          rcases hk3 with rfl | rfl | rfl
          · show ja (js (js r3.2 22 (c 11 2) (v3 : Int)) 15 2 _) 20 (c 11 2) = ((v1 : Int).toNat : Int)
            rw [ja_jsk (by decide), ja_jsk (by decide), ja_fr d8 (by unfold jW_121; omega), V2]; omega
          · show ja (js (js r3.2 22 (c 11 2) (v3 : Int)) 15 2 _) 21 (c 11 2) = ((v2 : Int).toNat : Int)
            rw [ja_jsk (by decide), ja_jsk (by decide), ja_fr d8 (by unfold jW_121; omega), V2']; omega
          · show ja (js (js r3.2 22 (c 11 2) (v3 : Int)) 15 2 _) 22 (c 11 2) = ((v3 : Int).toNat : Int)
            rw [ja_jsk (by decide), ja_js1, jwi (by omega) (by omega)]; omega
