/-! WAYS: reach, way, send, meet (refusals by wip/whole/gen/opgen.py). -/
theorem kMa_230 {m r : jm} {c : kC} {p : kP} {cl : List Int} {w : Nat} (H : kM m c p cl) (hr : (ja r 67 47, ja r 67 48, ja r 67 49) = kCar c (fun l => decide (p 6 l = (w : Int))) (c 11 3) ∧ jfr true jW_230 m r) : kMa r c p cl (kHw c p w) := ⟨kM_fr H hr.2 (fun k j hk => by unfold jW_230 at hk; unfold kQM; omega), hr.1⟩
theorem kM_265 {m r : jm} {c : kC} {p : kP} {cl : List Int} {a : Int × Int × Int} (H : kMa m c p cl a) (hf : jfr true jW_265 m r) : kMa r c p cl a := kMa_fr H hf (fun k j hk => by unfold jW_265 at hk; unfold kQM; omega)
theorem jw24 {w : Nat} (h : w < 100) : jw ((24 : Int) + (w : Int)) = (24 : Int) + (w : Int) := jwi (by omega) (by omega)
theorem tn24 {w : Nat} : ((24 : Int) + (w : Int)).toNat = 24 + w := by omega
theorem sl_274 {m : jm} {c : kC} {p : kP} {cl : List Int} {w t : Nat} (H : kM m c p cl) (hw : w < c 11 2) (ht : t < c 11 0) : jo (jf_274 w t m) (fun r => r.1 = kWy c p cl w t ∧ jfr true jW_274 m r.2) := by
  refine jo_and ?_ jx_274
  have hn := H.1.1
  unfold jf_274 kWy
  refine jo_c (sl_230 (w := (w : Int)) H) (fun r hr => ?_)
  have H1 := kMa_230 H hr
  rw [jw24 (by omega), tn24, if_pos (show 0 ≤ (24 : Int) + (w : Int) ∧ (24 : Int) + (w : Int) < 68 by omega), kM_s2 H1.1 hw]
  by_cases h : p 2 w = -1
  · rw [if_pos h, if_pos h]; rfl
  · obtain ⟨h1, h2⟩ := kP2_b H.2.1 hw h
    rw [if_neg h, if_neg h, if_pos (show 0 ≤ (24 : Int) + (w : Int) ∧ (24 : Int) + (w : Int) < 68 by omega), jo_bind, jo_bind]
    have := sl_264 H1 hw h2 ht
    rw [← h1] at this
    exact jo_mono this (fun r hr => hr.1)
theorem sp_271 {m : jm} {c : kC} {p : kP} {cl : List Int} {l : Nat} (H : kM m c p cl) (hl : l < c 11 3) : jf_271 l m = some (if p 6 l = -1 ∧ p 7 l = 0 then 1 else 0) := by
  have hn := H.1.1
  have d1 : jw ((50 : Int) + (l : Int)) = (50 : Int) + (l : Int) := jwi (by omega) (by omega)
  have d2 : jw ((58 : Int) + (l : Int)) = (58 : Int) + (l : Int) := jwi (by omega) (by omega)
  have t1 : ((50 : Int) + (l : Int)).toNat = 50 + l := by omega
  have t2 : ((58 : Int) + (l : Int)).toNat = 58 + l := by omega
  unfold jf_271
  rw [d1, d2, t1, t2, kM_s6 H hl, kM_s7 H hl, if_pos (show 0 ≤ (50 : Int) + (l : Int) ∧ (50 : Int) + (l : Int) < 68 by omega), if_pos (show 0 ≤ (58 : Int) + (l : Int) ∧ (58 : Int) + (l : Int) < 68 by omega)]
  by_cases h6 : p 6 l = -1
  · rw [if_pos h6]
    by_cases h7 : p 7 l = 0
    · rw [if_pos h7, if_pos ⟨h6, h7⟩]; rfl
    · rw [if_neg h7, if_neg (fun e => h7 e.2)]; rfl
  · rw [if_neg h6, if_neg (fun e => h6 e.1)]; rfl
theorem sl_270 {m : jm} {c : kC} {p : kP} {cl : List Int} {w l : Nat} (H : kM m c p cl) (hw : w < c 11 2) (hl : l < c 11 3) : jo (jf_270 w l m) (fun r => r.1 = kBr c p cl w l ∧ jfr true jW_270 m r.2) := by
  refine jo_and ?_ jx_270
  have hn := H.1.1
  have hL := H.1.2.2.2.2.2 l hl
  unfold jf_270 kBr
  refine jo_c (sl_230 (w := (w : Int)) H) (fun r hr => ?_)
  have H1 := kMa_230 H hr
  have e49 : ja r 67 49 = (kHw c p w).2.2 := congrArg (fun x : Int × Int × Int => x.2.2) H1.2
  have hcb := kCar_b (S := fun l => decide (p 6 l = (w : Int))) H.1 (c 11 3) (Nat.le_refl _)
  rw [jw24 (by omega), tn24, if_pos (show 0 ≤ (24 : Int) + (w : Int) ∧ (24 : Int) + (w : Int) < 68 by omega), kM_s2 H1.1 hw, e49]
  by_cases h : p 2 w = -1
  · rw [if_pos h, if_pos h]; rfl
  obtain ⟨h1, h2⟩ := kP2_b H.2.1 hw h
  rw [if_neg h, if_neg h]
  by_cases hh : (kHw c p w).2.2 ≠ 0
  · rw [if_pos hh, if_pos (show 0 < (kHw c p w).2.2 by unfold kHw at hh ⊢; omega)]; rfl
  have hh0 : (kHw c p w).2.2 = 0 := by omega
  rw [if_neg hh, if_neg (show ¬ 0 < (kHw c p w).2.2 by omega), sp_231 H1.1 hw hl, jsb]
  cases hs : kSu c w l
  · rw [if_pos (show b2i false = 0 from rfl), if_pos (rfl : false = false)]; rfl
  rw [if_neg (show ¬ b2i true = 0 by decide), if_neg (by decide : ¬ true = false), sp_271 H1.1 hl, jsb]
  rcases kLs_b H.1 H.2.1 hl with ⟨q1, q0⟩ | ⟨q1, q6, q7, q2, q3⟩
  · rw [if_neg q0, if_pos rfl, if_pos q1]; rfl
  have hne : ¬ kLs p l = -1 := by omega
  have d1 : jw ((42 : Int) + (l : Int)) = (42 : Int) + (l : Int) := jwi (by omega) (by omega)
  have t1 : ((42 : Int) + (l : Int)).toNat = 42 + l := by omega
  have d3 : jw ((4 : Int) * (l : Int)) = (4 : Int) * (l : Int) := jwi (by omega) (by omega)
  have d4 : jw ((4 : Int) * (l : Int) + 2) = (4 : Int) * (l : Int) + 2 := jwi (by omega) (by omega)
  have t4 : ((4 : Int) * (l : Int) + 2).toNat = 4 * l + 2 := by omega
  have d5 : jw ((4 : Int) * (l : Int) + 3) = (4 : Int) * (l : Int) + 3 := jwi (by omega) (by omega)
  have t5 : ((4 : Int) * (l : Int) + 3).toNat = 4 * l + 3 := by omega
  have d6 : jw ((4 : Int) * (l : Int) + 1) = (4 : Int) * (l : Int) + 1 := jwi (by omega) (by omega)
  have t6 : ((4 : Int) * (l : Int) + 1).toNat = 4 * l + 1 := by omega
  rw [if_pos (show p 6 l = -1 ∧ p 7 l = 0 from ⟨q6, q7⟩), if_neg (show ¬ (1 : Int) = 0 by decide), if_neg hne, if_pos (show 0 ≤ (24 : Int) + (w : Int) ∧ (24 : Int) + (w : Int) < 68 by omega), d1, t1, if_pos (show 0 ≤ (42 : Int) + (l : Int) ∧ (42 : Int) + (l : Int) < 68 by omega), kM_s5 H1.1 hl]
  have H0 : kMa r c p cl (0, 0, 0) := ⟨H1.1, by rw [H1.2]; exact kHw_0 hh0⟩
  have h264 := sl_264 H0 hw h2 q3
  rw [← h1, ← q2, ← q1] at h264
  rw [← q1]
  refine jo_c h264 (fun r2 hr2 => ?_)
  obtain ⟨b1, -, b2⟩ := hr2
  have H2 := kM_265 H0 b2
  rw [d3, d4, t4, d5, t5, d6, t6, if_pos (show 0 ≤ (4 : Int) * (l : Int) + 2 ∧ (4 : Int) * (l : Int) + 2 < 32 by omega), if_pos (show 0 ≤ (4 : Int) * (l : Int) + 3 ∧ (4 : Int) * (l : Int) + 3 < 32 by omega), kM_kd H2.1 hl, kM_wt H2.1 hl]
  have e272 : jf_272 (c 9 l : Int) (c 10 l : Int) r2.2 = some (js (js (js r2.2 67 47 (c 10 l : Int)) 67 48 (c 9 l : Int)) 67 49 1) := by
    unfold jf_272
    rw [jle_eq, jle_eq, if_pos (by omega)]; rfl
  have H3 : kMa (js (js (js r2.2 67 47 (c 10 l : Int)) 67 48 (c 9 l : Int)) 67 49 1) c p cl ((c 10 l : Int), (c 9 l : Int), 1) := by
    refine ⟨kM_js (kM_js (kM_js H2.1 (by unfold kQM; omega)) (by unfold kQM; omega)) (by unfold kQM; omega), ?_⟩
    rw [ja_jsj (by decide), ja_jsj (by decide), ja_js1, ja_jsj (by decide), ja_js1, ja_js1, jwi (by omega) (by omega), jwi (by omega) (by omega)]; rfl
  rw [e272, jsb, if_pos (show 0 ≤ (42 : Int) + (l : Int) ∧ (42 : Int) + (l : Int) < 68 by omega), if_pos (show 0 ≤ (4 : Int) * (l : Int) + 1 ∧ (4 : Int) * (l : Int) + 1 < 32 by omega), kM_s5 H3.1 hl, kM_T H3.1 hl]
  have h264' := sl_264 H3 hw q3 hL.2.1
  rw [← q2] at h264'
  refine jo_c h264' (fun r3 hr3 => ?_)
  obtain ⟨b3, -, -⟩ := hr3
  have g1 := kDs_b (G := kG c p cl w (0, 0, 0)) (T := c 11 0) (a := (p 2 w).toNat) (b := (kLs p l).toNat)
  have g2 := kDs_b (G := kG c p cl w ((c 10 l : Int), (c 9 l : Int), 1)) (T := c 11 0) (a := (kLs p l).toNat) (b := c 8 l)
  rw [← q1] at b3
  rw [b1, b3]
  by_cases hd : kDs (kG c p cl w (0, 0, 0)) (c 11 0) (p 2 w).toNat (kLs p l).toNat = -1
  · rw [if_pos hd, if_pos hd]; rfl
  rw [if_neg hd, if_neg hd]
  by_cases hd2 : kDs (kG c p cl w ((c 10 l : Int), (c 9 l : Int), 1)) (c 11 0) (kLs p l).toNat (c 8 l) = -1
  · rw [if_pos hd2, if_pos hd2]; rfl
  rw [if_neg hd2, if_neg hd2, jwi (by omega) (by omega)]; rfl
/-- the first of the best -/
def kBs (f : Nat → Int) : Nat → Int × Int
  | 0 => (-1, -1)
  | k + 1 => if f k ≠ -1 ∧ ((kBs f k).1 = -1 ∨ f k < (kBs f k).2) then ((k : Int), f k) else kBs f k
theorem kBs_s {f : Nat → Int} {k : Nat} : kBs f (k + 1) = if f k ≠ -1 ∧ ((kBs f k).1 = -1 ∨ f k < (kBs f k).2) then ((k : Int), f k) else kBs f k := rfl
theorem kBs_c {f : Nat → Int} : ∀ n, ((kBs f n).1 = -1 ∧ (kBs f n).2 = -1) ∨ ∃ e, e < n ∧ (kBs f n).1 = (e : Int) ∧ (kBs f n).2 = f e
  | 0 => Or.inl ⟨rfl, rfl⟩
  | n + 1 => by
    rw [kBs_s]
    by_cases h : f n ≠ -1 ∧ ((kBs f n).1 = -1 ∨ f n < (kBs f n).2)
    · rw [if_pos h]; exact Or.inr ⟨n, by omega, rfl, rfl⟩
    · rw [if_neg h]
      rcases kBs_c (f := f) n with h | ⟨e, h1, h2⟩
      · exact Or.inl h
      · exact Or.inr ⟨e, by omega, h2⟩
/-- the step that both write -/
theorem kBs_st {f : Nat → Int} {k : Nat} : (if f k = -1 then some ((kBs f k).1, (kBs f k).2) else if (kBs f k).1 = -1 then some ((k : Int), f k) else if f k < (kBs f k).2 then some ((k : Int), f k) else some ((kBs f k).1, (kBs f k).2)) = some (kBs f (k + 1)) := by
  rw [kBs_s]
  by_cases h1 : f k = -1
  · rw [if_pos h1, if_neg (fun e => e.1 h1)]
  · rw [if_neg h1]
    by_cases h2 : (kBs f k).1 = -1
    · rw [if_pos h2, if_pos ⟨h1, Or.inl h2⟩]
    · rw [if_neg h2]
      by_cases h3 : f k < (kBs f k).2
      · rw [if_pos h3, if_pos ⟨h1, Or.inr h3⟩]
      · rw [if_neg h3, if_neg (fun e => e.2.elim h2 h3)]
theorem sl_135 {m : jm} {c : kC} {p : kP} {cl : List Int} {l : Nat} (H : kK 0 m c p cl) (hl : l < c 11 3) : jo (jf_135 l m) (fun r => r.1 = (kBs (fun w => kBr c p cl w l) (c 11 2)).1 ∧ jfr true jW_127 m r.2) := by
  have hn := H.1.1
  unfold jf_135
  refine jo_c (R := fun (r : Int × jm) => r.1 = (kBs (fun w => kBr c p cl w l) (c 11 2)).1 ∧ jfr true jW_127 m r.2) ?_ (fun r hr => hr)
  refine jo_for (c 11 2) jfu (fun k (s : Int × Int × Int × jm) => s.2.2.1 = k ∧ s.1 = (kBs (fun w => kBr c p cl w l) k).1 ∧ s.2.1 = (kBs (fun w => kBr c p cl w l) k).2 ∧ jfr true jW_127 m s.2.2.2) (jfu_lt (by omega)) ?_ ?_ _ ⟨rfl, rfl, rfl, jfr_r⟩
  · intro k hk s hs
    obtain ⟨best, bl, x, m'⟩ := s
    obtain ⟨h1, h2, h3, h4⟩ := hs
    dsimp only at h1 h2 h3 h4 ⊢
    subst h1 h2 h3
    have H1 := kK_127 H h4
    rw [kK_n H1 (i := 2) (by decide), if_pos (show (k : Int) < (c 11 2 : Int) by omega), jwn (n := k) (by omega)]
    refine jo_c (sl_126 H1 hk hl) (fun r hr => ?_)
    rw [hr.1, kBs_st (f := fun w => kBr c p cl w l), jsb]
    exact ⟨rfl, rfl, rfl, jfr_tr h4 hr.2⟩
  · intro s hs
    obtain ⟨best, bl, x, m'⟩ := s
    obtain ⟨h1, h2, h3, h4⟩ := hs
    dsimp only at h1 h2 h3 h4 ⊢
    rw [kK_n (kK_127 H h4) (i := 2) (by decide), if_neg (by omega)]
    exact ⟨h2, h4⟩
theorem sy_16 {m : jm} {x0 : Int} (hx0 : jg x0) (h : Inv m) : kSy (fun m => jf_317 x0 m) (fun m => jf_263 x0 m) m := by
  obtain ⟨c, p, cl, HK, hC, hP, hL, hB⟩ := Inv_K h
  have hn := HK.1.1
  have n0 := kK_n HK (i := 0) (by decide)
  have n1 := kK_n HK (i := 1) (by decide)
  have n2 := kK_n HK (i := 2) (by decide)
  have n3 := kK_n HK (i := 3) (by decide)
  by_cases hE : 0 ≤ x0 ∧ x0 < (c 11 2 : Int)
  · obtain ⟨v0, rfl⟩ := Int.eq_ofNat_of_zero_le hE.1
    have hv0 : v0 < c 11 2 := by omega
    have hrc : kRc c p cl v0 < 256 := by
      unfold kRc; split
      · decide
      · exact kB_8 hn.1
    refine q_ok (W := jW_127) (W' := (fun k j => jW_226 k j ∨ jW_230 k j ∨ jW_265 k j)) (((kRc c p cl v0 : Nat) : Int)) h (⟨by omega, by omega⟩) ?_ (fun k j h => by unfold jW_127 at h; unfold kQ kQS kQT kQR; omega) (fun M hM => ?_) (fun k j h => by unfold jW_226 jW_230 jW_265 at h; unfold kQ kQS kQT kQR; omega)
    · show jo (jf_317 _ m) _
      unfold jf_317
      refine wr0 ?_
      unfold jf_169
      rw [ck_E n2 (by omega) hv0]
      dsimp only
      refine jo_c (sl_130 HK hv0) (fun r hr => ?_)
      exact ⟨hr.1, rfl, hr.2⟩
    · show jo (jf_263 _ M) _
      unfold jf_263
      have hC' := kCm_Q hM hC
      have hP' := kPm_Q hM hP
      rw [jle_eq, mk_256 th0 (hC'.1 2 (by decide)) (by omega) (jg_c rfl) (by decide) hv0]
      have H' := kM_T0 HK.1 HK.2.1 HK.2.2.1 hC' hP' (kLm_Q hM hL)
      dsimp only
      rw [sp_226, jsb]
      refine jo_c (sl_230 (w := (v0 : Int)) H') (fun m2 h2 => ?_)
      have H1 := kMa_230 H' h2
      have hf2 := h2.2
      have hf0 : jfr true (fun k j => jW_226 k j ∨ jW_230 k j ∨ jW_265 k j) (js M 67 0 0) m2 := jfr_t (jfr_t jfr_r jfr_T0 (fun e => e) (fun k j hk => Or.inl hk)) hf2 (fun e => e) (fun k j hk => Or.inr (Or.inl hk))
      refine jo_c (R := fun (r : Int × jm) => r.1 = ((kRc c p cl v0 : Nat) : Int) ∧ jfr true (fun k j => jW_226 k j ∨ jW_230 k j ∨ jW_265 k j) (js M 67 0 0) r.2) ?_ (fun r hr => hr)
      by_cases hfa : p 2 v0 = -1
      · refine jo_for 0 jfu (fun i (s : Int × Int × jm) => s = ((0 : Int), (0 : Int), m2)) (jfu_lt (by decide)) (fun i hi => absurd hi (Nat.not_lt_zero _)) ?_ _ rfl
        intro s hs
        subst hs
        dsimp only
        rw [show ja m2 67 24 = (c 11 0 : Int) from kM_n H1.1 (i := 0) (by decide), jw24 (by omega), tn24, kM_s2 H1.1 hv0]
        have erc : kRc c p cl v0 = 0 := by unfold kRc; rw [if_pos hfa]
        rw [erc]
        by_cases hT : (0 : Int) < (c 11 0 : Int)
        · rw [if_pos hT, if_pos (show 0 ≤ (24 : Int) + (v0 : Int) ∧ (24 : Int) + (v0 : Int) < 68 by omega), if_pos hfa]; exact ⟨rfl, hf0⟩
        · rw [if_neg hT]; exact ⟨rfl, hf0⟩
      · obtain ⟨q1, q2⟩ := kP2_b HK.2.1 hv0 hfa
        refine jo_for (c 11 0) jfu (fun t (s : Int × Int × jm) => s.2.1 = t ∧ s.1 = ((kB (fun t => decide (kDs (kG c p cl v0 (kHw c p v0)) (c 11 0) (p 2 v0).toNat t ≠ -1)) t : Nat) : Int) ∧ jfr true jW_265 m2 s.2.2) (jfu_lt (by omega)) ?_ ?_ _ ⟨rfl, rfl, jfr_r⟩
        · intro t ht s hs
          obtain ⟨bits, x, m'⟩ := s
          obtain ⟨g1, g2, g3⟩ := hs
          dsimp only at g1 g2 g3 ⊢
          subst g1 g2
          have H2 := kM_265 H1 g3
          rw [show ja m' 67 24 = (c 11 0 : Int) from kM_n H2.1 (i := 0) (by decide), if_pos (show (t : Int) < (c 11 0 : Int) by omega), jw24 (by omega), tn24, kM_s2 H2.1 hv0, if_pos (show 0 ≤ (24 : Int) + (v0 : Int) ∧ (24 : Int) + (v0 : Int) < 68 by omega), if_neg hfa, if_pos (show 0 ≤ (24 : Int) + (v0 : Int) ∧ (24 : Int) + (v0 : Int) < 68 by omega), jwn (n := t) (by omega)]
          have h264 := sl_264 H2 hv0 q2 ht
          rw [← q1] at h264
          refine jo_c h264 (fun r hr => ?_)
          obtain ⟨b1, -, b2⟩ := hr
          have eB : ((kB (fun t => decide (kDs (kG c p cl v0 (kHw c p v0)) (c 11 0) (p 2 v0).toNat t ≠ -1)) (t + 1) : Nat) : Int) = jbor ((kB (fun t => decide (kDs (kG c p cl v0 (kHw c p v0)) (c 11 0) (p 2 v0).toNat t ≠ -1)) t : Nat) : Int) (if decide (kDs (kG c p cl v0 (kHw c p v0)) (c 11 0) (p 2 v0).toNat t ≠ -1) = true then jshl 1 (t : Int) else 0) := by
            rw [jbit_n (by omega), jbor_n (kB_31 (by omega)) (kBit_lt (by omega))]; rfl
          rw [b1]
          by_cases hd : kDs (kG c p cl v0 (kHw c p v0)) (c 11 0) (p 2 v0).toNat t = -1
          · rw [if_pos hd, jsb]
            rw [if_neg (by simp [hd])] at eB
            exact ⟨rfl, eB.symm, jfr_tr g3 b2⟩
          · rw [if_neg hd, jsb]
            rw [if_pos (by simp [hd])] at eB
            exact ⟨rfl, eB.symm, jfr_tr g3 b2⟩
        · intro s hs
          obtain ⟨bits, x, m'⟩ := s
          obtain ⟨g1, g2, g3⟩ := hs
          dsimp only at g1 g2 g3 ⊢
          rw [show ja m' 67 24 = (c 11 0 : Int) from kM_n (kM_265 H1 g3).1 (i := 0) (by decide), if_neg (by omega)]
          unfold kRc
          rw [if_neg hfa]
          exact ⟨g2, jfr_t hf0 g3 (fun e => e) (fun k j hk => Or.inr (Or.inr hk))⟩
  · refine rf_E (w := 1) h (jg_c rfl) (by decide) ?_ (fun M hM => ?_)
    · show jf_317 _ m = _
      unfold jf_317 jf_169
      rw [ck_Er n2 (by omega) hE]; rfl
    · show jf_263 _ M = _
      unfold jf_263
      have hC' := kCm_Q hM hC
      rw [jle_eq, mk_256r th0 (hC'.1 2 (by decide)) (by omega) (jg_c rfl) (by decide) hE]
theorem sy_17 {m : jm} {x0 x1 x2 : Int} (hx0 : jg x0) (hx1 : jg x1) (hx2 : jg x2) (h : Inv m) : kSy (fun m => jf_318 x0 x1 x2 m) (fun m => jf_267 x0 x1 x2 m) m := by
  obtain ⟨c, p, cl, HK, hC, hP, hL, hB⟩ := Inv_K h
  have hn := HK.1.1
  have n0 := kK_n HK (i := 0) (by decide)
  have n1 := kK_n HK (i := 1) (by decide)
  have n2 := kK_n HK (i := 2) (by decide)
  have n3 := kK_n HK (i := 3) (by decide)
  by_cases hE : (0 ≤ x0 ∧ x0 < (c 11 2 : Int)) ∧ (0 ≤ x1 ∧ x1 < (c 11 0 : Int))
  · obtain ⟨v0, rfl⟩ := Int.eq_ofNat_of_zero_le hE.1.1
    have hv0 : v0 < c 11 2 := by omega
    obtain ⟨v1, rfl⟩ := Int.eq_ofNat_of_zero_le hE.2.1
    have hv1 : v1 < c 11 0 := by omega
    by_cases hR : 0 ≤ x2 ∧ x2 ≤ 1
    · skip
      have h4 : x2 = 0 ∨ x2 = 1 := by omega
      have hwb := kWy_b (c := c) (p := p) (cl := cl) (w := v0) (t := v1)
      have hfb : jgl (if p 2 v0 = -1 then -1 else kFh (kG c p cl v0 (kHw c p v0)) (c 11 0) (p 2 v0).toNat v1) := by
        split
        · exact ⟨by decide, by decide⟩
        · unfold kFh
          split
          · rcases kFs_cs (f := fun k => (kG c p cl v0 (kHw c p v0)) (p 2 v0).toNat k && decide (kDs (kG c p cl v0 (kHw c p v0)) (c 11 0) k v1 = kDs (kG c p cl v0 (kHw c p v0)) (c 11 0) (p 2 v0).toNat v1 - 1)) (c 11 0) with ⟨a, -⟩ | ⟨e, a, b, -⟩
            · rw [a]; exact ⟨by decide, by decide⟩
            · rw [b]; exact ⟨by omega, by omega⟩
          · exact ⟨by decide, by decide⟩
      rcases h4 with rfl | rfl
      · refine q_ok (W := jW_127) (W' := (fun k j => jW_226 k j ∨ jW_230 k j ∨ jW_265 k j)) (kWy c p cl v0 v1) h (⟨by omega, by omega⟩) ?_ (fun k j h => by unfold jW_127 at h; unfold kQ kQS kQT kQR; omega) (fun M hM => ?_) (fun k j h => by unfold jW_226 jW_230 jW_265 at h; unfold kQ kQS kQT kQR; omega)
        · show jo (jf_318 _ _ _ m) _
          unfold jf_318
          refine wr0 ?_
          unfold jf_170
          rw [ck_B n2 (by omega) n0 (by omega) hv0 hv1, ck_R hR]
          rw [if_pos rfl, jo_bind, jo_bind]
          refine jo_mono (sl_132 HK hv0 hv1) (fun r hr => ?_)
          exact ⟨hr.1, rfl, hr.2⟩
        · show jo (jf_267 _ _ _ M) _
          unfold jf_267
          have hC' := kCm_Q hM hC
          have hP' := kPm_Q hM hP
          rw [jle_eq, mk_256 th0 (hC'.1 2 (by decide)) (by omega) (jg_c rfl) (by decide) hv0, mk_252 th0 (hC'.1 0 (by decide)) (by omega) (jg_c rfl) (by decide) hv1, mk_R th0 (jg_c rfl) (by decide) hR]
          have H' := kM_T0 HK.1 HK.2.1 HK.2.2.1 hC' hP' (kLm_Q hM hL)
          dsimp only
          rw [sp_226, jsb]
          refine jo_c (sl_230 (w := (v0 : Int)) H') (fun m2 h2 => ?_)
          have H1 := kMa_230 H' h2
          have hf2 := h2.2
          have hf0 : jfr true (fun k j => jW_226 k j ∨ jW_230 k j ∨ jW_265 k j) (js M 67 0 0) m2 := jfr_t (jfr_t jfr_r jfr_T0 (fun e => e) (fun k j hk => Or.inl hk)) hf2 (fun e => e) (fun k j hk => Or.inr (Or.inl hk))
          rw [jw24 (by omega), tn24, kM_s2 H1.1 hv0, if_pos (show 0 ≤ (24 : Int) + (v0 : Int) ∧ (24 : Int) + (v0 : Int) < 68 by omega)]
          unfold kWy
          by_cases hfa : p 2 v0 = -1
          · rw [if_pos hfa, if_pos hfa]; exact ⟨rfl, hf0⟩
          rw [if_neg hfa]
          obtain ⟨q1, q2⟩ := kP2_b HK.2.1 hv0 hfa
          rw [if_neg hfa, if_pos (show 0 ≤ (24 : Int) + (v0 : Int) ∧ (24 : Int) + (v0 : Int) < 68 by omega)]
          have h264 := sl_264 H1 hv0 q2 hv1
          rw [← q1] at h264
          refine jo_c h264 (fun r hr => ?_)
          obtain ⟨b1, b3, b2⟩ := hr
          have hf1 : jfr true (fun k j => jW_226 k j ∨ jW_230 k j ∨ jW_265 k j) (js M 67 0 0) r.2 := jfr_t hf0 b2 (fun e => e) (fun k j hk => Or.inr (Or.inr hk))
          rw [if_pos rfl]
          exact ⟨b1, hf1⟩
      · refine q_ok (W := jW_127) (W' := (fun k j => jW_226 k j ∨ jW_230 k j ∨ jW_265 k j)) (if p 2 v0 = -1 then -1 else kFh (kG c p cl v0 (kHw c p v0)) (c 11 0) (p 2 v0).toNat v1) h (hfb) ?_ (fun k j h => by unfold jW_127 at h; unfold kQ kQS kQT kQR; omega) (fun M hM => ?_) (fun k j h => by unfold jW_226 jW_230 jW_265 at h; unfold kQ kQS kQT kQR; omega)
        · show jo (jf_318 _ _ _ m) _
          unfold jf_318
          refine wr0 ?_
          unfold jf_170
          rw [ck_B n2 (by omega) n0 (by omega) hv0 hv1, ck_R hR]
          rw [if_neg (by decide), jo_bind, jo_bind]
          refine jo_mono (sl_133 HK hv0 hv1) (fun r hr => ?_)
          exact ⟨hr.1, rfl, hr.2⟩
        · show jo (jf_267 _ _ _ M) _
          unfold jf_267
          have hC' := kCm_Q hM hC
          have hP' := kPm_Q hM hP
          rw [jle_eq, mk_256 th0 (hC'.1 2 (by decide)) (by omega) (jg_c rfl) (by decide) hv0, mk_252 th0 (hC'.1 0 (by decide)) (by omega) (jg_c rfl) (by decide) hv1, mk_R th0 (jg_c rfl) (by decide) hR]
          have H' := kM_T0 HK.1 HK.2.1 HK.2.2.1 hC' hP' (kLm_Q hM hL)
          dsimp only
          rw [sp_226, jsb]
          refine jo_c (sl_230 (w := (v0 : Int)) H') (fun m2 h2 => ?_)
          have H1 := kMa_230 H' h2
          have hf2 := h2.2
          have hf0 : jfr true (fun k j => jW_226 k j ∨ jW_230 k j ∨ jW_265 k j) (js M 67 0 0) m2 := jfr_t (jfr_t jfr_r jfr_T0 (fun e => e) (fun k j hk => Or.inl hk)) hf2 (fun e => e) (fun k j hk => Or.inr (Or.inl hk))
          rw [jw24 (by omega), tn24, kM_s2 H1.1 hv0, if_pos (show 0 ≤ (24 : Int) + (v0 : Int) ∧ (24 : Int) + (v0 : Int) < 68 by omega)]
          by_cases hfa : p 2 v0 = -1
          · rw [if_pos hfa, if_pos hfa]; exact ⟨rfl, hf0⟩
          rw [if_neg hfa]
          obtain ⟨q1, q2⟩ := kP2_b HK.2.1 hv0 hfa
          rw [if_neg hfa, if_pos (show 0 ≤ (24 : Int) + (v0 : Int) ∧ (24 : Int) + (v0 : Int) < 68 by omega)]
          have h264 := sl_264 H1 hv0 q2 hv1
          rw [← q1] at h264
          refine jo_c h264 (fun r hr => ?_)
          obtain ⟨b1, b3, b2⟩ := hr
          have hf1 : jfr true (fun k j => jW_226 k j ∨ jW_230 k j ∨ jW_265 k j) (js M 67 0 0) r.2 := jfr_t hf0 b2 (fun e => e) (fun k j hk => Or.inr (Or.inr hk))
          rw [if_neg (by decide), b1]
          by_cases hd : 0 < kDs (kG c p cl v0 (kHw c p v0)) (c 11 0) (p 2 v0).toNat v1
          · have H2 := kM_265 H1 b2
            rw [if_pos hd, if_pos (show 0 ≤ (24 : Int) + (v0 : Int) ∧ (24 : Int) + (v0 : Int) < 68 by omega), kM_s2 H2.1 hv0, jo_bind, jo_bind]
            have h268 := sl_268 H2 hv0 q2 b3 hd
            rw [← q1] at h268
            refine jo_mono h268 (fun r2 hr2 => ?_)
            exact ⟨hr2.1, jfr_t hf1 hr2.2 (fun e => e) (fun k j hk => by unfold jW_268 at hk; unfold jW_226 jW_230 jW_265; omega)⟩
          · rw [if_neg hd]
            refine ⟨?_, hf1⟩
            show (-1 : Int) = _
            unfold kFh
            rw [if_neg hd]
    · refine rf_A (w := 2) h (jg_c rfl) (by decide) ?_ (fun M hM => ?_)
      · show jf_318 _ _ _ m = _
        unfold jf_318 jf_170
        rw [ck_B n2 (by omega) n0 (by omega) hv0 hv1, ck_Rr hR]; rfl
      · show jf_267 _ _ _ M = _
        unfold jf_267
        have hC' := kCm_Q hM hC
        rw [jle_eq, mk_256 th0 (hC'.1 2 (by decide)) (by omega) (jg_c rfl) (by decide) hv0, mk_252 th0 (hC'.1 0 (by decide)) (by omega) (jg_c rfl) (by decide) hv1, mk_Rr th0 (jg_c rfl) (by decide) hR]
  · refine rf_E (w := 1) h (jg_c rfl) (by decide) ?_ (fun M hM => ?_)
    · show jf_318 _ _ _ m = _
      unfold jf_318 jf_170
      rw [ck_Br n2 (by omega) n0 (by omega) hE]; rfl
    · show jf_267 _ _ _ M = _
      unfold jf_267
      have hC' := kCm_Q hM hC
      by_cases hE1 : 0 ≤ x0 ∧ x0 < (c 11 2 : Int)
      · obtain ⟨v0, rfl⟩ := Int.eq_ofNat_of_zero_le hE1.1
        have hv0 : v0 < c 11 2 := by omega
        rw [jle_eq, mk_256 th0 (hC'.1 2 (by decide)) (by omega) (jg_c rfl) (by decide) hv0, mk_252r th0 (hC'.1 0 (by decide)) (by omega) (jg_c rfl) (by decide) (by omega)]
      · rw [jle_eq, mk_256r th0 (hC'.1 2 (by decide)) (by omega) (jg_c rfl) (by decide) hE1]
theorem sy_18 {m : jm} {x0 x1 : Int} (hx0 : jg x0) (hx1 : jg x1) (h : Inv m) : kSy (fun m => jf_319 x0 x1 m) (fun m => jf_269 x0 x1 m) m := by
  obtain ⟨c, p, cl, HK, hC, hP, hL, hB⟩ := Inv_K h
  have hn := HK.1.1
  have n0 := kK_n HK (i := 0) (by decide)
  have n1 := kK_n HK (i := 1) (by decide)
  have n2 := kK_n HK (i := 2) (by decide)
  have n3 := kK_n HK (i := 3) (by decide)
  by_cases hE : 0 ≤ x0 ∧ x0 < (c 11 3 : Int)
  · obtain ⟨v0, rfl⟩ := Int.eq_ofNat_of_zero_le hE.1
    have hv0 : v0 < c 11 3 := by omega
    by_cases hR : 0 ≤ x1 ∧ x1 ≤ 1
    · skip
      have h4 : x1 = 0 ∨ x1 = 1 := by omega
      have hbs := kBs_c (f := (fun w => kBr c p cl w v0)) (c 11 2)
      have gl1 : jgl (kBs (fun w => kBr c p cl w v0) (c 11 2)).1 := by
        rcases hbs with ⟨a, b⟩ | ⟨e, a, b, d⟩
        · rw [a]; exact ⟨by decide, by decide⟩
        · rw [b]; exact ⟨by omega, by omega⟩
      have gl2 : jgl (kBs (fun w => kBr c p cl w v0) (c 11 2)).2 := by
        rcases hbs with ⟨a, b⟩ | ⟨e, a, b, d⟩
        · rw [b]; exact ⟨by decide, by decide⟩
        · have := kBr_b (c := c) (p := p) (cl := cl) (w := e) (l := v0)
          rw [d]; exact ⟨by omega, by omega⟩
      rcases h4 with rfl | rfl
      · refine q_ok (W := jW_127) (W' := (fun k j => jW_226 k j ∨ jW_270 k j)) ((kBs (fun w => kBr c p cl w v0) (c 11 2)).1) h (gl1) ?_ (fun k j h => by unfold jW_127 at h; unfold kQ kQS kQT kQR; omega) (fun M hM => ?_) (fun k j h => by unfold jW_226 jW_270 at h; unfold kQ kQS kQT kQR; omega)
        · show jo (jf_319 _ _ m) _
          unfold jf_319
          refine wr0 ?_
          unfold jf_171
          rw [ck_E n3 (by omega) hv0, ck_R hR]
          dsimp only
          refine jo_c (sl_135 HK hv0) (fun r hr => ?_)
          rw [if_pos rfl]
          exact ⟨hr.1, rfl, hr.2⟩
        · show jo (jf_269 _ _ M) _
          unfold jf_269
          have hC' := kCm_Q hM hC
          have hP' := kPm_Q hM hP
          rw [jle_eq, mk_258 th0 (hC'.1 3 (by decide)) (by omega) (jg_c rfl) (by decide) hv0, mk_R th0 (jg_c rfl) (by decide) hR]
          have H' := kM_T0 HK.1 HK.2.1 HK.2.2.1 hC' hP' (kLm_Q hM hL)
          dsimp only
          rw [sp_226, jsb]
          refine jo_c (R := fun (t : Int × Int × jm) => t.1 = (kBs (fun w => kBr c p cl w v0) (c 11 2)).1 ∧ t.2.1 = (kBs (fun w => kBr c p cl w v0) (c 11 2)).2 ∧ jfr true (fun k j => jW_226 k j ∨ jW_270 k j) (js M 67 0 0) t.2.2) ?_ (fun t ht => ?_)
          · refine jo_for (c 11 2) jfu (fun k (s : Int × Int × Int × jm) => s.2.2.1 = k ∧ s.1 = (kBs (fun w => kBr c p cl w v0) k).1 ∧ s.2.1 = (kBs (fun w => kBr c p cl w v0) k).2 ∧ jfr true jW_270 (kT0 (js M 67 0 0)) s.2.2.2) (jfu_lt (by omega)) ?_ ?_ _ ⟨rfl, rfl, rfl, jfr_r⟩
            · intro k hk s hs
              obtain ⟨best, bl, x, m'⟩ := s
              obtain ⟨h1, h2, h3, h4⟩ := hs
              dsimp only at h1 h2 h3 h4 ⊢
              subst h1 h2 h3
              have H1 := kM_fr H' h4 (fun k j hk => by unfold jW_270 at hk; unfold kQM; omega)
              rw [show ja m' 67 26 = (c 11 2 : Int) from kM_n H1 (i := 2) (by decide), if_pos (show (k : Int) < (c 11 2 : Int) by omega), jwn (n := k) (by omega)]
              refine jo_c (sl_270 H1 hk hv0) (fun r hr => ?_)
              rw [hr.1, kBs_st (f := (fun w => kBr c p cl w v0)), jsb]
              exact ⟨rfl, rfl, rfl, jfr_tr h4 hr.2⟩
            · intro s hs
              obtain ⟨best, bl, x, m'⟩ := s
              obtain ⟨h1, h2, h3, h4⟩ := hs
              dsimp only at h1 h2 h3 h4 ⊢
              have H1 := kM_fr H' h4 (fun k j hk => by unfold jW_270 at hk; unfold kQM; omega)
              rw [show ja m' 67 26 = (c 11 2 : Int) from kM_n H1 (i := 2) (by decide), if_neg (by omega)]
              exact ⟨h2, h3, jfr_t (jfr_t jfr_r jfr_T0 (fun e => e) (fun k j hk => Or.inl hk)) h4 (fun e => e) (fun k j hk => Or.inr hk)⟩
          · obtain ⟨b1, b2, b3⟩ := ht
            rw [if_pos rfl]
            exact ⟨b1, b3⟩
      · refine q_ok (W := jW_127) (W' := (fun k j => jW_226 k j ∨ jW_270 k j)) ((kBs (fun w => kBr c p cl w v0) (c 11 2)).2) h (gl2) ?_ (fun k j h => by unfold jW_127 at h; unfold kQ kQS kQT kQR; omega) (fun M hM => ?_) (fun k j h => by unfold jW_226 jW_270 at h; unfold kQ kQS kQT kQR; omega)
        · show jo (jf_319 _ _ m) _
          unfold jf_319
          refine wr0 ?_
          unfold jf_171
          rw [ck_E n3 (by omega) hv0, ck_R hR]
          dsimp only
          refine jo_c (sl_135 HK hv0) (fun r hr => ?_)
          rw [if_neg (by decide), hr.1]
          rcases hbs with ⟨a, b⟩ | ⟨e, a, b, d⟩
          · rw [if_pos a, a, b]; exact ⟨rfl, rfl, hr.2⟩
          · rw [if_neg (by omega), b, d, jo_bind, jo_bind]
            refine jo_mono (sl_126 (kK_127 HK hr.2) a hv0) (fun r2 hr2 => ?_)
            exact ⟨hr2.1, rfl, jfr_tr hr.2 hr2.2⟩
        · show jo (jf_269 _ _ M) _
          unfold jf_269
          have hC' := kCm_Q hM hC
          have hP' := kPm_Q hM hP
          rw [jle_eq, mk_258 th0 (hC'.1 3 (by decide)) (by omega) (jg_c rfl) (by decide) hv0, mk_R th0 (jg_c rfl) (by decide) hR]
          have H' := kM_T0 HK.1 HK.2.1 HK.2.2.1 hC' hP' (kLm_Q hM hL)
          dsimp only
          rw [sp_226, jsb]
          refine jo_c (R := fun (t : Int × Int × jm) => t.1 = (kBs (fun w => kBr c p cl w v0) (c 11 2)).1 ∧ t.2.1 = (kBs (fun w => kBr c p cl w v0) (c 11 2)).2 ∧ jfr true (fun k j => jW_226 k j ∨ jW_270 k j) (js M 67 0 0) t.2.2) ?_ (fun t ht => ?_)
          · refine jo_for (c 11 2) jfu (fun k (s : Int × Int × Int × jm) => s.2.2.1 = k ∧ s.1 = (kBs (fun w => kBr c p cl w v0) k).1 ∧ s.2.1 = (kBs (fun w => kBr c p cl w v0) k).2 ∧ jfr true jW_270 (kT0 (js M 67 0 0)) s.2.2.2) (jfu_lt (by omega)) ?_ ?_ _ ⟨rfl, rfl, rfl, jfr_r⟩
            · intro k hk s hs
              obtain ⟨best, bl, x, m'⟩ := s
              obtain ⟨h1, h2, h3, h4⟩ := hs
              dsimp only at h1 h2 h3 h4 ⊢
              subst h1 h2 h3
              have H1 := kM_fr H' h4 (fun k j hk => by unfold jW_270 at hk; unfold kQM; omega)
              rw [show ja m' 67 26 = (c 11 2 : Int) from kM_n H1 (i := 2) (by decide), if_pos (show (k : Int) < (c 11 2 : Int) by omega), jwn (n := k) (by omega)]
              refine jo_c (sl_270 H1 hk hv0) (fun r hr => ?_)
              rw [hr.1, kBs_st (f := (fun w => kBr c p cl w v0)), jsb]
              exact ⟨rfl, rfl, rfl, jfr_tr h4 hr.2⟩
            · intro s hs
              obtain ⟨best, bl, x, m'⟩ := s
              obtain ⟨h1, h2, h3, h4⟩ := hs
              dsimp only at h1 h2 h3 h4 ⊢
              have H1 := kM_fr H' h4 (fun k j hk => by unfold jW_270 at hk; unfold kQM; omega)
              rw [show ja m' 67 26 = (c 11 2 : Int) from kM_n H1 (i := 2) (by decide), if_neg (by omega)]
              exact ⟨h2, h3, jfr_t (jfr_t jfr_r jfr_T0 (fun e => e) (fun k j hk => Or.inl hk)) h4 (fun e => e) (fun k j hk => Or.inr hk)⟩
          · obtain ⟨b1, b2, b3⟩ := ht
            rw [if_neg (by decide)]
            exact ⟨b2, b3⟩
    · refine rf_A (w := 2) h (jg_c rfl) (by decide) ?_ (fun M hM => ?_)
      · show jf_319 _ _ m = _
        unfold jf_319 jf_171
        rw [ck_E n3 (by omega) hv0, ck_Rr hR]; rfl
      · show jf_269 _ _ M = _
        unfold jf_269
        have hC' := kCm_Q hM hC
        rw [jle_eq, mk_258 th0 (hC'.1 3 (by decide)) (by omega) (jg_c rfl) (by decide) hv0, mk_Rr th0 (jg_c rfl) (by decide) hR]
  · refine rf_E (w := 1) h (jg_c rfl) (by decide) ?_ (fun M hM => ?_)
    · show jf_319 _ _ m = _
      unfold jf_319 jf_171
      rw [ck_Er n3 (by omega) hE]; rfl
    · show jf_269 _ _ M = _
      unfold jf_269
      have hC' := kCm_Q hM hC
      rw [jle_eq, mk_258r th0 (hC'.1 3 (by decide)) (by omega) (jg_c rfl) (by decide) hE]
