/-! QUESTIONS that only read (refusals written by wip/whole/gen/opgen.py). -/
theorem kB_gl {f : Nat → Bool} {n : Nat} (h : n ≤ 31) : jgl ((kB f n : Nat) : Int) := by
  have := kB_31 (f := f) h
  unfold jgl; omega
theorem kP5_b {c : kC} {p : kP} {l : Nat} (hv : kV c) (hq : kVp c p) (h : l < c 11 3) : -1 ≤ p 5 l ∧ p 5 l < 8 := by
  have := hq.2.2.2.1 l h
  have := hv.1.1
  have := hv.2.2.2.2.2 l h
  by_cases h6 : p 6 l = -1
  · omega
  · omega
theorem sy_9 {m : jm} {x0 x1 : Int} (hx0 : jg x0) (hx1 : jg x1) (h : Inv m) : kSy (fun m => jf_310 x0 x1 m) (fun m => jf_253 x0 x1 m) m := by
  obtain ⟨c, p, cl, HK, hC, hP, hL, hB⟩ := Inv_K h
  have hn := HK.1.1
  have n0 := kK_n HK (i := 0) (by decide)
  have n1 := kK_n HK (i := 1) (by decide)
  have n2 := kK_n HK (i := 2) (by decide)
  have n3 := kK_n HK (i := 3) (by decide)
  by_cases hE : 0 ≤ x0 ∧ x0 < (c 11 1 : Int)
  · obtain ⟨v0, rfl⟩ := Int.eq_ofNat_of_zero_le hE.1
    have hv0 : v0 < c 11 1 := by omega
    by_cases hR : 0 ≤ x1 ∧ x1 ≤ 3
    · skip
      have h4 : x1 = 0 ∨ x1 = 1 ∨ x1 = 2 ∨ x1 = 3 := by omega
      have e1 : ((2 : Int) * (v0 : Int)).toNat = 2 * v0 := by omega
      have e2 : ((2 : Int) * (v0 : Int) + 1).toNat = 2 * v0 + 1 := by omega
      have e3 : ((12 : Int) + (v0 : Int)).toNat = 12 + v0 := by omega
      have ha := HK.1.2.2.1 v0 hv0
      have hg := kK_gh HK hv0
      rcases h4 with rfl | rfl | rfl | rfl
      · refine q_ok (W := fun _ _ => False) (W' := fun _ _ => False) ((c 1 v0 : Int)) h (⟨by omega, by omega⟩) ?_ (fun _ _ h => h.elim) (fun M hM => ?_) (fun _ _ h => h.elim)
        · show jo (jf_310 _ _ m) _
          unfold jf_310
          refine wr0 ?_
          unfold jf_161
          rw [ck_E n1 (by omega) hv0, ck_R hR]
          simp (disch := omega) only [reduceIte, jwi, jif, jifn, jsb, Int.toNat_natCast, kK_A HK hv0]
          exact ⟨rfl, rfl, jfr_r⟩
        · show jo (jf_253 _ _ M) _
          unfold jf_253
          have hC' := kCm_Q hM hC
          have hP' := kPm_Q hM hP
          rw [jle_eq, mk_254 th0 (hC'.1 1 (by decide)) (by omega) (jg_c rfl) (by decide) hv0, mk_R th0 (jg_c rfl) (by decide) hR]
          simp (disch := omega) only [reduceIte, jwi, jif, jifn, jsb, Int.toNat_natCast, (hC'.2.2.1 v0 hv0).1, e1, Int.add_zero]
          exact ⟨rfl, jfr_r⟩
      · refine q_ok (W := fun _ _ => False) (W' := fun _ _ => False) ((c 2 v0 : Int)) h (⟨by omega, by omega⟩) ?_ (fun _ _ h => h.elim) (fun M hM => ?_) (fun _ _ h => h.elim)
        · show jo (jf_310 _ _ m) _
          unfold jf_310
          refine wr0 ?_
          unfold jf_161
          rw [ck_E n1 (by omega) hv0, ck_R hR]
          simp (disch := omega) only [reduceIte, jwi, jif, jifn, jsb, Int.toNat_natCast, kK_B HK hv0]
          exact ⟨rfl, rfl, jfr_r⟩
        · show jo (jf_253 _ _ M) _
          unfold jf_253
          have hC' := kCm_Q hM hC
          have hP' := kPm_Q hM hP
          rw [jle_eq, mk_254 th0 (hC'.1 1 (by decide)) (by omega) (jg_c rfl) (by decide) hv0, mk_R th0 (jg_c rfl) (by decide) hR]
          simp (disch := omega) only [reduceIte, jwi, jif, jifn, jsb, Int.toNat_natCast, (hC'.2.2.1 v0 hv0).2.1, e2]
          exact ⟨rfl, jfr_r⟩
      · refine q_ok (W := fun _ _ => False) (W' := fun _ _ => False) (p 0 v0) h (jgl_g hg.1) ?_ (fun _ _ h => h.elim) (fun M hM => ?_) (fun _ _ h => h.elim)
        · show jo (jf_310 _ _ m) _
          unfold jf_310
          refine wr0 ?_
          unfold jf_161
          rw [ck_E n1 (by omega) hv0, ck_R hR]
          simp (disch := omega) only [reduceIte, jwi, jif, jifn, jsb, Int.toNat_natCast, sp_65 HK hv0]
          exact ⟨rfl, rfl, jfr_r⟩
        · show jo (jf_253 _ _ M) _
          unfold jf_253
          have hC' := kCm_Q hM hC
          have hP' := kPm_Q hM hP
          rw [jle_eq, mk_254 th0 (hC'.1 1 (by decide)) (by omega) (jg_c rfl) (by decide) hv0, mk_R th0 (jg_c rfl) (by decide) hR]
          have hh : ja (js M 67 0 0) 88 v0 = p 0 v0 := (hP'.2.2.1 v0 hv0).1
          simp (disch := omega) only [reduceIte, jwi, jif, jifn, jsb, Int.toNat_natCast, hh, Int.zero_add]
          exact ⟨rfl, jfr_r⟩
      · refine q_ok (W := fun _ _ => False) (W' := fun _ _ => False) (p 1 v0) h (jgl_g hg.2) ?_ (fun _ _ h => h.elim) (fun M hM => ?_) (fun _ _ h => h.elim)
        · show jo (jf_310 _ _ m) _
          unfold jf_310
          refine wr0 ?_
          unfold jf_161
          rw [ck_E n1 (by omega) hv0, ck_R hR]
          simp (disch := omega) only [reduceIte, jwi, jif, jifn, jsb, Int.toNat_natCast, sp_66 HK hv0]
          exact ⟨rfl, rfl, jfr_r⟩
        · show jo (jf_253 _ _ M) _
          unfold jf_253
          have hC' := kCm_Q hM hC
          have hP' := kPm_Q hM hP
          rw [jle_eq, mk_254 th0 (hC'.1 1 (by decide)) (by omega) (jg_c rfl) (by decide) hv0, mk_R th0 (jg_c rfl) (by decide) hR]
          have hh : ja (js M 67 0 0) 88 (12 + v0) = p 1 v0 := (hP'.2.2.1 v0 hv0).2
          simp (disch := omega) only [reduceIte, jwi, jif, jifn, jsb, Int.toNat_natCast, hh, e3]
          exact ⟨rfl, jfr_r⟩
    · refine rf_A (w := 2) h (jg_c rfl) (by decide) ?_ (fun M hM => ?_)
      · show jf_310 _ _ m = _
        unfold jf_310 jf_161
        rw [ck_E n1 (by omega) hv0, ck_Rr hR]; rfl
      · show jf_253 _ _ M = _
        unfold jf_253
        have hC' := kCm_Q hM hC
        rw [jle_eq, mk_254 th0 (hC'.1 1 (by decide)) (by omega) (jg_c rfl) (by decide) hv0, mk_Rr th0 (jg_c rfl) (by decide) hR]
  · refine rf_E (w := 1) h (jg_c rfl) (by decide) ?_ (fun M hM => ?_)
    · show jf_310 _ _ m = _
      unfold jf_310 jf_161
      rw [ck_Er n1 (by omega) hE]; rfl
    · show jf_253 _ _ M = _
      unfold jf_253
      have hC' := kCm_Q hM hC
      rw [jle_eq, mk_254r th0 (hC'.1 1 (by decide)) (by omega) (jg_c rfl) (by decide) hE]
theorem sy_10 {m : jm} {x0 x1 : Int} (hx0 : jg x0) (hx1 : jg x1) (h : Inv m) : kSy (fun m => jf_311 x0 x1 m) (fun m => jf_255 x0 x1 m) m := by
  obtain ⟨c, p, cl, HK, hC, hP, hL, hB⟩ := Inv_K h
  have hn := HK.1.1
  have n0 := kK_n HK (i := 0) (by decide)
  have n1 := kK_n HK (i := 1) (by decide)
  have n2 := kK_n HK (i := 2) (by decide)
  have n3 := kK_n HK (i := 3) (by decide)
  by_cases hE : 0 ≤ x0 ∧ x0 < (c 11 2 : Int)
  · obtain ⟨v0, rfl⟩ := Int.eq_ofNat_of_zero_le hE.1
    have hv0 : v0 < c 11 2 := by omega
    by_cases hR : 0 ≤ x1 ∧ x1 ≤ 6
    · skip
      have h4 : x1 = 0 ∨ x1 = 1 ∨ x1 = 2 ∨ x1 = 3 ∨ x1 = 4 ∨ x1 = 5 ∨ x1 = 6 := by omega
      have e0 : ((3 : Int) * (v0 : Int)).toNat = 3 * v0 := by omega
      have e1 : ((3 : Int) * (v0 : Int) + 1).toNat = 3 * v0 + 1 := by omega
      have e2 : ((3 : Int) * (v0 : Int) + 2).toNat = 3 * v0 + 2 := by omega
      have e3 : ((24 : Int) + (v0 : Int)).toNat = 24 + v0 := by omega
      have e4 : ((30 : Int) + (v0 : Int)).toNat = 30 + v0 := by omega
      have e5 : ((36 : Int) + (v0 : Int)).toNat = 36 + v0 := by omega
      have ha := HK.1.2.2.2.2.1 v0 hv0
      have hg := kK_gw HK hv0
      rcases h4 with rfl | rfl | rfl | rfl | rfl | rfl | rfl
      · refine q_ok (W := fun _ _ => False) (W' := fun _ _ => False) (p 2 v0) h (jgl_g hg.1) ?_ (fun _ _ h => h.elim) (fun M hM => ?_) (fun _ _ h => h.elim)
        · show jo (jf_311 _ _ m) _
          unfold jf_311
          refine wr0 ?_
          unfold jf_162
          rw [ck_E n2 (by omega) hv0, ck_R hR]
          simp (disch := omega) only [reduceIte, jwi, jif, jifn, jsb, Int.toNat_natCast, sp_59 HK hv0]
          exact ⟨rfl, rfl, jfr_r⟩
        · show jo (jf_255 _ _ M) _
          unfold jf_255
          have hC' := kCm_Q hM hC
          have hP' := kPm_Q hM hP
          rw [jle_eq, mk_256 th0 (hC'.1 2 (by decide)) (by omega) (jg_c rfl) (by decide) hv0, mk_R th0 (jg_c rfl) (by decide) hR]
          have hh : ja (js M 67 0 0) 88 (24 + v0) = p 2 v0 := (hP'.2.2.2.1 v0 hv0).1
          simp (disch := omega) only [reduceIte, jwi, jif, jifn, jsb, Int.toNat_natCast, hh, e3]
          exact ⟨rfl, jfr_r⟩
      · refine q_ok (W := fun _ _ => False) (W' := fun _ _ => False) ((c 5 v0 : Int)) h (⟨by omega, by omega⟩) ?_ (fun _ _ h => h.elim) (fun M hM => ?_) (fun _ _ h => h.elim)
        · show jo (jf_311 _ _ m) _
          unfold jf_311
          refine wr0 ?_
          unfold jf_162
          rw [ck_E n2 (by omega) hv0, ck_R hR]
          simp (disch := omega) only [reduceIte, jwi, jif, jifn, jsb, Int.toNat_natCast, kK_nv HK hv0]
          exact ⟨rfl, rfl, jfr_r⟩
        · show jo (jf_255 _ _ M) _
          unfold jf_255
          have hC' := kCm_Q hM hC
          have hP' := kPm_Q hM hP
          rw [jle_eq, mk_256 th0 (hC'.1 2 (by decide)) (by omega) (jg_c rfl) (by decide) hv0, mk_R th0 (jg_c rfl) (by decide) hR]
          simp (disch := omega) only [reduceIte, jwi, jif, jifn, jsb, Int.toNat_natCast, (hC'.2.2.2.1 v0 hv0).2.1, e1]
          exact ⟨rfl, jfr_r⟩
      · refine q_ok (W := fun _ _ => False) (W' := fun _ _ => False) ((c 6 v0 : Int)) h (⟨by omega, by omega⟩) ?_ (fun _ _ h => h.elim) (fun M hM => ?_) (fun _ _ h => h.elim)
        · show jo (jf_311 _ _ m) _
          unfold jf_311
          refine wr0 ?_
          unfold jf_162
          rw [ck_E n2 (by omega) hv0, ck_R hR]
          simp (disch := omega) only [reduceIte, jwi, jif, jifn, jsb, Int.toNat_natCast, kK_tk HK hv0]
          exact ⟨rfl, rfl, jfr_r⟩
        · show jo (jf_255 _ _ M) _
          unfold jf_255
          have hC' := kCm_Q hM hC
          have hP' := kPm_Q hM hP
          rw [jle_eq, mk_256 th0 (hC'.1 2 (by decide)) (by omega) (jg_c rfl) (by decide) hv0, mk_R th0 (jg_c rfl) (by decide) hR]
          simp (disch := omega) only [reduceIte, jwi, jif, jifn, jsb, Int.toNat_natCast, (hC'.2.2.2.1 v0 hv0).2.2, e2]
          exact ⟨rfl, jfr_r⟩
      · refine q_ok (W := fun _ _ => False) (W' := fun _ _ => False) (((kB (fun l => decide (p 6 l = (v0 : Int))) (c 11 3) : Nat) : Int)) h (kB_gl (by omega)) ?_ (fun _ _ h => h.elim) (fun M hM => ?_) (fun _ _ h => h.elim)
        · show jo (jf_311 _ _ m) _
          unfold jf_311
          refine wr0 ?_
          unfold jf_162
          rw [ck_E n2 (by omega) hv0, ck_R hR]
          simp (disch := omega) only [reduceIte, jwi, jif, jifn, jsb, Int.toNat_natCast, sp_60 HK]
          exact ⟨rfl, rfl, jfr_r⟩
        · show jo (jf_255 _ _ M) _
          unfold jf_255
          have hC' := kCm_Q hM hC
          have hP' := kPm_Q hM hP
          rw [jle_eq, mk_256 th0 (hC'.1 2 (by decide)) (by omega) (jg_c rfl) (by decide) hv0, mk_R th0 (jg_c rfl) (by decide) hR]
          rw [if_neg (by decide), if_neg (by decide), kB_lp (n := c 11 3) (fun l => decide (p 6 l = (v0 : Int))) (by omega) (fun i hi x => ?_) (fun x => ?_)]
          · exact ⟨rfl, jfr_r⟩
          · have hh : ja (js M 67 0 0) 88 (50 + i) = p 6 i := (hP'.2.2.2.2 i hi).2.1
            have ei : ((50 : Int) + (i : Int)).toNat = 50 + i := by omega
            have n3' : ja (js M 67 0 0) 67 27 = _ := hC'.1 3 (by decide)
            dsimp only
            rw [n3', jwn (by omega)]
            simp (disch := omega) only [jwi, jif, ei, hh]
            by_cases h6 : p 6 i = (v0 : Int)
            · rw [if_pos h6, jsb, if_pos (decide_eq_true h6)]
            · rw [if_neg h6, jsb, if_neg (by simp [h6])]
          · have n3' : ja (js M 67 0 0) 67 27 = _ := hC'.1 3 (by decide)
            dsimp only
            rw [n3', if_neg (by omega)]
      · refine q_ok (W := fun _ _ => False) (W' := fun _ _ => False) (p 3 v0) h (jgl_g hg.2.1) ?_ (fun _ _ h => h.elim) (fun M hM => ?_) (fun _ _ h => h.elim)
        · show jo (jf_311 _ _ m) _
          unfold jf_311
          refine wr0 ?_
          unfold jf_162
          rw [ck_E n2 (by omega) hv0, ck_R hR]
          simp (disch := omega) only [reduceIte, jwi, jif, jifn, jsb, Int.toNat_natCast, sp_68 HK hv0]
          exact ⟨rfl, rfl, jfr_r⟩
        · show jo (jf_255 _ _ M) _
          unfold jf_255
          have hC' := kCm_Q hM hC
          have hP' := kPm_Q hM hP
          rw [jle_eq, mk_256 th0 (hC'.1 2 (by decide)) (by omega) (jg_c rfl) (by decide) hv0, mk_R th0 (jg_c rfl) (by decide) hR]
          have hh : ja (js M 67 0 0) 88 (30 + v0) = p 3 v0 := (hP'.2.2.2.1 v0 hv0).2.1
          simp (disch := omega) only [reduceIte, jwi, jif, jifn, jsb, Int.toNat_natCast, hh, e4]
          exact ⟨rfl, jfr_r⟩
      · refine q_ok (W := fun _ _ => False) (W' := fun _ _ => False) (p 4 v0) h (jgl_g hg.2.2) ?_ (fun _ _ h => h.elim) (fun M hM => ?_) (fun _ _ h => h.elim)
        · show jo (jf_311 _ _ m) _
          unfold jf_311
          refine wr0 ?_
          unfold jf_162
          rw [ck_E n2 (by omega) hv0, ck_R hR]
          simp (disch := omega) only [reduceIte, jwi, jif, jifn, jsb, Int.toNat_natCast, sp_91 HK hv0]
          exact ⟨rfl, rfl, jfr_r⟩
        · show jo (jf_255 _ _ M) _
          unfold jf_255
          have hC' := kCm_Q hM hC
          have hP' := kPm_Q hM hP
          rw [jle_eq, mk_256 th0 (hC'.1 2 (by decide)) (by omega) (jg_c rfl) (by decide) hv0, mk_R th0 (jg_c rfl) (by decide) hR]
          have hh : ja (js M 67 0 0) 88 (36 + v0) = p 4 v0 := (hP'.2.2.2.1 v0 hv0).2.2
          simp (disch := omega) only [reduceIte, jwi, jif, jifn, jsb, Int.toNat_natCast, hh, e5]
          exact ⟨rfl, jfr_r⟩
      · refine q_ok (W := fun _ _ => False) (W' := fun _ _ => False) ((c 4 v0 : Int)) h (⟨by omega, by omega⟩) ?_ (fun _ _ h => h.elim) (fun M hM => ?_) (fun _ _ h => h.elim)
        · show jo (jf_311 _ _ m) _
          unfold jf_311
          refine wr0 ?_
          unfold jf_162
          rw [ck_E n2 (by omega) hv0, ck_R hR]
          simp (disch := omega) only [reduceIte, jwi, jif, jifn, jsb, Int.toNat_natCast, kK_hm HK hv0]
          exact ⟨rfl, rfl, jfr_r⟩
        · show jo (jf_255 _ _ M) _
          unfold jf_255
          have hC' := kCm_Q hM hC
          have hP' := kPm_Q hM hP
          rw [jle_eq, mk_256 th0 (hC'.1 2 (by decide)) (by omega) (jg_c rfl) (by decide) hv0, mk_R th0 (jg_c rfl) (by decide) hR]
          simp (disch := omega) only [reduceIte, jwi, jif, jifn, jsb, Int.toNat_natCast, (hC'.2.2.2.1 v0 hv0).1, e0]
          exact ⟨rfl, jfr_r⟩
    · refine rf_A (w := 2) h (jg_c rfl) (by decide) ?_ (fun M hM => ?_)
      · show jf_311 _ _ m = _
        unfold jf_311 jf_162
        rw [ck_E n2 (by omega) hv0, ck_Rr hR]; rfl
      · show jf_255 _ _ M = _
        unfold jf_255
        have hC' := kCm_Q hM hC
        rw [jle_eq, mk_256 th0 (hC'.1 2 (by decide)) (by omega) (jg_c rfl) (by decide) hv0, mk_Rr th0 (jg_c rfl) (by decide) hR]
  · refine rf_E (w := 1) h (jg_c rfl) (by decide) ?_ (fun M hM => ?_)
    · show jf_311 _ _ m = _
      unfold jf_311 jf_162
      rw [ck_Er n2 (by omega) hE]; rfl
    · show jf_255 _ _ M = _
      unfold jf_255
      have hC' := kCm_Q hM hC
      rw [jle_eq, mk_256r th0 (hC'.1 2 (by decide)) (by omega) (jg_c rfl) (by decide) hE]
theorem sy_11 {m : jm} {x0 x1 : Int} (hx0 : jg x0) (hx1 : jg x1) (h : Inv m) : kSy (fun m => jf_312 x0 x1 m) (fun m => jf_257 x0 x1 m) m := by
  obtain ⟨c, p, cl, HK, hC, hP, hL, hB⟩ := Inv_K h
  have hn := HK.1.1
  have n0 := kK_n HK (i := 0) (by decide)
  have n1 := kK_n HK (i := 1) (by decide)
  have n2 := kK_n HK (i := 2) (by decide)
  have n3 := kK_n HK (i := 3) (by decide)
  by_cases hE : 0 ≤ x0 ∧ x0 < (c 11 3 : Int)
  · obtain ⟨v0, rfl⟩ := Int.eq_ofNat_of_zero_le hE.1
    have hv0 : v0 < c 11 3 := by omega
    by_cases hR : 0 ≤ x1 ∧ x1 ≤ 6
    · skip
      have h4 : x1 = 0 ∨ x1 = 1 ∨ x1 = 2 ∨ x1 = 3 ∨ x1 = 4 ∨ x1 = 5 ∨ x1 = 6 := by omega
      have e0 : ((4 : Int) * (v0 : Int)).toNat = 4 * v0 := by omega
      have e1 : ((4 : Int) * (v0 : Int) + 1).toNat = 4 * v0 + 1 := by omega
      have e2 : ((4 : Int) * (v0 : Int) + 2).toNat = 4 * v0 + 2 := by omega
      have e6 : ((4 : Int) * (v0 : Int) + 3).toNat = 4 * v0 + 3 := by omega
      have e3 : ((42 : Int) + (v0 : Int)).toNat = 42 + v0 := by omega
      have e4 : ((50 : Int) + (v0 : Int)).toNat = 50 + v0 := by omega
      have e5 : ((58 : Int) + (v0 : Int)).toNat = 58 + v0 := by omega
      have ha := HK.1.2.2.2.2.2 v0 hv0
      have hq := HK.2.1.2.2.2.1 v0 hv0
      rcases h4 with rfl | rfl | rfl | rfl | rfl | rfl | rfl
      · refine q_ok (W := fun _ _ => False) (W' := fun _ _ => False) ((c 7 v0 : Int)) h (⟨by omega, by omega⟩) ?_ (fun _ _ h => h.elim) (fun M hM => ?_) (fun _ _ h => h.elim)
        · show jo (jf_312 _ _ m) _
          unfold jf_312
          refine wr0 ?_
          unfold jf_163
          rw [ck_E n3 (by omega) hv0, ck_R hR]
          simp (disch := omega) only [reduceIte, jwi, jif, jifn, jsb, Int.toNat_natCast, kK_F HK hv0]
          exact ⟨rfl, rfl, jfr_r⟩
        · show jo (jf_257 _ _ M) _
          unfold jf_257
          have hC' := kCm_Q hM hC
          have hP' := kPm_Q hM hP
          rw [jle_eq, mk_258 th0 (hC'.1 3 (by decide)) (by omega) (jg_c rfl) (by decide) hv0, mk_R th0 (jg_c rfl) (by decide) hR]
          simp (disch := omega) only [reduceIte, jwi, jif, jifn, jsb, Int.toNat_natCast, (hC'.2.2.2.2 v0 hv0).1, e0, Int.add_zero]
          exact ⟨rfl, jfr_r⟩
      · refine q_ok (W := fun _ _ => False) (W' := fun _ _ => False) ((c 8 v0 : Int)) h (⟨by omega, by omega⟩) ?_ (fun _ _ h => h.elim) (fun M hM => ?_) (fun _ _ h => h.elim)
        · show jo (jf_312 _ _ m) _
          unfold jf_312
          refine wr0 ?_
          unfold jf_163
          rw [ck_E n3 (by omega) hv0, ck_R hR]
          simp (disch := omega) only [reduceIte, jwi, jif, jifn, jsb, Int.toNat_natCast, kK_T HK hv0]
          exact ⟨rfl, rfl, jfr_r⟩
        · show jo (jf_257 _ _ M) _
          unfold jf_257
          have hC' := kCm_Q hM hC
          have hP' := kPm_Q hM hP
          rw [jle_eq, mk_258 th0 (hC'.1 3 (by decide)) (by omega) (jg_c rfl) (by decide) hv0, mk_R th0 (jg_c rfl) (by decide) hR]
          simp (disch := omega) only [reduceIte, jwi, jif, jifn, jsb, Int.toNat_natCast, (hC'.2.2.2.2 v0 hv0).2.1, e1]
          exact ⟨rfl, jfr_r⟩
      · refine q_ok (W := fun _ _ => False) (W' := fun _ _ => False) ((c 9 v0 : Int)) h (⟨by omega, by omega⟩) ?_ (fun _ _ h => h.elim) (fun M hM => ?_) (fun _ _ h => h.elim)
        · show jo (jf_312 _ _ m) _
          unfold jf_312
          refine wr0 ?_
          unfold jf_163
          rw [ck_E n3 (by omega) hv0, ck_R hR]
          simp (disch := omega) only [reduceIte, jwi, jif, jifn, jsb, Int.toNat_natCast, kK_kd HK hv0]
          exact ⟨rfl, rfl, jfr_r⟩
        · show jo (jf_257 _ _ M) _
          unfold jf_257
          have hC' := kCm_Q hM hC
          have hP' := kPm_Q hM hP
          rw [jle_eq, mk_258 th0 (hC'.1 3 (by decide)) (by omega) (jg_c rfl) (by decide) hv0, mk_R th0 (jg_c rfl) (by decide) hR]
          simp (disch := omega) only [reduceIte, jwi, jif, jifn, jsb, Int.toNat_natCast, (hC'.2.2.2.2 v0 hv0).2.2.1, e2]
          exact ⟨rfl, jfr_r⟩
      · refine q_ok (W := fun _ _ => False) (W' := fun _ _ => False) ((c 10 v0 : Int)) h (⟨by omega, by omega⟩) ?_ (fun _ _ h => h.elim) (fun M hM => ?_) (fun _ _ h => h.elim)
        · show jo (jf_312 _ _ m) _
          unfold jf_312
          refine wr0 ?_
          unfold jf_163
          rw [ck_E n3 (by omega) hv0, ck_R hR]
          simp (disch := omega) only [reduceIte, jwi, jif, jifn, jsb, Int.toNat_natCast, kK_wt HK hv0]
          exact ⟨rfl, rfl, jfr_r⟩
        · show jo (jf_257 _ _ M) _
          unfold jf_257
          have hC' := kCm_Q hM hC
          have hP' := kPm_Q hM hP
          rw [jle_eq, mk_258 th0 (hC'.1 3 (by decide)) (by omega) (jg_c rfl) (by decide) hv0, mk_R th0 (jg_c rfl) (by decide) hR]
          simp (disch := omega) only [reduceIte, jwi, jif, jifn, jsb, Int.toNat_natCast, (hC'.2.2.2.2 v0 hv0).2.2.2, e6]
          exact ⟨rfl, jfr_r⟩
      · refine q_ok (W := fun _ _ => False) (W' := fun _ _ => False) (p 5 v0) h (⟨by have := kP5_b HK.1 HK.2.1 hv0; omega, by have := kP5_b HK.1 HK.2.1 hv0; omega⟩) ?_ (fun _ _ h => h.elim) (fun M hM => ?_) (fun _ _ h => h.elim)
        · show jo (jf_312 _ _ m) _
          unfold jf_312
          refine wr0 ?_
          unfold jf_163
          rw [ck_E n3 (by omega) hv0, ck_R hR]
          rw [if_neg (by decide), if_neg (by decide), if_neg (by decide), if_neg (by decide), if_pos rfl]
          dsimp only
          rw [sp_86 HK hv0, jsb, sp_57 HK hv0, jsb, Int.toNat_natCast, kK_T HK hv0, if_pos (show 0 ≤ (v0 : Int) ∧ (v0 : Int) < 8 by omega)]
          unfold kLs
          rcases hq.1 with h7 | h7
          · rw [if_pos (show p 7 v0 = 0 from h7), if_neg (show ¬ p 7 v0 = 1 by omega)]
            exact ⟨rfl, rfl, jfr_r⟩
          · rw [if_neg (show ¬ p 7 v0 = 0 by omega), ← (hq.2.2.2.1 h7).2]
            exact ⟨rfl, rfl, jfr_r⟩
        · show jo (jf_257 _ _ M) _
          unfold jf_257
          have hC' := kCm_Q hM hC
          have hP' := kPm_Q hM hP
          rw [jle_eq, mk_258 th0 (hC'.1 3 (by decide)) (by omega) (jg_c rfl) (by decide) hv0, mk_R th0 (jg_c rfl) (by decide) hR]
          have hh : ja (js M 67 0 0) 88 (42 + v0) = p 5 v0 := (hP'.2.2.2.2 v0 hv0).1
          simp (disch := omega) only [reduceIte, jwi, jif, jifn, jsb, Int.toNat_natCast, hh, e3]
          exact ⟨rfl, jfr_r⟩
      · refine q_ok (W := fun _ _ => False) (W' := fun _ _ => False) (p 6 v0) h (⟨by omega, by omega⟩) ?_ (fun _ _ h => h.elim) (fun M hM => ?_) (fun _ _ h => h.elim)
        · show jo (jf_312 _ _ m) _
          unfold jf_312
          refine wr0 ?_
          unfold jf_163
          rw [ck_E n3 (by omega) hv0, ck_R hR]
          simp (disch := omega) only [reduceIte, jwi, jif, jifn, jsb, Int.toNat_natCast, sp_61 HK hv0]
          exact ⟨rfl, rfl, jfr_r⟩
        · show jo (jf_257 _ _ M) _
          unfold jf_257
          have hC' := kCm_Q hM hC
          have hP' := kPm_Q hM hP
          rw [jle_eq, mk_258 th0 (hC'.1 3 (by decide)) (by omega) (jg_c rfl) (by decide) hv0, mk_R th0 (jg_c rfl) (by decide) hR]
          have hh : ja (js M 67 0 0) 88 (50 + v0) = p 6 v0 := (hP'.2.2.2.2 v0 hv0).2.1
          simp (disch := omega) only [reduceIte, jwi, jif, jifn, jsb, Int.toNat_natCast, hh, e4]
          exact ⟨rfl, jfr_r⟩
      · refine q_ok (W := fun _ _ => False) (W' := fun _ _ => False) (p 7 v0) h (⟨by omega, by omega⟩) ?_ (fun _ _ h => h.elim) (fun M hM => ?_) (fun _ _ h => h.elim)
        · show jo (jf_312 _ _ m) _
          unfold jf_312
          refine wr0 ?_
          unfold jf_163
          rw [ck_E n3 (by omega) hv0, ck_R hR]
          simp (disch := omega) only [reduceIte, jwi, jif, jifn, jsb, Int.toNat_natCast, sp_86 HK hv0]
          rcases hq.1 with h7 | h7
          · rw [h7]; exact ⟨rfl, rfl, jfr_r⟩
          · rw [h7]; exact ⟨rfl, rfl, jfr_r⟩
        · show jo (jf_257 _ _ M) _
          unfold jf_257
          have hC' := kCm_Q hM hC
          have hP' := kPm_Q hM hP
          rw [jle_eq, mk_258 th0 (hC'.1 3 (by decide)) (by omega) (jg_c rfl) (by decide) hv0, mk_R th0 (jg_c rfl) (by decide) hR]
          have hh : ja (js M 67 0 0) 88 (58 + v0) = p 7 v0 := (hP'.2.2.2.2 v0 hv0).2.2
          simp (disch := omega) only [reduceIte, jwi, jif, jifn, jsb, Int.toNat_natCast, hh, e5]
          exact ⟨rfl, jfr_r⟩
    · refine rf_A (w := 2) h (jg_c rfl) (by decide) ?_ (fun M hM => ?_)
      · show jf_312 _ _ m = _
        unfold jf_312 jf_163
        rw [ck_E n3 (by omega) hv0, ck_Rr hR]; rfl
      · show jf_257 _ _ M = _
        unfold jf_257
        have hC' := kCm_Q hM hC
        rw [jle_eq, mk_258 th0 (hC'.1 3 (by decide)) (by omega) (jg_c rfl) (by decide) hv0, mk_Rr th0 (jg_c rfl) (by decide) hR]
  · refine rf_E (w := 1) h (jg_c rfl) (by decide) ?_ (fun M hM => ?_)
    · show jf_312 _ _ m = _
      unfold jf_312 jf_163
      rw [ck_Er n3 (by omega) hE]; rfl
    · show jf_257 _ _ M = _
      unfold jf_257
      have hC' := kCm_Q hM hC
      rw [jle_eq, mk_258r th0 (hC'.1 3 (by decide)) (by omega) (jg_c rfl) (by decide) hE]
theorem sy_8 {m : jm} {x0 x1 : Int} (hx0 : jg x0) (hx1 : jg x1) (h : Inv m) : kSy (fun m => jf_309 x0 x1 m) (fun m => jf_251 x0 x1 m) m := by
  obtain ⟨c, p, cl, HK, hC, hP, hL, hB⟩ := Inv_K h
  have hn := HK.1.1
  have n0 := kK_n HK (i := 0) (by decide)
  have n1 := kK_n HK (i := 1) (by decide)
  have n2 := kK_n HK (i := 2) (by decide)
  have n3 := kK_n HK (i := 3) (by decide)
  by_cases hE : 0 ≤ x0 ∧ x0 < (c 11 0 : Int)
  · obtain ⟨v0, rfl⟩ := Int.eq_ofNat_of_zero_le hE.1
    have hv0 : v0 < c 11 0 := by omega
    by_cases hR : 0 ≤ x1 ∧ x1 ≤ 3
    · skip
      have h4 : x1 = 0 ∨ x1 = 1 ∨ x1 = 2 ∨ x1 = 3 := by omega
      have ha := HK.1.2.1 v0 hv0
      rcases h4 with rfl | rfl | rfl | rfl
      · refine q_ok (W := fun _ _ => False) (W' := fun _ _ => False) ((c 0 v0 : Int)) h (⟨by omega, by omega⟩) ?_ (fun _ _ h => h.elim) (fun M hM => ?_) (fun _ _ h => h.elim)
        · show jo (jf_309 _ _ m) _
          unfold jf_309
          refine wr0 ?_
          unfold jf_159
          rw [ck_E n0 (by omega) hv0, ck_R hR]
          simp (disch := omega) only [reduceIte, jwi, jif, jifn, jsb, Int.toNat_natCast, kK_ht HK hv0]
          exact ⟨rfl, rfl, jfr_r⟩
        · show jo (jf_251 _ _ M) _
          unfold jf_251
          have hC' := kCm_Q hM hC
          have hP' := kPm_Q hM hP
          rw [jle_eq, mk_252 th0 (hC'.1 0 (by decide)) (by omega) (jg_c rfl) (by decide) hv0, mk_R th0 (jg_c rfl) (by decide) hR]
          simp (disch := omega) only [reduceIte, jwi, jif, jifn, jsb, Int.toNat_natCast, hC'.2.1 v0 hv0]
          exact ⟨rfl, jfr_r⟩
      · refine q_ok (W := fun _ _ => False) (W' := fun _ _ => False) (((kB (fun e => decide ((c 1 e : Int) = (v0 : Int) ∨ (c 2 e : Int) = (v0 : Int))) (c 11 1) : Nat) : Int)) h (kB_gl (by omega)) ?_ (fun _ _ h => h.elim) (fun M hM => ?_) (fun _ _ h => h.elim)
        · show jo (jf_309 _ _ m) _
          unfold jf_309
          refine wr0 ?_
          unfold jf_159
          rw [ck_E n0 (by omega) hv0, ck_R hR]
          simp (disch := omega) only [reduceIte, jwi, jif, jifn, jsb, Int.toNat_natCast, sp_20 HK]
          exact ⟨rfl, rfl, jfr_r⟩
        · show jo (jf_251 _ _ M) _
          unfold jf_251
          have hC' := kCm_Q hM hC
          have hP' := kPm_Q hM hP
          rw [jle_eq, mk_252 th0 (hC'.1 0 (by decide)) (by omega) (jg_c rfl) (by decide) hv0, mk_R th0 (jg_c rfl) (by decide) hR]
          have n1' : ja (js M 67 0 0) 67 25 = _ := hC'.1 1 (by decide)
          rw [if_neg (by decide), if_pos rfl, kB_lp (n := c 11 1) (fun e => decide ((c 1 e : Int) = (v0 : Int) ∨ (c 2 e : Int) = (v0 : Int))) (by omega) (fun i hi x => ?_) (fun x => ?_)]
          · exact ⟨rfl, jfr_r⟩
          · have ei : ((2 : Int) * (i : Int)).toNat = 2 * i := by omega
            have ej : ((2 : Int) * (i : Int) + 1).toNat = 2 * i + 1 := by omega
            dsimp only
            rw [n1', jwn (by omega)]
            simp (disch := omega) only [jwi, jif, ei, ej, (hC'.2.2.1 i hi).1, (hC'.2.2.1 i hi).2.1]
            by_cases h1 : (c 1 i : Int) = (v0 : Int)
            · rw [if_pos h1, jsb, if_pos (by simp [h1])]
            · rw [if_neg h1]
              by_cases h2 : (c 2 i : Int) = (v0 : Int)
              · rw [if_pos h2, jsb, if_pos (by simp [h2])]
              · rw [if_neg h2, jsb, if_neg (by simp [h1, h2])]
          · dsimp only
            rw [n1', if_neg (by omega)]
      · refine q_ok (W := fun _ _ => False) (W' := fun _ _ => False) (((kB (fun l => decide (p 2 l = (v0 : Int))) (c 11 2) : Nat) : Int)) h (kB_gl (by omega)) ?_ (fun _ _ h => h.elim) (fun M hM => ?_) (fun _ _ h => h.elim)
        · show jo (jf_309 _ _ m) _
          unfold jf_309
          refine wr0 ?_
          unfold jf_159
          rw [ck_E n0 (by omega) hv0, ck_R hR]
          simp (disch := omega) only [reduceIte, jwi, jif, jifn, jsb, Int.toNat_natCast, sp_88 HK]
          exact ⟨rfl, rfl, jfr_r⟩
        · show jo (jf_251 _ _ M) _
          unfold jf_251
          have hC' := kCm_Q hM hC
          have hP' := kPm_Q hM hP
          rw [jle_eq, mk_252 th0 (hC'.1 0 (by decide)) (by omega) (jg_c rfl) (by decide) hv0, mk_R th0 (jg_c rfl) (by decide) hR]
          have n1' : ja (js M 67 0 0) 67 26 = _ := hC'.1 2 (by decide)
          rw [if_neg (by decide), if_neg (by decide), jsb, if_pos rfl, kB_lp (n := c 11 2) (fun l => decide (p 2 l = (v0 : Int))) (by omega) (fun i hi x => ?_) (fun x => ?_)]
          · exact ⟨rfl, jfr_r⟩
          · have ei : ((24 : Int) + (i : Int)).toNat = 24 + i := by omega
            have hh : ja (js M 67 0 0) 88 (24 + i) = p 2 i := (hP'.2.2.2.1 i hi).1
            dsimp only
            rw [n1', jwn (by omega)]
            simp (disch := omega) only [jwi, jif, ei, hh]
            by_cases h1 : p 2 i = (v0 : Int)
            · rw [if_pos h1, jsb, if_pos (by simp [h1])]
            · rw [if_neg h1, jsb, if_neg (by simp [h1])]
          · dsimp only
            rw [n1', if_neg (by omega)]
      · refine q_ok (W := fun _ _ => False) (W' := fun _ _ => False) (((kB (fun l => decide (kLs p l = (v0 : Int))) (c 11 3) : Nat) : Int)) h (kB_gl (by omega)) ?_ (fun _ _ h => h.elim) (fun M hM => ?_) (fun _ _ h => h.elim)
        · show jo (jf_309 _ _ m) _
          unfold jf_309
          refine wr0 ?_
          unfold jf_159
          rw [ck_E n0 (by omega) hv0, ck_R hR]
          simp (disch := omega) only [reduceIte, jwi, jif, jifn, jsb, Int.toNat_natCast, sp_90 HK]
          exact ⟨rfl, rfl, jfr_r⟩
        · show jo (jf_251 _ _ M) _
          unfold jf_251
          have hC' := kCm_Q hM hC
          have hP' := kPm_Q hM hP
          rw [jle_eq, mk_252 th0 (hC'.1 0 (by decide)) (by omega) (jg_c rfl) (by decide) hv0, mk_R th0 (jg_c rfl) (by decide) hR]
          have n1' : ja (js M 67 0 0) 67 27 = _ := hC'.1 3 (by decide)
          rw [if_neg (by decide), if_neg (by decide), jsb, if_neg (by decide), jsb, if_pos rfl, kB_lp (n := c 11 3) (fun l => decide (kLs p l = (v0 : Int))) (by omega) (fun i hi x => ?_) (fun x => ?_)]
          · exact ⟨rfl, jfr_r⟩
          · have ei : ((42 : Int) + (i : Int)).toNat = 42 + i := by omega
            have ej : ((58 : Int) + (i : Int)).toNat = 58 + i := by omega
            have hh : ja (js M 67 0 0) 88 (42 + i) = p 5 i := (hP'.2.2.2.2 i hi).1
            have hk : ja (js M 67 0 0) 88 (58 + i) = p 7 i := (hP'.2.2.2.2 i hi).2.2
            dsimp only
            rw [n1', jwn (by omega)]
            simp (disch := omega) only [jwi, jif, ei, ej, hh, hk]
            have hq := HK.2.1.2.2.2.1 i hi
            unfold kLs
            rcases hq.1 with h7 | h7
            · rw [if_pos h7, if_neg (show ¬ p 7 i = 1 by omega)]
              by_cases h1 : p 5 i = (v0 : Int)
              · rw [if_pos h1, jsb, if_pos (by simp [h1])]
              · rw [if_neg h1, jsb, if_neg (by simp [h1])]
            · rw [if_neg (show ¬ p 7 i = 0 by omega), if_pos h7, if_neg (show ¬ decide ((-1 : Int) = (v0 : Int)) = true by intro e; have := of_decide_eq_true e; omega)]
              split <;> rfl
          · dsimp only
            rw [n1', if_neg (by omega)]
    · refine rf_A (w := 2) h (jg_c rfl) (by decide) ?_ (fun M hM => ?_)
      · show jf_309 _ _ m = _
        unfold jf_309 jf_159
        rw [ck_E n0 (by omega) hv0, ck_Rr hR]; rfl
      · show jf_251 _ _ M = _
        unfold jf_251
        have hC' := kCm_Q hM hC
        rw [jle_eq, mk_252 th0 (hC'.1 0 (by decide)) (by omega) (jg_c rfl) (by decide) hv0, mk_Rr th0 (jg_c rfl) (by decide) hR]
  · refine rf_E (w := 1) h (jg_c rfl) (by decide) ?_ (fun M hM => ?_)
    · show jf_309 _ _ m = _
      unfold jf_309 jf_159
      rw [ck_Er n0 (by omega) hE]; rfl
    · show jf_251 _ _ M = _
      unfold jf_251
      have hC' := kCm_Q hM hC
      rw [jle_eq, mk_252r th0 (hC'.1 0 (by decide)) (by omega) (jg_c rfl) (by decide) hE]
