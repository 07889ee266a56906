/-! QUESTIONS: told, between, loudest, lean, over (refusals by wip/whole/gen/opgen.py). -/
theorem wr0b {x : Option (Int × Nat × jm)} {r : Int} {W : Nat → Nat → Prop} {m : jm} {F : Int × Nat × jm → Option (Int × jm)} (hr : jb r) (h : jo x (fun p => p.1 = r ∧ p.2.1 = 0 ∧ jfr true W m p.2.2)) : jo (x.bind fun p1 => if p1.2.1 = 0 then (if p1.1 = 0 then some (0 : Int) else some 1).bind fun t2 => jle (jsl p1.2.2 102 0 t2) fun m2 => some ((0 : Int), m2) else F p1) (fun p => p.1 = 0 ∧ ∃ m1, p.2 = jsl m1 102 0 r ∧ jfr true W m m1) := by
  rw [jo_bind]
  refine jo_mono h (fun p hp => ?_)
  rw [if_pos hp.2.1]
  rcases hr with h0 | h0
  · rw [if_pos (by rw [hp.1, h0]), jsb]
    exact ⟨rfl, p.2.2, by rw [h0], hp.2.2⟩
  · rw [if_neg (by rw [hp.1, h0]; decide), jsb]
    exact ⟨rfl, p.2.2, by rw [h0], hp.2.2⟩
theorem sy_7 {m : jm} {x0 : Int} (hx0 : jg x0) (h : Inv m) : kSy (fun m => jf_308 x0 m) (fun m => jf_246 x0 m) m := by
  obtain ⟨c, p, cl, HK, hC, hP, hL, hB⟩ := Inv_K h
  have hn := HK.1.1
  have n0 := kK_n HK (i := 0) (by decide)
  have n1 := kK_n HK (i := 1) (by decide)
  have n2 := kK_n HK (i := 2) (by decide)
  have n3 := kK_n HK (i := 3) (by decide)
  by_cases hR : 0 ≤ x0 ∧ x0 ≤ 10
  · skip
    have h4 : x0 = 0 ∨ x0 = 1 ∨ x0 = 2 ∨ x0 = 3 ∨ x0 = 4 ∨ x0 = 5 ∨ x0 = 6 ∨ x0 = 7 ∨ x0 = 8 ∨ x0 = 9 ∨ x0 = 10 := by omega
    have hg := kK_gd HK
    rcases h4 with rfl | rfl | rfl | rfl | rfl | rfl | rfl | rfl | rfl | rfl | rfl
    · refine q_ok (W := fun _ _ => False) (W' := jW_226) ((c 11 0 : Int)) h (⟨by omega, by omega⟩) ?_ (fun _ _ h => h.elim) (fun M hM => ?_) (fun k j h => by unfold jW_226 at h; unfold kQ kQS kQT kQR; omega)
      · show jo (jf_308 _ m) _
        unfold jf_308
        refine wr0 ?_
        unfold jf_158
        rw [ck_R hR]
        simp (disch := omega) only [reduceIte, jwi, jif, jifn, jsb, Int.toNat_natCast, n0]
        exact ⟨rfl, rfl, jfr_r⟩
      · show jo (jf_246 _ M) _
        unfold jf_246
        have hC' := kCm_Q hM hC
        have hP' := kPm_Q hM hP
        rw [jle_eq, mk_R th0 (jg_c rfl) (by decide) hR]
        have H' := kM_T0 HK.1 HK.2.1 HK.2.2.1 hC' hP' (kLm_Q hM hL)
        dsimp only
        rw [sp_226, jsb]
        simp (disch := omega) only [reduceIte, jwi, jif, jifn, jsb, Int.toNat_natCast, show ja (kT0 (js M 67 0 0)) 67 24 = (c 11 0 : Int) from kM_n H' (i := 0) (by decide)]
        exact ⟨rfl, jfr_T0⟩
    · refine q_ok (W := fun _ _ => False) (W' := jW_226) ((c 11 1 : Int)) h (⟨by omega, by omega⟩) ?_ (fun _ _ h => h.elim) (fun M hM => ?_) (fun k j h => by unfold jW_226 at h; unfold kQ kQS kQT kQR; omega)
      · show jo (jf_308 _ m) _
        unfold jf_308
        refine wr0 ?_
        unfold jf_158
        rw [ck_R hR]
        simp (disch := omega) only [reduceIte, jwi, jif, jifn, jsb, Int.toNat_natCast, n1]
        exact ⟨rfl, rfl, jfr_r⟩
      · show jo (jf_246 _ M) _
        unfold jf_246
        have hC' := kCm_Q hM hC
        have hP' := kPm_Q hM hP
        rw [jle_eq, mk_R th0 (jg_c rfl) (by decide) hR]
        have H' := kM_T0 HK.1 HK.2.1 HK.2.2.1 hC' hP' (kLm_Q hM hL)
        dsimp only
        rw [sp_226, jsb]
        simp (disch := omega) only [reduceIte, jwi, jif, jifn, jsb, Int.toNat_natCast, show ja (kT0 (js M 67 0 0)) 67 25 = (c 11 1 : Int) from kM_n H' (i := 1) (by decide)]
        exact ⟨rfl, jfr_T0⟩
    · refine q_ok (W := fun _ _ => False) (W' := jW_226) ((c 11 2 : Int)) h (⟨by omega, by omega⟩) ?_ (fun _ _ h => h.elim) (fun M hM => ?_) (fun k j h => by unfold jW_226 at h; unfold kQ kQS kQT kQR; omega)
      · show jo (jf_308 _ m) _
        unfold jf_308
        refine wr0 ?_
        unfold jf_158
        rw [ck_R hR]
        simp (disch := omega) only [reduceIte, jwi, jif, jifn, jsb, Int.toNat_natCast, n2]
        exact ⟨rfl, rfl, jfr_r⟩
      · show jo (jf_246 _ M) _
        unfold jf_246
        have hC' := kCm_Q hM hC
        have hP' := kPm_Q hM hP
        rw [jle_eq, mk_R th0 (jg_c rfl) (by decide) hR]
        have H' := kM_T0 HK.1 HK.2.1 HK.2.2.1 hC' hP' (kLm_Q hM hL)
        dsimp only
        rw [sp_226, jsb]
        simp (disch := omega) only [reduceIte, jwi, jif, jifn, jsb, Int.toNat_natCast, show ja (kT0 (js M 67 0 0)) 67 26 = (c 11 2 : Int) from kM_n H' (i := 2) (by decide)]
        exact ⟨rfl, jfr_T0⟩
    · refine q_ok (W := fun _ _ => False) (W' := jW_226) ((c 11 3 : Int)) h (⟨by omega, by omega⟩) ?_ (fun _ _ h => h.elim) (fun M hM => ?_) (fun k j h => by unfold jW_226 at h; unfold kQ kQS kQT kQR; omega)
      · show jo (jf_308 _ m) _
        unfold jf_308
        refine wr0 ?_
        unfold jf_158
        rw [ck_R hR]
        simp (disch := omega) only [reduceIte, jwi, jif, jifn, jsb, Int.toNat_natCast, n3]
        exact ⟨rfl, rfl, jfr_r⟩
      · show jo (jf_246 _ M) _
        unfold jf_246
        have hC' := kCm_Q hM hC
        have hP' := kPm_Q hM hP
        rw [jle_eq, mk_R th0 (jg_c rfl) (by decide) hR]
        have H' := kM_T0 HK.1 HK.2.1 HK.2.2.1 hC' hP' (kLm_Q hM hL)
        dsimp only
        rw [sp_226, jsb]
        simp (disch := omega) only [reduceIte, jwi, jif, jifn, jsb, Int.toNat_natCast, show ja (kT0 (js M 67 0 0)) 67 27 = (c 11 3 : Int) from kM_n H' (i := 3) (by decide)]
        exact ⟨rfl, jfr_T0⟩
    · refine q_ok (W := fun _ _ => False) (W' := jW_226) (p 8 0) h (jgl_g hg.1) ?_ (fun _ _ h => h.elim) (fun M hM => ?_) (fun k j h => by unfold jW_226 at h; unfold kQ kQS kQT kQR; omega)
      · show jo (jf_308 _ m) _
        unfold jf_308
        refine wr0 ?_
        unfold jf_158
        rw [ck_R hR]
        simp (disch := omega) only [reduceIte, jwi, jif, jifn, jsb, Int.toNat_natCast, sp_69 HK]
        exact ⟨rfl, rfl, jfr_r⟩
      · show jo (jf_246 _ M) _
        unfold jf_246
        have hC' := kCm_Q hM hC
        have hP' := kPm_Q hM hP
        rw [jle_eq, mk_R th0 (jg_c rfl) (by decide) hR]
        have H' := kM_T0 HK.1 HK.2.1 HK.2.2.1 hC' hP' (kLm_Q hM hL)
        dsimp only
        rw [sp_226, jsb]
        simp (disch := omega) only [reduceIte, jwi, jif, jifn, jsb, Int.toNat_natCast, show ja (kT0 (js M 67 0 0)) 89 (66 : Int).toNat = p 8 0 from kM_dy H']
        exact ⟨rfl, jfr_T0⟩
    · refine q_ok (W := fun _ _ => False) (W' := jW_226) (p 8 1) h (jgl_g hg.2) ?_ (fun _ _ h => h.elim) (fun M hM => ?_) (fun k j h => by unfold jW_226 at h; unfold kQ kQS kQT kQR; omega)
      · show jo (jf_308 _ m) _
        unfold jf_308
        refine wr0 ?_
        unfold jf_158
        rw [ck_R hR]
        simp (disch := omega) only [reduceIte, jwi, jif, jifn, jsb, Int.toNat_natCast, sp_63 HK]
        exact ⟨rfl, rfl, jfr_r⟩
      · show jo (jf_246 _ M) _
        unfold jf_246
        have hC' := kCm_Q hM hC
        have hP' := kPm_Q hM hP
        rw [jle_eq, mk_R th0 (jg_c rfl) (by decide) hR]
        have H' := kM_T0 HK.1 HK.2.1 HK.2.2.1 hC' hP' (kLm_Q hM hL)
        dsimp only
        rw [sp_226, jsb]
        simp (disch := omega) only [reduceIte, jwi, jif, jifn, jsb, Int.toNat_natCast, show ja (kT0 (js M 67 0 0)) 89 (67 : Int).toNat = p 8 1 from kM_fg H']
        exact ⟨rfl, jfr_T0⟩
    · refine q_ok (W := fun _ _ => False) (W' := jW_226) (((kB (fun l => decide (p 7 l = 1)) (c 11 3) : Nat) : Int)) h (kB_gl (by omega)) ?_ (fun _ _ h => h.elim) (fun M hM => ?_) (fun k j h => by unfold jW_226 at h; unfold kQ kQS kQT kQR; omega)
      · show jo (jf_308 _ m) _
        unfold jf_308
        refine wr0 ?_
        unfold jf_158
        rw [ck_R hR]
        simp (disch := omega) only [reduceIte, jwi, jif, jifn, jsb, Int.toNat_natCast, sp_85 HK]
        exact ⟨rfl, rfl, jfr_r⟩
      · show jo (jf_246 _ M) _
        unfold jf_246
        have hC' := kCm_Q hM hC
        have hP' := kPm_Q hM hP
        rw [jle_eq, mk_R th0 (jg_c rfl) (by decide) hR]
        have H' := kM_T0 HK.1 HK.2.1 HK.2.2.1 hC' hP' (kLm_Q hM hL)
        dsimp only
        rw [sp_226, jsb]
        simp (disch := omega) only [reduceIte, jwi, jif, jifn, jsb, Int.toNat_natCast, sp_248 H']
        exact ⟨rfl, jfr_T0⟩
    · refine q_ok (W := fun _ _ => False) (W' := jW_226) (((kB (fun l => decide (p 2 l = -1)) (c 11 2) : Nat) : Int)) h (kB_gl (by omega)) ?_ (fun _ _ h => h.elim) (fun M hM => ?_) (fun k j h => by unfold jW_226 at h; unfold kQ kQS kQT kQR; omega)
      · show jo (jf_308 _ m) _
        unfold jf_308
        refine wr0 ?_
        unfold jf_158
        rw [ck_R hR]
        simp (disch := omega) only [reduceIte, jwi, jif, jifn, jsb, Int.toNat_natCast, show jf_87 0 m = some ((kB (fun l => decide (p 2 l = -1)) (c 11 2) : Nat) : Int) from (by unfold jf_87; rw [sp_88 HK]; rfl)]
        exact ⟨rfl, rfl, jfr_r⟩
      · show jo (jf_246 _ M) _
        unfold jf_246
        have hC' := kCm_Q hM hC
        have hP' := kPm_Q hM hP
        rw [jle_eq, mk_R th0 (jg_c rfl) (by decide) hR]
        have H' := kM_T0 HK.1 HK.2.1 HK.2.2.1 hC' hP' (kLm_Q hM hL)
        dsimp only
        rw [sp_226, jsb]
        simp (disch := omega) only [reduceIte, jwi, jif, jifn, jsb, Int.toNat_natCast, sp_249 H']
        exact ⟨rfl, jfr_T0⟩
    · refine q_ok (W := fun _ _ => False) (W' := jW_226) (ja m 33 1) h (jgl_g jg_a) ?_ (fun _ _ h => h.elim) (fun M hM => ?_) (fun k j h => by unfold jW_226 at h; unfold kQ kQS kQT kQR; omega)
      · show jo (jf_308 _ m) _
        unfold jf_308
        refine wr0 ?_
        unfold jf_158
        rw [ck_R hR]
        simp (disch := omega) only [reduceIte, jwi, jif, jifn, jsb, Int.toNat_natCast]
        exact ⟨rfl, rfl, jfr_r⟩
      · show jo (jf_246 _ M) _
        unfold jf_246
        have hC' := kCm_Q hM hC
        have hP' := kPm_Q hM hP
        rw [jle_eq, mk_R th0 (jg_c rfl) (by decide) hR]
        have H' := kM_T0 HK.1 HK.2.1 HK.2.2.1 hC' hP' (kLm_Q hM hL)
        dsimp only
        rw [sp_226, jsb]
        simp (disch := omega) only [reduceIte, jwi, jif, jifn, jsb, Int.toNat_natCast, show ja (kT0 (js M 67 0 0)) 67 52 = ja m 33 1 from (by rw [ja_T0 (by decide), ja_jsj (by decide), hM _ _ (by unfold kQS; omega)]; exact hB.1.symm)]
        exact ⟨rfl, jfr_T0⟩
    · refine q_ok (W := fun _ _ => False) (W' := jW_226) (ja m 0 14) h (jgl_g jg_a) ?_ (fun _ _ h => h.elim) (fun M hM => ?_) (fun k j h => by unfold jW_226 at h; unfold kQ kQS kQT kQR; omega)
      · show jo (jf_308 _ m) _
        unfold jf_308
        refine wr0 ?_
        unfold jf_158
        rw [ck_R hR]
        simp (disch := omega) only [reduceIte, jwi, jif, jifn, jsb, Int.toNat_natCast]
        exact ⟨rfl, rfl, jfr_r⟩
      · show jo (jf_246 _ M) _
        unfold jf_246
        have hC' := kCm_Q hM hC
        have hP' := kPm_Q hM hP
        rw [jle_eq, mk_R th0 (jg_c rfl) (by decide) hR]
        have H' := kM_T0 HK.1 HK.2.1 HK.2.2.1 hC' hP' (kLm_Q hM hL)
        dsimp only
        rw [sp_226, jsb]
        simp (disch := omega) only [reduceIte, jwi, jif, jifn, jsb, Int.toNat_natCast, show ja (kT0 (js M 67 0 0)) 67 40 = ja m 0 14 from (by rw [ja_T0 (by decide), ja_jsj (by decide), hM _ _ (by unfold kQS; omega)]; exact (Inv_rs h).symm)]
        exact ⟨rfl, jfr_T0⟩
    · refine q_ok (W := fun _ _ => False) (W' := jW_226) (kHu p (c 11 1)) h (jgl_g (kHu_g _)) ?_ (fun _ _ h => h.elim) (fun M hM => ?_) (fun k j h => by unfold jW_226 at h; unfold kQ kQS kQT kQR; omega)
      · show jo (jf_308 _ m) _
        unfold jf_308
        refine wr0 ?_
        unfold jf_158
        rw [ck_R hR]
        simp (disch := omega) only [reduceIte, jwi, jif, jifn, jsb, Int.toNat_natCast, sp_89 HK]
        exact ⟨rfl, rfl, jfr_r⟩
      · show jo (jf_246 _ M) _
        unfold jf_246
        have hC' := kCm_Q hM hC
        have hP' := kPm_Q hM hP
        rw [jle_eq, mk_R th0 (jg_c rfl) (by decide) hR]
        have H' := kM_T0 HK.1 HK.2.1 HK.2.2.1 hC' hP' (kLm_Q hM hL)
        dsimp only
        rw [sp_226, jsb]
        simp (disch := omega) only [reduceIte, jwi, jif, jifn, jsb, Int.toNat_natCast, sp_250 H']
        exact ⟨rfl, jfr_T0⟩
  · refine rf_A (w := 1) h (jg_c rfl) (by decide) ?_ (fun M hM => ?_)
    · show jf_308 _ m = _
      unfold jf_308 jf_158
      rw [ck_Rr hR]; rfl
    · show jf_246 _ M = _
      unfold jf_246
      have hC' := kCm_Q hM hC
      rw [jle_eq, mk_Rr th0 (jg_c rfl) (by decide) hR]
theorem sy_12 {m : jm} {x0 x1 : Int} (hx0 : jg x0) (hx1 : jg x1) (h : Inv m) : kSy (fun m => jf_313 x0 x1 m) (fun m => jf_259 x0 x1 m) m := by
  obtain ⟨c, p, cl, HK, hC, hP, hL, hB⟩ := Inv_K h
  have hn := HK.1.1
  have n0 := kK_n HK (i := 0) (by decide)
  have n1 := kK_n HK (i := 1) (by decide)
  have n2 := kK_n HK (i := 2) (by decide)
  have n3 := kK_n HK (i := 3) (by decide)
  by_cases hE : (0 ≤ x0 ∧ x0 < (c 11 0 : Int)) ∧ (0 ≤ x1 ∧ x1 < (c 11 0 : Int))
  · obtain ⟨v0, rfl⟩ := Int.eq_ofNat_of_zero_le hE.1.1
    have hv0 : v0 < c 11 0 := by omega
    obtain ⟨v1, rfl⟩ := Int.eq_ofNat_of_zero_le hE.2.1
    have hv1 : v1 < c 11 0 := by omega
    refine q_ok (W := fun _ _ => False) (W' := fun _ _ => False) (kJo c (v0 : Int) (v1 : Int)) h (⟨by have := kJo_b (c := c) (x := v0) (y := v1); omega, by have := kJo_b (c := c) (x := v0) (y := v1); omega⟩) ?_ (fun _ _ h => h.elim) (fun M hM => ?_) (fun _ _ h => h.elim)
    · show jo (jf_313 _ _ m) _
      unfold jf_313
      refine wr0 ?_
      unfold jf_164
      rw [ck_B n0 (by omega) n0 (by omega) hv0 hv1]
      simp (disch := omega) only [reduceIte, jwi, jif, jifn, jsb, Int.toNat_natCast, sp_16 HK]
      exact ⟨rfl, rfl, jfr_r⟩
    · show jo (jf_259 _ _ M) _
      unfold jf_259
      have hC' := kCm_Q hM hC
      have hP' := kPm_Q hM hP
      rw [jle_eq, mk_252 th0 (hC'.1 0 (by decide)) (by omega) (jg_c rfl) (by decide) hv0, mk_252 th0 (hC'.1 0 (by decide)) (by omega) (jg_c rfl) (by decide) hv1]
      dsimp only
      rw [sp_235' HK.1 hC']
      exact ⟨rfl, jfr_r⟩
  · refine rf_E (w := 1) h (jg_c rfl) (by decide) ?_ (fun M hM => ?_)
    · show jf_313 _ _ m = _
      unfold jf_313 jf_164
      rw [ck_Br n0 (by omega) n0 (by omega) hE]; rfl
    · show jf_259 _ _ M = _
      unfold jf_259
      have hC' := kCm_Q hM hC
      by_cases hE1 : 0 ≤ x0 ∧ x0 < (c 11 0 : Int)
      · obtain ⟨v0, rfl⟩ := Int.eq_ofNat_of_zero_le hE1.1
        have hv0 : v0 < c 11 0 := by omega
        rw [jle_eq, mk_252 th0 (hC'.1 0 (by decide)) (by omega) (jg_c rfl) (by decide) hv0, mk_252r th0 (hC'.1 0 (by decide)) (by omega) (jg_c rfl) (by decide) (by omega)]
      · rw [jle_eq, mk_252r th0 (hC'.1 0 (by decide)) (by omega) (jg_c rfl) (by decide) hE1]
theorem sy_30 {m : jm} {x0 : Int} (hx0 : jg x0) (h : Inv m) : kSy (fun m => jf_329 x0 m) (fun m => jf_292 x0 m) m := by
  obtain ⟨c, p, cl, HK, hC, hP, hL, hB⟩ := Inv_K h
  have hn := HK.1.1
  have n0 := kK_n HK (i := 0) (by decide)
  have n1 := kK_n HK (i := 1) (by decide)
  have n2 := kK_n HK (i := 2) (by decide)
  have n3 := kK_n HK (i := 3) (by decide)
  by_cases hR : 0 ≤ x0 ∧ x0 ≤ 1
  · skip
    have h4 : x0 = 0 ∨ x0 = 1 := by omega
    have hlo := kLo_c (p := p) (c 11 1)
    have hgl1 : jgl (kLo p (c 11 1)).1 := by
      rcases hlo with ⟨a, b⟩ | ⟨e, a, b, d⟩
      · rw [a]; exact ⟨by decide, by decide⟩
      · rw [b]; exact ⟨by omega, by omega⟩
    have hgl2 : jgl (if (kLo p (c 11 1)).1 = -1 then -1 else (kLo p (c 11 1)).2) := by
      rcases hlo with ⟨a, b⟩ | ⟨e, a, b, d⟩
      · rw [if_pos a]; exact ⟨by decide, by decide⟩
      · rw [if_neg (by omega), d]; exact jgl_g (kK_gh HK a).2
    have eM : ∀ M, kEq kQS m M → ∀ {β : Type} (F : Int × Int → Option β), (jlp (α := Int × Int × Int) (β := Int × Int) (fun s4 => if s4.2.2 < (ja (js M 67 0 0) 67 25) then if 0 ≤ (jw ((12 : Int) + s4.2.2)) ∧ (jw ((12 : Int) + s4.2.2)) < 68 then Option.bind (α := Int × Int) (if s4.2.1 < (ja (js M 67 0 0) 88 (jw ((12 : Int) + s4.2.2)).toNat) then if 0 ≤ (jw ((12 : Int) + s4.2.2)) ∧ (jw ((12 : Int) + s4.2.2)) < 68 then some (s4.2.2, ja (js M 67 0 0) 88 (jw ((12 : Int) + s4.2.2)).toNat) else none else some (s4.1, s4.2.1)) fun t11 => some (Sum.inl (t11.1, t11.2, jw (s4.2.2 + 1))) else none else some (Sum.inr (s4.1, s4.2.1))) jfu ((-1 : Int), (0 : Int), (0 : Int))).bind F = F (kLo p (c 11 1)) := by
      intro M hM β F
      have hC' := kCm_Q hM hC
      have hP' := kPm_Q hM hP
      have n1' : ja (js M 67 0 0) 67 25 = _ := hC'.1 1 (by decide)
      rw [jlp_fr (a := ((-1 : Int), (0 : Int), (0 : Int))) (c := kLo p (c 11 1)) (c 11 1) (fun i => ((kLo p i).1, (kLo p i).2, (i : Int))) (by omega) rfl ?hs ?he]
      case he =>
        dsimp only
        rw [n1', if_neg (by omega)]
      case hs =>
        intro i hi
        have ei : ((12 : Int) + (i : Int)).toNat = 12 + i := by omega
        have di : jw ((12 : Int) + (i : Int)) = (12 : Int) + (i : Int) := jwi (by omega) (by omega)
        have hh : ja (js M 67 0 0) 88 (12 + i) = p 1 i := (hP'.2.2.1 i hi).2
        dsimp only
        rw [n1', if_pos (by omega), di, if_pos (by omega), ei, hh, jwn (by omega), kLo_s]
        by_cases hl : (kLo p i).2 < p 1 i
        · rw [if_pos hl, if_pos hl, if_pos (by omega)]; rfl
        · rw [if_neg hl, if_neg hl]; rfl
      rfl
    rcases h4 with rfl | rfl
    · refine q_ok (W := fun _ _ => False) (W' := fun _ _ => False) ((kLo p (c 11 1)).1) h (hgl1) ?_ (fun _ _ h => h.elim) (fun M hM => ?_) (fun _ _ h => h.elim)
      · show jo (jf_329 _ m) _
        unfold jf_329
        refine wr0 ?_
        unfold jf_182
        rw [ck_R hR]
        dsimp only
        rw [sp_95 HK, jsb, if_pos rfl]
        exact ⟨rfl, rfl, jfr_r⟩
      · show jo (jf_292 _ M) _
        unfold jf_292
        have hC' := kCm_Q hM hC
        have hP' := kPm_Q hM hP
        rw [jle_eq, mk_R th0 (jg_c rfl) (by decide) hR]
        dsimp only
        rw [eM M hM, if_pos rfl]
        exact ⟨rfl, jfr_r⟩
    · refine q_ok (W := fun _ _ => False) (W' := fun _ _ => False) (if (kLo p (c 11 1)).1 = -1 then -1 else (kLo p (c 11 1)).2) h (hgl2) ?_ (fun _ _ h => h.elim) (fun M hM => ?_) (fun _ _ h => h.elim)
      · show jo (jf_329 _ m) _
        unfold jf_329
        refine wr0 ?_
        unfold jf_182
        rw [ck_R hR]
        dsimp only
        rw [sp_95 HK, jsb, if_neg (by decide)]
        rcases hlo with ⟨a, b⟩ | ⟨e, a, b, d⟩
        · rw [if_pos a, if_pos a, a]; exact ⟨rfl, rfl, jfr_r⟩
        · rw [if_neg (by omega), if_neg (by omega), b, d, sp_66 HK a]; exact ⟨rfl, rfl, jfr_r⟩
      · show jo (jf_292 _ M) _
        unfold jf_292
        have hC' := kCm_Q hM hC
        have hP' := kPm_Q hM hP
        rw [jle_eq, mk_R th0 (jg_c rfl) (by decide) hR]
        dsimp only
        rw [eM M hM, if_neg (by decide)]
        by_cases a : (kLo p (c 11 1)).1 = -1
        · rw [if_pos a, if_pos a, a]; exact ⟨rfl, jfr_r⟩
        · rw [if_neg a, if_neg a]; exact ⟨rfl, jfr_r⟩
  · refine rf_A (w := 1) h (jg_c rfl) (by decide) ?_ (fun M hM => ?_)
    · show jf_329 _ m = _
      unfold jf_329 jf_182
      rw [ck_Rr hR]; rfl
    · show jf_292 _ M = _
      unfold jf_292
      have hC' := kCm_Q hM hC
      rw [jle_eq, mk_Rr th0 (jg_c rfl) (by decide) hR]
theorem sy_13 {m : jm} {x0 x1 x2 : Int} (hx0 : jg x0) (hx1 : jg x1) (hx2 : jg x2) (h : Inv m) : kSy (fun m => jf_314 x0 x1 x2 m) (fun m => jf_260 x0 x1 x2 m) m := by
  obtain ⟨c, p, cl, HK, hC, hP, hL, hB⟩ := Inv_K h
  have hn := HK.1.1
  have n0 := kK_n HK (i := 0) (by decide)
  have n1 := kK_n HK (i := 1) (by decide)
  have n2 := kK_n HK (i := 2) (by decide)
  have n3 := kK_n HK (i := 3) (by decide)
  by_cases hE : (0 ≤ x0 ∧ x0 < (c 11 2 : Int)) ∧ (0 ≤ x1 ∧ x1 < (c 11 1 : Int))
  · obtain ⟨v0, rfl⟩ := Int.eq_ofNat_of_zero_le hE.1.1
    have hv0 : v0 < c 11 2 := by omega
    obtain ⟨v1, rfl⟩ := Int.eq_ofNat_of_zero_le hE.2.1
    have hv1 : v1 < c 11 1 := by omega
    by_cases hR : 0 ≤ x2 ∧ x2 ≤ 1
    · skip
      refine q_ok (W := jW_78 0) (W' := (fun k j => jW_226 k j ∨ jW_230 k j ∨ jW_237 k j)) (kLn c p cl v0 v1 x2 (p 8 1) (kCar c (fun l => decide (p 6 l = (v0 : Int))) (c 11 3))) h (⟨by have := kLean_b (cl := cl) (v := kV9 (p 0 v1) (kRise c v1 x2) (kCar c (fun l => decide (p 6 l = (v0 : Int))) (c 11 3)).1 (kCar c (fun l => decide (p 6 l = (v0 : Int))) (c 11 3)).2.1 (kCar c (fun l => decide (p 6 l = (v0 : Int))) (c 11 3)).2.2 (p 1 v1) (p 8 1) (p 3 v0) (p 8 0)); unfold kLn; omega, by have := kLean_b (cl := cl) (v := kV9 (p 0 v1) (kRise c v1 x2) (kCar c (fun l => decide (p 6 l = (v0 : Int))) (c 11 3)).1 (kCar c (fun l => decide (p 6 l = (v0 : Int))) (c 11 3)).2.1 (kCar c (fun l => decide (p 6 l = (v0 : Int))) (c 11 3)).2.2 (p 1 v1) (p 8 1) (p 3 v0) (p 8 0)); unfold kLn; omega⟩) ?_ (fun k j h => by unfold jW_78 at h; unfold kQ kQS kQT kQR; omega) (fun M hM => ?_) (fun k j h => by unfold jW_226 jW_230 jW_237 at h; unfold kQ kQS kQT kQR; omega)
      · show jo (jf_314 _ _ _ m) _
        unfold jf_314
        refine wr0 ?_
        unfold jf_166
        rw [ck_B n2 (by omega) n1 (by omega) hv0 hv1, ck_R hR]
        dsimp only
        refine jo_c (sl_92 HK hv0 hv1) (fun r hr => ?_)
        exact ⟨hr.1, rfl, hr.2⟩
      · show jo (jf_260 _ _ _ M) _
        unfold jf_260
        have hC' := kCm_Q hM hC
        have hP' := kPm_Q hM hP
        rw [jle_eq, mk_256 th0 (hC'.1 2 (by decide)) (by omega) (jg_c rfl) (by decide) hv0, mk_254 th0 (hC'.1 1 (by decide)) (by omega) (jg_c rfl) (by decide) hv1, mk_R th0 (jg_c rfl) (by decide) hR]
        have H' := kM_T0 HK.1 HK.2.1 HK.2.2.1 hC' hP' (kLm_Q hM hL)
        dsimp only
        rw [sp_226, jsb]
        refine jo_c (sl_230 (w := (v0 : Int)) H') (fun m2 h2 => ?_)
        obtain ⟨h2, hf2⟩ := h2
        have H2 := kM_fr H' hf2 (fun k j hk => by unfold jW_230 at hk; unfold kQM; omega)
        rw [if_pos (by decide), show ja m2 89 (67 : Int).toNat = p 8 1 from kM_fg H2]
        refine jo_c (sl_237 H2 hv0 hv1 (kK_gd HK).2) (fun r hr => ?_)
        obtain ⟨hr, hf3⟩ := hr
        rw [h2] at hr
        refine ⟨hr, ?_⟩
        refine jfr_t (jfr_t (jfr_t jfr_r jfr_T0 (fun e => e) (fun k j hk => ?_)) hf2 (fun e => e) (fun k j hk => ?_)) hf3 (fun e => e) (fun k j hk => ?_)
        · exact Or.inl hk
        · exact Or.inr (Or.inl hk)
        · exact Or.inr (Or.inr hk)
    · refine rf_A (w := 2) h (jg_c rfl) (by decide) ?_ (fun M hM => ?_)
      · show jf_314 _ _ _ m = _
        unfold jf_314 jf_166
        rw [ck_B n2 (by omega) n1 (by omega) hv0 hv1, ck_Rr hR]; rfl
      · show jf_260 _ _ _ M = _
        unfold jf_260
        have hC' := kCm_Q hM hC
        rw [jle_eq, mk_256 th0 (hC'.1 2 (by decide)) (by omega) (jg_c rfl) (by decide) hv0, mk_254 th0 (hC'.1 1 (by decide)) (by omega) (jg_c rfl) (by decide) hv1, mk_Rr th0 (jg_c rfl) (by decide) hR]
  · refine rf_E (w := 1) h (jg_c rfl) (by decide) ?_ (fun M hM => ?_)
    · show jf_314 _ _ _ m = _
      unfold jf_314 jf_166
      rw [ck_Br n2 (by omega) n1 (by omega) hE]; rfl
    · show jf_260 _ _ _ M = _
      unfold jf_260
      have hC' := kCm_Q hM hC
      by_cases hE1 : 0 ≤ x0 ∧ x0 < (c 11 2 : Int)
      · obtain ⟨v0, rfl⟩ := Int.eq_ofNat_of_zero_le hE1.1
        have hv0 : v0 < c 11 2 := by omega
        rw [jle_eq, mk_256 th0 (hC'.1 2 (by decide)) (by omega) (jg_c rfl) (by decide) hv0, mk_254r th0 (hC'.1 1 (by decide)) (by omega) (jg_c rfl) (by decide) (by omega)]
      · rw [jle_eq, mk_256r th0 (hC'.1 2 (by decide)) (by omega) (jg_c rfl) (by decide) hE1]
theorem sy_15 {m : jm} {x0 x1 x2 : Int} (hx0 : jg x0) (hx1 : jg x1) (hx2 : jg x2) (h : Inv m) : kSb (fun m => jf_316 x0 x1 x2 m) (fun m => jf_261 x0 x1 x2 m) m := by
  obtain ⟨c, p, cl, HK, hC, hP, hL, hB⟩ := Inv_K h
  have hn := HK.1.1
  have n0 := kK_n HK (i := 0) (by decide)
  have n1 := kK_n HK (i := 1) (by decide)
  have n2 := kK_n HK (i := 2) (by decide)
  have n3 := kK_n HK (i := 3) (by decide)
  by_cases hE : (0 ≤ x0 ∧ x0 < (c 11 2 : Int)) ∧ (0 ≤ x1 ∧ x1 < (c 11 1 : Int))
  · obtain ⟨v0, rfl⟩ := Int.eq_ofNat_of_zero_le hE.1.1
    have hv0 : v0 < c 11 2 := by omega
    obtain ⟨v1, rfl⟩ := Int.eq_ofNat_of_zero_le hE.2.1
    have hv1 : v1 < c 11 1 := by omega
    by_cases hR : 0 ≤ x2 ∧ x2 ≤ 1
    · skip
      refine q_okb (W := jW_78 0) (W' := (fun k j => jW_226 k j ∨ jW_230 k j ∨ jW_236 k j)) (if kOv c v0 (kLn c p cl v0 v1 x2 (p 8 1) (kCar c (fun l => decide (p 6 l = (v0 : Int))) (c 11 3))) = true then 1 else 0) h (by unfold jb; split <;> omega) ?_ (fun k j h => by unfold jW_78 at h; unfold kQ kQS kQT kQR; omega) (fun M hM => ?_) (fun k j h => by unfold jW_226 jW_230 jW_236 at h; unfold kQ kQS kQT kQR; omega)
      · show jo (jf_316 _ _ _ m) _
        unfold jf_316
        refine wr0b (by unfold jb; split <;> omega) ?_
        unfold jf_168
        rw [ck_B n2 (by omega) n1 (by omega) hv0 hv1, ck_R hR]
        dsimp only
        refine jo_c (sl_92 HK hv0 hv1) (fun r hr => ?_)
        obtain ⟨hr, hf⟩ := hr
        have HK' := kK_fr HK hf (fun k j hk => by unfold jW_78 at hk; unfold kQK; omega)
        rw [sp_73 HK' hv0 (by rw [hr]; exact kLean_b), jsb, hr]
        exact ⟨rfl, rfl, hf⟩
      · show jo (jf_261 _ _ _ M) _
        unfold jf_261
        have hC' := kCm_Q hM hC
        have hP' := kPm_Q hM hP
        rw [jle_eq, mk_256 th0 (hC'.1 2 (by decide)) (by omega) (jg_c rfl) (by decide) hv0, mk_254 th0 (hC'.1 1 (by decide)) (by omega) (jg_c rfl) (by decide) hv1, mk_R th0 (jg_c rfl) (by decide) hR]
        have H' := kM_T0 HK.1 HK.2.1 HK.2.2.1 hC' hP' (kLm_Q hM hL)
        dsimp only
        rw [sp_226, jsb]
        refine jo_c (sl_230 (w := (v0 : Int)) H') (fun m2 h2 => ?_)
        obtain ⟨h2, hf2⟩ := h2
        have H2 := kM_fr H' hf2 (fun k j hk => by unfold jW_230 at hk; unfold kQM; omega)
        rw [if_pos (by decide), show ja m2 89 (67 : Int).toNat = p 8 1 from kM_fg H2]
        refine jo_c (sl_236 H2 hv0 hv1 (kK_gd HK).2) (fun r hr => ?_)
        obtain ⟨hr, hf3⟩ := hr
        rw [h2] at hr
        refine ⟨hr, ?_⟩
        refine jfr_t (jfr_t (jfr_t jfr_r jfr_T0 (fun e => e) (fun k j hk => ?_)) hf2 (fun e => e) (fun k j hk => ?_)) hf3 (fun e => e) (fun k j hk => ?_)
        · exact Or.inl hk
        · exact Or.inr (Or.inl hk)
        · exact Or.inr (Or.inr hk)
    · refine rf_Ab (w := 2) h (jg_c rfl) (by decide) ?_ (fun M hM => ?_)
      · show jf_316 _ _ _ m = _
        unfold jf_316 jf_168
        rw [ck_B n2 (by omega) n1 (by omega) hv0 hv1, ck_Rr hR]; rfl
      · show jf_261 _ _ _ M = _
        unfold jf_261
        have hC' := kCm_Q hM hC
        rw [jle_eq, mk_256 th0 (hC'.1 2 (by decide)) (by omega) (jg_c rfl) (by decide) hv0, mk_254 th0 (hC'.1 1 (by decide)) (by omega) (jg_c rfl) (by decide) hv1, mk_Rr th0 (jg_c rfl) (by decide) hR]
  · refine rf_Eb (w := 1) h (jg_c rfl) (by decide) ?_ (fun M hM => ?_)
    · show jf_316 _ _ _ m = _
      unfold jf_316 jf_168
      rw [ck_Br n2 (by omega) n1 (by omega) hE]; rfl
    · show jf_261 _ _ _ M = _
      unfold jf_261
      have hC' := kCm_Q hM hC
      by_cases hE1 : 0 ≤ x0 ∧ x0 < (c 11 2 : Int)
      · obtain ⟨v0, rfl⟩ := Int.eq_ofNat_of_zero_le hE1.1
        have hv0 : v0 < c 11 2 := by omega
        rw [jle_eq, mk_256 th0 (hC'.1 2 (by decide)) (by omega) (jg_c rfl) (by decide) hv0, mk_254r th0 (hC'.1 1 (by decide)) (by omega) (jg_c rfl) (by decide) (by omega)]
      · rw [jle_eq, mk_256r th0 (hC'.1 2 (by decide)) (by omega) (jg_c rfl) (by decide) hE1]
