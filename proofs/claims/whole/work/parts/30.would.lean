/-! WOULD, MIDDLE, SHARE. -/
theorem an0 {P : Prop} [Decidable P] : (if (if P then (1 : Int) else 0) = 0 then some (0 : Int) else some 1) = some (if P then 1 else 0) := by
  by_cases h : P
  · rw [if_pos h, if_neg (by decide)]
  · rw [if_neg h, if_pos rfl]
theorem an1 {P Q : Prop} [Decidable P] [Decidable Q] : (if (if P then (1 : Int) else 0) = 0 then some (0 : Int) else some (if Q then 1 else 0)) = some (if P ∧ Q then 1 else 0) := by
  by_cases h : P
  · rw [if_pos h, if_neg (by decide)]
    by_cases hq : Q
    · rw [if_pos hq, if_pos ⟨h, hq⟩]
    · rw [if_neg hq, if_neg (fun e => hq e.2)]
  · rw [if_neg h, if_pos rfl, if_neg (fun e => h e.1)]
theorem if10 {P : Prop} [Decidable P] (h : P) : (if P then (1 : Int) else 0) ≠ 0 := by rw [if_pos h]; decide
theorem sy_14 {m : jm} {x0 x1 x2 x3 x4 x5 x6 x7 x8 : Int} (hx0 : jg x0) (hx1 : jg x1) (hx2 : jg x2) (hx3 : jg x3) (hx4 : jg x4) (hx5 : jg x5) (hx6 : jg x6) (hx7 : jg x7) (hx8 : jg x8) (h : Inv m) : kSy (fun m => jf_315 x0 x1 x2 x3 x4 x5 x6 x7 x8 m) (fun m => jf_262 x0 x1 x2 x3 x4 x5 x6 x7 x8 m) m := by
  obtain ⟨c, p, cl, HK, hC, hP, hL, hB⟩ := Inv_K h
  by_cases hG : (0 ≤ x0 ∧ x0 ≤ 9) ∧ (-40 ≤ x1 ∧ x1 ≤ 40) ∧ (0 ≤ x2 ∧ x2 ≤ 18) ∧ (0 ≤ x3 ∧ x3 ≤ 5) ∧ (0 ≤ x4 ∧ x4 ≤ 2) ∧ (0 ≤ x5 ∧ x5 ≤ 999) ∧ (0 ≤ x6 ∧ x6 ≤ 1) ∧ (0 ≤ x7 ∧ x7 ≤ 9) ∧ (0 ≤ x8 ∧ x8 ≤ 700)
  · have hb := kLean_b (cl := cl) (v := kV9 x0 x1 x2 x3 x4 x5 x6 x7 x8)
    refine q_ok (W := fun k _ => k = 49 ∨ k = 29) (W' := jW_238) (kLean cl (kV9 x0 x1 x2 x3 x4 x5 x6 x7 x8)) h ⟨by omega, by omega⟩ ?_ (fun k j h => by unfold kQ kQS kQT kQR; omega) (fun M hM => ?_) (fun k j h => by unfold jW_238 at h; unfold kQ kQS kQT kQR; omega)
    · show jo (jf_315 _ _ _ _ _ _ _ _ _ m) _
      unfold jf_315
      refine wr0 ?_
      unfold jf_167
      simp only [sp_153, jsb, an0, an1]
      rw [ck_A (if10 (by omega)), sp_67, jsb, sp_72, jsb, sp_70, jsb]
      unfold jf_93
      have H' : ∀ {m : jm} {j : Nat} {x : Int}, kK 0 m c p cl → kK 0 (js m (49 + 0) j x) c p cl := fun h => kK_js h (by unfold kQK; omega)
      rw [jo_bind, jo_bind]
      refine jo_mono (jo_and (sl_23 (q := 0) (cl := cl) (H' (H' (H' (H' (H' (H' (H' (H' (H' HK))))))))).2.2.2.2.2 HK.2.2.1) jx_23) (fun r hr => ?_)
      obtain ⟨hr, hf⟩ := hr
      refine ⟨hr.trans ?_, rfl, ?_⟩
      · refine kLean_ext HK.2.2.1 (kVals (m := m) ?_ ?_ ?_ ?_ ?_ ?_ ?_ ?_ ?_)
        all_goals simp [ja_js]
        all_goals first | exact jw_id hx0 | exact jw_id hx1 | exact jw_id hx2 | exact jw_id hx3 | exact jw_id hx4 | exact jw_id hx5 | exact jw_id hx6 | exact jw_id hx7 | exact jw_id hx8
      · refine jfr_t (jfr_js (jfr_js (jfr_js (jfr_js (jfr_js (jfr_js (jfr_js (jfr_js (jfr_js jfr_r (Or.inl rfl)) (Or.inl rfl)) (Or.inl rfl)) (Or.inl rfl)) (Or.inl rfl)) (Or.inl rfl)) (Or.inl rfl)) (Or.inl rfl)) (Or.inl rfl)) hf (fun e => e) (fun k j hk => Or.inr hk)
    · show jo (jf_262 _ _ _ _ _ _ _ _ _ M) _
      unfold jf_262
      rw [jle_eq]
      simp only [sp_247, jsb, an0, an1]
      rw [mk_A th0 (jg_c rfl) (by decide) (if10 (by omega)), jo_bind]
      exact jo_mono (sl_238 (kLm_Q hM hL) HK.2.2.1 hx0 hx1 hx2 hx3 hx4 hx5 hx6 hx7 hx8) (fun r hr => hr)
  · refine rf_A (w := 1) h (jg_c rfl) (by decide) ?_ (fun M hM => ?_)
    · show jf_315 _ _ _ _ _ _ _ _ _ m = _
      unfold jf_315 jf_167
      simp only [sp_153, jsb, an0, an1]
      rw [ck_Ar (if_neg (by omega))]; rfl
    · show jf_262 _ _ _ _ _ _ _ _ _ M = _
      unfold jf_262
      rw [jle_eq]
      simp only [sp_247, jsb, an0, an1]
      rw [mk_Ar th0 (jg_c rfl) (by decide) (if_neg (by omega))]
/-! middle -/
def kGn (i j v a b : Int) : Int := if i = 1 then (if j = 1 then jw (-a) else v) else (if j = 1 then jw (-b) else 0)
theorem sp_180 {i j v a b : Int} {m : jm} : jf_180 i j v a b m = some (kGn i j v a b) := by
  unfold jf_180 kGn
  by_cases h1 : i = 1
  · rw [if_pos h1, if_pos h1]; split <;> rfl
  · rw [if_neg h1, if_neg h1]; split <;> rfl
theorem sp_290 {i j v a b : Int} {m : jm} : jf_290 i j v a b m = some (kGn i j v a b) := by
  unfold jf_290 kGn
  by_cases h1 : i = 1
  · rw [if_pos h1, if_pos h1]; split <;> rfl
  · rw [if_neg h1, if_neg h1]; split <;> rfl
def kRs (v a b : Int) (k : Nat) : Bool := decide (¬ kGn (jdiv k 2) (jrem k 2) v a b < kGn (jw (1 - jdiv k 2)) (jrem k 2) v a b ∧ ¬ kGn (jrem k 2) (jdiv k 2) v a b < kGn (jw (1 - jrem k 2)) (jdiv k 2) v a b)
def kFi (k : Nat) : Int := jw (jw (10 * jdiv k 2) + jrem k 2)
def kTg (v a b : Int) (k : Nat) : Int := jw (kGn (jdiv k 2) (jrem k 2) v a b + kGn (jrem k 2) (jdiv k 2) v a b)
def kMs (v a b : Int) : Nat → Int × Int × Int
  | 0 => (0, -1, 0)
  | k + 1 => if kRs v a b k = true then (jw ((kMs v a b k).1 + 1), (if (kMs v a b k).1 = 0 then kFi k else (kMs v a b k).2.1), (if (kMs v a b k).1 = 0 then kTg v a b k else (kMs v a b k).2.2)) else kMs v a b k
theorem kMs_s {v a b : Int} {k : Nat} : kMs v a b (k + 1) = if kRs v a b k = true then (jw ((kMs v a b k).1 + 1), (if (kMs v a b k).1 = 0 then kFi k else (kMs v a b k).2.1), (if (kMs v a b k).1 = 0 then kTg v a b k else (kMs v a b k).2.2)) else kMs v a b k := rfl
theorem kFi_f : ∀ k : Fin 4, 0 ≤ kFi k ∧ kFi k ≤ 11 ∧ jdiv (kFi k) 10 = jdiv ((k : Nat) : Int) 2 ∧ jrem (kFi k) 10 = jrem ((k : Nat) : Int) 2 := by decide +kernel
theorem kFi_n {k : Nat} (h : k < 4) : 0 ≤ kFi k ∧ kFi k ≤ 11 ∧ jdiv (kFi k) 10 = jdiv (k : Int) 2 ∧ jrem (kFi k) 10 = jrem (k : Int) 2 := kFi_f ⟨k, h⟩
theorem nft : ¬ (false = true) := fun h => by cases h
theorem kMs_c {v a b : Int} : ∀ k, k ≤ 4 → (0 ≤ (kMs v a b k).1 ∧ (kMs v a b k).1 ≤ k) ∧ (((kMs v a b k).1 = 0 ∧ (kMs v a b k).2.1 = -1 ∧ (kMs v a b k).2.2 = 0) ∨ (0 < (kMs v a b k).1 ∧ ∃ i, i < 4 ∧ (kMs v a b k).2.1 = kFi i ∧ (kMs v a b k).2.2 = kTg v a b i))
  | 0, _ => ⟨⟨Int.le_refl _, Int.le_refl _⟩, Or.inl ⟨rfl, rfl, rfl⟩⟩
  | k + 1, h => by
    obtain ⟨⟨a1, a2⟩, a3⟩ := kMs_c (v := v) (a := a) (b := b) k (by omega)
    rw [kMs_s]
    by_cases hr : kRs v a b k = true
    · rw [if_pos hr]
      dsimp only
      rw [jwi (by omega) (by omega)]
      refine ⟨⟨by omega, by omega⟩, Or.inr ⟨by omega, ?_⟩⟩
      rcases a3 with ⟨b1, b2, b3⟩ | ⟨b1, i, b2, b3⟩
      · rw [if_pos b1, if_pos b1]; exact ⟨k, by omega, rfl, rfl⟩
      · rw [if_neg (by omega), if_neg (by omega)]; exact ⟨i, b2, b3⟩
    · rw [if_neg hr]; exact ⟨⟨a1, by omega⟩, a3⟩
theorem sy_28 {m : jm} {x0 x1 x2 x3 : Int} (hx0 : jg x0) (hx1 : jg x1) (hx2 : jg x2) (hx3 : jg x3) (h : Inv m) : kSy (fun m => jf_327 x0 x1 x2 x3 m) (fun m => jf_289 x0 x1 x2 x3 m) m := by
  by_cases hG : (0 ≤ x0 ∧ x0 ≤ 99) ∧ (0 ≤ x1 ∧ x1 ≤ 99) ∧ (0 ≤ x2 ∧ x2 ≤ 99) ∧ (0 ≤ x3 ∧ x3 ≤ 2)
  · obtain ⟨a1, a2⟩ := kMs_c (v := x0) (a := x1) (b := x2) 4 (by decide)
    have hgl : jgl (if x3 = 0 then (kMs x0 x1 x2 4).1 else if x3 = 1 then (kMs x0 x1 x2 4).2.1 else (kMs x0 x1 x2 4).2.2) := by
      split
      · exact ⟨by omega, by omega⟩
      · rcases a2 with ⟨b1, b2, b3⟩ | ⟨b1, i, b2, b3, b4⟩
        · rw [b2, b3]; split <;> exact ⟨by decide, by decide⟩
        · rw [b3, b4]; split
          · have := kFi_n b2; exact ⟨by omega, by omega⟩
          · exact jgl_g jg_w
    refine q_ok (W := fun _ _ => False) (W' := fun _ _ => False) (if x3 = 0 then (kMs x0 x1 x2 4).1 else if x3 = 1 then (kMs x0 x1 x2 4).2.1 else (kMs x0 x1 x2 4).2.2) h hgl ?_ (fun _ _ h => h.elim) (fun M hM => ?_) (fun _ _ h => h.elim)
    · show jo (jf_327 _ _ _ _ m) _
      unfold jf_327
      refine wr0 ?_
      unfold jf_179
      simp only [sp_153, jsb, an0, an1]
      rw [ck_A (if10 (by omega))]
      simp only [sp_180, jsb]
      rw [jlp_fr (a := ((0 : Int), (-1 : Int), (0 : Int), (0 : Int))) (c := kMs x0 x1 x2 4) 4 (fun i => ((kMs x0 x1 x2 i).1, (kMs x0 x1 x2 i).2.1, (kMs x0 x1 x2 i).2.2, (i : Int))) (by decide) rfl ?hs ?he]
      case he => rfl
      case hs =>
        intro i hi
        dsimp only
        rw [if_pos (by omega), jwn (by omega), kMs_s]
        by_cases h1 : kGn (jdiv i 2) (jrem i 2) x0 x1 x2 < kGn (jw (1 - jdiv i 2)) (jrem i 2) x0 x1 x2
        · have er : kRs x0 x1 x2 i = false := by unfold kRs; exact decide_eq_false (fun e => e.1 h1)
          rw [if_pos h1, jsb, er, if_neg nft]
          split <;> rfl
        · rw [if_neg h1, jsb]
          by_cases h2 : kGn (jrem i 2) (jdiv i 2) x0 x1 x2 < kGn (jw (1 - jrem i 2)) (jdiv i 2) x0 x1 x2
          · have er : kRs x0 x1 x2 i = false := by unfold kRs; exact decide_eq_false (fun e => e.2 h2)
            rw [if_pos h2, jsb, er, if_neg nft]; rfl
          · have er : kRs x0 x1 x2 i = true := by unfold kRs; exact decide_eq_true ⟨h1, h2⟩
            rw [if_neg h2, jsb, er, if_pos (rfl : true = true), if_neg (show ¬ (1 : Int) = 0 by decide)]
            by_cases h3 : (kMs x0 x1 x2 i).1 = 0
            · rw [if_pos h3, if_pos h3, if_pos h3]; rfl
            · rw [if_neg h3, if_neg h3, if_neg h3]; rfl
      rw [jsb]
      by_cases h0 : x3 = 0
      · rw [if_pos h0, if_pos h0]; exact ⟨rfl, rfl, jfr_r⟩
      · rw [if_neg h0, if_neg h0]
        by_cases h1 : x3 = 1
        · rw [if_pos h1, if_pos h1]; exact ⟨rfl, rfl, jfr_r⟩
        · rw [if_neg h1, if_neg h1]; exact ⟨rfl, rfl, jfr_r⟩
    · show jo (jf_289 _ _ _ _ M) _
      unfold jf_289
      rw [jle_eq]
      simp only [sp_247, jsb, an0, an1]
      rw [mk_A th0 (jg_c rfl) (by decide) (if10 (by omega))]
      simp only [sp_290, jsb]
      rw [jlp_fr (a := ((0 : Int), (-1 : Int), (0 : Int))) (c := ((kMs x0 x1 x2 4).1, (kMs x0 x1 x2 4).2.1)) 4 (fun i => ((kMs x0 x1 x2 i).1, (kMs x0 x1 x2 i).2.1, (i : Int))) (by decide) rfl ?hs ?he]
      case he => rfl
      case hs =>
        intro i hi
        obtain ⟨c1, c2⟩ := kMs_c (v := x0) (a := x1) (b := x2) i (by omega)
        dsimp only
        rw [if_pos (by omega), jwn (by omega), kMs_s]
        by_cases h1 : kGn (jdiv i 2) (jrem i 2) x0 x1 x2 < kGn (jw (1 - jdiv i 2)) (jrem i 2) x0 x1 x2
        · have er : kRs x0 x1 x2 i = false := by unfold kRs; exact decide_eq_false (fun e => e.1 h1)
          rw [if_pos h1, jsb, er, if_neg nft]
        · rw [if_neg h1]
          by_cases h2 : kGn (jrem i 2) (jdiv i 2) x0 x1 x2 < kGn (jw (1 - jrem i 2)) (jdiv i 2) x0 x1 x2
          · have er : kRs x0 x1 x2 i = false := by unfold kRs; exact decide_eq_false (fun e => e.2 h2)
            rw [if_pos h2, jsb, er, if_neg nft]
          · have er : kRs x0 x1 x2 i = true := by unfold kRs; exact decide_eq_true ⟨h1, h2⟩
            rw [if_neg h2, er, if_pos (rfl : true = true)]
            rcases c2 with ⟨b1, b2, b3⟩ | ⟨b1, j, b2, b3, b4⟩
            · rw [if_pos b2, if_pos b1]; rfl
            · have := kFi_n b2
              rw [if_neg (show ¬ (kMs x0 x1 x2 i).2.1 = -1 by rw [b3]; omega), if_neg (show ¬ (kMs x0 x1 x2 i).1 = 0 by omega)]; rfl
      rw [jsb]
      dsimp only
      by_cases h0 : x3 = 0
      · rw [if_pos h0, if_pos h0]; exact ⟨rfl, jfr_r⟩
      · rw [if_neg h0, if_neg h0]
        by_cases h1 : x3 = 1
        · rw [if_pos h1, if_pos h1]; exact ⟨rfl, jfr_r⟩
        · rw [if_neg h1, if_neg h1]
          rcases a2 with ⟨b1, b2, b3⟩ | ⟨b1, i, b2, b3, b4⟩
          · rw [if_pos b2, b3]; exact ⟨rfl, jfr_r⟩
          · have := kFi_n b2
            rw [if_neg (show ¬ (kMs x0 x1 x2 4).2.1 = -1 by rw [b3]; omega), b3, b4, show jdiv (kFi i) 10 = jdiv (i : Int) 2 from this.2.2.1, show jrem (kFi i) 10 = jrem (i : Int) 2 from this.2.2.2]
            exact ⟨rfl, jfr_r⟩
  · refine rf_A (w := 1) h (jg_c rfl) (by decide) ?_ (fun M hM => ?_)
    · show jf_327 _ _ _ _ m = _
      unfold jf_327 jf_179
      simp only [sp_153, jsb, an0, an1]
      rw [ck_Ar (if_neg (by omega))]; rfl
    · show jf_289 _ _ _ _ M = _
      unfold jf_289
      rw [jle_eq]
      simp only [sp_247, jsb, an0, an1]
      rw [mk_Ar th0 (jg_c rfl) (by decide) (if_neg (by omega))]
