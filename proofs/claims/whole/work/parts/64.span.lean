/-! SPAN. -/
def kSpz (c : kC) (p : kP) (cl : List Int) (x0 fog : Int) (N i : Nat) : kZt5 := kZr c cl fog (jw (x0 + (i : Int)), 0, 0, 0, p) N
def kSpv (c : kC) (z : kZt5) : Nat := kCnt (fun l => decide (z.2.2.2.2 7 l = 1)) (c 11 3)
def kSpl (v : Nat → Nat) : Nat → Int
  | 0 => 8
  | i + 1 => jmin (kSpl v i) (v i)
def kSph (v : Nat → Nat) : Nat → Int
  | 0 => 0
  | i + 1 => jmax (kSph v i) (v i)
def kSpc (f : Nat → Int) : Nat → Int
  | 0 => 0
  | i + 1 => jw (kSpc f i + (if f i = 0 then 1 else 0))
theorem kSpl_b {v : Nat → Nat} (h : ∀ i, v i ≤ 8) : ∀ n, 0 ≤ kSpl v n ∧ kSpl v n ≤ 8
  | 0 => (by decide : (0 : Int) ≤ 8 ∧ (8 : Int) ≤ 8)
  | n + 1 => by
    have := kSpl_b h n
    have := h n
    show 0 ≤ jmin (kSpl v n) (v n) ∧ jmin (kSpl v n) (v n) ≤ 8
    unfold jmin; split <;> omega
theorem kSph_b {v : Nat → Nat} (h : ∀ i, v i ≤ 8) : ∀ n, 0 ≤ kSph v n ∧ kSph v n ≤ 8
  | 0 => (by decide : (0 : Int) ≤ 0 ∧ (0 : Int) ≤ 8)
  | n + 1 => by
    have := kSph_b h n
    have := h n
    show 0 ≤ jmax (kSph v n) (v n) ∧ jmax (kSph v n) (v n) ≤ 8
    unfold jmax; split <;> omega
theorem kSpc_b {f : Nat → Int} : ∀ n, jg (kSpc f n)
  | 0 => (by decide : (-2147483648 : Int) ≤ 0 ∧ (0 : Int) ≤ 2147483647)
  | n + 1 => jg_w
def kSpa (v : Nat → Nat) (f : Nat → Int) (K : Nat) (x : Int) : Int := if x = 0 then kSpl v K else if x = 1 then kSph v K else kSpc f K
theorem sy_32 {m : jm} {x0 x1 x2 x3 x4 : Int} (hx0 : jg x0) (hx1 : jg x1) (hx2 : jg x2) (hx3 : jg x3) (hx4 : jg x4) (h : Inv m) : kSy (fun m => jf_331 x0 x1 x2 x3 x4 m) (fun m => jf_297 x0 x1 x2 x3 x4 m) m := by
  obtain ⟨c, p, cl, HK, hC, hP, hL, hB⟩ := Inv_K h
  have hn := HK.1.1
  by_cases hQ : 1 ≤ x1 ∧ x1 ≤ 20
  · by_cases hS : kSea x2 x3
    · by_cases hR : 0 ≤ x4 ∧ x4 ≤ 2
      · obtain ⟨N, rfl⟩ := Int.eq_ofNat_of_zero_le (show 0 ≤ x3 by have := hS.2; omega)
        obtain ⟨K, rfl⟩ := Int.eq_ofNat_of_zero_le (show 0 ≤ x1 by omega)
        have hN : N ≤ 96 := by have := hS.2; omega
        have hv : ∀ i, kSpv c (kSpz c p cl x0 x2 N i) ≤ 8 := fun i => by
          unfold kSpv
          exact Nat.le_trans (kCnt_le _) hn.2.2.2
        refine q_ok (W := jW_109) (W' := jW_295) (kSpa (fun i => kSpv c (kSpz c p cl x0 x2 N i)) (fun i => (kSpz c p cl x0 x2 N i).2.1) K x4) h (jgl_g ?_) ?_ (fun k j h => by unfold jW_109 at h; unfold kQ kQS kQT kQR; omega) (fun M hM => ?_) (fun k j h => by unfold jW_295 at h; unfold kQ kQS kQT kQR; omega)
        · unfold kSpa
          have b1 := kSpl_b hv K
          have b2 := kSph_b hv K
          split
          · exact ⟨by omega, by omega⟩
          · split
            · exact ⟨by omega, by omega⟩
            · exact kSpc_b K
        · show jo (jf_331 _ _ _ _ _ m) _
          unfold jf_331
          refine wr0 ?_
          unfold jf_185
          rw [ck_R hQ, sp_184y hS, jsb, if_pos rfl, ck_R hR]
          refine jo_c (R := fun t => t.1 = kSpl (fun i => kSpv c (kSpz c p cl x0 x2 N i)) K ∧ t.2.1 = kSph (fun i => kSpv c (kSpz c p cl x0 x2 N i)) K ∧ t.2.2.1 = kSpc (fun i => (kSpz c p cl x0 x2 N i).2.1) K ∧ jfr true jW_109 m t.2.2.2) ?_ (fun t ht => ?_)
          · refine jo_for K jfu (fun i (s : Int × Int × Int × Int × jm) => s.1 = kSpl (fun i => kSpv c (kSpz c p cl x0 x2 N i)) i ∧ s.2.1 = kSph (fun i => kSpv c (kSpz c p cl x0 x2 N i)) i ∧ s.2.2.1 = kSpc (fun i => (kSpz c p cl x0 x2 N i).2.1) i ∧ s.2.2.2.1 = (i : Int) ∧ jfr true jW_109 m s.2.2.2.2) (jfu_lt (by omega)) (fun i hi s hs => ?_) (fun s hs => ?_) _ ⟨rfl, rfl, rfl, rfl, jfr_r⟩
            · obtain ⟨s1, s2, s3, s4, s5⟩ := hs
              rw [s1, s2, s3, s4, if_pos (show (i : Int) < (K : Int) by omega)]
              have HK2 := kK_fr HK s5 (fun k j hk => by unfold jW_109 at hk; unfold kQK; omega)
              refine jo_c (jo_and (sl_109 (fog := x2) HK2 (jg_w (x := x0 + (i : Int))) hN) jx_109) (fun r hr => ?_)
              obtain ⟨hz, hf⟩ := hr
              unfold jf_112
              rw [sp_85 hz.1, jsb, jsb, sp_333 (Nat.lt_of_lt_of_le (kB_lt _) (Nat.pow_le_pow_right (by decide) hn.2.2.2 : 2 ^ c 11 3 ≤ 2 ^ 8)), jsb, kCnt_B hn.2.2.2, hz.2.2.1, jite_some, jsb]
              exact ⟨rfl, rfl, rfl, by show jw ((i : Int) + 1) = _; rw [jwn (by omega)], jfr_tr s5 hf⟩
            · obtain ⟨s1, s2, s3, s4, s5⟩ := hs
              rw [s4, if_neg (show ¬ (K : Int) < (K : Int) by omega)]
              exact ⟨s1, s2, s3, s5⟩
          · obtain ⟨t1, t2, t3, t4⟩ := ht
            unfold kSpa
            by_cases e0 : x4 = 0
            · rw [if_pos e0, if_pos e0]; exact ⟨t1, rfl, t4⟩
            · rw [if_neg e0, if_neg e0]
              by_cases e1 : x4 = 1
              · rw [if_pos e1, if_pos e1, jsb]; exact ⟨t2, rfl, t4⟩
              · rw [if_neg e1, if_neg e1, jsb]; exact ⟨t3, rfl, t4⟩
        · show jo (jf_297 _ _ _ _ _ M) _
          unfold jf_297
          have hC' := kCm_Q hM hC
          have hP' := kPm_Q hM hP
          have hL' := kLm_Q hM hL
          rw [jle_eq, sp_247, if_pos hQ, jsb, if_neg Int.one_ne_zero, sp_294y hS, jsb, if_neg Int.one_ne_zero, sp_247, if_pos hR, jsb, if_neg Int.one_ne_zero, jsb, mk_A th0 (jg_c rfl) (by decide) Int.one_ne_zero]
          refine jo_c (R := fun t => t.1 = kSpl (fun i => kSpv c (kSpz c p cl x0 x2 N i)) K ∧ t.2.1 = kSph (fun i => kSpv c (kSpz c p cl x0 x2 N i)) K ∧ t.2.2.1 = kSpc (fun i => (kSpz c p cl x0 x2 N i).2.1) K ∧ jfr true jW_295 (js M 67 0 0) t.2.2.2) ?_ (fun t ht => ?_)
          · refine jo_for K jfu (fun i (s : Int × Int × Int × Int × jm) => s.1 = (if i = 0 then -1 else kSpl (fun i => kSpv c (kSpz c p cl x0 x2 N i)) i) ∧ s.2.1 = kSph (fun i => kSpv c (kSpz c p cl x0 x2 N i)) i ∧ s.2.2.1 = kSpc (fun i => (kSpz c p cl x0 x2 N i).2.1) i ∧ s.2.2.2.1 = (i : Int) ∧ jfr true jW_295 (js M 67 0 0) s.2.2.2.2) (jfu_lt (by omega)) (fun i hi s hs => ?_) (fun s hs => ?_) _ ⟨rfl, rfl, rfl, rfl, jfr_r⟩
            · obtain ⟨s1, s2, s3, s4, s5⟩ := hs
              rw [s1, s2, s3, s4, if_pos (show (i : Int) < (K : Int) by omega)]
              have hM2 : kEq kQS m s.2.2.2.2 := kEq_t (kEq_js hM (by unfold kQS; omega)) (kEq_fr s5 (fun k j hk hw => by unfold jW_295 at hw; unfold kQS at hk; omega))
              have e : kEq kQM (js s.2.2.2.2 67 0 0) s.2.2.2.2 := fun k j hk => by rw [ja_js, if_neg (by unfold kQM at hk; omega)]
              have H' : kM (kT0 s.2.2.2.2) c p cl := kM_T0 HK.1 HK.2.1 HK.2.2.1 (kCm_eq e (kCm_Q hM2 hC)) (kPm_eq (fun j => by rw [ja_jsk (by decide)]) (kPm_Q hM2 hP)) (kLm_eq e (kLm_Q hM2 hL))
              refine jo_c (jo_and (sl_295 (fog := x2) H' (jg_w (x := x0 + (i : Int))) hN) jx_295) (fun r hr => ?_)
              obtain ⟨hz, hf⟩ := hr
              have hb := hv i
              have hlo := kSpl_b hv i
              have hcn : kCnt (fun e => (kB (fun l => decide ((kZr c cl x2 (jw (x0 + (i : Int)), 0, 0, 0, p) N).2.2.2.2 7 l = 1)) (c 11 3)).testBit e) (c 11 3) = kSpv c (kSpz c p cl x0 x2 N i) := by
                unfold kSpv kSpz
                refine kCnt_ext _ (fun j hj => ?_)
                rw [kB_tb, decide_eq_true hj, Bool.true_and]
              rw [sp_248 hz.1, jsb, sp_279 (kB_lt _) (by omega), jsb, hcn, hz.2.2.1]
              have hl1 : (if (if i = 0 then (-1 : Int) else kSpl (fun i => kSpv c (kSpz c p cl x0 x2 N i)) i) = -1 then some ((kSpv c (kSpz c p cl x0 x2 N i) : Nat) : Int) else if ((kSpv c (kSpz c p cl x0 x2 N i) : Nat) : Int) < (if i = 0 then (-1 : Int) else kSpl (fun i => kSpv c (kSpz c p cl x0 x2 N i)) i) then some ((kSpv c (kSpz c p cl x0 x2 N i) : Nat) : Int) else some (if i = 0 then (-1 : Int) else kSpl (fun i => kSpv c (kSpz c p cl x0 x2 N i)) i)) = some (kSpl (fun i => kSpv c (kSpz c p cl x0 x2 N i)) (i + 1)) := by
                show _ = some (jmin (kSpl (fun i => kSpv c (kSpz c p cl x0 x2 N i)) i) ((kSpv c (kSpz c p cl x0 x2 N i) : Nat) : Int))
                unfold jmin
                by_cases hi0 : i = 0
                · rw [if_pos hi0, if_pos rfl]
                  subst hi0
                  show _ = some (if ((kSpv c (kSpz c p cl x0 x2 N 0) : Nat) : Int) < (8 : Int) then _ else (8 : Int))
                  split
                  · rfl
                  · congr 1; omega
                · rw [if_neg hi0, if_neg (by omega)]
                  split <;> rfl
              rw [hl1, jsb, jite_some, jsb, jite_some, jsb]
              refine ⟨?_, rfl, rfl, by show jw ((i : Int) + 1) = _; rw [jwn (by omega)], jfr_tr s5 hf⟩
              rw [if_neg (show ¬ i + 1 = 0 by omega)]
            · obtain ⟨s1, s2, s3, s4, s5⟩ := hs
              rw [s4, if_neg (show ¬ (K : Int) < (K : Int) by omega)]
              rw [if_neg (show ¬ K = 0 by omega)] at s1
              exact ⟨s1, s2, s3, s5⟩
          · obtain ⟨t1, t2, t3, t4⟩ := ht
            unfold kSpa
            by_cases e0 : x4 = 0
            · rw [if_pos e0, if_pos e0]; exact ⟨t1, t4⟩
            · rw [if_neg e0, if_neg e0]
              by_cases e1 : x4 = 1
              · rw [if_pos e1, if_pos e1]; exact ⟨t2, t4⟩
              · rw [if_neg e1, if_neg e1]; exact ⟨t3, t4⟩
      · refine rf_A (w := 1) h (jg_c rfl) (by decide) ?_ (fun M hM => ?_)
        · show jf_331 _ _ _ _ _ m = _
          unfold jf_331 jf_185
          rw [ck_R hQ, sp_184y hS, jsb, if_pos rfl, ck_Rr hR]; rfl
        · show jf_297 _ _ _ _ _ M = _
          unfold jf_297
          rw [jle_eq, sp_247, if_pos hQ, jsb, if_neg Int.one_ne_zero, sp_294y hS, jsb, if_neg Int.one_ne_zero, sp_247, if_neg hR, jsb, if_pos rfl, jsb, mk_Ar th0 (jg_c rfl) (by decide) rfl]
    · refine rf_A (w := 1) h (jg_c rfl) (by decide) ?_ (fun M hM => ?_)
      · show jf_331 _ _ _ _ _ m = _
        unfold jf_331 jf_185
        rw [ck_R hQ, sp_184n hS, jsb, if_neg (by simp)]; rfl
      · show jf_297 _ _ _ _ _ M = _
        unfold jf_297
        rw [jle_eq, sp_247, if_pos hQ, jsb, if_neg Int.one_ne_zero, sp_294n hS, jsb, if_pos rfl, jsb, mk_Ar th0 (jg_c rfl) (by decide) rfl]
  · refine rf_A (w := 1) h (jg_c rfl) (by decide) ?_ (fun M hM => ?_)
    · show jf_331 _ _ _ _ _ m = _
      unfold jf_331 jf_185
      rw [ck_Rr hQ]; rfl
    · show jf_297 _ _ _ _ _ M = _
      unfold jf_297
      rw [jle_eq, sp_247, if_neg hQ, jsb, if_pos rfl, jsb, mk_Ar th0 (jg_c rfl) (by decide) rfl]
