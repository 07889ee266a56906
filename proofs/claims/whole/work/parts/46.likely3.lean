/-! LIKELY: the operation. -/
theorem q_okf {A B : jm → Option (Int × jm)} {m : jm} {W W' : Nat → Nat → Prop} (r : Int) (h : Inv m) (hr : jgl r) (hA : jo (A m) (fun p => p.1 = 0 ∧ ∃ m1, p.2 = jsl m1 102 0 r ∧ jfr false W m m1)) (hW : ∀ k j, W k j → ¬ kQ k j) (hB : ∀ M, kEq kQS m M → jo (B M) (fun p => p.1 = r ∧ jfr true W' (js M 67 0 0) p.2)) (hW' : ∀ k j, W' k j → ¬ kQ k j ∧ ¬ (k = 67 ∧ j = 0)) : kSy A B m := by
  unfold kSy
  refine jo_mono hA (fun p hp => ?_)
  obtain ⟨p0, m1, p1, hf⟩ := hp
  have hI : Inv m1 := Inv_fr h hf hW
  rw [p1]
  refine jo_mono (hB (jsl m1 102 0 r) (kEq_jsl (kEq_fr hf (fun k j hk hw => hW k j hw (Or.inl hk))))) (fun p' hp' => ?_)
  obtain ⟨b1, b2⟩ := hp'
  refine ⟨?_, fun _ => ?_, by rw [b1]; exact hr, Inv_fr (Inv_th (Inv_jsl hI)) b2 (fun k j hk => (hW' k j hk).1)⟩
  · have : ja p'.2 67 0 = ja (js (jsl m1 102 0 r) 67 0 0) 67 0 := by
      unfold ja; rw [b2.1 67 0 (fun e => (hW' _ _ e).2 ⟨rfl, rfl⟩)]
    rw [this, th0, p0]
  · unfold jal
    rw [b2.2 rfl, b1]
    show (if (102 : Nat) = 102 ∧ (0 : Nat) = 0 then Int64.ofInt r else m1.2 102 0).toInt = r
    rw [if_pos ⟨rfl, rfl⟩, jt_gl hr]
theorem wr0f {x : Option (Int × Nat × jm)} {r : Int} {W : Nat → Nat → Prop} {m : jm} {F : Int × Nat × jm → Option (Int × jm)} (h : jo x (fun p => p.1 = r ∧ p.2.1 = 0 ∧ jfr false W m p.2.2)) : jo (x.bind fun p1 => if p1.2.1 = 0 then jle (jsl p1.2.2 102 0 p1.1) fun m2 => some ((0 : Int), m2) else F p1) (fun p => p.1 = 0 ∧ ∃ m1, p.2 = jsl m1 102 0 r ∧ jfr false W m m1) := by
  rw [jo_bind]
  refine jo_mono h (fun p hp => ?_)
  rw [if_pos hp.2.1]
  exact ⟨rfl, p.2.2, by rw [← hp.1], hp.2.2⟩
theorem p16_2 {n : Nat} : 16 ^ n = 2 ^ (4 * n) := by rw [Nat.pow_mul]
theorem kLy_b {c : kC} {p : kP} {cl : List Int} {w q t : Nat} (hq : q ≤ 16) : (kLy c p cl w q t).1 ≤ 268435456 ∧ (kLy c p cl w q t).2 ≤ 268435456 := by
  have hwb := kWy_b (c := c) (p := p) (cl := cl) (w := w) (t := t)
  unfold kLy
  split
  · exact ⟨by decide, by decide⟩
  · rw [p16_2, kHv_g _ 32 _ (by omega), ← p16_2]
    exact ⟨Nat.le_trans (Nat.div_le_self _ _) (kUp_s hq (by omega)), Nat.le_trans (Nat.div_le_self _ _) (p16 (by omega))⟩
theorem sy_27 {m : jm} {x0 x1 x2 x3 : Int} (hx0 : jg x0) (hx1 : jg x1) (hx2 : jg x2) (hx3 : jg x3) (h : Inv m) : kSy (fun m => jf_326 x0 x1 x2 x3 m) (fun m => jf_287 x0 x1 x2 x3 m) m := by
  obtain ⟨c, p, cl, HK, hC, hP, hL, hB⟩ := Inv_K h
  have hn := HK.1.1
  have n0 := kK_n HK (i := 0) (by decide)
  have n2 := kK_n HK (i := 2) (by decide)
  by_cases hE : (0 ≤ x0 ∧ x0 < (c 11 2 : Int)) ∧ (0 ≤ x1 ∧ x1 < (c 11 0 : Int))
  · obtain ⟨w, rfl⟩ := Int.eq_ofNat_of_zero_le hE.1.1
    have hw : w < c 11 2 := by omega
    obtain ⟨t, rfl⟩ := Int.eq_ofNat_of_zero_le hE.2.1
    have ht : t < c 11 0 := by omega
    by_cases hG : (0 ≤ x2 ∧ x2 ≤ 16) ∧ (0 ≤ x3 ∧ x3 ≤ 1)
    · obtain ⟨q, rfl⟩ := Int.eq_ofNat_of_zero_le hG.1.1
      have hq : q ≤ 16 := by omega
      have hlb := kLy_b (c := c) (p := p) (cl := cl) (w := w) (t := t) hq
      have hwb := kWy_b (c := c) (p := p) (cl := cl) (w := w) (t := t)
      refine q_okf (W := jW_138) (W' := fun k j => jW_226 k j ∨ jW_230 k j ∨ jW_265 k j) (((if x3 = 0 then (kLy c p cl w q t).1 else (kLy c p cl w q t).2 : Nat)) : Int) h ?_ ?_ (fun k j h => by unfold jW_138 at h; unfold kQ kQS kQT kQR; omega) (fun M hM => ?_) (fun k j h => by unfold jW_226 jW_230 jW_265 at h; unfold kQ kQS kQT kQR; omega)
      · split <;> exact ⟨by omega, by omega⟩
      · show jo (jf_326 _ _ _ _ m) _
        unfold jf_326
        refine wr0f ?_
        unfold jf_178
        rw [ck_B n2 (by omega) n0 (by omega) hw ht]
        dsimp only
        simp only [sp_153, jsb, an0, an1]
        rw [ck_A (if10 hG)]
        dsimp only
        refine jo_c (sl_138 HK hw ht hq) (fun r hr => ?_)
        rw [hr.1, hr.2.1]
        by_cases h3 : x3 = 0
        · rw [if_pos h3, if_pos h3]; exact ⟨rfl, rfl, hr.2.2⟩
        · rw [if_neg h3, if_neg h3]; exact ⟨rfl, rfl, hr.2.2⟩
      · show jo (jf_287 _ _ _ _ M) _
        unfold jf_287
        have hC' := kCm_Q hM hC
        have hP' := kPm_Q hM hP
        have H' := kM_T0 HK.1 HK.2.1 HK.2.2.1 hC' hP' (kLm_Q hM hL)
        rw [jle_eq, mk_256 th0 (hC'.1 2 (by decide)) (by omega) (jg_c rfl) (by decide) hw, mk_252 th0 (hC'.1 0 (by decide)) (by omega) (jg_c rfl) (by decide) ht]
        dsimp only
        simp only [sp_247, jsb, an0, an1]
        rw [mk_A th0 (jg_c rfl) (by decide) (if10 hG)]
        dsimp only
        rw [sp_226, jsb]
        refine jo_c (sl_230 (w := (w : Int)) H') (fun m2 h2 => ?_)
        have H1 := kMa_230 H' h2
        have hf0 : jfr true (fun k j => jW_226 k j ∨ jW_230 k j ∨ jW_265 k j) (js M 67 0 0) m2 := jfr_t (jfr_t jfr_r jfr_T0 (fun e => e) (fun k j hk => Or.inl hk)) h2.2 (fun e => e) (fun k j hk => Or.inr (Or.inl hk))
        rw [jw24 (by omega), tn24, kM_s2 H1.1 hw, if_pos (show 0 ≤ (24 : Int) + (w : Int) ∧ (24 : Int) + (w : Int) < 68 by omega)]
        have e01 : kWy c p cl w t = -1 → x3 = (((if x3 = 0 then (kLy c p cl w q t).1 else (kLy c p cl w q t).2 : Nat)) : Int) := fun hd => by
          unfold kLy
          rw [if_pos hd]
          split <;> omega
        by_cases hf : p 2 w = -1
        · rw [if_pos hf]
          exact ⟨e01 (by unfold kWy; rw [if_pos hf]), hf0⟩
        obtain ⟨q1, q2⟩ := kP2_b HK.2.1 hw hf
        have eW : kWy c p cl w t = kDs (kG c p cl w (kHw c p w)) (c 11 0) (p 2 w).toNat t := by unfold kWy; rw [if_neg hf]
        have h264 := sl_264 H1 hw q2 ht
        rw [← q1, ← eW] at h264
        rw [if_neg hf, if_pos (show 0 ≤ (24 : Int) + (w : Int) ∧ (24 : Int) + (w : Int) < 68 by omega)]
        refine jo_c h264 (fun r hr => ?_)
        obtain ⟨b1, b2, b3⟩ := hr
        have H2 := kM_265 H1 b3
        have hf1 : jfr true (fun k j => jW_226 k j ∨ jW_230 k j ∨ jW_265 k j) (js M 67 0 0) r.2 := jfr_t hf0 b3 (fun e => e) (fun k j hk => Or.inr (Or.inr hk))
        rw [b1]
        by_cases hd : kWy c p cl w t = -1
        · rw [if_pos hd]; exact ⟨e01 hd, hf1⟩
        rw [if_neg hd, if_pos (show 0 ≤ (24 : Int) + (w : Int) ∧ (24 : Int) + (w : Int) < 68 by omega), kM_s2 H2.1 hw]
        have ewt : kWy c p cl w t = (((kWy c p cl w t).toNat : Nat) : Int) := by omega
        refine jo_c (R := fun (z : Int × Int × jm) => z.1 = ((kUp (kFa c p cl w q t) (kWy c p cl w t).toNat : Nat) : Int) ∧ z.2.1 = ((16 ^ (kWy c p cl w t).toNat : Nat) : Int) ∧ jfr true (fun k _ => k = 85 ∨ k = 84) r.2 z.2.2) ?_ (fun z hz => ?_)
        · refine jo_for (kWy c p cl w t).toNat jfu (fun k (s : Int × Int × Int × jm) => s.2.2.1 = ((kPos (kG c p cl w (kHw c p w)) (c 11 0) (p 2 w).toNat t k : Nat) : Int) ∧ s.1 = ((kUp (kFa c p cl w q t) k : Nat) : Int) ∧ s.2.1 = ((16 ^ k : Nat) : Int) ∧ jfr true (fun k _ => k = 85 ∨ k = 84) r.2 s.2.2.2) (jfu_lt (by omega)) ?_ ?_ _ ⟨q1, rfl, rfl, jfr_r⟩
          · intro k hk s hs
            obtain ⟨up, bl, at_, m'⟩ := s
            obtain ⟨g1, g2, g3, g4⟩ := hs
            dsimp only at g1 g2 g3 g4 ⊢
            subst g1 g2 g3
            obtain ⟨s1, s2, s3, s4, s5⟩ := kPos_st (cl := cl) hn.1 HK.2.1 hw ht hf (show (k : Int) < kWy c p cl w t by omega)
            have H3 := kMa_fr H2 g4 (fun k j hk => by unfold kQM; omega)
            have hlb3 : kLbs m' (kG c p cl w (kHw c p w)) (c 11 0) t := fun v hv => by rw [ja_fr g4 (by omega)]; exact b2 v hv
            have hne : ¬ ((kPos (kG c p cl w (kHw c p w)) (c 11 0) (p 2 w).toNat t k : Nat) : Int) = (t : Int) := fun e => by
              have e2 : kPos (kG c p cl w (kHw c p w)) (c 11 0) (p 2 w).toNat t k = t := by omega
              have := kDs_0 (G := kG c p cl w (kHw c p w)) (T := c 11 0) (a := kPos (kG c p cl w (kHw c p w)) (c 11 0) (p 2 w).toNat t k) (b := t)
              have := this.2 e2
              omega
            have hu := kUp_s (c := c) (p := p) (cl := cl) (w := w) (t := t) (k := k) hq (by omega)
            have hu1 : kUp (kFa c p cl w q t) k * kFa c p cl w q t k ≤ 268435456 := kUp_s (c := c) (p := p) (cl := cl) (w := w) (t := t) (k := k + 1) hq (by omega)
            have hp := p16 (k := k) (by omega)
            rw [if_neg hne]
            refine jo_c (sl_268 H3 hw s1 hlb3 s3) (fun r3 hr3 => ?_)
            obtain ⟨c1, c2⟩ := hr3
            rw [s4] at c1
            have H4 := kMa_fr H3 c2 (fun k j hk => by unfold jW_268 at hk; unfold kQM; omega)
            obtain ⟨e, he, hJ⟩ := kG_jo s5
            rw [c1, sp_235 H4.1, jsb, hJ]
            have d1 : jw ((2 : Int) * (e : Int)) = (2 : Int) * (e : Int) := jwi (by omega) (by omega)
            have t1 : ((2 : Int) * (e : Int)).toNat = 2 * e := by omega
            rw [d1, t1, if_pos (show 0 ≤ (2 : Int) * (e : Int) ∧ (2 : Int) * (e : Int) < 24 by omega), kM_A H4.1 he, jite_some, jsb]
            have hPa : kFa c p cl w q t k = (if kOv c w (kLn c p cl w e (if (c 1 e : Int) = ((kPos (kG c p cl w (kHw c p w)) (c 11 0) (p 2 w).toNat t k : Nat) : Int) then 0 else 1) 0 (kHw c p w)) = true then 16 - q else 0) + (if kOv c w (kLn c p cl w e (if (c 1 e : Int) = ((kPos (kG c p cl w (kHw c p w)) (c 11 0) (p 2 w).toNat t k : Nat) : Int) then 0 else 1) 1 (kHw c p w)) = true then q else 0) := by
              unfold kFa kPa
              rw [hJ, Int.toNat_natCast]
            generalize (if (c 1 e : Int) = ((kPos (kG c p cl w (kHw c p w)) (c 11 0) (p 2 w).toNat t k : Nat) : Int) then (0 : Int) else 1) = how at hPa
            have h236 := sl_236 (how := how) (fog := 1) H4.1 hw he (jg_c rfl)
            rw [H4.2] at h236
            refine jo_c h236 (fun r4 hr4 => ?_)
            have H5 := kMa_fr H4 hr4.2 (fun k j hk => by unfold jW_236 at hk; unfold kQM; omega)
            have e1 : (if r4.1 = 0 then some (0 : Int) else some (q : Int)) = some (((if kOv c w (kLn c p cl w e how 1 (kHw c p w)) = true then q else 0 : Nat)) : Int) := by
              rw [hr4.1]
              cases kOv c w (kLn c p cl w e how 1 (kHw c p w)) <;> rfl
            rw [e1, jsb]
            have h236' := sl_236 (how := how) (fog := 0) H5.1 hw he jg_0
            rw [H5.2] at h236'
            refine jo_c h236' (fun r5 hr5 => ?_)
            have e2 : (if r5.1 = 0 then some (0 : Int) else some (jw (16 - (q : Int)))) = some (((if kOv c w (kLn c p cl w e how 0 (kHw c p w)) = true then 16 - q else 0 : Nat)) : Int) := by
              rw [hr5.1]
              cases kOv c w (kLn c p cl w e how 0 (kHw c p w))
              · rfl
              · rw [if_pos (rfl : true = true), if_neg (by decide), if_pos (rfl : true = true), jwi (by omega) (by omega)]; congr 1; omega
            rw [e2, jsb]
            have hfb := kFa_b (c := c) (p := p) (cl := cl) (w := w) (t := t) hq k
            have esum : jw ((((if kOv c w (kLn c p cl w e how 1 (kHw c p w)) = true then q else 0 : Nat)) : Int) + (((if kOv c w (kLn c p cl w e how 0 (kHw c p w)) = true then 16 - q else 0 : Nat)) : Int)) = ((kFa c p cl w q t k : Nat) : Int) := by
              rw [← Int.natCast_add, Nat.add_comm, ← hPa, jw_nat (by omega)]
            rw [esum]
            refine ⟨rfl, ?_, ?_, ?_⟩
            · show jwl (((kUp (kFa c p cl w q t) k : Nat) : Int) * ((kFa c p cl w q t k : Nat) : Int)) = ((kUp (kFa c p cl w q t) k * kFa c p cl w q t k : Nat) : Int)
              rw [← Int.natCast_mul, jwl_n (by omega)]
            · show jwl (((16 ^ k : Nat) : Int) * 16) = ((16 ^ k * 16 : Nat) : Int)
              rw [show ((16 ^ k : Nat) : Int) * 16 = ((16 ^ k * 16 : Nat) : Int) from (Int.natCast_mul _ 16).symm, jwl_n (by omega)]
            · exact jfr_t (jfr_t (jfr_t g4 c2 (fun e => e) (fun k j hk => hk)) hr4.2 (fun e => e) (fun k j hk => hk)) hr5.2 (fun e => e) (fun k j hk => hk)
          · intro s hs
            obtain ⟨up, bl, at_, m'⟩ := s
            obtain ⟨g1, g2, g3, g4⟩ := hs
            dsimp only at g1 g2 g3 g4 ⊢
            have hpd := kPos_d (G := kG c p cl w (kHw c p w)) hn.1 q2 ht (kWy c p cl w t).toNat (by omega)
            have hz := (kDs_0 (G := kG c p cl w (kHw c p w)) (T := c 11 0) (a := kPos (kG c p cl w (kHw c p w)) (c 11 0) (p 2 w).toNat t (kWy c p cl w t).toNat) (b := t)).1 (by omega)
            rw [if_pos (by rw [g1, hz])]
            exact ⟨g2, g3, g4⟩
        · obtain ⟨z1, z2, z3⟩ := hz
          have hu := kUp_s (c := c) (p := p) (cl := cl) (w := w) (t := t) (k := (kWy c p cl w t).toNat) hq (by omega)
          have hp := p16 (k := (kWy c p cl w t).toNat) (by omega)
          rw [z1, z2, sp_288 (by omega) (Nat.lt_of_le_of_lt hp (by decide)) (Nat.pow_pos (by decide)), jsb]
          refine ⟨?_, jfr_t hf1 z3 (fun e => e) (fun k j hk => by unfold jW_226 jW_230 jW_265; omega)⟩
          have eL : kLy c p cl w q t = (kUp (kFa c p cl w q t) (kWy c p cl w t).toNat / Nat.gcd (kUp (kFa c p cl w q t) (kWy c p cl w t).toNat) (16 ^ (kWy c p cl w t).toNat), 16 ^ (kWy c p cl w t).toNat / Nat.gcd (kUp (kFa c p cl w q t) (kWy c p cl w t).toNat) (16 ^ (kWy c p cl w t).toNat)) := by
            unfold kLy
            rw [if_neg hd, p16_2, kHv_g _ 32 _ (by omega)]
          rw [eL]
          by_cases h3 : x3 = 0
          · rw [if_pos h3, if_pos h3]
          · rw [if_neg h3, if_neg h3]
    · refine rf_A (w := 2) h (jg_c rfl) (by decide) ?_ (fun M hM => ?_)
      · show jf_326 _ _ _ _ m = _
        unfold jf_326 jf_178
        rw [ck_B n2 (by omega) n0 (by omega) hw ht]
        dsimp only
        simp only [sp_153, jsb, an0, an1]
        rw [ck_Ar (if_neg hG)]; rfl
      · show jf_287 _ _ _ _ M = _
        unfold jf_287
        have hC' := kCm_Q hM hC
        rw [jle_eq, mk_256 th0 (hC'.1 2 (by decide)) (by omega) (jg_c rfl) (by decide) hw, mk_252 th0 (hC'.1 0 (by decide)) (by omega) (jg_c rfl) (by decide) ht]
        dsimp only
        simp only [sp_247, jsb, an0, an1]
        rw [mk_Ar th0 (jg_c rfl) (by decide) (if_neg hG)]
  · refine rf_E (w := 1) h (jg_c rfl) (by decide) ?_ (fun M hM => ?_)
    · show jf_326 _ _ _ _ m = _
      unfold jf_326 jf_178
      rw [ck_Br n2 (by omega) n0 (by omega) hE]; rfl
    · show jf_287 _ _ _ _ M = _
      unfold jf_287
      have hC' := kCm_Q hM hC
      by_cases hE1 : 0 ≤ x0 ∧ x0 < (c 11 2 : Int)
      · obtain ⟨w, rfl⟩ := Int.eq_ofNat_of_zero_le hE1.1
        have hw : w < c 11 2 := by omega
        rw [jle_eq, mk_256 th0 (hC'.1 2 (by decide)) (by omega) (jg_c rfl) (by decide) hw, mk_252r th0 (hC'.1 0 (by decide)) (by omega) (jg_c rfl) (by decide) (by omega)]
      · rw [jle_eq, mk_256r th0 (hC'.1 2 (by decide)) (by omega) (jg_c rfl) (by decide) hE1]
