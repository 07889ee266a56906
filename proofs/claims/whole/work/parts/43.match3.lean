/-! MATCH and MATCHED; questions without refusals. -/
theorem q_oke {A B : jm → Option (Int × jm)} {m : jm} {W W' : Nat → Nat → Prop} (r : Int) (h : Inv m) (hA : jo (A m) (fun p => p.1 = r ∧ jfr true W m p.2)) (hW : ∀ k j, W k j → ¬ kQ k j) (hB : ∀ M, kEq kQS m M → jo (B M) (fun p => p.1 = r ∧ jfr true W' (js M 67 0 0) p.2)) (hW' : ∀ k j, W' k j → ¬ kQ k j) : kSe A B m := by
  unfold kSe
  refine jo_mono hA (fun p hp => ?_)
  have hI : Inv p.2 := Inv_fr h hp.2 hW
  refine jo_mono (hB p.2 (kEq_fr hp.2 (fun k j hk hw => hW k j hw (Or.inl hk)))) (fun p' hp' => ?_)
  exact ⟨by rw [hp.1, hp'.1], Inv_fr (Inv_th hI) hp'.2 hW'⟩
theorem q_okp {A : jm → Option Int} {B : jm → Option (Int × jm)} {m : jm} {W' : Nat → Nat → Prop} (r : Int) (h : Inv m) (hA : A m = some r) (hB : jo (B m) (fun p => p.1 = r ∧ jfr true W' (js m 67 0 0) p.2)) (hW' : ∀ k j, W' k j → ¬ kQ k j) : kSp A B m := by
  unfold kSp
  rw [hA]
  show jo (B m) _
  refine jo_mono hB (fun p' hp' => ?_)
  exact ⟨by rw [hp'.1], Inv_fr (Inv_th h) hp'.2 hW'⟩
theorem sy_25 {m : jm} (h : Inv m) : kSe (fun m => jf_145 m) (fun m => jf_284 m) m := by
  obtain ⟨c, p, cl, HK, hC, hP, hL, hB⟩ := Inv_K h
  refine q_oke (W := jW_43) (W' := jW_285) (kMo (kAb c p cl) (c 11 2) (c 11 3) (c 11 3) 0) h ?_ (fun k j h => by unfold jW_43 at h; unfold kQ kQS kQT kQR; omega) (fun M hM => ?_) (fun k j h => by unfold jW_285 at h; unfold kQ kQS kQT kQR; omega)
  · show jo (jf_145 m) _
    unfold jf_145
    rw [jo_bind]
    exact jo_mono (sl_43 HK) (fun r hr => ⟨hr.1, hr.2.2⟩)
  · show jo (jf_284 M) _
    unfold jf_284
    have H' := kM_T0 HK.1 HK.2.1 HK.2.2.1 (kCm_Q hM hC) (kPm_Q hM hP) (kLm_Q hM hL)
    rw [jle_eq, jo_bind]
    refine jo_mono (sl_285 H') (fun r hr => ?_)
    rw [if_pos (by decide)]
    exact ⟨hr.1, hr.2.2⟩
theorem sy_26 {m : jm} {x0 : Int} (hx0 : jg x0) (h : Inv m) : kSy (fun m => jf_325 x0 m) (fun m => jf_286 x0 m) m := by
  obtain ⟨c, p, cl, HK, hC, hP, hL, hB⟩ := Inv_K h
  have hn := HK.1.1
  have n0 := kK_n HK (i := 0) (by decide)
  have n1 := kK_n HK (i := 1) (by decide)
  have n2 := kK_n HK (i := 2) (by decide)
  have n3 := kK_n HK (i := 3) (by decide)
  by_cases hE : 0 ≤ x0 ∧ x0 < (c 11 3 : Int)
  · obtain ⟨v0, rfl⟩ := Int.eq_ofNat_of_zero_le hE.1
    have hv0 : v0 < c 11 3 := by omega
    have hcb := kCh_b (ab := kAb c p cl) (W := c 11 2) (N := c 11 3) (l := v0) (tk := kTk (kAb c p cl) (c 11 2) (c 11 3) v0)
    refine q_ok (W := jW_43) (W' := jW_285) (kCh (kAb c p cl) (c 11 2) (c 11 3) v0 (kTk (kAb c p cl) (c 11 2) (c 11 3) v0)) h (⟨by omega, by omega⟩) ?_ (fun k j h => by unfold jW_43 at h; unfold kQ kQS kQT kQR; omega) (fun M hM => ?_) (fun k j h => by unfold jW_285 at h; unfold kQ kQS kQT kQR; omega)
    · show jo (jf_325 _ m) _
      unfold jf_325
      refine wr0 ?_
      unfold jf_177
      rw [ck_E n3 (by omega) hv0]
      dsimp only
      refine jo_c (sl_43 HK) (fun r hr => ?_)
      rw [if_pos (show 0 ≤ (v0 : Int) ∧ (v0 : Int) < 8 by omega), Int.toNat_natCast, hr.2.1 v0 hv0]
      exact ⟨rfl, rfl, hr.2.2⟩
    · show jo (jf_286 _ M) _
      unfold jf_286
      have hC' := kCm_Q hM hC
      have hP' := kPm_Q hM hP
      rw [jle_eq, mk_258 th0 (hC'.1 3 (by decide)) (by omega) (jg_c rfl) (by decide) hv0]
      have H' := kM_T0 HK.1 HK.2.1 HK.2.2.1 hC' hP' (kLm_Q hM hL)
      dsimp only
      refine jo_c (sl_285 H') (fun r hr => ?_)
      rw [if_pos (show 0 ≤ (v0 : Int) ∧ (v0 : Int) < 8 by omega), Int.toNat_natCast, hr.2.1 v0 hv0]
      exact ⟨rfl, hr.2.2⟩
  · refine rf_E (w := 1) h (jg_c rfl) (by decide) ?_ (fun M hM => ?_)
    · show jf_325 _ m = _
      unfold jf_325 jf_177
      rw [ck_Er n3 (by omega) hE]; rfl
    · show jf_286 _ M = _
      unfold jf_286
      have hC' := kCm_Q hM hC
      rw [jle_eq, mk_258r th0 (hC'.1 3 (by decide)) (by omega) (jg_c rfl) (by decide) hE]
