/-! LAW: the operation, both. -/
theorem sy_2 {m : jm} {x0 : Int} (hx0 : jg x0) (h : Inv m) : kSy (fun m => jf_305 x0 m) (fun m => jf_213 x0 m) m := by
  obtain ⟨⟨c, cl, h1, h2, h3, h4, h5, h6, h7, h8, h9, h10, h11⟩, ⟨L, t1, t2, t3, t4, t5⟩, hR⟩ := id h
  by_cases hX : 0 ≤ x0 ∧ x0 ≤ jmin 150 (ja m 1 1)
  · obtain ⟨X, rfl⟩ := Int.eq_ofNat_of_zero_le hX.1
    have hj : jmin 150 (L : Int) ≤ 150 ∧ jmin 150 (L : Int) ≤ L := by unfold jmin; split <;> omega
    have hXL : X ≤ L ∧ X ≤ 150 := by have := hX.2; rw [t2] at this; omega
    obtain ⟨T1, T2, T3⟩ := kOc_T (m := m) (f := fun j => ja m 69 j) (X := X) (by omega) (fun j hj => ⟨(t4 j (by omega)).1, (t4 j (by omega)).2.1, (t4 j (by omega)).2.2⟩)
    have FO : jfr true (fun k j => k = 1 ∧ 1 ≤ j ∧ j ≤ 6) m (kOc m X) := kOc_fr
    unfold kSy
    show jo (jf_305 X m) (fun p => jo (jf_213 X p.2) _)
    unfold jf_305 jf_155
    rw [sp_151, if_pos hX, jsb, if_pos rfl, sp_115 (by omega), jsb]
    rw [jo_bind, jo_bind]
    refine jo_mono (sl_26 hXL.2 T1) (fun b hb => ?_)
    obtain ⟨hb, hf⟩ := hb
    have FB : jfr true (fun k j => (k = 1 ∧ 1 ≤ j ∧ j ≤ 6) ∨ k = 30 ∨ k = 31) m b.2 := jfr_t (jfr_t jfr_r FO (fun e => e) (fun k j h => Or.inl h)) hf (fun e => e) (fun k j h => by unfold jW_26 at h; omega)
    have b11 : ja b.2 1 1 = 0 := by rw [ja_fr hf (by unfold jW_26; omega)]; exact T2
    cases hr : kLres (fun j => ja m 69 j) X with
    | inl e =>
      obtain ⟨kd, at'⟩ := e
      rw [hr] at hb
      obtain ⟨q1, q2, q3, q4⟩ := hb
      dsimp only at q2 q3 q4
      rw [q1, if_pos rfl, q2]
      show jo (jf_213 X (jsl b.2 102 0 (jw (-10 + kd)))) _
      refine jo_mono (sl_213 (m := jsl b.2 102 0 (jw (-10 + kd))) (f := fun j => ja m 69 j) (X := X) (L := L) (by show ja b.2 67 2 = _; rw [ja_fr FB (by omega)]; exact t3) hXL.1 hXL.2 (fun j hj => ⟨by show ja b.2 69 j = _; rw [ja_fr FB (by omega)], (t4 j (by omega)).2.1, (t4 j (by omega)).2.2⟩)) (fun p' hp' => ?_)
      rw [hr] at hp'
      obtain ⟨⟨u1, u2, u3⟩, u4, u5, u6⟩ := hp'
      dsimp only at u1 u2
      have q : ∀ k j, ¬ (k = 1 ∧ 1 ≤ j ∧ j ≤ 6) → k ≠ 30 → k ≠ 31 → ¬ (k = 67 ∧ (j ≤ 8 ∨ j = 33)) → k ≠ 80 → k ≠ 81 → ja p'.2 k j = ja m k j := fun k j z1 z2 z3 z4 z5 z6 => by
        have e1 : ja p'.2 k j = ja b.2 k j := by
          by_cases z : (k = 67 ∧ j = 34) ∨ k = 82 ∨ k = 83
          · exact u3 k j z
          · have := ja_fr (k := k) (j := j) u6 (by unfold kWlm; omega)
            exact this
        rw [e1]; exact ja_fr FB (by omega)
      refine ⟨u5, fun _ => ?_, ?_, Inv_tx h (fun k j hk => q k j (by unfold kQS at hk; omega) (by unfold kQS at hk; omega) (by unfold kQS at hk; omega) (by unfold kQS at hk; omega) (by unfold kQS at hk; omega) (by unfold kQS at hk; omega)) ?_ u4 ?_ (fun k j hk => q k j (by unfold kQR at hk; omega) (by unfold kQR at hk; omega) (by unfold kQR at hk; omega) (by unfold kQR at hk; omega) (by unfold kQR at hk; omega) (by unfold kQR at hk; omega))⟩
      · unfold jal
        rw [u6.2 rfl, u1]
        show (if (102 : Nat) = 102 ∧ (0 : Nat) = 0 then Int64.ofInt (jw (-10 + kd)) else b.2.2 102 0).toInt = jw (kd - 10)
        rw [if_pos ⟨rfl, rfl⟩, jt_gl (jgl_g jg_w), show -10 + kd = kd - 10 by omega]
      · rw [u1]; exact jgl_g jg_w
      · rw [ja_fr u6 (by unfold kWlm; omega)]; exact b11
      · rw [u2, ja_fr u6 (by unfold kWlm; omega)]; exact q3
    | inr l =>
      have wl := kLres_w hXL.2 hr
      have hl := wl.1
      have l0 : 0 < l.length := by
        cases l with
        | nil => have := wl.2.2; cases this
        | cons a r => exact Nat.succ_pos _
      rw [hr] at hb
      obtain ⟨q1, q2, q4⟩ := hb
      have e33 : jf_33 b.2 = some (js (jcp b.2 (b.2.1 31) 28 0 0 150) 27 1 (l.length : Int)) := by
        unfold jf_33
        rw [if_pos (by decide), jle_eq, jle_eq, ja_jcp, if_neg (by omega), q2.1]; rfl
      rw [q1, if_neg Int.one_ne_zero, e33, jsb]
      have FC : jfr true (fun k j => ((k = 1 ∧ 1 ≤ j ∧ j ≤ 6) ∨ k = 30 ∨ k = 31) ∨ k = 28 ∨ (k = 27 ∧ j = 1)) m (js (jcp b.2 (b.2.1 31) 28 0 0 150) 27 1 (l.length : Int)) := jfr_js (jfr_jcp (jfr_t jfr_r FB (fun e => e) (fun k j h => Or.inl h)) (fun j => Or.inr (Or.inl rfl))) (Or.inr (Or.inr ⟨rfl, rfl⟩))
      have c28 : ∀ i, i < l.length → ja (js (jcp b.2 (b.2.1 31) 28 0 0 150) 27 1 (l.length : Int)) 28 i = l.getD i 0 := fun i hi => by
        rw [ja_jsk (by decide), ja_jcp, if_pos (by omega)]
        show ja b.2 31 (0 + (i - 0)) = _
        rw [Nat.zero_add, Nat.sub_zero]; exact q2.2 i hi
      have c27 : ja (js (jcp b.2 (b.2.1 31) 28 0 0 150) 27 1 (l.length : Int)) 27 1 = (l.length : Int) := by rw [ja_js1, jwi (by omega) (by omega)]
      have c11 : ja (js (jcp b.2 (b.2.1 31) 28 0 0 150) 27 1 (l.length : Int)) 1 1 = 0 := by rw [ja_jsk (by decide), ja_jcp, if_neg (by omega)]; exact b11
      have c16 : ja (js (jcp b.2 (b.2.1 31) 28 0 0 150) 27 1 (l.length : Int)) 1 6 = -1 := by rw [ja_jsk (by decide), ja_jcp, if_neg (by omega), q4]; exact T3
      generalize js (jcp b.2 (b.2.1 31) 28 0 0 150) 27 1 (l.length : Int) = C at FC c28 c27 c11 c16
      show jo (jf_213 X (jsl C 102 0 1)) _
      refine jo_mono (sl_213 (m := jsl C 102 0 1) (f := fun j => ja m 69 j) (X := X) (L := L) (by show ja C 67 2 = _; rw [ja_fr FC (by omega)]; exact t3) hXL.1 hXL.2 (fun j hj => ⟨by show ja C 69 j = _; rw [ja_fr FC (by omega)], (t4 j (by omega)).2.1, (t4 j (by omega)).2.2⟩)) (fun p' hp' => ?_)
      rw [hr] at hp'
      obtain ⟨⟨u1, u2, u3, u7⟩, u4, u5, u6⟩ := hp'
      have qC : ∀ k j, k < 67 → ja p'.2 k j = ja C k j := fun k j z => by rw [ja_fr u6 (by unfold kWlm; omega)]; rfl
      have q : ∀ k j, ¬ (k = 1 ∧ 1 ≤ j ∧ j ≤ 6) → k ≠ 30 → k ≠ 31 → k ≠ 28 → ¬ (k = 27 ∧ j = 1) → ¬ (k = 67 ∧ (j ≤ 8 ∨ j = 33 ∨ j = 34)) → ¬ (80 ≤ k ∧ k ≤ 83) → ja p'.2 k j = ja m k j := fun k j z1 z2 z3 z4 z5 z6 z7 => by
        rw [ja_fr u6 (by unfold kWlm; omega)]
        show ja C k j = _
        exact ja_fr FC (by omega)
      refine ⟨u5, fun _ => ?_, ?_, ⟨⟨c, l, h1, kCc_e (fun k j a b => q k j (by omega) (by omega) (by omega) (by omega) (by omega) (by omega) (by omega)) h2, kCm_e (fun j a b => q _ j (by omega) (by omega) (by omega) (by omega) (by omega) (by omega) (by omega)) (fun k j a b => q k j (by omega) (by omega) (by omega) (by omega) (by omega) (by omega) (by omega)) h3, kPost_e (fun j => q _ j (by omega) (by omega) (by omega) (by omega) (by omega) (by omega) (by omega)) (fun j => q _ j (by omega) (by omega) (by omega) (by omega) (by omega) (by omega) (by omega)) h4, wl, ⟨by rw [qC _ _ (by decide)]; exact c27, fun i hi => by rw [qC _ _ (by decide)]; exact c28 i hi⟩, Or.inr ⟨u3, l0, u7⟩, kBk_e (q _ _ (by omega) (by omega) (by omega) (by omega) (by omega) (by omega) (by omega)) (q _ _ (by omega) (by omega) (by omega) (by omega) (by omega) (by omega) (by omega)) (fun j => q _ j (by omega) (by omega) (by omega) (by omega) (by omega) (by omega) (by omega)) (fun j => q _ j (by omega) (by omega) (by omega) (by omega) (by omega) (by omega) (by omega)) h8, kPast_e (q _ _ (by omega) (by omega) (by omega) (by omega) (by omega) (by omega) (by omega)) (q _ _ (by omega) (by omega) (by omega) (by omega) (by omega) (by omega) (by omega)) (fun j => q _ j (by omega) (by omega) (by omega) (by omega) (by omega) (by omega) (by omega)) (fun j => q _ j (by omega) (by omega) (by omega) (by omega) (by omega) (by omega) (by omega)) h9, kImg_e (q _ _ (by omega) (by omega) (by omega) (by omega) (by omega) (by omega) (by omega)) (q _ _ (by omega) (by omega) (by omega) (by omega) (by omega) (by omega) (by omega)) (fun k j a b => q k j (by omega) (by omega) (by omega) (by omega) (by omega) (by omega) (by omega)) (fun j => q _ j (by omega) (by omega) (by omega) (by omega) (by omega) (by omega) (by omega)) h10, ?_⟩, ⟨0, by decide, ?_, u4, fun i hi => absurd hi (Nat.not_lt_zero _), ?_⟩, kR_congr (fun k j hk => q k j (by unfold kQR at hk; omega) (by unfold kQR at hk; omega) (by unfold kQR at hk; omega) (by unfold kQR at hk; omega) (by unfold kQR at hk; omega) (by unfold kQR at hk; omega) (by unfold kQR at hk; omega)) hR⟩⟩
      · unfold jal
        rw [u6.2 rfl, u1]
        rfl
      · rw [u1]; exact jgl_c rfl
      · rw [q 0 14 (by omega) (by omega) (by omega) (by omega) (by omega) (by omega) (by omega), q 67 40 (by omega) (by omega) (by omega) (by omega) (by omega) (by omega) (by omega)]; exact h11
      · rw [qC 1 1 (by decide)]; exact c11
      · rw [qC 1 6 (by decide), c16, u2]
  · refine rf_At (w := 1) h (jg_c rfl) (by decide) ?_ ?_
    · show jf_305 _ m = _
      unfold jf_305 jf_155
      rw [sp_151, if_neg hX, jsb, if_neg (by simp)]; rfl
    · show jf_213 _ (kA m) = _
      unfold jf_213
      have e2 : ja (js (kA m) 67 0 0) 67 2 = (L : Int) := by rw [ja_jsj (by decide)]; unfold kA; rw [ja_jsk (by decide)]; exact t3
      have hz : (if x0 < 0 then some (0 : Int) else if (L : Int) < x0 then some 0 else if 150 < x0 then some 0 else some 1) = some 0 := by
        by_cases z1 : x0 < 0
        · rw [if_pos z1]
        · rw [if_neg z1]
          by_cases z2 : (L : Int) < x0
          · rw [if_pos z2]
          · rw [if_neg z2, if_pos]
            rw [t2] at hX
            unfold jmin at hX
            split at hX <;> omega
      rw [jle_eq, e2, hz, jsb, mk_Ar th0 (jg_c rfl) (by decide) rfl]
