/-! FITS and LOOK, the operations. -/
/-- one wire looked at, in the model: rows cleared, then counted -/
theorem sl_wl {m : jm} {c : kC} {p : kP} {cl : List Int} {f : Nat → Bool} {w e : Nat} (H : kM m c p cl) (hw : w < c 11 2) (he : e < c 11 1) (hf : ∀ i, i < 54 → ja m 95 i = b2i (f i)) :
    jo (Option.bind (α := jm) (jlp (α := Int × jm) (β := jm) (fun s24 => if s24.1 < (100 : Int) then if 0 ≤ s24.1 ∧ s24.1 < 100 then jle (js s24.2 96 s24.1.toNat (0 : Int)) fun m31 => some (Sum.inl (jw (s24.1 + 1), m31)) else none else some (Sum.inr (s24.2))) jfu ((0 : Int), m)) fun t27 => (jlp (α := Int × Int × jm) (β := Int × jm) (fun s42 => if s42.2.1 < (54 : Int) then if 0 ≤ s42.2.1 ∧ s42.2.1 < 54 then Option.bind (α := Int × jm) (if (ja s42.2.2 95 s42.2.1.toNat) = 0 then some (s42.1, s42.2.2) else Option.bind (α := Int × jm) (jf_282 w e s42.2.1 s42.2.2) fun p54 => if 0 ≤ p54.1 ∧ p54.1 < 100 then if 0 ≤ p54.1 ∧ p54.1 < 100 then jle (js p54.2 96 p54.1.toNat (jw ((ja p54.2 96 p54.1.toNat) + (1 : Int)))) fun m55 => if 0 ≤ p54.1 ∧ p54.1 < 100 then Option.bind (α := Int) (if s42.1 < (ja m55 96 p54.1.toNat) then if 0 ≤ p54.1 ∧ p54.1 < 100 then some (ja m55 96 p54.1.toNat) else none else some (s42.1)) fun t56 => some (t56, m55) else none else none else none) fun t51 => some (Sum.inl (t51.1, jw (s42.2.1 + 1), t51.2)) else none else some (Sum.inr (s42.1, s42.2.2))) jfu ((0 : Int), (0 : Int), t27)))
      (fun r => r.1 = (kWs f (kSz c p cl w e) 54).1 ∧ jfr true (fun k j => k = 96 ∨ jW_282 k j) m r.2) := by
  refine jo_c (R := fun r => (∀ j, j < 100 → ja r 96 j = 0) ∧ jfr true (fun k j => k = 96 ∨ jW_282 k j) m r) ?_ (fun t27 ht => ?_)
  · refine jo_for 100 jfu (fun i (s : Int × jm) => s.1 = i ∧ (∀ j, j < i → ja s.2 96 j = 0) ∧ jfr true (fun k j => k = 96 ∨ jW_282 k j) m s.2) (jfu_lt (by decide)) ?_ ?_ _ ⟨rfl, fun j hj => absurd hj (Nat.not_lt_zero _), jfr_r⟩
    · intro i hi s hs
      obtain ⟨x, m'⟩ := s
      obtain ⟨h1, h2, h3⟩ := hs
      dsimp only at h1 h2 h3 ⊢
      subst h1
      rw [if_pos (show (i : Int) < 100 by omega), if_pos (show 0 ≤ (i : Int) ∧ (i : Int) < 100 by omega), jle_eq, Int.toNat_natCast, jwn (n := i) (by omega)]
      refine ⟨rfl, fun j hj => ?_, jfr_js h3 (Or.inl rfl)⟩
      show ja (js m' 96 i 0) 96 j = 0
      rw [ja_js]
      by_cases e : j = i
      · rw [if_pos ⟨rfl, e⟩]; rfl
      · rw [if_neg (fun f => e f.2)]; exact h2 j (by omega)
    · intro s hs
      obtain ⟨x, m'⟩ := s
      obtain ⟨h1, h2, h3⟩ := hs
      dsimp only at h1 h2 h3 ⊢
      rw [if_neg (by omega)]
      exact ⟨h2, h3⟩
  · obtain ⟨h0, hfr0⟩ := ht
    refine jo_for 54 jfu (fun i (s : Int × Int × jm) => s.2.1 = i ∧ s.1 = (kWs f (kSz c p cl w e) i).1 ∧ (∀ j, j < 100 → ja s.2.2 96 j = (kWs f (kSz c p cl w e) i).2 j) ∧ jfr true (fun k j => k = 96 ∨ jW_282 k j) m s.2.2) (jfu_lt (by decide)) ?_ ?_ _ ⟨rfl, rfl, fun j hj => h0 j hj, hfr0⟩
    · intro i hi s hs
      obtain ⟨wo, x, m'⟩ := s
      obtain ⟨h1, h2, h3, h4⟩ := hs
      dsimp only at h1 h2 h3 h4 ⊢
      subst h1 h2
      have e35 : ja m' 95 i = b2i (f i) := by rw [ja_fr h4 (by unfold jW_282; omega)]; exact hf i hi
      have H' := kM_fr H h4 (fun k j hk => by unfold jW_282 at hk; unfold kQM; omega)
      obtain ⟨b1, b2⟩ := kWs_b (f := f) (sz := kSz c p cl w e) i
      rw [if_pos (show (i : Int) < 54 by omega), if_pos (show 0 ≤ (i : Int) ∧ (i : Int) < 54 by omega), Int.toNat_natCast, e35, jwn (n := i) (by omega)]
      cases hfi : f i
      · rw [if_pos (show b2i false = 0 from rfl), jsb]
        refine ⟨rfl, ?_, ?_, h4⟩
        · rw [kWs_s, hfi, if_neg nft]
        · rw [kWs_s, hfi, if_neg nft]; exact h3
      · rw [if_neg (show ¬ b2i true = 0 by decide), jo_bind, jo_bind]
        refine jo_mono (sl_282 H' hw he hi) (fun r hr => ?_)
        obtain ⟨hr, hfr⟩ := hr
        have hsz := kSz_b (c := c) (p := p) (cl := cl) (w := w) (e := e) (i := i)
        have b3 := b2 (kSz c p cl w e i).toNat
        have e36 : ja r.2 96 (kSz c p cl w e i).toNat = (kWs f (kSz c p cl w e) i).2 (kSz c p cl w e i).toNat := by rw [ja_fr hfr (by unfold jW_282; omega)]; exact h3 _ (by omega)
        have hz : (if 0 ≤ kSz c p cl w e i ∧ kSz c p cl w e i < 100 then some ((kWs f (kSz c p cl w e) i).2 (kSz c p cl w e i).toNat + 1) else none) = some ((kWs f (kSz c p cl w e) i).2 (kSz c p cl w e i).toNat + 1) := if_pos (by omega)
        rw [hr, if_pos (show 0 ≤ kSz c p cl w e i ∧ kSz c p cl w e i < 100 by omega), if_pos (show 0 ≤ kSz c p cl w e i ∧ kSz c p cl w e i < 100 by omega), jle_eq, if_pos (show 0 ≤ kSz c p cl w e i ∧ kSz c p cl w e i < 100 by omega), e36, ja_js1, jwi (x := _ + 1) (by omega) (by omega), jwi (x := _ + 1) (by omega) (by omega), hz, jite_some, jsb]
        refine ⟨rfl, ?_, fun j hj => ?_, jfr_js (jfr_t h4 hfr (fun e => e) (fun k j hk => Or.inr hk)) (Or.inl rfl)⟩
        · rw [kWs_s, hfi, if_pos (rfl : true = true)]
        · show ja (js r.2 96 _ _) 96 j = _
          rw [ja_js, kWs_s, hfi, if_pos (rfl : true = true)]
          dsimp only
          by_cases hj2 : j = (kSz c p cl w e i).toNat
          · rw [if_pos ⟨rfl, hj2⟩, if_pos hj2, jwi (by omega) (by omega)]
          · rw [if_neg (fun e => hj2 e.2), if_neg hj2, ja_fr hfr (by unfold jW_282; omega)]; exact h3 j hj
    · intro s hs
      obtain ⟨wo, x, m'⟩ := s
      obtain ⟨h1, h2, h3, h4⟩ := hs
      dsimp only at h1 h2 h3 h4 ⊢
      rw [if_neg (by omega)]
      exact ⟨h2, h4⟩
theorem sl_281k {M : jm} {c : kC} {p : kP} {cl : List Int} {bk : Nat → Int} {w : Nat} (H : kM (kT0 M) c p cl) (hw : w < c 11 2) (hbk : ∀ e, e < 12 → ja M 92 e = bk e ∧ (c 11 1 ≤ e → bk e = -1)) : jo (jf_281 w M) (fun r => kM r c p cl) := by
  have h := sl_281 H hw hbk
  have hd : jD (jf_281 w M) (fun r => jfr true (fun k j => k = 95 ∨ jW_282 k j) (kT0 M) r) := by
    unfold jf_281
    rw [sp_226, jsb]
    refine jD_b (R := (fun t => jfr true (fun k j => k = 95 ∨ jW_282 k j) (kT0 M) t)) (jD_lp (fun s => jfr true (fun k j => k = 95 ∨ jW_282 k j) (kT0 M) s.2) jfr_r (fun s hs => ?_)) (fun t ht => jD_s ht)
    refine jD_i (jD_g (jD_le (jD_b (R := (fun t => jfr true (fun k j => k = 95 ∨ jW_282 k j) (kT0 M) t)) (jD_lp (fun s => jfr true (fun k j => k = 95 ∨ jW_282 k j) (kT0 M) s.2) (jfr_js hs (Or.inl rfl)) (fun s2 hs2 => ?_)) (fun t ht => jD_s ht)))) (jD_s hs)
    refine jD_i (jD_g (jD_b (R := (fun t => jfr true (fun k j => k = 95 ∨ jW_282 k j) (kT0 M) t.2)) ?_ (fun t ht => jD_g (jD_le (jD_s (jfr_js ht (Or.inl rfl))))))) (jD_s hs2)
    refine jD_i (jD_s hs2) (jD_g (jD_i (jD_s hs2) (jD_b jx_282 (fun p hp => ?_))))
    have h2 := jfr_t hs2 hp (fun e => e) (fun k j hk => Or.inr hk)
    exact jD_g (jD_i (jD_s h2) (jD_s h2))
  refine jo_mono (jo_and h hd) (fun r hr => kM_fr H hr.2 (fun k j hk => by unfold jW_282 at hk; unfold kQM; omega))
theorem sy_23 {m : jm} {x0 x1 : Int} (hx0 : jg x0) (hx1 : jg x1) (h : Inv m) : kSy (fun m => jf_323 x0 x1 m) (fun m => jf_280 x0 x1 m) m := by
  obtain ⟨c, p, cl, HK, hC, hP, hL, hB⟩ := Inv_K h
  have hn := HK.1.1
  have n0 := kK_n HK (i := 0) (by decide)
  have n1 := kK_n HK (i := 1) (by decide)
  have n2 := kK_n HK (i := 2) (by decide)
  have n3 := kK_n HK (i := 3) (by decide)
  by_cases hE : 0 ≤ x0 ∧ x0 < (c 11 2 : Int)
  · obtain ⟨v0, rfl⟩ := Int.eq_ofNat_of_zero_le hE.1
    have hv0 : v0 < c 11 2 := by omega
    by_cases hR : 0 ≤ x1 ∧ x1 ≤ 1
    · skip
      have hbk : ∀ e, e < 12 → ja m 34 e = ja m 92 e ∧ (c 11 1 ≤ e → ja m 92 e = -1) := fun e he => ⟨(hB.2 e he).1, (hB.2 e he).2.2.2⟩
      have hbM : ∀ M, kEq kQS m M → ∀ e, e < 12 → ja (js M 67 0 0) 92 e = ja m 92 e ∧ (c 11 1 ≤ e → ja m 92 e = -1) := fun M hM e he => ⟨(kEq_js hM (by unfold kQS; omega)) _ _ (by unfold kQS; omega), (hB.2 e he).2.2.2⟩
      have h4 : x1 = 0 ∨ x1 = 1 := by omega
      have hle : kCnt (fun i => kFt c p cl (fun e => ja m 92 e) v0 i (c 11 1)) 54 ≤ 54 := kCnt_le _
      have h1b := kF1_b (f := (fun i => kFt c p cl (fun e => ja m 92 e) v0 i (c 11 1))) 54 (by decide)
      rcases h4 with rfl | rfl
      · refine q_ok (W := jW_4) (W' := jW_281) (((kCnt (fun i => kFt c p cl (fun e => ja m 92 e) v0 i (c 11 1)) 54 : Nat) : Int)) h (⟨by omega, by omega⟩) ?_ (fun k j h => by unfold jW_4 at h; unfold kQ kQS kQT kQR; omega) (fun M hM => ?_) (fun k j h => by unfold jW_281 at h; unfold kQ kQS kQT kQR; omega)
        · show jo (jf_323 _ _ m) _
          unfold jf_323
          refine wr0 ?_
          unfold jf_175
          rw [ck_E n2 (by omega) hv0, ck_R hR]
          dsimp only
          refine jo_c (sl_4 (bk := fun e => ja m 92 e) HK hv0 hbk) (fun r hr => ?_)
          obtain ⟨hr1, hr2, hf⟩ := hr
          rw [if_pos rfl, hr2]
          exact ⟨rfl, rfl, hf⟩
        · show jo (jf_280 _ _ M) _
          unfold jf_280
          have hC' := kCm_Q hM hC
          have hP' := kPm_Q hM hP
          rw [jle_eq, mk_256 th0 (hC'.1 2 (by decide)) (by omega) (jg_c rfl) (by decide) hv0, mk_R th0 (jg_c rfl) (by decide) hR]
          have H' := kM_T0 HK.1 HK.2.1 HK.2.2.1 hC' hP' (kLm_Q hM hL)
          dsimp only
          refine jo_c (sl_281 H' hv0 (bk := fun e => ja m 92 e) (hbM M hM)) (fun r hr => ?_)
          obtain ⟨hr, hf⟩ := hr
          rw [jlp_fr (a := ((0 : Int), (-1 : Int), (0 : Int))) (c := (((kCnt (fun i => kFt c p cl (fun e => ja m 92 e) v0 i (c 11 1)) 54 : Nat) : Int), kF1 (fun i => kFt c p cl (fun e => ja m 92 e) v0 i (c 11 1)) 54)) 54 (fun i => (((kCnt (fun i => kFt c p cl (fun e => ja m 92 e) v0 i (c 11 1)) i : Nat) : Int), kF1 (fun i => kFt c p cl (fun e => ja m 92 e) v0 i (c 11 1)) i, (i : Int))) (by decide) rfl ?hs ?he]
          case he => rfl
          case hs =>
            intro i hi
            have hle : kCnt (fun i => kFt c p cl (fun e => ja m 92 e) v0 i (c 11 1)) i ≤ i := kCnt_le _
            dsimp only
            rw [if_pos (show (i : Int) < 54 by omega), if_pos (show 0 ≤ (i : Int) ∧ (i : Int) < 54 by omega), Int.toNat_natCast, hr i hi, jwn (n := i) (by omega), kF1_s, kCnt_s]
            cases kFt c p cl (fun e => ja m 92 e) v0 i (c 11 1)
            · rw [if_pos (show b2i false = 0 from rfl), if_neg nft, if_neg nft]; rfl
            · rw [if_neg (show ¬ b2i true = 0 by decide), if_pos (rfl : true = true), if_pos (rfl : true = true), jwn (by omega), jite_some]; rfl
          rw [jsb]
          rw [if_pos rfl]
          exact ⟨rfl, hf⟩
      · refine q_ok (W := jW_4) (W' := jW_281) (kF1 (fun i => kFt c p cl (fun e => ja m 92 e) v0 i (c 11 1)) 54) h (⟨by omega, by omega⟩) ?_ (fun k j h => by unfold jW_4 at h; unfold kQ kQS kQT kQR; omega) (fun M hM => ?_) (fun k j h => by unfold jW_281 at h; unfold kQ kQS kQT kQR; omega)
        · show jo (jf_323 _ _ m) _
          unfold jf_323
          refine wr0 ?_
          unfold jf_175
          rw [ck_E n2 (by omega) hv0, ck_R hR]
          dsimp only
          refine jo_c (sl_4 (bk := fun e => ja m 92 e) HK hv0 hbk) (fun r hr => ?_)
          obtain ⟨hr1, hr2, hf⟩ := hr
          rw [if_neg (by decide), sp_6 (f := (fun i => kFt c p cl (fun e => ja m 92 e) v0 i (c 11 1))) hr1]
          exact ⟨rfl, rfl, hf⟩
        · show jo (jf_280 _ _ M) _
          unfold jf_280
          have hC' := kCm_Q hM hC
          have hP' := kPm_Q hM hP
          rw [jle_eq, mk_256 th0 (hC'.1 2 (by decide)) (by omega) (jg_c rfl) (by decide) hv0, mk_R th0 (jg_c rfl) (by decide) hR]
          have H' := kM_T0 HK.1 HK.2.1 HK.2.2.1 hC' hP' (kLm_Q hM hL)
          dsimp only
          refine jo_c (sl_281 H' hv0 (bk := fun e => ja m 92 e) (hbM M hM)) (fun r hr => ?_)
          obtain ⟨hr, hf⟩ := hr
          rw [jlp_fr (a := ((0 : Int), (-1 : Int), (0 : Int))) (c := (((kCnt (fun i => kFt c p cl (fun e => ja m 92 e) v0 i (c 11 1)) 54 : Nat) : Int), kF1 (fun i => kFt c p cl (fun e => ja m 92 e) v0 i (c 11 1)) 54)) 54 (fun i => (((kCnt (fun i => kFt c p cl (fun e => ja m 92 e) v0 i (c 11 1)) i : Nat) : Int), kF1 (fun i => kFt c p cl (fun e => ja m 92 e) v0 i (c 11 1)) i, (i : Int))) (by decide) rfl ?hs ?he]
          case he => rfl
          case hs =>
            intro i hi
            have hle : kCnt (fun i => kFt c p cl (fun e => ja m 92 e) v0 i (c 11 1)) i ≤ i := kCnt_le _
            dsimp only
            rw [if_pos (show (i : Int) < 54 by omega), if_pos (show 0 ≤ (i : Int) ∧ (i : Int) < 54 by omega), Int.toNat_natCast, hr i hi, jwn (n := i) (by omega), kF1_s, kCnt_s]
            cases kFt c p cl (fun e => ja m 92 e) v0 i (c 11 1)
            · rw [if_pos (show b2i false = 0 from rfl), if_neg nft, if_neg nft]; rfl
            · rw [if_neg (show ¬ b2i true = 0 by decide), if_pos (rfl : true = true), if_pos (rfl : true = true), jwn (by omega), jite_some]; rfl
          rw [jsb]
          rw [if_neg (by decide)]
          exact ⟨rfl, hf⟩
    · refine rf_A (w := 2) h (jg_c rfl) (by decide) ?_ (fun M hM => ?_)
      · show jf_323 _ _ m = _
        unfold jf_323 jf_175
        rw [ck_E n2 (by omega) hv0, ck_Rr hR]; rfl
      · show jf_280 _ _ M = _
        unfold jf_280
        have hC' := kCm_Q hM hC
        rw [jle_eq, mk_256 th0 (hC'.1 2 (by decide)) (by omega) (jg_c rfl) (by decide) hv0, mk_Rr th0 (jg_c rfl) (by decide) hR]
  · refine rf_E (w := 1) h (jg_c rfl) (by decide) ?_ (fun M hM => ?_)
    · show jf_323 _ _ m = _
      unfold jf_323 jf_175
      rw [ck_Er n2 (by omega) hE]; rfl
    · show jf_280 _ _ M = _
      unfold jf_280
      have hC' := kCm_Q hM hC
      rw [jle_eq, mk_256r th0 (hC'.1 2 (by decide)) (by omega) (jg_c rfl) (by decide) hE]
theorem sy_24 {m : jm} {x0 x1 : Int} (hx0 : jg x0) (hx1 : jg x1) (h : Inv m) : kSy (fun m => jf_324 x0 x1 m) (fun m => jf_283 x0 x1 m) m := by
  obtain ⟨c, p, cl, HK, hC, hP, hL, hB⟩ := Inv_K h
  have hn := HK.1.1
  have n0 := kK_n HK (i := 0) (by decide)
  have n1 := kK_n HK (i := 1) (by decide)
  have n2 := kK_n HK (i := 2) (by decide)
  have n3 := kK_n HK (i := 3) (by decide)
  by_cases hE : 0 ≤ x0 ∧ x0 < (c 11 2 : Int)
  · obtain ⟨v0, rfl⟩ := Int.eq_ofNat_of_zero_le hE.1
    have hv0 : v0 < c 11 2 := by omega
    by_cases hR : 0 ≤ x1 ∧ x1 ≤ 1
    · skip
      have hbk : ∀ e, e < 12 → ja m 34 e = ja m 92 e ∧ (c 11 1 ≤ e → ja m 92 e = -1) := fun e he => ⟨(hB.2 e he).1, (hB.2 e he).2.2.2⟩
      have hbM : ∀ M, kEq kQS m M → ∀ e, e < 12 → ja (js M 67 0 0) 92 e = ja m 92 e ∧ (c 11 1 ≤ e → ja m 92 e = -1) := fun M hM e he => ⟨(kEq_js hM (by unfold kQS; omega)) _ _ (by unfold kQS; omega), (hB.2 e he).2.2.2⟩
      have h4 : x1 = 0 ∨ x1 = 1 := by omega
      have hlk := kLk_c (bk := fun e => ja m 92 e) (W := fun e => (kWs (fun i => kFt c p cl (fun e => ja m 92 e) v0 i (c 11 1)) (kSz c p cl v0 e) 54).1) (c 11 1)
      have gl1 : jgl (kLk (fun e => ja m 92 e) (fun e => (kWs (fun i => kFt c p cl (fun e => ja m 92 e) v0 i (c 11 1)) (kSz c p cl v0 e) 54).1) (c 11 1)).1 := by
        rcases hlk with ⟨a, b⟩ | ⟨e, a, b, d⟩
        · rw [a]; exact ⟨by decide, by decide⟩
        · rw [b]; exact ⟨by omega, by omega⟩
      have gl2 : jgl (kLk (fun e => ja m 92 e) (fun e => (kWs (fun i => kFt c p cl (fun e => ja m 92 e) v0 i (c 11 1)) (kSz c p cl v0 e) 54).1) (c 11 1)).2 := by
        rcases hlk with ⟨a, b⟩ | ⟨e, a, b, d⟩
        · rw [b]; exact ⟨by decide, by decide⟩
        · have hb := (kWs_b (f := (fun i => kFt c p cl (fun e => ja m 92 e) v0 i (c 11 1))) (sz := kSz c p cl v0 e) 54).1
          rw [d]; exact ⟨by omega, by omega⟩
      rcases h4 with rfl | rfl
      · refine q_ok (W := (fun k j => jW_4 k j ∨ jW_7 k j)) (W' := (fun k j => jW_281 k j ∨ k = 96)) ((kLk (fun e => ja m 92 e) (fun e => (kWs (fun i => kFt c p cl (fun e => ja m 92 e) v0 i (c 11 1)) (kSz c p cl v0 e) 54).1) (c 11 1)).1) h (gl1) ?_ (fun k j h => by unfold jW_4 jW_7 at h; unfold kQ kQS kQT kQR; omega) (fun M hM => ?_) (fun k j h => by unfold jW_281 at h; unfold kQ kQS kQT kQR; omega)
        · show jo (jf_324 _ _ m) _
          unfold jf_324
          refine wr0 ?_
          unfold jf_176
          rw [ck_E n2 (by omega) hv0, ck_R hR]
          dsimp only
          refine jo_c (sl_4 (bk := fun e => ja m 92 e) HK hv0 hbk) (fun r hr => ?_)
          obtain ⟨hr1, hr2, hf⟩ := hr
          have HK' := kK_fr HK hf (fun k j hk => by unfold jW_4 at hk; unfold kQK; omega)
          rw [kK_n HK' (i := 1) (by decide)]
          refine jo_c (sl_7 (f := (fun i => kFt c p cl (fun e => ja m 92 e) v0 i (c 11 1))) (bk := fun e => ja m 92 e) HK' hv0 (fun e he => by rw [ja_fr hf (by unfold jW_4; omega)]; exact (hbk e (by omega)).1) hr1) (fun r2 hr => ?_)
          obtain ⟨hq1, hf2⟩ := hr
          have hf3 : jfr true (fun k j => jW_4 k j ∨ jW_7 k j) m r2.2 := jfr_t (jfr_t jfr_r hf (fun e => e) (fun k j hk => Or.inl hk)) hf2 (fun e => e) (fun k j hk => Or.inr hk)
          rw [if_pos rfl]
          exact ⟨hq1, rfl, hf3⟩
        · show jo (jf_283 _ _ M) _
          unfold jf_283
          have hC' := kCm_Q hM hC
          have hP' := kPm_Q hM hP
          rw [jle_eq, mk_256 th0 (hC'.1 2 (by decide)) (by omega) (jg_c rfl) (by decide) hv0, mk_R th0 (jg_c rfl) (by decide) hR]
          have H' := kM_T0 HK.1 HK.2.1 HK.2.2.1 hC' hP' (kLm_Q hM hL)
          dsimp only
          refine jo_c (jo_same (sl_281 H' hv0 (bk := fun e => ja m 92 e) (hbM M hM)) (sl_281k H' hv0 (bk := fun e => ja m 92 e) (hbM M hM))) (fun r hr => ?_)
          obtain ⟨⟨hr, hf⟩, Hr⟩ := hr
          refine jo_c (R := fun (t : Int × Int × jm) => t.1 = (kLk (fun e => ja m 92 e) (fun e => (kWs (fun i => kFt c p cl (fun e => ja m 92 e) v0 i (c 11 1)) (kSz c p cl v0 e) 54).1) (c 11 1)).1 ∧ t.2.1 = (kLk (fun e => ja m 92 e) (fun e => (kWs (fun i => kFt c p cl (fun e => ja m 92 e) v0 i (c 11 1)) (kSz c p cl v0 e) 54).1) (c 11 1)).2 ∧ jfr true (fun k j => jW_281 k j ∨ k = 96) (js M 67 0 0) t.2.2) ?_ (fun t ht => ?_)
          · refine jo_for (c 11 1) jfu (fun e (s : Int × Int × Int × jm) => s.2.2.1 = e ∧ s.1 = (kLk (fun e => ja m 92 e) (fun e => (kWs (fun i => kFt c p cl (fun e => ja m 92 e) v0 i (c 11 1)) (kSz c p cl v0 e) 54).1) e).1 ∧ s.2.1 = (kLk (fun e => ja m 92 e) (fun e => (kWs (fun i => kFt c p cl (fun e => ja m 92 e) v0 i (c 11 1)) (kSz c p cl v0 e) 54).1) e).2 ∧ jfr true (fun k j => k = 96 ∨ jW_282 k j) r s.2.2.2) (jfu_lt (by omega)) ?_ ?_ _ ⟨rfl, rfl, rfl, jfr_r⟩
            · intro e he s hs
              obtain ⟨best, bl, x, m'⟩ := s
              obtain ⟨h1, h2, h3, h4⟩ := hs
              dsimp only at h1 h2 h3 h4 ⊢
              subst h1 h2 h3
              have H2 := kM_fr Hr h4 (fun k j hk => by unfold jW_282 at hk; unfold kQM; omega)
              have n1' : ja m' 67 25 = (c 11 1 : Int) := kM_n H2 (i := 1) (by decide)
              have eb : ja m' 92 e = ja m 92 e := by rw [ja_fr h4 (by unfold jW_282; omega), ja_fr hf (by unfold jW_281; omega)]; exact (hbM M hM e (by omega)).1
              rw [n1', if_pos (show (e : Int) < (c 11 1 : Int) by omega), if_pos (show 0 ≤ (e : Int) ∧ (e : Int) < 12 by omega), Int.toNat_natCast, eb, jwn (n := e) (by omega)]
              have ek := kLk_s (bk := fun e => ja m 92 e) (W := fun e => (kWs (fun i => kFt c p cl (fun e => ja m 92 e) v0 i (c 11 1)) (kSz c p cl v0 e) 54).1) (e := e)
              by_cases hb1 : ja m 92 e = -1
              · rw [if_pos hb1]
                have hwl := sl_wl (f := (fun i => kFt c p cl (fun e => ja m 92 e) v0 i (c 11 1))) H2 hv0 he (fun i hi => by rw [ja_fr h4 (by unfold jW_282; omega)]; exact hr i hi)
                rw [jo_bind] at hwl
                rw [jo_bind, jo_bind]
                refine jo_mono hwl (fun t27 ht27 => ?_)
                rw [jo_bind]
                refine jo_mono ht27 (fun r2 hr2 => ?_)
                obtain ⟨hr2, hfr⟩ := hr2
                have hfr2 := jfr_tr h4 hfr
                rw [hr2]
                by_cases hk : (kLk (fun e => ja m 92 e) (fun e => (kWs (fun i => kFt c p cl (fun e => ja m 92 e) v0 i (c 11 1)) (kSz c p cl v0 e) 54).1) e).1 = -1
                · rw [if_pos hk]
                  rw [if_pos ⟨hb1, Or.inl hk⟩] at ek
                  rw [ek]
                  exact ⟨rfl, rfl, rfl, hfr2⟩
                · rw [if_neg hk]
                  by_cases hl : (kWs (fun i => kFt c p cl (fun e => ja m 92 e) v0 i (c 11 1)) (kSz c p cl v0 e) 54).1 < (kLk (fun e => ja m 92 e) (fun e => (kWs (fun i => kFt c p cl (fun e => ja m 92 e) v0 i (c 11 1)) (kSz c p cl v0 e) 54).1) e).2
                  · rw [if_pos hl]
                    rw [if_pos ⟨hb1, Or.inr hl⟩] at ek
                    rw [ek]
                    exact ⟨rfl, rfl, rfl, hfr2⟩
                  · rw [if_neg hl]
                    rw [if_neg (fun h => h.2.elim hk hl)] at ek
                    rw [ek]
                    exact ⟨rfl, rfl, rfl, hfr2⟩
              · rw [if_neg hb1, jsb]
                rw [if_neg (fun h => hb1 h.1)] at ek
                rw [ek]
                exact ⟨rfl, rfl, rfl, h4⟩
            · intro s hs
              obtain ⟨best, bl, x, m'⟩ := s
              obtain ⟨h1, h2, h3, h4⟩ := hs
              dsimp only at h1 h2 h3 h4 ⊢
              have H2 := kM_fr Hr h4 (fun k j hk => by unfold jW_282 at hk; unfold kQM; omega)
              have n1' : ja m' 67 25 = (c 11 1 : Int) := kM_n H2 (i := 1) (by decide)
              rw [n1', if_neg (by omega)]
              exact ⟨h2, h3, jfr_t (jfr_t jfr_r hf (fun e => e) (fun k j hk => Or.inl hk)) h4 (fun e => e) (fun k j hk => by unfold jW_281; unfold jW_282 at hk; omega)⟩
          · obtain ⟨b1, b2, b3⟩ := ht
            rw [if_pos rfl]
            exact ⟨b1, b3⟩
      · refine q_ok (W := (fun k j => jW_4 k j ∨ jW_7 k j)) (W' := (fun k j => jW_281 k j ∨ k = 96)) ((kLk (fun e => ja m 92 e) (fun e => (kWs (fun i => kFt c p cl (fun e => ja m 92 e) v0 i (c 11 1)) (kSz c p cl v0 e) 54).1) (c 11 1)).2) h (gl2) ?_ (fun k j h => by unfold jW_4 jW_7 at h; unfold kQ kQS kQT kQR; omega) (fun M hM => ?_) (fun k j h => by unfold jW_281 at h; unfold kQ kQS kQT kQR; omega)
        · show jo (jf_324 _ _ m) _
          unfold jf_324
          refine wr0 ?_
          unfold jf_176
          rw [ck_E n2 (by omega) hv0, ck_R hR]
          dsimp only
          refine jo_c (sl_4 (bk := fun e => ja m 92 e) HK hv0 hbk) (fun r hr => ?_)
          obtain ⟨hr1, hr2, hf⟩ := hr
          have HK' := kK_fr HK hf (fun k j hk => by unfold jW_4 at hk; unfold kQK; omega)
          rw [kK_n HK' (i := 1) (by decide)]
          refine jo_c (sl_7 (f := (fun i => kFt c p cl (fun e => ja m 92 e) v0 i (c 11 1))) (bk := fun e => ja m 92 e) HK' hv0 (fun e he => by rw [ja_fr hf (by unfold jW_4; omega)]; exact (hbk e (by omega)).1) hr1) (fun r2 hr => ?_)
          obtain ⟨hq1, hf2⟩ := hr
          have hf3 : jfr true (fun k j => jW_4 k j ∨ jW_7 k j) m r2.2 := jfr_t (jfr_t jfr_r hf (fun e => e) (fun k j hk => Or.inl hk)) hf2 (fun e => e) (fun k j hk => Or.inr hk)
          rw [if_neg (by decide), hq1]
          rcases hlk with ⟨a, b⟩ | ⟨e, a, b, d⟩
          · rw [if_pos a, a, b]
            exact ⟨rfl, rfl, hf3⟩
          · rw [if_neg (by omega), b, d]
            have HK2 := kK_fr HK' hf2 (fun k j hk => by unfold jW_7 at hk; unfold kQK; omega)
            rw [jo_bind, jo_bind]
            refine jo_mono (sl_8 (f := (fun i => kFt c p cl (fun e => ja m 92 e) v0 i (c 11 1))) HK2 hv0 a (fun i hi => by rw [ja_fr hf2 (by unfold jW_7; omega)]; exact hr1 i hi)) (fun r3 hr3 => ?_)
            exact ⟨hr3.1, rfl, jfr_t hf3 hr3.2 (fun e => e) (fun k j hk => Or.inr hk)⟩
        · show jo (jf_283 _ _ M) _
          unfold jf_283
          have hC' := kCm_Q hM hC
          have hP' := kPm_Q hM hP
          rw [jle_eq, mk_256 th0 (hC'.1 2 (by decide)) (by omega) (jg_c rfl) (by decide) hv0, mk_R th0 (jg_c rfl) (by decide) hR]
          have H' := kM_T0 HK.1 HK.2.1 HK.2.2.1 hC' hP' (kLm_Q hM hL)
          dsimp only
          refine jo_c (jo_same (sl_281 H' hv0 (bk := fun e => ja m 92 e) (hbM M hM)) (sl_281k H' hv0 (bk := fun e => ja m 92 e) (hbM M hM))) (fun r hr => ?_)
          obtain ⟨⟨hr, hf⟩, Hr⟩ := hr
          refine jo_c (R := fun (t : Int × Int × jm) => t.1 = (kLk (fun e => ja m 92 e) (fun e => (kWs (fun i => kFt c p cl (fun e => ja m 92 e) v0 i (c 11 1)) (kSz c p cl v0 e) 54).1) (c 11 1)).1 ∧ t.2.1 = (kLk (fun e => ja m 92 e) (fun e => (kWs (fun i => kFt c p cl (fun e => ja m 92 e) v0 i (c 11 1)) (kSz c p cl v0 e) 54).1) (c 11 1)).2 ∧ jfr true (fun k j => jW_281 k j ∨ k = 96) (js M 67 0 0) t.2.2) ?_ (fun t ht => ?_)
          · refine jo_for (c 11 1) jfu (fun e (s : Int × Int × Int × jm) => s.2.2.1 = e ∧ s.1 = (kLk (fun e => ja m 92 e) (fun e => (kWs (fun i => kFt c p cl (fun e => ja m 92 e) v0 i (c 11 1)) (kSz c p cl v0 e) 54).1) e).1 ∧ s.2.1 = (kLk (fun e => ja m 92 e) (fun e => (kWs (fun i => kFt c p cl (fun e => ja m 92 e) v0 i (c 11 1)) (kSz c p cl v0 e) 54).1) e).2 ∧ jfr true (fun k j => k = 96 ∨ jW_282 k j) r s.2.2.2) (jfu_lt (by omega)) ?_ ?_ _ ⟨rfl, rfl, rfl, jfr_r⟩
            · intro e he s hs
              obtain ⟨best, bl, x, m'⟩ := s
              obtain ⟨h1, h2, h3, h4⟩ := hs
              dsimp only at h1 h2 h3 h4 ⊢
              subst h1 h2 h3
              have H2 := kM_fr Hr h4 (fun k j hk => by unfold jW_282 at hk; unfold kQM; omega)
              have n1' : ja m' 67 25 = (c 11 1 : Int) := kM_n H2 (i := 1) (by decide)
              have eb : ja m' 92 e = ja m 92 e := by rw [ja_fr h4 (by unfold jW_282; omega), ja_fr hf (by unfold jW_281; omega)]; exact (hbM M hM e (by omega)).1
              rw [n1', if_pos (show (e : Int) < (c 11 1 : Int) by omega), if_pos (show 0 ≤ (e : Int) ∧ (e : Int) < 12 by omega), Int.toNat_natCast, eb, jwn (n := e) (by omega)]
              have ek := kLk_s (bk := fun e => ja m 92 e) (W := fun e => (kWs (fun i => kFt c p cl (fun e => ja m 92 e) v0 i (c 11 1)) (kSz c p cl v0 e) 54).1) (e := e)
              by_cases hb1 : ja m 92 e = -1
              · rw [if_pos hb1]
                have hwl := sl_wl (f := (fun i => kFt c p cl (fun e => ja m 92 e) v0 i (c 11 1))) H2 hv0 he (fun i hi => by rw [ja_fr h4 (by unfold jW_282; omega)]; exact hr i hi)
                rw [jo_bind] at hwl
                rw [jo_bind, jo_bind]
                refine jo_mono hwl (fun t27 ht27 => ?_)
                rw [jo_bind]
                refine jo_mono ht27 (fun r2 hr2 => ?_)
                obtain ⟨hr2, hfr⟩ := hr2
                have hfr2 := jfr_tr h4 hfr
                rw [hr2]
                by_cases hk : (kLk (fun e => ja m 92 e) (fun e => (kWs (fun i => kFt c p cl (fun e => ja m 92 e) v0 i (c 11 1)) (kSz c p cl v0 e) 54).1) e).1 = -1
                · rw [if_pos hk]
                  rw [if_pos ⟨hb1, Or.inl hk⟩] at ek
                  rw [ek]
                  exact ⟨rfl, rfl, rfl, hfr2⟩
                · rw [if_neg hk]
                  by_cases hl : (kWs (fun i => kFt c p cl (fun e => ja m 92 e) v0 i (c 11 1)) (kSz c p cl v0 e) 54).1 < (kLk (fun e => ja m 92 e) (fun e => (kWs (fun i => kFt c p cl (fun e => ja m 92 e) v0 i (c 11 1)) (kSz c p cl v0 e) 54).1) e).2
                  · rw [if_pos hl]
                    rw [if_pos ⟨hb1, Or.inr hl⟩] at ek
                    rw [ek]
                    exact ⟨rfl, rfl, rfl, hfr2⟩
                  · rw [if_neg hl]
                    rw [if_neg (fun h => h.2.elim hk hl)] at ek
                    rw [ek]
                    exact ⟨rfl, rfl, rfl, hfr2⟩
              · rw [if_neg hb1, jsb]
                rw [if_neg (fun h => hb1 h.1)] at ek
                rw [ek]
                exact ⟨rfl, rfl, rfl, h4⟩
            · intro s hs
              obtain ⟨best, bl, x, m'⟩ := s
              obtain ⟨h1, h2, h3, h4⟩ := hs
              dsimp only at h1 h2 h3 h4 ⊢
              have H2 := kM_fr Hr h4 (fun k j hk => by unfold jW_282 at hk; unfold kQM; omega)
              have n1' : ja m' 67 25 = (c 11 1 : Int) := kM_n H2 (i := 1) (by decide)
              rw [n1', if_neg (by omega)]
              exact ⟨h2, h3, jfr_t (jfr_t jfr_r hf (fun e => e) (fun k j hk => Or.inl hk)) h4 (fun e => e) (fun k j hk => by unfold jW_281; unfold jW_282 at hk; omega)⟩
          · obtain ⟨b1, b2, b3⟩ := ht
            rw [if_neg (by decide)]
            exact ⟨b2, b3⟩
    · refine rf_A (w := 2) h (jg_c rfl) (by decide) ?_ (fun M hM => ?_)
      · show jf_324 _ _ m = _
        unfold jf_324 jf_176
        rw [ck_E n2 (by omega) hv0, ck_Rr hR]; rfl
      · show jf_283 _ _ M = _
        unfold jf_283
        have hC' := kCm_Q hM hC
        rw [jle_eq, mk_256 th0 (hC'.1 2 (by decide)) (by omega) (jg_c rfl) (by decide) hv0, mk_Rr th0 (jg_c rfl) (by decide) hR]
  · refine rf_E (w := 1) h (jg_c rfl) (by decide) ?_ (fun M hM => ?_)
    · show jf_324 _ _ m = _
      unfold jf_324 jf_176
      rw [ck_Er n2 (by omega) hE]; rfl
    · show jf_283 _ _ M = _
      unfold jf_283
      have hC' := kCm_Q hM hC
      rw [jle_eq, mk_256r th0 (hC'.1 2 (by decide)) (by omega) (jg_c rfl) (by decide) hE]
