/-! WORK: the operation. -/
theorem sp_54y {M : jm} {n : Nat} (h : ja M 50 1 = (n : Int)) (hn : n < 16) : jf_54 M = some 0 := by
  unfold jf_54
  rw [h, if_pos (show (n : Int) < 16 by omega)]; rfl
theorem sp_54n {M : jm} {n : Nat} (h : ja M 50 1 = (n : Int)) (hn : n = 16) : jf_54 M = some 1 := by
  unfold jf_54
  rw [h, if_neg (show ¬ (n : Int) < 16 by omega)]; rfl
theorem sp_55 {M : jm} {n : Nat} (h : ja M 50 1 = (n : Int)) (hn : n < 16) : jf_55 M = some (js (jcp M (M.1 48) 51 0 (52 * n) 52) 50 1 ((n + 1 : Nat) : Int)) := by
  unfold jf_55
  have e3 : jw ((n : Int) * 52) = ((52 * n : Nat) : Int) := by rw [jwi (by omega) (by omega)]; omega
  have e4 : ja (jcp M (M.1 48) 51 (0 : Int).toNat (52 * n) (52 : Int).toNat) 50 1 = (n : Int) := by rw [ja_jcp, if_neg (by omega)]; exact h
  rw [sp_54y h hn, jsb, if_pos (show (0 : Int) = 0 from rfl), h, e3, if_pos (by omega), jle_eq, Int.toNat_natCast, jle_eq, e4, jwn (by omega)]
  rfl
/-- where the class's work writes -/
def kWw (k j : Nat) : Prop := (k = 1 ∧ 1 ≤ j ∧ j ≤ 6) ∨ (41 ≤ k ∧ k ≤ 46) ∨ k = 48 ∨ k = 49 ∨ k = 51 ∨ (k = 50 ∧ j = 1) ∨ k = 29 ∨ (k = 0 ∧ j = 14)
/-- where class and model write -/
def kWxw (k j : Nat) : Prop := kWw k j ∨ (k = 67 ∧ (j ≤ 8 ∨ (38 ≤ j ∧ j ≤ 49))) ∨ (84 ≤ k ∧ k ≤ 90)
set_option maxRecDepth 20000 in
theorem sy_3 {m : jm} {x0 : Int} (hx0 : jg x0) (h : Inv m) : kSy (fun m => jf_306 x0 m) (fun m => jf_222 x0 m) m := by
  obtain ⟨⟨c, cl, h1, h2, h3, h4, h5, h6, h7, h8, h9, h10, h11⟩, ⟨L, t1, t2, t3, t4, t5⟩, hR⟩ := id h
  obtain ⟨n, n1, n2, n3, n4⟩ := id h9
  obtain ⟨p, pc, pm, pv, pd⟩ := id h4
  by_cases hX : 0 ≤ x0 ∧ x0 ≤ jmin 150 (ja m 1 1)
  · obtain ⟨X, rfl⟩ := Int.eq_ofNat_of_zero_le hX.1
    have hj : jmin 150 (L : Int) ≤ 150 ∧ jmin 150 (L : Int) ≤ L := by unfold jmin; split <;> omega
    have hXL : X ≤ L ∧ X ≤ 150 := by have := hX.2; rw [t2] at this; omega
    have hf : ∀ j, j < X → ja m 69 j = ja m 69 j ∧ 0 ≤ ja m 69 j ∧ ja m 69 j ≤ 255 := fun j hj => ⟨rfl, (t4 j (by omega)).2.1, (t4 j (by omega)).2.2⟩
    obtain ⟨T1, T2, T3⟩ := kOc_T (m := m) (f := fun j => ja m 69 j) (X := X) (by omega) (fun j hj => ⟨(t4 j (by omega)).1, (t4 j (by omega)).2.1, (t4 j (by omega)).2.2⟩)
    have FO : jfr true (fun k j => k = 1 ∧ 1 ≤ j ∧ j ≤ 6) m (kOc m X) := kOc_fr
    have k50 : ja (kOc m X) 50 1 = (n : Int) := by rw [ja_fr FO (by omega)]; exact n2
    unfold kSy
    show jo (jf_306 X m) (fun p => jo (jf_222 X p.2) _)
    unfold jf_306 jf_156
    rw [sp_151, if_pos hX, jsb, if_pos rfl, sp_115 (by omega), jsb]
    by_cases hn : n = 16
    · rw [sp_54n (M := kOc m X) k50 hn, jsb, if_neg Int.one_ne_zero]
      show jo (jf_222 X (jsl (kOc m X) 102 0 (-20))) _
      refine jo_mono (sl_222f (m := jsl (kOc m X) 102 0 (-20)) (f := fun j => ja m 69 j) (X := X) (L := L) (by show ja (kOc m X) 67 2 = _; rw [ja_fr FO (by omega)]; exact t3) hXL.1 hXL.2 (fun j hj => ⟨by show ja (kOc m X) 69 j = _; rw [ja_fr FO (by omega)], (t4 j (by omega)).2.1, (t4 j (by omega)).2.2⟩) (by show ja (kOc m X) 67 39 = _; rw [ja_fr FO (by omega), n3, hn]; rfl)) (fun b hb => ?_)
      obtain ⟨u1, u2, u3, u4, u5⟩ := hb
      have q : ∀ k j, ¬ (k = 1 ∧ 1 ≤ j ∧ j ≤ 6) → ¬ kWrq k j → ja b.2 k j = ja m k j := fun k j z1 z2 => by
        rw [ja_fr u5 z2]
        show ja (kOc m X) k j = _
        exact ja_fr FO z1
      refine ⟨u4, fun _ => ?_, ?_, Inv_tx h (fun k j hk => q k j (by unfold kQS at hk; omega) (by unfold kQS at hk; unfold kWrq; omega)) ?_ u3 ?_ (fun k j hk => q k j (by unfold kQR at hk; omega) (by unfold kQR at hk; unfold kWrq; omega))⟩
      · unfold jal
        rw [u5.2 rfl, u1]
        show (if (102 : Nat) = 102 ∧ (0 : Nat) = 0 then Int64.ofInt (-20) else (kOc m X).2 102 0).toInt = -20
        rw [if_pos ⟨rfl, rfl⟩, jt_gl (jgl_c rfl)]
      · rw [u1]; exact jgl_c rfl
      · rw [ja_fr u5 (by unfold kWrq; omega)]; exact T2
      · rw [u2, ja_fr u5 (by unfold kWrq; omega)]; exact T3
    · have hn16 : n < 16 := by omega
      have k3 : ∀ k, k < 4 → ja (kOc m X) 3 k = (c 11 k : Int) := fun k hk => by rw [ja_fr FO (by omega)]; exact h2.1 k hk
      rw [sp_54y (M := kOc m X) k50 hn16, jsb, if_pos (show (0 : Int) = 0 from rfl), jo_bind, jo_bind]
      refine jo_mono (sl_99 (c := c) hXL.2 h1 k3 T1) (fun b hb => ?_)
      cases hr : wTop (fun j => ja m 69 j) X c with
      | inl e =>
        obtain ⟨kd, at'⟩ := e
        rw [hr] at hb
        obtain ⟨q1, q2, q3, q4, hf9⟩ := hb
        dsimp only at q2 q3 q4
        have FB : jfr true (fun k j => (k = 1 ∧ 1 ≤ j ∧ j ≤ 6) ∨ (41 ≤ k ∧ k ≤ 46)) m b.2 := jfr_t (jfr_t jfr_r FO (fun e => e) (fun k j h => Or.inl h)) hf9 (fun e => e) (fun k j h => by unfold jW_99 at h; omega)
        have b11 : ja b.2 1 1 = 0 := by rw [ja_fr hf9 (by unfold jW_99; omega)]; exact T2
        rw [q1, if_pos rfl, q2]
        show jo (jf_222 X (jsl b.2 102 0 (jw (-10 + kd)))) _
        refine jo_mono (sl_222 (m0 := m) (m := jsl b.2 102 0 (jw (-10 + kd))) (f := fun j => ja m 69 j) (fun k j hk => by show ja b.2 k j = _; exact ja_fr FB (by omega)) t3 hXL.1 hXL.2 hf hn16 n3 h1 h3 pm pv pd h5 h7) (fun p' hp' => ?_)
        rw [hr] at hp'
        obtain ⟨⟨u1, u2, u3⟩, u4, u5⟩ := hp'
        dsimp only at u1 u2
        have q : ∀ k j, ¬ ((k = 1 ∧ 1 ≤ j ∧ j ≤ 6) ∨ (41 ≤ k ∧ k ≤ 46)) → ¬ kWrq k j → ja p'.2 k j = ja m k j := fun k j z1 z2 => by
          rw [ja_fr u3 z2]
          show ja b.2 k j = _
          exact ja_fr FB z1
        refine ⟨u5, fun _ => ?_, ?_, Inv_tx h (fun k j hk => q k j (by unfold kQS at hk; omega) (by unfold kQS at hk; unfold kWrq; omega)) ?_ u4 ?_ (fun k j hk => q k j (by unfold kQR at hk; omega) (by unfold kQR at hk; unfold kWrq; omega))⟩
        · unfold jal
          rw [u3.2 rfl, u1]
          show (if (102 : Nat) = 102 ∧ (0 : Nat) = 0 then Int64.ofInt (jw (-10 + kd)) else b.2.2 102 0).toInt = jw (kd - 10)
          rw [if_pos ⟨rfl, rfl⟩, jt_gl (jgl_g jg_w), show -10 + kd = kd - 10 by omega]
        · rw [u1]; exact jgl_g jg_w
        · rw [ja_fr u3 (by unfold kWrq; omega)]; exact b11
        · rw [u2, ja_fr u3 (by unfold kWrq; omega)]; exact q3
      | inr l =>
        rw [hr] at hb
        obtain ⟨q1, q2, q3, hf9⟩ := hb
        have FB : jfr true (fun k j => (k = 1 ∧ 1 ≤ j ∧ j ≤ 6) ∨ (41 ≤ k ∧ k ≤ 46)) m b.2 := jfr_t (jfr_t jfr_r FO (fun e => e) (fun k j h => Or.inl h)) hf9 (fun e => e) (fun k j h => by unfold jW_99 at h; omega)
        have b11 : ja b.2 1 1 = 0 := by rw [ja_fr hf9 (by unfold jW_99; omega)]; exact T2
        have b16 : ja b.2 1 6 = -1 := by rw [q3]; exact T3
        have b50 : ja b.2 50 1 = (n : Int) := by rw [ja_fr FB (by omega)]; exact n2
        have tp := (wTop_r (f := fun j => ja m 69 j) (n := X) (c := c) (by omega) h1).2
        rw [hr] at tp
        have tp1 : wSm (wWt 6) l ≤ X := tp.1
        have tp2 : wAll (wV c 6) l := tp.2
        have lz : (wFl (wC 6) (wSz 6) 0 l).length ≤ 150 := by
          rw [wFl_len (wC_len 6)]
          have := wSm_le (wSz_le 6) l
          omega
        have hI : wI c ((0 : Nat), (0 : Nat), (0 : Nat), p) := ⟨pv, pd, Nat.zero_le _, Nat.le_refl _⟩
        have hI2 := wI_L (P := wV c 6) (fun t s g1 g2 g3 => wI_e (cl := cl) h1 6 t s g1 g2 g3) l _ tp2 hI
        rw [q1, if_neg Int.one_ne_zero, sp_55 b50 hn16, jsb]
        have rP : ∀ k j, ja (js (jcp b.2 (b.2.1 48) 51 0 (52 * n) 52) 50 1 ((n + 1 : Nat) : Int)) k j = if k = 50 ∧ j = 1 then ((n + 1 : Nat) : Int) else if k = 51 ∧ 52 * n ≤ j ∧ j < 52 * n + 52 then ja b.2 48 (j - 52 * n) else ja b.2 k j := fun k j => by
          rw [ja_js, jwi (x := ((n + 1 : Nat) : Int)) (by omega) (by omega), ja_jcp]
          by_cases z : k = 51 ∧ 52 * n ≤ j ∧ j < 52 * n + 52
          · rw [if_pos z, if_pos z]
            show (if k = 50 ∧ j = 1 then ((n + 1 : Nat) : Int) else ja b.2 48 (0 + (j - 52 * n))) = _
            rw [Nat.zero_add]
          · rw [if_neg z, if_neg z]
        have FQ : jfr true (fun k j => k = 51 ∨ (k = 50 ∧ j = 1)) b.2 (js (jcp b.2 (b.2.1 48) 51 0 (52 * n) 52) 50 1 ((n + 1 : Nat) : Int)) := jfr_js (jfr_jcp jfr_r (fun j => Or.inl rfl)) (Or.inr ⟨rfl, rfl⟩)
        generalize js (jcp b.2 (b.2.1 48) 51 0 (52 * n) 52) 50 1 ((n + 1 : Nat) : Int) = P at rP FQ ⊢
        have FP : jfr true (fun k j => ((k = 1 ∧ 1 ≤ j ∧ j ≤ 6) ∨ (41 ≤ k ∧ k ≤ 46)) ∨ (k = 51 ∨ (k = 50 ∧ j = 1))) m P := jfr_t (jfr_t jfr_r FB (fun e => e) (fun k j h => Or.inl h)) FQ (fun e => e) (fun k j h => Or.inr h)
        have KP : kK 0 P c p cl := ⟨h1, pv, h5, kCc_e (fun k j a b => ja_fr FP (by omega)) h2, kPc_eq (fun j => ja_fr FP (by omega)) pc, kLc_e (ja_fr FP (by omega)) (fun j => ja_fr FP (by omega)) h6⟩
        have CP : kCw P (wFl (wC 6) (wSz 6) 0 l) := kCw_fr q2 FQ (fun k j h => by omega)
        refine jo_c (sl_105 tp2 KP pd rfl lz CP) (fun r hr5 => ?_)
        obtain ⟨⟨r1, -, r3, r4⟩, r5⟩ := hr5
        obtain ⟨s, hs⟩ : ∃ s, wSL (wSe c cl 6) l ((0 : Nat), (0 : Nat), (0 : Nat), p) = s := ⟨_, rfl⟩
        rw [hs] at r1 r3 r4 hI2
        have i3 := hI2.2.2.1
        have i4 := hI2.2.2.2
        have c7 : ja (js r 0 14 (ja r 41 8)) 41 7 = (s.2.1 : Int) := by rw [ja_jsk (by decide)]; exact r3
        have c14 : ja (js r 0 14 (ja r 41 8)) 0 14 = (s.2.2.1 : Int) := by rw [ja_js1, r4, jwi (by omega) (by omega)]
        have c48 : ∀ j, ja (js r 0 14 (ja r 41 8)) 48 j = ja r 48 j := fun j => ja_jsk (by decide)
        have c51 : ∀ j, ja (js r 0 14 (ja r 41 8)) 51 j = if 52 * n ≤ j ∧ j < 52 * n + 52 then ja m 48 (j - 52 * n) else ja m 51 j := fun j => by
          rw [ja_jsk (by decide), ja_fr r5 (by unfold jW_105; omega), rP, if_neg (show ¬ ((51 : Nat) = 50 ∧ j = 1) by omega)]
          by_cases z : 52 * n ≤ j ∧ j < 52 * n + 52
          · rw [if_pos (show (51 : Nat) = 51 ∧ 52 * n ≤ j ∧ j < 52 * n + 52 from ⟨rfl, z⟩), if_pos z]; exact ja_fr FB (by omega)
          · rw [if_neg (show ¬ ((51 : Nat) = 51 ∧ 52 * n ≤ j ∧ j < 52 * n + 52) from fun e => z e.2), if_neg z]; exact ja_fr FB (by omega)
        have c50 : ja (js r 0 14 (ja r 41 8)) 50 1 = ((n + 1 : Nat) : Int) := by rw [ja_jsk (by decide), ja_fr r5 (by unfold jW_105; omega), rP, if_pos ⟨rfl, rfl⟩]
        have c11 : ja (js r 0 14 (ja r 41 8)) 1 1 = 0 := by rw [ja_jsk (by decide), ja_fr r5 (by unfold jW_105; omega), ja_fr FQ (by omega)]; exact b11
        have c16 : ja (js r 0 14 (ja r 41 8)) 1 6 = -1 := by rw [ja_jsk (by decide), ja_fr r5 (by unfold jW_105; omega), ja_fr FQ (by omega)]; exact b16
        have FC : jfr true kWw m (js r 0 14 (ja r 41 8)) := jfr_js (jfr_t (jfr_t jfr_r FP (fun e => e) (fun k j h => by unfold kWw; omega)) r5 (fun e => e) (fun k j h => by unfold jW_105 at h; unfold kWw; omega)) (by unfold kWw; omega)
        rw [jle_eq, c7]
        generalize js r 0 14 (ja r 41 8) = C at c14 c48 c51 c50 c11 c16 FC ⊢
        show jo (jf_222 X (jsl C 102 0 (s.2.1 : Int))) _
        refine jo_mono (sl_222 (m0 := m) (m := jsl C 102 0 (s.2.1 : Int)) (f := fun j => ja m 69 j) (fun k j hk => by show ja C k j = _; exact ja_fr FC (by unfold kWw; omega)) t3 hXL.1 hXL.2 hf hn16 n3 h1 h3 pm pv pd h5 h7) (fun p' hp' => ?_)
        rw [hr] at hp'
        obtain ⟨⟨u1, u2, u3, u4, u5, u6, u7⟩, u8, u9⟩ := hp'
        rw [hs] at u1 u3 u4
        have qF : ∀ k j, k < 67 → ja p'.2 k j = ja C k j := fun k j z => by rw [ja_fr u7 (by unfold kWrv kWrq kWv2; omega)]; rfl
        have q : ∀ k j, ¬ kWxw k j → ja p'.2 k j = ja m k j := fun k j z => by
          unfold kWxw at z
          rw [ja_fr u7 (by unfold kWrv kWrq kWv2; omega)]
          show ja C k j = _
          exact ja_fr FC (fun e => z (Or.inl e))
        refine ⟨u9, fun _ => ?_, ?_, ⟨kS_mk (m := m) (fun k j hk => q k j (by unfold kZ at hk; unfold kWxw kWw; omega)) h1 h2 h3 h5 h6 h7 h8 ?_ ?_ ?_ ?_, ⟨0, by decide, ?_, u8, fun i hi => absurd hi (Nat.not_lt_zero _), ?_⟩, kR_congr (fun k j hk => q k j (by unfold kQR at hk; unfold kWxw kWw; omega)) hR⟩⟩
        · unfold jal
          rw [u7.2 rfl, u1]
          show (if (102 : Nat) = 102 ∧ (0 : Nat) = 0 then Int64.ofInt (s.2.1 : Int) else C.2 102 0).toInt = (s.2.1 : Int)
          rw [if_pos ⟨rfl, rfl⟩, jt_gl (jgl_g ⟨by omega, by omega⟩)]
        · rw [u1]; exact jgl_g ⟨by omega, by omega⟩
        · exact ⟨s.2.2.2, kPc_eq (fun j => (qF 48 j (by decide)).trans (c48 j)) r1.2.2.2.2.1, u3, hI2.1, hI2.2.1⟩
        · refine ⟨n + 1, by omega, by rw [qF 50 1 (by decide)]; exact c50, u5, fun i hi => ?_⟩
          by_cases z : i = n
          · refine kPost_lt h1 (fun j hj => ?_) (fun j hj => ?_) h4
            · show ja p'.2 51 (52 * i + j) = ja m 48 j
              rw [qF 51 _ (by decide), c51, if_pos (by omega), show 52 * i + j - 52 * n = j by omega]
            · show ja p'.2 90 (68 * i + j) = ja m 88 j
              rw [u6, if_pos (by omega), show 68 * i + j - 68 * n = j by omega]
          · refine kPost_lt h1 (fun j hj => ?_) (fun j hj => ?_) (n4 i (by omega))
            · show ja p'.2 51 (52 * i + j) = ja m 51 (52 * i + j)
              rw [qF 51 _ (by decide), c51, if_neg (by omega)]
            · show ja p'.2 90 (68 * i + j) = ja m 90 (68 * i + j)
              rw [u6, if_neg (by omega)]
        · exact kImg_e (q _ _ (by unfold kWxw kWw; omega)) (q _ _ (by unfold kWxw kWw; omega)) (fun k j a b => q k j (by unfold kWxw kWw; omega)) (fun j => q _ j (by unfold kWxw kWw; omega)) h10
        · rw [qF 0 14 (by decide), c14, u4]
        · rw [qF 1 1 (by decide)]; exact c11
        · rw [qF 1 6 (by decide), c16, u2]
  · refine rf_At (w := 1) h (jg_c rfl) (by decide) ?_ ?_
    · show jf_306 _ m = _
      unfold jf_306 jf_156
      rw [sp_151, if_neg hX, jsb, if_neg (by simp)]; rfl
    · show jf_222 _ (kA m) = _
      unfold jf_222
      have e2 : ja (js (kA m) 67 0 0) 67 2 = (L : Int) := by rw [ja_jsj (by decide)]; unfold kA; rw [ja_jsk (by decide)]; exact t3
      have hz : (if x0 < 0 then some (0 : Int) else if (L : Int) < x0 then some 0 else if 150 < x0 then some 0 else some 1) = some 0 := by
        by_cases z1 : x0 < 0
        · rw [if_pos z1]
        · rw [if_neg z1]
          by_cases z2 : (L : Int) < x0
          · rw [if_pos z2]
          · rw [if_neg z2, if_pos]
            rw [t2] at hX
            unfold jmin at hX
            split at hX <;> omega
      rw [jle_eq, e2, hz, jsb, mk_Ar th0 (jg_c rfl) (by decide) rfl]
