/-! STEPS in the model. -/
theorem pmi {a i : Nat} (h : a + i < 68) : jw ((a : Int) + (i : Int)) = ((a + i : Nat) : Int) ∧ (0 ≤ ((a + i : Nat) : Int) ∧ ((a + i : Nat) : Int) < 68) := by
  rw [jwi (by omega) (by omega)]; omega
theorem wm1 : jw (-1) = -1 := jwi (by decide) (by decide)
theorem wz0 : jw 0 = 0 := jwi (by decide) (by decide)
theorem wo1 : jw 1 = 1 := jwi (by decide) (by decide)
/-- lays -/
theorem sl_233 {m : jm} {c : kC} {p : kP} {cl : List Int} {l : Nat} {t : Int} (H : kM m c p cl) (hl : l < c 11 3) (ht : jg t) (hv : kVp c (kLay c p l t)) : jo (jf_233 l t m) (fun r => kM r c (kLay c p l t) cl) := by
  have hn := H.1.1
  obtain ⟨a1, a2⟩ := pmi (a := 50) (i := l) (by omega)
  obtain ⟨b1, b2⟩ := pmi (a := 42) (i := l) (by omega)
  obtain ⟨c1, c2⟩ := pmi (a := 58) (i := l) (by omega)
  have d3 : jw ((4 : Int) * (l : Int)) = (4 : Int) * (l : Int) := jwi (by omega) (by omega)
  have d4 : jw ((4 : Int) * (l : Int) + 1) = (4 : Int) * (l : Int) + 1 := jwi (by omega) (by omega)
  have t2 : ((4 : Int) * (l : Int) + 1).toNat = 4 * l + 1 := by omega
  unfold jf_233
  rw [show (50 : Int) = ((50 : Nat) : Int) from rfl, show (42 : Int) = ((42 : Nat) : Int) from rfl, show (58 : Int) = ((58 : Nat) : Int) from rfl, a1, b1, c1, if_pos a2, jle_eq, if_pos b2, jle_eq, d3, d4, if_pos (show 0 ≤ (4 : Int) * (l : Int) + 1 ∧ (4 : Int) * (l : Int) + 1 < 32 by omega), t2, ja_jsk (show (79 : Nat) ≠ 89 by decide), ja_jsk (show (79 : Nat) ≠ 89 by decide), kM_T H hl, jite_some, jsb, if_pos c2, jle_eq, Int.toNat_natCast, Int.toNat_natCast, Int.toNat_natCast]
  refine kM_p H hv (fun k j hk => by rw [ja_jsk hk, ja_jsk hk, ja_jsk hk]) ?_
  have e1 := kPm_j6 (i := l) (x := -1) H.1 (by omega) H.2.2.2.2.1
  have e2 := kPm_j5 (i := l) (x := t) H.1 (by omega) e1
  have e3 := kPm_j7 (i := l) (x := if (c 8 l : Int) = t then 1 else 0) H.1 (by omega) e2
  rw [wm1, jw_id ht, show jw (if (c 8 l : Int) = t then 1 else 0) = if (c 8 l : Int) = t then 1 else 0 by split <;> first | exact wo1 | exact wz0] at e3
  exact e3
/-- gives -/
theorem sl_232 {m : jm} {c : kC} {p : kP} {cl : List Int} {w l : Nat} (H : kM m c p cl) (hw : w < c 11 2) (hl : l < c 11 3) : jo (jf_232 w l m) (fun r => r.1 = b2i (kGv c p w l).1 ∧ kM r.2 c (kGv c p w l).2 cl) := by
  have hn := H.1.1
  have h3 := H.2.1.2.2.1 w hw
  have hv := kVp_gv H.2.1 hw hl
  obtain ⟨a1, a2⟩ := pmi (a := 50) (i := l) (by omega)
  obtain ⟨b1, b2⟩ := pmi (a := 24) (i := w) (by omega)
  unfold jf_232
  rw [show (50 : Int) = ((50 : Nat) : Int) from rfl, show (24 : Int) = ((24 : Nat) : Int) from rfl, a1, b1, if_pos a2, Int.toNat_natCast, Int.toNat_natCast, kM_s6 H hl, kM_s2 H hw]
  unfold kGv at *
  by_cases h : p 6 l = (w : Int)
  · rw [if_pos h, if_pos b2, jo_bind]
    rw [if_pos h] at hv ⊢
    exact jo_mono (sl_233 H hl ⟨by omega, by omega⟩ hv) (fun r hr => ⟨rfl, hr⟩)
  · rw [if_neg h, if_neg h]; exact ⟨rfl, H⟩
/-- takes -/
theorem sl_229 {m : jm} {c : kC} {p : kP} {cl : List Int} {w l : Nat} (H : kM m c p cl) (hw : w < c 11 2) (hl : l < c 11 3) : jo (jf_229 w l m) (fun r => r.1 = b2i (kTa c p w l).1 ∧ kM r.2 c (kTa c p w l).2 cl) := by
  have hn := H.1.1
  have h3 := H.2.1.2.2.1 w hw
  have h4 := H.2.1.2.2.2.1 l hl
  have hv := kVp_ta H.2.1 hw hl
  obtain ⟨a1, a2⟩ := pmi (a := 50) (i := l) (by omega)
  obtain ⟨b1, b2⟩ := pmi (a := 24) (i := w) (by omega)
  obtain ⟨c1, c2⟩ := pmi (a := 58) (i := l) (by omega)
  obtain ⟨d1, d2⟩ := pmi (a := 42) (i := l) (by omega)
  unfold jf_229
  refine jo_c (sl_230 (w := (w : Int)) H) (fun r hr => ?_)
  have H1 := kM_fr H hr.2 (fun k j hk => by unfold jW_230 at hk; unfold kQM; omega)
  have e49 : ja r 67 49 = (kHw c p w).2.2 := by
    have := congrArg (fun (x : Int × Int × Int) => x.2.2) hr.1
    exact this
  have no : ∀ (h : ¬ (p 2 w ≠ -1 ∧ p 6 l = -1 ∧ p 7 l = 0 ∧ p 5 l = p 2 w ∧ kSu c w l = true ∧ (kHw c p w).2.2 ≠ 2)), jo (some ((0 : Int), r)) (fun r => r.1 = b2i (kTa c p w l).1 ∧ kM r.2 c (kTa c p w l).2 cl) := fun h => by
    unfold kTa; rw [if_neg h]; exact ⟨rfl, H1⟩
  rw [show (50 : Int) = ((50 : Nat) : Int) from rfl, show (24 : Int) = ((24 : Nat) : Int) from rfl, show (58 : Int) = ((58 : Nat) : Int) from rfl, show (42 : Int) = ((42 : Nat) : Int) from rfl, a1, b1, c1, d1, if_pos b2, Int.toNat_natCast, Int.toNat_natCast, Int.toNat_natCast, Int.toNat_natCast, kM_s6 H1 hl, kM_s2 H1 hw, kM_s7 H1 hl, kM_s5 H1 hl, e49]
  by_cases h2 : p 2 w = -1
  · rw [if_pos h2]; exact no (fun z => z.1 h2)
  · rw [if_neg h2, if_pos a2]
    by_cases h6 : p 6 l = -1
    · rw [if_pos h6, if_pos c2]
      by_cases h7 : p 7 l = 1
      · rw [if_pos h7]; exact no (fun z => by omega)
      · rw [if_neg h7, if_pos d2, if_pos b2]
        by_cases h5 : p 5 l = p 2 w
        · rw [if_pos h5, sp_231 H1 hw hl, jsb]
          by_cases hs : kSu c w l = true
          · rw [hs, if_neg (show ¬ b2i true = 0 by decide)]
            by_cases h8 : (kHw c p w).2.2 = 2
            · rw [if_pos h8]; exact no (fun z => z.2.2.2.2.2 h8)
            · have hc : p 2 w ≠ -1 ∧ p 6 l = -1 ∧ p 7 l = 0 ∧ p 5 l = p 2 w ∧ kSu c w l = true ∧ (kHw c p w).2.2 ≠ 2 := ⟨h2, h6, by omega, h5, hs, h8⟩
              rw [if_neg h8, if_pos a2, jle_eq, if_pos d2, jle_eq]
              unfold kTa at *
              rw [if_pos hc] at hv ⊢
              refine ⟨rfl, kM_p H1 hv (fun k j hk => by rw [ja_jsk hk, ja_jsk hk]) ?_⟩
              have e1 := kPm_j6 (i := l) (x := (w : Int)) H.1 (by omega) H1.2.2.2.2.1
              have e2 := kPm_j5 (i := l) (x := -1) H.1 (by omega) e1
              rw [wm1, show jw (w : Int) = (w : Int) from jwi (by omega) (by omega)] at e2
              exact e2
          · rw [show kSu c w l = false by simpa using hs, if_pos (show b2i false = 0 by decide)]
            exact no (fun z => hs z.2.2.2.2.1)
        · rw [if_neg h5]; exact no (fun z => h5 z.2.2.2.1)
    · rw [if_neg h6]; exact no (fun z => h6 z.2.1)
/-- walks -/
theorem sl_234 {m : jm} {c : kC} {p : kP} {cl : List Int} {w t : Nat} (H : kM m c p cl) (hw : w < c 11 2) (ht : t < c 11 0) : jo (jf_234 w t m) (fun r => r.1 = b2i (kGo c p cl w t).1 ∧ kM r.2 c (kGo c p cl w t).2 cl) := by
  have hn := H.1.1
  have h3 := H.2.1.2.2.1 w hw
  obtain ⟨b1, b2⟩ := pmi (a := 24) (i := w) (by omega)
  obtain ⟨c1, c2⟩ := pmi (a := 36) (i := w) (by omega)
  have b1' : jw ((24 : Int) + (w : Int)) = ((24 + w : Nat) : Int) := b1
  unfold jf_234
  rw [b1', if_pos b2, Int.toNat_natCast, kM_s2 H hw]
  have no : ∀ (h : p 2 w = -1 ∨ kJo c (p 2 w) t = -1), jo (some ((0 : Int), m)) (fun r => r.1 = b2i (kGo c p cl w t).1 ∧ kM r.2 c (kGo c p cl w t).2 cl) := fun h => by
    unfold kGo
    by_cases z : p 2 w = -1
    · rw [if_pos z]; exact ⟨rfl, H⟩
    · rw [if_neg z, if_pos (h.resolve_left z)]; exact ⟨rfl, H⟩
  by_cases h2 : p 2 w = -1
  · rw [if_pos h2, jsb, if_pos rfl]; exact no (Or.inl h2)
  · rw [if_neg h2, sp_235 H, jsb, jsb]
    by_cases hj : kJo c (p 2 w) t = -1
    · rw [if_pos hj]; exact no (Or.inr hj)
    · rw [if_neg hj]
      have hb := kJo_b (c := c) (x := p 2 w) (y := t)
      obtain ⟨e, he⟩ : ∃ e : Nat, kJo c (p 2 w) t = (e : Int) := ⟨(kJo c (p 2 w) t).toNat, by omega⟩
      have hel : e < c 11 1 := by omega
      have hgo : kGo c p cl w t = if kOvr c p cl w e = true then (true, kU (kU p 1 e (jw (p 1 e + 1))) 2 w t) else (true, kFall c (kU p 1 e (jw (p 1 e + 1))) w) := by
        unfold kGo; rw [if_neg h2, if_neg hj, he, Int.toNat_natCast]
      obtain ⟨a1, a2⟩ := pmi (a := 12) (i := e) (by omega)
      have f1 : jw ((2 : Int) * (e : Int)) = (2 : Int) * (e : Int) := jwi (by omega) (by omega)
      have t1 : ((2 : Int) * (e : Int)).toNat = 2 * e := by omega
      rw [he, hgo]
      refine jo_c (sl_230 (w := (w : Int)) H) (fun r hr => ?_)
      have H1 := (kMa_230 H hr).1
      have hca := (kMa_230 H hr).2
      have g8 : jg (p 8 1) := by rw [← kM_fg H]; exact jg_a
      rw [f1, t1, if_pos (show 0 ≤ (2 : Int) * (e : Int) ∧ (2 : Int) * (e : Int) < 24 by omega), kM_A H1 hel, jite_some, jsb, if_pos (by decide), show ja r 89 (67 : Int).toNat = p 8 1 from kM_fg H1]
      refine jo_c (sl_236 H1 hw hel g8) (fun r2 hr2 => ?_)
      have H2 := kM_fr H1 hr2.2 (fun k j hk => by unfold jW_236 at hk; unfold kQM; omega)
      rw [hca] at hr2
      have ho : kOv c w (kLn c p cl w e (if (c 1 e : Int) = p 2 w then 0 else 1) (p 8 1) (kHw c p w)) = kOvr c p cl w e := rfl
      rw [ho] at hr2
      rw [show (12 : Int) = ((12 : Nat) : Int) from rfl, a1, if_pos a2, if_pos a2, Int.toNat_natCast, kM_s1 H2 hel, jle_eq, hr2.1]
      have H3 := kM_u1 (i := e) (x := jw (p 1 e + 1)) H2 (by omega) (kVp_u H.2.1 (Or.inl rfl))
      rw [jw_w] at H3
      by_cases hk : kOvr c p cl w e = true
      · rw [if_pos hk, if_neg Int.one_ne_zero, if_pos b2, jle_eq, if_pos hk]
        have H4 := kM_u2 (i := w) (x := (t : Int)) H3 (by omega) (by rw [show jw (t : Int) = t from jwi (by omega) (by omega)]; exact kVp_2 H3.2.1 ⟨by omega, by omega⟩ (fun z => by omega))
        rw [show jw (t : Int) = t from jwi (by omega) (by omega)] at H4
        exact ⟨rfl, H4⟩
      · rw [if_neg hk, if_pos rfl, if_neg hk]
        rw [jo_bind]
        refine jo_for (c 11 3) jfu (fun i (s : Int × jm) => s.1 = (i : Int) ∧ kM s.2 c (kAg c (kU p 1 e (jw (p 1 e + 1))) w i) cl) (jfu_lt (by omega)) (fun i hi s hs => ?_) (fun s hs => ?_) _ ⟨rfl, H3⟩
        · obtain ⟨i1, i2⟩ := pmi (a := 50) (i := i) (by omega)
          have hvi := kVp_gv hs.2.2.1 hw hi
          rw [show ja s.2 67 27 = c 11 3 from kM_n hs.2 (i := 3) (by decide), hs.1, if_pos (show (i : Int) < (c 11 3 : Int) by omega), show (50 : Int) = ((50 : Nat) : Int) from rfl, i1, if_pos i2, Int.toNat_natCast, kM_s6 hs.2 hi]
          have hpl : kAg c (kU p 1 e (jw (p 1 e + 1))) w i 2 w = p 2 w := by rw [kAg_2 (by decide), kU_a (by decide)]
          unfold kGv at hvi
          by_cases h6 : kAg c (kU p 1 e (jw (p 1 e + 1))) w i 6 i = (w : Int)
          · rw [if_pos h6] at hvi
            rw [if_pos h6]
            rw [hpl] at hvi
            rw [jo_bind, jo_bind]
            refine jo_mono (sl_233 hs.2 hi ⟨by omega, by omega⟩ hvi) (fun r3 hr3 => ⟨?_, ?_⟩)
            · show jw ((i : Int) + 1) = _
              rw [jwn (by omega)]
            · show kM r3 c (kGv c (kAg c (kU p 1 e (jw (p 1 e + 1))) w i) w i).2 cl
              unfold kGv
              rw [if_pos h6, hpl]
              exact hr3
          · rw [if_neg h6, jsb]
            refine ⟨?_, ?_⟩
            · show jw ((i : Int) + 1) = _
              rw [jwn (by omega)]
            · show kM s.2 c (kGv c (kAg c (kU p 1 e (jw (p 1 e + 1))) w i) w i).2 cl
              unfold kGv
              rw [if_neg h6]
              exact hs.2
        · rw [show ja s.2 67 27 = c 11 3 from kM_n hs.2 (i := 3) (by decide), hs.1, if_neg (show ¬ ((c 11 3 : Nat) : Int) < (c 11 3 : Int) by omega)]
          obtain ⟨-, H4⟩ := hs
          show jo (if 0 ≤ ((24 + w : Nat) : Int) ∧ ((24 + w : Nat) : Int) < 68 then _ else none) _
          rw [if_pos b2, jle_eq, show (36 : Int) = ((36 : Nat) : Int) from rfl, c1, if_pos c2, if_pos c2, jle_eq, Int.toNat_natCast]
          have H5 := kM_u2 (i := w) (x := (-1 : Int)) H4 (by omega) (by rw [wm1]; exact kVp_2 H4.2.1 ⟨by omega, by omega⟩ (fun _ l hl => kAg_6 _ l hl))
          rw [wm1] at H5
          rw [show ja (js s.2 89 (24 + w) (-1)) 89 (36 + w) = p 4 w by rw [kM_s4 H5 hw, kU_a (by decide), kAg_2 (by decide), kU_a (by decide)]]
          have H6 := kM_u4 (i := w) (x := jw (p 4 w + 1)) H5 (by omega) (kVp_u H5.2.1 (Or.inr rfl))
          rw [jw_w] at H6
          refine ⟨rfl, ?_⟩
          show kM _ c (kFall c (kU p 1 e (jw (p 1 e + 1))) w) cl
          unfold kFall
          rw [kU_a (show (4 : Nat) ≠ 1 by decide)]
          exact H6
/-- passes -/
theorem sl_243 {m : jm} {c : kC} {p : kP} {cl : List Int} (H : kM m c p cl) : jo (jf_243 m) (fun r => kM r c (kNi c p) cl) := by
  have hn := H.1.1
  unfold jf_243
  rw [if_pos (show (0 : Int) ≤ 66 ∧ (66 : Int) < 68 by decide), if_pos (show (0 : Int) ≤ 66 ∧ (66 : Int) < 68 by decide), show ja m 89 (66 : Int).toNat = p 8 0 from kM_dy H, jle_eq]
  have H1 := kM_u8 (i := 0) (x := jw (p 8 0 + 1)) H (by decide) (kVp_ux H.2.1 (Or.inr (Or.inr (Or.inl ⟨rfl, rfl⟩))))
  rw [jw_w] at H1
  rw [if_pos (show (0 : Int) ≤ 67 ∧ (67 : Int) < 68 by decide), jle_eq]
  have H2 := kM_u8 (i := 1) (x := 0) H1 (by decide) (by rw [wz0]; exact kVp_n0 H.2.1)
  rw [wz0] at H2
  rw [jo_bind]
  refine jo_for (c 11 1) jfu (fun i (s : Int × jm) => s.1 = (i : Int) ∧ kM s.2 c (kNh (kN0 p) i) cl) (jfu_lt (by omega)) (fun i hi s hs => ?_) (fun s hs => ?_) _ ⟨rfl, H2⟩
  · obtain ⟨a1, a2⟩ := pmi (a := 12) (i := i) (by omega)
    rw [show ja s.2 67 25 = c 11 1 from kM_n hs.2 (i := 1) (by decide), hs.1, if_pos (show (i : Int) < (c 11 1 : Int) by omega), show (12 : Int) = ((12 : Nat) : Int) from rfl, a1, if_pos a2, Int.toNat_natCast]
    refine ⟨?_, ?_⟩
    · show jw ((i : Int) + 1) = _
      rw [jwn (by omega)]
    · have H3 := kM_u1 (i := i) (x := 0) hs.2 (by omega) (kVp_u hs.2.2.1 (Or.inl rfl))
      rw [wz0] at H3
      exact H3
  · rw [show ja s.2 67 25 = c 11 1 from kM_n hs.2 (i := 1) (by decide), hs.1, if_neg (show ¬ ((c 11 1 : Nat) : Int) < (c 11 1 : Int) by omega)]
    obtain ⟨-, hs⟩ := hs
    show jo (Option.bind (jlp _ jfu ((0 : Int), s.2)) _) _
    rw [jo_bind]
    refine jo_for (c 11 2) jfu (fun i (s : Int × jm) => s.1 = (i : Int) ∧ kM s.2 c (kNw c (kNh (kN0 p) (c 11 1)) i) cl) (jfu_lt (by omega)) (fun i hi s hs => ?_) (fun s hs => ?_) _ ⟨rfl, hs⟩
    · obtain ⟨a1, a2⟩ := pmi (a := 30) (i := i) (by omega)
      obtain ⟨b1, b2⟩ := pmi (a := 24) (i := i) (by omega)
      have d3 : jw ((3 : Int) * (i : Int)) = (3 : Int) * (i : Int) := jwi (by omega) (by omega)
      have t3 : ((3 : Int) * (i : Int)).toNat = 3 * i := by omega
      have H3 := kM_u3 (i := i) (x := 0) hs.2 (by omega) (by rw [wz0]; exact kVp_n1 hs.2.2.1)
      rw [wz0] at H3
      have h4 := (H.1.2.2.2.2.1 i hi).1
      rw [show ja s.2 67 26 = c 11 2 from kM_n hs.2 (i := 2) (by decide), hs.1, if_pos (show (i : Int) < (c 11 2 : Int) by omega), show (30 : Int) = ((30 : Nat) : Int) from rfl, show (24 : Int) = ((24 : Nat) : Int) from rfl, a1, b1, if_pos a2, jle_eq, if_pos b2, Int.toNat_natCast, Int.toNat_natCast, d3, t3, kM_s2 H3 hi, kM_hm H3 hi, kU_a (show (2 : Nat) ≠ 3 by decide)]
      by_cases h : kNw c (kNh (kN0 p) (c 11 1)) i 2 i = -1
      · have H4 := kM_u2 (i := i) (x := (c 4 i : Int)) H3 (by omega) (by rw [jwi (by omega) (by omega)]; exact kVp_2 H3.2.1 ⟨by omega, by omega⟩ (fun z => by omega))
        rw [jwi (by omega) (by omega)] at H4
        rw [if_pos h, if_pos (show 0 ≤ (3 : Int) * (i : Int) ∧ (3 : Int) * (i : Int) < 18 by omega), if_pos b2, jle_eq, jsb]
        refine ⟨?_, ?_⟩
        · show jw ((i : Int) + 1) = _
          rw [jwn (by omega)]
        · show kM _ c (if kNw c (kNh (kN0 p) (c 11 1)) i 2 i = -1 then _ else _) cl
          rw [if_pos h]
          exact H4
      · rw [if_neg h, jsb]
        refine ⟨?_, ?_⟩
        · show jw ((i : Int) + 1) = _
          rw [jwn (by omega)]
        · show kM _ c (if kNw c (kNh (kN0 p) (c 11 1)) i 2 i = -1 then _ else _) cl
          rw [if_neg h]
          exact H3
    · rw [show ja s.2 67 26 = c 11 2 from kM_n hs.2 (i := 2) (by decide), hs.1, if_neg (show ¬ ((c 11 2 : Nat) : Int) < (c 11 2 : Int) by omega)]
      exact hs.2
