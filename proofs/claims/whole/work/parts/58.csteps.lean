/-! STEPS in the class. -/
theorem kCnt_B {S : Nat → Bool} {n : Nat} (hn : n ≤ 8) : kCnt (fun i => (kB S n).testBit i) 8 = kCnt S n := by
  rw [kCnt_8 (kB_lt n) hn]
  refine kCnt_ext n (fun i hi => ?_)
  rw [kB_tb, decide_eq_true hi, Bool.true_and]
theorem kHw_n {c : kC} {p : kP} {w : Nat} (hq : kVp c p) (hw : w < c 11 2) : (kHw c p w).2.2 = ((kCnt (fun l => decide (p 6 l = (w : Int))) (c 11 3) : Nat) : Int) ∧ kCnt (fun l => decide (p 6 l = (w : Int))) (c 11 3) ≤ 2 := by
  refine ⟨kCar_n _, ?_⟩
  rw [← kHeld_c]; exact hq.2.2.2.2 w hw
theorem kLay_r {c : kC} {p : kP} {l : Nat} {t : Int} (b j : Nat) (h : ¬ (j = l ∧ (b = 5 ∨ b = 6 ∨ b = 7))) : kLay c p l t b j = p b j := by
  unfold kLay kU
  rw [if_neg (by omega), if_neg (by omega), if_neg (by omega)]
theorem kLay_t {c : kC} {p : kP} {l : Nat} {t : Int} : kLt (kLay c p l t) l = if t = (c 8 l : Int) then 14 else t := by
  have r6 : kLay c p l t 6 l = -1 := by unfold kLay; rw [kU_a (by decide), kU_a (by decide), kU_e]
  have r5 : kLay c p l t 5 l = t := by unfold kLay; rw [kU_a (by decide), kU_e]
  have r7 : kLay c p l t 7 l = if (c 8 l : Int) = t then 1 else 0 := by unfold kLay; rw [kU_e]
  unfold kLt
  rw [r5, r6, r7]
  by_cases e : t = (c 8 l : Int)
  · rw [if_pos e, if_pos e.symm]; rfl
  · rw [if_neg e, if_neg (show ¬ (c 8 l : Int) = t from fun z => e z.symm), if_neg (by decide), if_pos rfl]
/-- handOver -/
theorem sl_76 {q : Nat} {m : jm} {c : kC} {p : kP} {cl : List Int} {w l : Nat} (H : kK q m c p cl) (hw : w < c 11 2) (hl : l < c 11 3) : jo (jf_76 q w l m) (fun r => r.1 = b2i (kGv c p w l).1 ∧ kK q r.2 c (kGv c p w l).2 cl) := by
  have hn := H.1.1
  have hv := kVp_gv H.2.1 hw hl
  have h3 := H.2.1.2.2.1 w hw
  have h8 := (H.1.2.2.2.2.2 l hl).2.1
  obtain ⟨e1, e2, -⟩ := sp_lt H hl
  unfold jf_76
  rw [sp_61 H hl, jsb]
  unfold kGv at *
  by_cases h : p 6 l = (w : Int)
  · rw [if_pos h, sp_59 H hw, jsb, if_pos (show 0 ≤ (l : Int) ∧ (l : Int) < 8 by omega), Int.toNat_natCast, kK_T H hl, e1]
    rw [if_pos h] at hv ⊢
    by_cases e : p 2 w = (c 8 l : Int)
    · rw [if_pos e, jsb, if_pos e2, Int.toNat_natCast]
      exact ⟨rfl, kK_ul H hv kLay_r (by rw [kLay_t, if_pos e]; rfl)⟩
    · rw [if_neg e, jsb, if_pos e2, Int.toNat_natCast]
      exact ⟨rfl, kK_ul H hv kLay_r (by rw [kLay_t, if_neg e, jwi (by omega) (by omega)])⟩
  · rw [if_neg h, if_neg h]
    exact ⟨rfl, H⟩
/-- pickUp -/
theorem sl_75 {q : Nat} {m : jm} {c : kC} {p : kP} {cl : List Int} {w l : Nat} (H : kK q m c p cl) (hw : w < c 11 2) (hl : l < c 11 3) : jo (jf_75 q w l m) (fun r => r.1 = b2i (kTa c p w l).1 ∧ kK q r.2 c (kTa c p w l).2 cl) := by
  have hn := H.1.1
  have hv := kVp_ta H.2.1 hw hl
  have h3 := H.2.1.2.2.1 w hw
  obtain ⟨a1, a2⟩ := kHw_n H.2.1 hw
  have h4 := H.2.1.2.2.2.1 l hl
  obtain ⟨e1, e2, -⟩ := sp_lt H hl
  unfold jf_75
  rw [sp_58 H hw, jsb]
  have no : ∀ (h : ¬ (p 2 w ≠ -1 ∧ p 6 l = -1 ∧ p 7 l = 0 ∧ p 5 l = p 2 w ∧ kSu c w l = true ∧ (kHw c p w).2.2 ≠ 2)), jo (some ((0 : Int), m)) (fun r => r.1 = b2i (kTa c p w l).1 ∧ kK q r.2 c (kTa c p w l).2 cl) := fun h => by
    unfold kTa; rw [if_neg h]; exact ⟨rfl, H⟩
  by_cases h2 : p 2 w = -1
  · rw [if_pos h2, if_neg (show ¬ (1 : Int) = 0 by decide), jsb, if_pos rfl]
    exact no (fun z => z.1 h2)
  · rw [if_neg h2, if_pos (show (0 : Int) = 0 from rfl), sp_57 H hl, jsb, sp_59 H hw, jsb]
    have hls : kLs p l = p 2 w ↔ p 6 l = -1 ∧ p 7 l = 0 ∧ p 5 l = p 2 w := by
      unfold kLs
      by_cases z : p 7 l = 1
      · rw [if_pos z]; omega
      · rw [if_neg z]
        refine ⟨fun y => ⟨?_, by omega, y⟩, fun y => y.2.2⟩
        by_cases x : p 6 l = -1
        · exact x
        · have := (h4.2.2.2.2.1 x).1; omega
    by_cases h5 : kLs p l = p 2 w
    · rw [if_pos h5, jsb, if_neg Int.one_ne_zero, sp_10 H hw hl, jsb]
      by_cases h6 : kSu c w l = true
      · rw [h6, if_neg (show ¬ b2i true = 0 by decide), sp_60 H, jsb, sp_333 (Nat.lt_of_lt_of_le (kB_lt _) (Nat.pow_le_pow_right (by decide) hn.2.2.2 : 2 ^ c 11 3 ≤ 2 ^ 8)), jsb, kCnt_B hn.2.2.2]
        by_cases h7 : (kHw c p w).2.2 = 2
        · rw [if_neg (by omega)]
          exact no (fun z => z.2.2.2.2.2 h7)
        · rw [if_pos (by omega), e1, if_pos e2, Int.toNat_natCast]
          have hc : p 2 w ≠ -1 ∧ p 6 l = -1 ∧ p 7 l = 0 ∧ p 5 l = p 2 w ∧ kSu c w l = true ∧ (kHw c p w).2.2 ≠ 2 := ⟨h2, (hls.1 h5).1, (hls.1 h5).2.1, (hls.1 h5).2.2, h6, h7⟩
          unfold kTa at *
          rw [if_pos hc] at hv ⊢
          have r : ∀ b j, ¬ (j = l ∧ (b = 5 ∨ b = 6 ∨ b = 7)) → kU (kU p 6 l w) 5 l (-1) b j = p b j := fun b j h => by
            unfold kU
            rw [if_neg (by omega), if_neg (by omega)]
          refine ⟨rfl, kK_ul H hv r ?_⟩
          have r6 : kU (kU p 6 l w) 5 l (-1) 6 l = (w : Int) := by rw [kU_a (by decide), kU_e]
          have r7 : kU (kU p 6 l w) 5 l (-1) 7 l = p 7 l := by rw [kU_a (by decide), kU_a (by decide)]
          show _ = kLt (kU (kU p 6 l w) 5 l (-1)) l
          unfold kLt
          rw [r6, r7, hc.2.2.1, if_neg (by decide), if_neg (by omega), show jw ((8 : Int) + (w : Int)) = 8 + (w : Int) from jwi (by omega) (by omega), jwi (by omega) (by omega)]
      · rw [show kSu c w l = false by simpa using h6, if_pos (show b2i false = 0 by decide)]
        exact no (fun z => h6 z.2.2.2.2.1)
    · rw [if_neg h5, jsb, if_pos rfl]
      exact no (fun z => h5 (hls.2 ⟨z.2.1, z.2.2.1, z.2.2.2.1⟩))
/-- handOverAll, pickUpAll -/
theorem sl_79 {q : Nat} {m : jm} {c : kC} {p : kP} {cl : List Int} {w : Nat} (H : kK q m c p cl) (hw : w < c 11 2) : jo (jf_79 q w m) (fun r => kK q r c (kAg c p w (c 11 3)) cl) := by
  have hn := H.1.1
  unfold jf_79
  rw [jo_bind]
  refine jo_for (c 11 3) jfu (fun i s => s.1 = (i : Int) ∧ kK q s.2 c (kAg c p w i) cl) (jfu_lt (by omega)) (fun i hi s hs => ?_) (fun s hs => ?_) _ ⟨rfl, H⟩
  · rw [kK_n hs.2 (by decide), hs.1, if_pos (by omega)]
    refine jo_c (sl_76 hs.2 hw hi) (fun r hr => ⟨?_, hr.2⟩)
    show jw ((i : Int) + 1) = _
    rw [jwn (by omega)]
  · rw [kK_n hs.2 (by decide), hs.1, if_neg (by omega)]
    exact hs.2
theorem sl_97 {q : Nat} {m : jm} {c : kC} {p : kP} {cl : List Int} {w : Nat} (H : kK q m c p cl) (hw : w < c 11 2) : jo (jf_97 q w m) (fun r => kK q r c (kAt c p w (c 11 3)) cl) := by
  have hn := H.1.1
  unfold jf_97
  rw [jo_bind]
  refine jo_for (c 11 3) jfu (fun i s => s.1 = (i : Int) ∧ kK q s.2 c (kAt c p w i) cl) (jfu_lt (by omega)) (fun i hi s hs => ?_) (fun s hs => ?_) _ ⟨rfl, H⟩
  · rw [kK_n hs.2 (by decide), hs.1, if_pos (by omega)]
    refine jo_c (sl_75 hs.2 hw hi) (fun r hr => ⟨?_, hr.2⟩)
    show jw ((i : Int) + 1) = _
    rw [jwn (by omega)]
  · rw [kK_n hs.2 (by decide), hs.1, if_neg (by omega)]
    exact hs.2
/-- walkTo -/
theorem kK_78 {q : Nat} {m r : jm} {c : kC} {p : kP} {cl : List Int} (H : kK q m c p cl) (hf : jfr true (jW_78 q) m r) : kK q r c p cl := kK_fr H hf (fun k j hk => by unfold jW_78 at hk; unfold kQK; omega)
theorem sl_77 {q : Nat} {m : jm} {c : kC} {p : kP} {cl : List Int} {w t : Nat} (H : kK q m c p cl) (hw : w < c 11 2) (ht : t < c 11 0) : jo (jf_77 q w t m) (fun r => r.1 = b2i (kGo c p cl w t).1 ∧ kK q r.2 c (kGo c p cl w t).2 cl) := by
  have hn := H.1.1
  have h3 := H.2.1.2.2.1 w hw
  unfold jf_77
  rw [sp_59 H hw, jsb]
  have no : ∀ (h : p 2 w = -1 ∨ kJo c (p 2 w) t = -1), jo (some ((0 : Int), m)) (fun r => r.1 = b2i (kGo c p cl w t).1 ∧ kK q r.2 c (kGo c p cl w t).2 cl) := fun h => by
    unfold kGo
    by_cases z : p 2 w = -1
    · rw [if_pos z]; exact ⟨rfl, H⟩
    · rw [if_neg z, if_pos (h.resolve_left z)]; exact ⟨rfl, H⟩
  by_cases h2 : p 2 w = -1
  · rw [if_pos h2, jsb, if_pos rfl]; exact no (Or.inl h2)
  · rw [if_neg h2, sp_16 H, jsb, jsb]
    by_cases hj : kJo c (p 2 w) t = -1
    · rw [if_pos hj]; exact no (Or.inr hj)
    · rw [if_neg hj]
      have hb := kJo_b (c := c) (x := p 2 w) (y := t)
      obtain ⟨e, he⟩ : ∃ e : Nat, kJo c (p 2 w) t = (e : Int) := ⟨(kJo c (p 2 w) t).toNat, by omega⟩
      have hel : e < c 11 1 := by omega
      have hgo : kGo c p cl w t = if kOvr c p cl w e = true then (true, kU (kU p 1 e (jw (p 1 e + 1))) 2 w t) else (true, kFall c (kU p 1 e (jw (p 1 e + 1))) w) := by
        unfold kGo; rw [if_neg h2, if_neg hj, he, Int.toNat_natCast]
      rw [he, if_pos (show 0 ≤ (e : Int) ∧ (e : Int) < 12 by omega), Int.toNat_natCast, kK_A H hel, hgo]
      have hsm : ∀ (u : Int) (F : Int → Option (Int × jm)), (if (c 1 e : Int) = p 2 w then some (0 : Int) else some 1).bind F = F (if (c 1 e : Int) = p 2 w then 0 else 1) := fun u F => by split <;> rfl
      rw [hsm 0, sp_63 H, jsb]
      have hfg : jg (p 8 1) := (kK_gd H).2
      have d1 : jw ((14 : Int) + (e : Int)) = ((14 + e : Nat) : Int) := by rw [jwi (by omega) (by omega)]; omega
      have d2 : jw ((26 : Int) + (w : Int)) = ((26 + w : Nat) : Int) := by rw [jwi (by omega) (by omega)]; omega
      have d3 : jw ((38 : Int) + (w : Int)) = ((38 + w : Nat) : Int) := by rw [jwi (by omega) (by omega)]; omega
      have g1 : 0 ≤ ((14 + e : Nat) : Int) ∧ ((14 + e : Nat) : Int) < 52 := by omega
      have g2 : 0 ≤ ((26 + w : Nat) : Int) ∧ ((26 + w : Nat) : Int) < 52 := by omega
      have g3 : 0 ≤ ((38 + w : Nat) : Int) ∧ ((38 + w : Nat) : Int) < 52 := by omega
      refine jo_c (sl_78 H hw hel hfg) (fun r hr => ?_)
      have H1 := kK_78 H hr.2
      rw [d1, if_pos g1, if_pos g1, Int.toNat_natCast, show ja r.2 (48 + q) (14 + e) = p 1 e from (H1.2.2.2.2.1.2.2.1 e hel).2]
      show jo ((jf_73 q w r.1 (js r.2 (48 + q) (14 + e) (jw (p 1 e + 1)))).bind _) _
      have H2 := kK_u1 (i := e) (x := jw (p 1 e + 1)) H1 (by omega) (kVp_u H.2.1 (Or.inl rfl))
      rw [jw_w] at H2
      rw [sp_73 H2 hw (by rw [hr.1]; exact kLean_b), jsb, hr.1]
      have ho : kOv c w (kLn c p cl w e (if (c 1 e : Int) = p 2 w then 0 else 1) (p 8 1) (kCar c (fun l => decide (p 6 l = (w : Int))) (c 11 3))) = kOvr c p cl w e := rfl
      rw [ho]
      by_cases hk : kOvr c p cl w e = true
      · rw [if_pos hk, if_neg Int.one_ne_zero, d2, if_pos g2, Int.toNat_natCast, if_pos hk]
        have wt : jw (t : Int) = t := jwi (by omega) (by omega)
        have H3 := kK_u2 (i := w) (x := (t : Int)) H2 (by omega) (kVp_2 H2.2.1 ⟨by omega, by omega⟩ (fun z => by omega))
        rw [wt] at H3
        exact ⟨rfl, H3⟩
      · rw [if_neg hk, if_pos rfl, if_neg hk, jo_bind, jo_bind]
        refine jo_mono (sl_79 H2 hw) (fun r3 H3 => ?_)
        rw [d2, if_pos g2, Int.toNat_natCast]
        have wm : jw (-1) = -1 := jwi (by decide) (by decide)
        have H4 := kK_u2 (i := w) (x := (-1 : Int)) H3 (by omega) (by rw [wm]; exact kVp_2 H3.2.1 ⟨by omega, by omega⟩ (fun _ l hl => kAg_6 _ l hl))
        rw [wm] at H4
        show jo (if _ then _ else _) _
        rw [d3, if_pos g3, if_pos g3, Int.toNat_natCast, show ja (js r3 (48 + q) (26 + w) (-1)) (48 + q) (38 + w) = p 4 w from (H4.2.2.2.2.1.2.2.2.1 w hw).2.2.trans (by rw [kU_a (by decide), kAg_2 (by decide), kU_a (by decide)])]
        have H5 := kK_u4 (i := w) (x := jw (p 4 w + 1)) H4 (by omega) (kVp_u H4.2.1 (Or.inr rfl))
        rw [jw_w] at H5
        refine ⟨rfl, ?_⟩
        show kK q _ c (kFall c (kU p 1 e (jw (p 1 e + 1))) w) cl
        unfold kFall
        rw [kU_a (show (4 : Nat) ≠ 1 by decide)]
        exact H5
/-- nightfall -/
theorem sl_84 {q : Nat} {m : jm} {c : kC} {p : kP} {cl : List Int} (H : kK q m c p cl) : jo (jf_84 q m) (fun r => kK q r c (kNi c p) cl) := by
  have hn := H.1.1
  have w0 : jw 0 = 0 := jwi (by decide) (by decide)
  unfold jf_84
  rw [if_pos (show (0 : Int) ≤ 0 ∧ (0 : Int) < 52 by decide), if_pos (show (0 : Int) ≤ 0 ∧ (0 : Int) < 52 by decide), show ja m (48 + q) (0 : Int).toNat = p 8 0 from H.2.2.2.2.1.1]
  have H1 := kK_u8 (i := 0) (x := jw (p 8 0 + 1)) H (by decide) (kVp_ux H.2.1 (Or.inr (Or.inr (Or.inl ⟨rfl, rfl⟩))))
  rw [jw_w] at H1
  rw [show ∀ {β : Type} (a : jm) (g : jm → Option β), jle a g = g a from fun _ _ => rfl]
  rw [if_pos (show (0 : Int) ≤ 1 ∧ (1 : Int) < 52 by decide)]
  have H2 := kK_u8 (i := 1) (x := 0) H1 (by decide) (by rw [w0]; exact kVp_n0 H.2.1)
  rw [w0] at H2
  show jo (Option.bind (jlp _ jfu ((0 : Int), js (js m (48 + q) 0 (jw (p 8 0 + 1))) (48 + q) 1 0)) _) _
  rw [jo_bind]
  refine jo_for (c 11 1) jfu (fun i (s : Int × jm) => s.1 = (i : Int) ∧ kK q s.2 c (kNh (kN0 p) i) cl) (jfu_lt (by omega)) (fun i hi s hs => ?_) (fun s hs => ?_) _ ⟨rfl, H2⟩
  · rw [kK_n hs.2 (by decide), hs.1, if_pos (by omega), show jw ((14 : Int) + (i : Int)) = ((14 + i : Nat) : Int) by rw [jwi (by omega) (by omega)]; omega, if_pos (by omega), Int.toNat_natCast]
    refine ⟨?_, ?_⟩
    · show jw ((i : Int) + 1) = _
      rw [jwn (by omega)]
    · have H3 := kK_u1 (i := i) (x := 0) hs.2 (by omega) (kVp_u hs.2.2.1 (Or.inl rfl))
      rw [w0] at H3
      exact H3
  · rw [kK_n hs.2 (by decide), hs.1, if_neg (by omega)]
    obtain ⟨-, hs⟩ := hs
    show jo (Option.bind (jlp _ jfu ((0 : Int), s.2)) _) _
    rw [jo_bind]
    refine jo_for (c 11 2) jfu (fun i (s : Int × jm) => s.1 = (i : Int) ∧ kK q s.2 c (kNw c (kNh (kN0 p) (c 11 1)) i) cl) (jfu_lt (by omega)) (fun i hi s hs => ?_) (fun s hs => ?_) _ ⟨rfl, hs⟩
    · have d1 : jw ((32 : Int) + (i : Int)) = ((32 + i : Nat) : Int) := by rw [jwi (by omega) (by omega)]; omega
      have d2 : jw ((26 : Int) + (i : Int)) = ((26 + i : Nat) : Int) := by rw [jwi (by omega) (by omega)]; omega
      have H3 := kK_u3 (i := i) (x := 0) hs.2 (by omega) (by rw [w0]; exact kVp_n1 hs.2.2.1)
      rw [w0] at H3
      have h4 := (H.1.2.2.2.2.1 i hi).1
      rw [kK_n hs.2 (by decide), hs.1, if_pos (by omega), d1, if_pos (by omega), Int.toNat_natCast]
      show jo (Option.bind (jf_58 q (i : Int) (js s.2 (48 + q) (32 + i) 0)) _) _
      rw [sp_58 H3 hi, jsb, kU_a (show (2 : Nat) ≠ 3 by decide)]
      by_cases h : kNw c (kNh (kN0 p) (c 11 1)) i 2 i = -1
      · have H4 := kK_u2 (i := i) (x := (c 4 i : Int)) H3 (by omega) (by rw [jwi (by omega) (by omega)]; exact kVp_2 H3.2.1 ⟨by omega, by omega⟩ (fun z => by omega))
        rw [jwi (by omega) (by omega)] at H4
        rw [if_pos h, if_neg Int.one_ne_zero, if_pos (by omega), d2, if_pos (by omega), Int.toNat_natCast, Int.toNat_natCast, kK_hm H3 hi]
        refine ⟨?_, ?_⟩
        · show jw ((i : Int) + 1) = _
          rw [jwn (by omega)]
        · show kK q _ c (if kNw c (kNh (kN0 p) (c 11 1)) i 2 i = -1 then _ else _) cl
          rw [if_pos h]
          exact H4
      · rw [if_neg h, if_pos rfl, jsb]
        refine ⟨?_, ?_⟩
        · show jw ((i : Int) + 1) = _
          rw [jwn (by omega)]
        · show kK q _ c (if kNw c (kNh (kN0 p) (c 11 1)) i 2 i = -1 then _ else _) cl
          rw [if_neg h]
          exact H3
    · rw [kK_n hs.2 (by decide), hs.1, if_neg (by omega)]
      exact hs.2
/-- the small ones: turnFog, putSlack, putResin, nightUpTo -/
def kFo (p : kP) : kP := kU p 8 1 (1 - p 8 1)
theorem kVp_fo {c : kC} {p : kP} (hq : kVp c p) : kVp c (kFo p) := by
  have := hq.1
  exact kVp_ux hq (Or.inr (Or.inr (Or.inr ⟨rfl, rfl, by omega⟩)))
theorem sl_82 {q : Nat} {m : jm} {c : kC} {p : kP} {cl : List Int} (H : kK q m c p cl) : jo (jf_82 q m) (fun r => r.1 = 1 ∧ kK q r.2 c (kFo p) cl) := by
  have h1 := H.2.1.1
  have w1 : jw (1 - p 8 1) = 1 - p 8 1 := jwi (by omega) (by omega)
  have hv := kVp_fo H.2.1
  unfold jf_82
  rw [if_pos (show (0 : Int) ≤ 1 ∧ (1 : Int) < 52 by decide), if_pos (show (0 : Int) ≤ 1 ∧ (1 : Int) < 52 by decide), show ja m (48 + q) (1 : Int).toNat = p 8 1 from H.2.2.2.2.1.2.1, w1]
  have H1 := kK_u8 (i := 1) (x := 1 - p 8 1) H (by decide) (by rw [w1]; exact hv)
  rw [w1] at H1
  exact ⟨rfl, H1⟩
def kPs (p : kP) (e : Nat) (x : Int) : Bool × kP := if p 0 e = x then (false, p) else (true, kU p 0 e x)
theorem sl_80 {q : Nat} {m : jm} {c : kC} {p : kP} {cl : List Int} {e : Nat} {x : Int} (H : kK q m c p cl) (he : e < c 11 1) (hx : 0 ≤ x ∧ x ≤ 9) : jo (jf_80 q e x m) (fun r => r.1 = b2i (kPs p e x).1 ∧ kK q r.2 c (kPs p e x).2 cl) := by
  have hn := H.1.1
  unfold jf_80 kPs
  rw [sp_65 H he, jsb]
  by_cases h : p 0 e = x
  · rw [if_pos h, if_pos h]; exact ⟨rfl, H⟩
  · have w1 : jw x = x := jwi (by omega) (by omega)
    have H1 := kK_u0 (i := e) (x := x) H (by omega) (by rw [w1]; exact kVp_ux H.2.1 (Or.inl ⟨rfl, hx⟩))
    rw [w1] at H1
    rw [if_neg h, if_neg h, show jw ((2 : Int) + (e : Int)) = ((2 + e : Nat) : Int) by rw [jwi (by omega) (by omega)]; omega, if_pos (by omega), Int.toNat_natCast]
    exact ⟨rfl, H1⟩
def kPr (p : kP) (w : Nat) : Bool × kP := if p 2 w = -1 ∨ p 3 w = 9 then (false, p) else (true, kU p 3 w (p 3 w + 1))
theorem sl_81 {q : Nat} {m : jm} {c : kC} {p : kP} {cl : List Int} {w : Nat} (H : kK q m c p cl) (hw : w < c 11 2) : jo (jf_81 q w m) (fun r => r.1 = b2i (kPr p w).1 ∧ kK q r.2 c (kPr p w).2 cl) := by
  have hn := H.1.1
  have h3 := H.2.1.2.2.1 w hw
  unfold jf_81 kPr
  rw [sp_58 H hw, jsb]
  by_cases h : p 2 w = -1
  · rw [if_pos h, if_neg Int.one_ne_zero, if_pos (Or.inl h)]; exact ⟨rfl, H⟩
  · rw [if_neg h, if_pos rfl, sp_68 H hw, jsb]
    by_cases h9 : p 3 w = 9
    · rw [if_neg (by omega), if_pos (Or.inr h9)]; exact ⟨rfl, H⟩
    · have w1 : jw (p 3 w + 1) = p 3 w + 1 := jwi (by omega) (by omega)
      have H1 := kK_u3 (i := w) (x := p 3 w + 1) H (by omega) (by rw [w1]; exact kVp_ux H.2.1 (Or.inr (Or.inl ⟨rfl, by omega, by omega⟩)))
      rw [w1] at H1
      rw [if_pos (show p 3 w < 9 by omega), if_neg (show ¬ (p 2 w = -1 ∨ p 3 w = 9) by omega), show jw ((32 : Int) + (w : Int)) = ((32 + w : Nat) : Int) by rw [jwi (by omega) (by omega)]; omega, if_pos (by omega), if_pos (by omega), Int.toNat_natCast, show ja m (48 + q) (32 + w) = p 3 w from (H.2.2.2.2.1.2.2.2.1 w hw).2.1, w1]
      exact ⟨rfl, H1⟩
