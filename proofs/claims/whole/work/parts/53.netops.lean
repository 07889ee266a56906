/-! PARTS and BRIDGES, the operations. -/
theorem kLd_eq {c : kC} {s : Nat → Bool} {k o : Nat} (hv : kV c) (hk : k < c 11 0) (ho : o < c 11 0) (h : kRe c s k o = true) : kLd c s o = kLd c s k := by
  obtain ⟨a1, a2, a3, a4⟩ := kLd_c (s := s) hv hk
  obtain ⟨b1, b2, b3, b4⟩ := kLd_c (s := s) hv ho
  rcases Nat.lt_trichotomy (kLd c s o) (kLd c s k) with h1 | h1 | h1
  · have := a4 _ h1
    rw [kRe_t hv (by omega) b2 (kRe_s hv h)] at this; cases this
  · exact h1
  · have := b4 _ h1
    rw [kRe_t hv (by omega) a2 h] at this; cases this
def kGr (c : kC) (t : Nat) : Nat := kCnt (fun o => decide (kLd c (fun e => (kAll c).testBit e) o = t)) (c 11 0)
theorem kGr_mx {c : kC} (hv : kV c) : kMxx (kSiz c) (c 11 0) = kMxx (kGr c) (c 11 0) := by
  refine kMxx_eq (fun k hk => ?_) (fun t ht => ⟨t, ht, ?_⟩)
  · obtain ⟨a1, a2, a3, a4⟩ := kLd_c (s := fun e => (kAll c).testBit e) hv hk
    refine ⟨kLd c (fun e => (kAll c).testBit e) k, by omega, ?_⟩
    unfold kSiz kGr
    exact kCnt_mono _ (fun o ho h => decide_eq_true (kLd_eq hv hk ho h))
  · unfold kSiz kGr
    refine kCnt_mono _ (fun o ho h => ?_)
    have := (kLd_c (s := fun e => (kAll c).testBit e) hv ho).2.1
    rw [of_decide_eq_true h] at this; exact this
def kBg (c : kC) (e : Nat) : Bool := decide (kCo c (fun e => (kAll c).testBit e) < kCo c (fun f => (kAll c &&& (2 ^ e ^^^ 4294967295)).testBit f))
theorem sp_35 {q : Nat} {m : jm} {c : kC} {p : kP} {cl : List Int} (H : kK q m c p cl) : jf_35 m = some ((kB (kBg c) (c 11 1) : Nat) : Int) := by
  have hn := H.1.1
  have n1 := kK_n H (i := 1) (by decide)
  have ha := kAll_b H.1
  unfold jf_35
  rw [sp_36 H, jsb, sp_37 H ha, jsb]
  rw [jlp_fr (a := ((0 : Int), (0 : Int))) (c := ((kB (kBg c) (c 11 1) : Nat) : Int)) (c 11 1) (fun e => (((kB (kBg c) e : Nat) : Int), (e : Int))) (by omega) rfl ?hs ?he]
  case he =>
    dsimp only
    rw [n1, if_neg (by omega)]
  case hs =>
    intro e he
    have hp : 2 ^ e < 4096 := (Nat.pow_lt_pow_iff_right (a := 2) (m := 12) (by decide)).2 (by omega)
    have hl : kAll c &&& (2 ^ e ^^^ 4294967295) ≤ kAll c := Nat.and_le_left
    have eB : ((kB (kBg c) (e + 1) : Nat) : Int) = jbor ((kB (kBg c) e : Nat) : Int) (if kBg c e = true then jshl 1 (e : Int) else 0) := by
      rw [jbit_n (by omega), jbor_n (kB_31 (by omega)) (kBit_lt (by omega))]; rfl
    dsimp only
    rw [n1, if_pos (show (e : Int) < (c 11 1 : Int) by omega), jsb, jshl_n (by omega), jandn (by omega) (by omega), sp_37 H (by omega), jsb, jwn (n := e) (by omega), eB]
    unfold kBg
    by_cases h : kCo c (fun e => (kAll c).testBit e) < kCo c (fun f => (kAll c &&& (2 ^ e ^^^ 4294967295)).testBit f)
    · rw [if_pos (show ((kCo c (fun e => (kAll c).testBit e) : Nat) : Int) < _ by omega), jsb, if_pos (decide_eq_true h), jshl_n (by omega)]
    · rw [if_neg (show ¬ ((kCo c (fun e => (kAll c).testBit e) : Nat) : Int) < _ by omega), jsb, if_neg (fun z => h (of_decide_eq_true z)), jbor_0]
      have := kB_31 (f := kBg c) (n := e) (by omega)
      unfold kBg at this
      unfold jg; omega
  rfl
theorem sy_21 {m : jm} (h : Inv m) : kSp (fun m => jf_144 m) (fun m => jf_277 m) m := by
  obtain ⟨c, p, cl, HK, hC, hP, hL, hB⟩ := Inv_K h
  have hn := HK.1.1
  have ha := kAll_b HK.1
  refine q_okp (W' := jW_276) ((kB (kBg c) (c 11 1) : Nat) : Int) h ?_ ?_ (fun k j h => by unfold jW_276 at h; unfold kQ kQS kQT kQR; omega)
  · show jf_144 m = _
    unfold jf_144
    rw [sp_35 HK]; rfl
  · show jo (jf_277 m) _
    have hC' := kCm_Q (M := m) kEq_r hC
    have hfr : ∀ {M : jm}, jfr true jW_276 (js m 67 0 0) M → kCm M 24 75 c := fun h => kCm_fr hC' h (fun k j hk => by unfold jW_276 at hk; omega)
    unfold jf_277
    rw [jle_eq, show ja (js m 67 0 0) 67 25 = (c 11 1 : Int) from hC'.1 1 (by decide), jAll HK.1]
    refine jo_c (sl_276 HK.1 hC' ha) (fun r hr => ?_)
    rw [hr.1]
    refine jo_c (R := fun (t : Int × jm) => t.1 = ((kB (kBg c) (c 11 1) : Nat) : Int) ∧ jfr true jW_276 (js m 67 0 0) t.2) ?_ (fun t ht => ht)
    refine jo_for (c 11 1) jfu (fun e (s : Int × Int × jm) => s.2.1 = e ∧ s.1 = ((kB (kBg c) e : Nat) : Int) ∧ jfr true jW_276 (js m 67 0 0) s.2.2) (jfu_lt (by omega)) ?_ ?_ _ ⟨rfl, rfl, hr.2.2⟩
    · intro e he s hs
      obtain ⟨bits, x, M2⟩ := s
      obtain ⟨g1, g2, g3⟩ := hs
      dsimp only at g1 g2 g3 ⊢
      subst g1 g2
      have hp : 2 ^ e < 4096 := (Nat.pow_lt_pow_iff_right (a := 2) (m := 12) (by decide)).2 (by omega)
      have hl : kAll c &&& (2 ^ e ^^^ 4294967295) ≤ kAll c := Nat.and_le_left
      have eB : ((kB (kBg c) (e + 1) : Nat) : Int) = jbor ((kB (kBg c) e : Nat) : Int) (if kBg c e = true then jshl 1 (e : Int) else 0) := by
        rw [jbit_n (by omega), jbor_n (kB_31 (by omega)) (kBit_lt (by omega))]; rfl
      have ejm : jshl 1 (e : Int) = ((2 ^ e : Nat) : Int) := jshl_n (by omega)
      rw [show ja M2 67 25 = (c 11 1 : Int) from (hfr g3).1 1 (by decide), if_pos (show (e : Int) < (c 11 1 : Int) by omega), ejm, jandn (by omega) (by omega), jwn (n := e) (by omega)]
      refine jo_c (sl_276 HK.1 (hfr g3) (by omega)) (fun r2 hr2 => ?_)
      rw [hr2.1]
      unfold kBg at eB
      by_cases hh : kCo c (fun e => (kAll c).testBit e) < kCo c (fun f => (kAll c &&& (2 ^ e ^^^ 4294967295)).testBit f)
      · rw [if_pos (show ((kCo c (fun e => (kAll c).testBit e) : Nat) : Int) < _ by omega), jsb]
        rw [if_pos (decide_eq_true hh), ejm] at eB
        exact ⟨rfl, eB.symm, jfr_tr g3 hr2.2.2⟩
      · rw [if_neg (show ¬ ((kCo c (fun e => (kAll c).testBit e) : Nat) : Int) < _ by omega), jsb]
        rw [if_neg (fun z => hh (of_decide_eq_true z))] at eB
        exact ⟨rfl, eB.symm, jfr_tr g3 hr2.2.2⟩
    · intro s hs
      obtain ⟨bits, x, M2⟩ := s
      obtain ⟨g1, g2, g3⟩ := hs
      dsimp only at g1 g2 g3 ⊢
      rw [show ja M2 67 25 = (c 11 1 : Int) from (hfr g3).1 1 (by decide), if_neg (by omega)]
      exact ⟨g2, g3⟩
theorem sy_20 {m : jm} {x0 : Int} (hx0 : jg x0) (h : Inv m) : kSy (fun m => jf_321 x0 m) (fun m => jf_275 x0 m) m := by
  obtain ⟨c, p, cl, HK, hC, hP, hL, hB⟩ := Inv_K h
  have hn := HK.1.1
  have n0 := kK_n HK (i := 0) (by decide)
  have n1 := kK_n HK (i := 1) (by decide)
  have n2 := kK_n HK (i := 2) (by decide)
  have n3 := kK_n HK (i := 3) (by decide)
  by_cases hR : 0 ≤ x0 ∧ x0 ≤ 1
  · skip
    have h4 : x0 = 0 ∨ x0 = 1 := by omega
    have hco : kCo c (fun e => (kAll c).testBit e) ≤ c 11 0 := kCnt_le _
    have hmx : kMxx (kSiz c) (c 11 0) ≤ c 11 0 := (kMxx_le _).2 (fun k hk => kCnt_le _)
    rcases h4 with rfl | rfl
    · refine q_ok (W := fun _ _ => False) (W' := jW_276) (((kCo c (fun e => (kAll c).testBit e) : Nat) : Int)) h (⟨by omega, by omega⟩) ?_ (fun _ _ h => h.elim) (fun M hM => ?_) (fun k j h => by unfold jW_276 at h; unfold kQ kQS kQT kQR; omega)
      · show jo (jf_321 _ m) _
        unfold jf_321
        refine wr0 ?_
        unfold jf_173
        rw [ck_R hR]
        dsimp only
        rw [if_pos rfl, sp_36 HK, jsb, sp_37 HK (kAll_b HK.1)]
        exact ⟨rfl, rfl, jfr_r⟩
      · show jo (jf_275 _ M) _
        unfold jf_275
        have hC' := kCm_Q hM hC
        have hP' := kPm_Q hM hP
        rw [jle_eq, mk_R th0 (jg_c rfl) (by decide) hR]
        dsimp only
        have hfr : ∀ {M2 : jm}, jfr true jW_276 (js M 67 0 0) M2 → kCm M2 24 75 c := fun h => kCm_fr hC' h (fun k j hk => by unfold jW_276 at hk; omega)
        rw [show ja (js M 67 0 0) 67 25 = (c 11 1 : Int) from hC'.1 1 (by decide), jAll HK.1]
        refine jo_c (sl_276 HK.1 hC' (kAll_b HK.1)) (fun r hr => ?_)
        obtain ⟨hr1, hr2, hr3⟩ := hr
        have n0' : ja r.2 67 24 = (c 11 0 : Int) := (hfr hr3).1 0 (by decide)
        rw [jlp_fr (a := ((0 : Int), (0 : Int))) (c := ((kMxx (kGr c) (c 11 0) : Nat) : Int)) (c 11 0) (fun k => (((kMxx (kGr c) k : Nat) : Int), (k : Int))) (by omega) rfl ?hs ?he]
        case he =>
          dsimp only
          rw [n0', if_neg (by omega)]
        case hs =>
          intro t ht
          dsimp only
          rw [n0', if_pos (show (t : Int) < (c 11 0 : Int) by omega)]
          rw [jlp_fr (a := ((0 : Int), (0 : Int))) (c := ((kGr c t : Nat) : Int)) (c 11 0) (fun o => (((kCnt (fun o => decide (kLd c (fun e => (kAll c).testBit e) o = t)) o : Nat) : Int), (o : Int))) (by omega) rfl ?hs2 ?he2]
          case he2 =>
            dsimp only
            rw [if_neg (by omega)]; rfl
          case hs2 =>
            intro o ho
            have hc := kCnt_le (S := fun o => decide (kLd c (fun e => (kAll c).testBit e) o = t)) o
            dsimp only
            rw [if_pos (show (o : Int) < (c 11 0 : Int) by omega), if_pos (show 0 ≤ (o : Int) ∧ (o : Int) < 8 by omega), Int.toNat_natCast, hr2 o ho, jwn (n := o) (by omega), kCnt_s]
            by_cases hq : kLd c (fun e => (kAll c).testBit e) o = t
            · rw [if_pos (show ((kLd c (fun e => (kAll c).testBit e) o : Nat) : Int) = (t : Int) by omega), jsb, if_pos (decide_eq_true hq), jwn (by omega)]
            · rw [if_neg (show ¬ ((kLd c (fun e => (kAll c).testBit e) o : Nat) : Int) = (t : Int) by omega), jsb, if_neg (by simp [hq]), Int.add_zero, jw_nat (by omega)]; rfl
          rw [jsb, jwn (n := t) (by omega), kMxx_s]
          by_cases hq : kMxx (kGr c) t < kGr c t
          · rw [if_pos (show ((kMxx (kGr c) t : Nat) : Int) < ((kGr c t : Nat) : Int) by omega), if_pos hq]; rfl
          · rw [if_neg (show ¬ ((kMxx (kGr c) t : Nat) : Int) < ((kGr c t : Nat) : Int) by omega), if_neg hq]; rfl
        rw [jsb]
        rw [if_pos rfl]
        exact ⟨hr1, hr3⟩
    · refine q_ok (W := fun _ _ => False) (W' := jW_276) (((kMxx (kSiz c) (c 11 0) : Nat) : Int)) h (⟨by omega, by omega⟩) ?_ (fun _ _ h => h.elim) (fun M hM => ?_) (fun k j h => by unfold jW_276 at h; unfold kQ kQS kQT kQR; omega)
      · show jo (jf_321 _ m) _
        unfold jf_321
        refine wr0 ?_
        unfold jf_173
        rw [ck_R hR]
        dsimp only
        rw [if_neg (by decide), sp_39 HK]
        exact ⟨rfl, rfl, jfr_r⟩
      · show jo (jf_275 _ M) _
        unfold jf_275
        have hC' := kCm_Q hM hC
        have hP' := kPm_Q hM hP
        rw [jle_eq, mk_R th0 (jg_c rfl) (by decide) hR]
        dsimp only
        have hfr : ∀ {M2 : jm}, jfr true jW_276 (js M 67 0 0) M2 → kCm M2 24 75 c := fun h => kCm_fr hC' h (fun k j hk => by unfold jW_276 at hk; omega)
        rw [show ja (js M 67 0 0) 67 25 = (c 11 1 : Int) from hC'.1 1 (by decide), jAll HK.1]
        refine jo_c (sl_276 HK.1 hC' (kAll_b HK.1)) (fun r hr => ?_)
        obtain ⟨hr1, hr2, hr3⟩ := hr
        have n0' : ja r.2 67 24 = (c 11 0 : Int) := (hfr hr3).1 0 (by decide)
        rw [jlp_fr (a := ((0 : Int), (0 : Int))) (c := ((kMxx (kGr c) (c 11 0) : Nat) : Int)) (c 11 0) (fun k => (((kMxx (kGr c) k : Nat) : Int), (k : Int))) (by omega) rfl ?hs ?he]
        case he =>
          dsimp only
          rw [n0', if_neg (by omega)]
        case hs =>
          intro t ht
          dsimp only
          rw [n0', if_pos (show (t : Int) < (c 11 0 : Int) by omega)]
          rw [jlp_fr (a := ((0 : Int), (0 : Int))) (c := ((kGr c t : Nat) : Int)) (c 11 0) (fun o => (((kCnt (fun o => decide (kLd c (fun e => (kAll c).testBit e) o = t)) o : Nat) : Int), (o : Int))) (by omega) rfl ?hs2 ?he2]
          case he2 =>
            dsimp only
            rw [if_neg (by omega)]; rfl
          case hs2 =>
            intro o ho
            have hc := kCnt_le (S := fun o => decide (kLd c (fun e => (kAll c).testBit e) o = t)) o
            dsimp only
            rw [if_pos (show (o : Int) < (c 11 0 : Int) by omega), if_pos (show 0 ≤ (o : Int) ∧ (o : Int) < 8 by omega), Int.toNat_natCast, hr2 o ho, jwn (n := o) (by omega), kCnt_s]
            by_cases hq : kLd c (fun e => (kAll c).testBit e) o = t
            · rw [if_pos (show ((kLd c (fun e => (kAll c).testBit e) o : Nat) : Int) = (t : Int) by omega), jsb, if_pos (decide_eq_true hq), jwn (by omega)]
            · rw [if_neg (show ¬ ((kLd c (fun e => (kAll c).testBit e) o : Nat) : Int) = (t : Int) by omega), jsb, if_neg (by simp [hq]), Int.add_zero, jw_nat (by omega)]; rfl
          rw [jsb, jwn (n := t) (by omega), kMxx_s]
          by_cases hq : kMxx (kGr c) t < kGr c t
          · rw [if_pos (show ((kMxx (kGr c) t : Nat) : Int) < ((kGr c t : Nat) : Int) by omega), if_pos hq]; rfl
          · rw [if_neg (show ¬ ((kMxx (kGr c) t : Nat) : Int) < ((kGr c t : Nat) : Int) by omega), if_neg hq]; rfl
        rw [jsb]
        rw [if_neg (by decide), kGr_mx HK.1]
        exact ⟨rfl, hr3⟩
  · refine rf_A (w := 1) h (jg_c rfl) (by decide) ?_ (fun M hM => ?_)
    · show jf_321 _ m = _
      unfold jf_321 jf_173
      rw [ck_Rr hR]; rfl
    · show jf_275 _ M = _
      unfold jf_275
      have hC' := kCm_Q hM hC
      rw [jle_eq, mk_Rr th0 (jg_c rfl) (by decide) hR]
