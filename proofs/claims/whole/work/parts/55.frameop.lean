/-! FRAME, the operation. -/
theorem kSl {c : kC} {p : kP} {e : Nat} (hq : kVp c p) (he : e < c 11 1) : p 0 e = (((p 0 e).toNat : Nat) : Int) ∧ (p 0 e).toNat ≤ 9 := by
  have := hq.2.1 e he
  omega
/-- wires chosen ahead of (slack s, wire e) -/
def kPx (c : kC) (p : kP) (s e f : Nat) : Bool := kKr c (kWe p) f && decide ((p 0 f).toNat < s ∨ ((p 0 f).toNat = s ∧ f < e))
theorem sp_40 {m : jm} {c : kC} {p : kP} {cl : List Int} (H : kK 0 m c p cl) : jf_40 m = some ((kB (kKr c (kWe p)) (c 11 1) : Nat) : Int) := by
  have hn := H.1.1
  have n1 := kK_n H (i := 1) (by decide)
  have hwi : ∀ e f, e < c 11 1 → f < c 11 1 → kWe p e = kWe p f → e = f := fun e f he hf h => kWe_i (by omega) (by omega) h
  unfold jf_40
  rw [jlp_fr (a := ((0 : Int), (0 : Int))) (c := ((kB (kKr c (kWe p)) (c 11 1) : Nat) : Int)) 10 (fun s => (((kB (kPx c p s 0) (c 11 1) : Nat) : Int), (s : Int))) (by decide) ?h0 ?hs ?he]
  case h0 =>
    have : kB (kPx c p 0 0) (c 11 1) = 0 := kB_0.2 (kCnt_z _ (fun f _ => by unfold kPx; rw [decide_eq_false (by omega), Bool.and_false]))
    rw [this]; rfl
  case he =>
    dsimp only
    rw [if_pos (by decide)]
    refine congrArg (fun (x : Nat) => some (Sum.inr (x : Int))) (kB_ext _ (fun f hf => ?_))
    have := (kSl H.2.1 hf).2
    unfold kPx
    rw [decide_eq_true (Or.inl (by omega)), Bool.and_true]
  case hs =>
    intro s hs
    dsimp only
    rw [if_neg (show ¬ (9 : Int) < (s : Int) by omega)]
    rw [jlp_fr (a := (((kB (kPx c p s 0) (c 11 1) : Nat) : Int), (0 : Int))) (c := ((kB (kPx c p (s + 1) 0) (c 11 1) : Nat) : Int)) (c 11 1) (fun e => (((kB (kPx c p s e) (c 11 1) : Nat) : Int), (e : Int))) (by omega) rfl ?hs2 ?he2]
    case he2 =>
      dsimp only
      rw [n1, if_neg (by omega)]
      refine congrArg (fun (x : Nat) => some (Sum.inr (x : Int))) (kB_ext _ (fun f hf => ?_))
      unfold kPx
      refine congrArg (fun b => kKr c (kWe p) f && b) (b_iff ?_)
      rw [decide_eq_true_eq, decide_eq_true_eq]; omega
    case hs2 =>
      intro e he
      have hE := H.1.2.2.1 e he
      have hb : kB (kPx c p s e) (c 11 1) < 4096 := Nat.lt_of_lt_of_le (kB_lt _) (two_pow_le (k := 12) hn.2.1)
      have hp := p2_12 (e := e) (by omega)
      obtain ⟨s1, s2⟩ := kSl H.2.1 he
      have h8 := kB_8 (f := kRe c (fun f => (kB (kPx c p s e) (c 11 1)).testBit f) (c 1 e)) hn.1
      have ext : ∀ g : Nat → Bool, (∀ f, f < c 11 1 → g f = kPx c p s (e + 1) f) → ((kB g (c 11 1) : Nat) : Int) = ((kB (kPx c p s (e + 1)) (c 11 1) : Nat) : Int) := fun g hg => congrArg (fun (x : Nat) => (x : Int)) (kB_ext _ hg)
      dsimp only
      rw [n1, if_pos (show (e : Int) < (c 11 1 : Int) by omega), if_pos (show 0 ≤ (e : Int) ∧ (e : Int) < 12 by omega), Int.toNat_natCast, kK_A H he, kK_B H he, sp_38 H hE.1 hb, jsb, if_pos (show 0 ≤ (e : Int) ∧ (e : Int) < 12 by omega), jtst (by omega) (by omega), kB_tb, decide_eq_true hE.2.1, Bool.true_and, sp_65 H he, jwn (n := e) (by omega)]
      have ea : (if (if kRe c (fun f => (kB (kPx c p s e) (c 11 1)).testBit f) (c 1 e) (c 2 e) = true then (1 : Int) else 0) = 0 then some (1 : Int) else some 0) = some (b2i (!kRe c (fun f => (kB (kPx c p s e) (c 11 1)).testBit f) (c 1 e) (c 2 e))) := by
        cases kRe c (fun f => (kB (kPx c p s e) (c 11 1)).testBit f) (c 1 e) (c 2 e) <;> rfl
      rw [ea, jsb, jsb, s1]
      by_cases hsl : (p 0 e).toNat = s
      · rw [if_pos (show (((p 0 e).toNat : Nat) : Int) = (s : Int) by omega)]
        have hK : (!kRe c (fun f => (kB (kPx c p s e) (c 11 1)).testBit f) (c 1 e) (c 2 e)) = kKr c (kWe p) e := by
          unfold kKr
          rw [← kr_B H.1 hwi (kWe p e) (c 1 e) (c 2 e) hE.1 hE.2.1]
          refine congrArg (fun b => !b) (kRe_x H.1 hE.1 (fun f hf => ?_))
          rw [kB_tb, decide_eq_true hf, Bool.true_and]
          unfold kPx
          refine congrArg (fun b => kKr c (kWe p) f && b) (b_iff ?_)
          rw [decide_eq_true_eq, decide_eq_true_eq, kWe_lt (by omega) (by omega), hsl]
        rw [hK]
        cases hk : kKr c (kWe p) e
        · rw [if_pos (show b2i false = 0 from rfl), jsb]
          rw [ext _ (fun f hf => by
            unfold kPx
            by_cases q : f = e
            · rw [q, hk]; rfl
            · refine congrArg (fun b => kKr c (kWe p) f && b) (b_iff ?_)
              rw [decide_eq_true_eq, decide_eq_true_eq]; omega)]
        · rw [if_neg (show ¬ b2i true = 0 by decide), jsb, jshl_n (by omega), jbor_n (by omega) (by omega), kB_set he]
          rw [ext _ (fun f hf => by
            unfold kPx
            by_cases q : f = e
            · rw [q, hk, decide_eq_true (rfl : e = e), decide_eq_true (show (p 0 e).toNat < s ∨ ((p 0 e).toNat = s ∧ e < e + 1) from Or.inr ⟨hsl, Nat.lt_succ_self e⟩)]; simp
            · rw [decide_eq_false q, Bool.or_false]
              refine congrArg (fun b => kKr c (kWe p) f && b) (b_iff ?_)
              rw [decide_eq_true_eq, decide_eq_true_eq]; omega)]
      · rw [if_neg (show ¬ (((p 0 e).toNat : Nat) : Int) = (s : Int) by omega), jsb]
        rw [ext _ (fun f hf => by
          unfold kPx
          refine congrArg (fun b => kKr c (kWe p) f && b) (b_iff ?_)
          rw [decide_eq_true_eq, decide_eq_true_eq]
          refine ⟨fun h => h.elim Or.inl (fun h => Or.inr ⟨h.1, by omega⟩), fun h => h.elim Or.inl (fun h => Or.inr ⟨h.1, ?_⟩)⟩
          by_cases q : f = e
          · rw [q] at h; exact absurd h.1 hsl
          · omega)]
    rw [jsb, jwn (n := s) (by omega)]
  rfl
def kSuN (c : kC) (p : kP) (n : Nat) : Nat := kSm (fun e => if n.testBit e = true then (p 0 e).toNat else 0) (c 11 1)
theorem kSuN_b {c : kC} {p : kP} {n : Nat} (hq : kVp c p) : ∀ W, W ≤ c 11 1 → kSm (fun e => if n.testBit e = true then (p 0 e).toNat else 0) W ≤ W * 9 := fun W hW => kSm_b W (fun k hk => by
  have := (kSl hq (show k < c 11 1 by omega)).2
  split <;> omega)
theorem sm_st {c : kC} {p : kP} {n e : Nat} (hv : kV c) (hq : kVp c p) (he : e < c 11 1) : jw (((kSm (fun e => if n.testBit e = true then (p 0 e).toNat else 0) e : Nat) : Int) + jw ((if n.testBit e = true then (1 : Int) else 0) * p 0 e)) = ((kSm (fun e => if n.testBit e = true then (p 0 e).toNat else 0) (e + 1) : Nat) : Int) := by
  have hn := hv.1
  obtain ⟨s1, s2⟩ := kSl hq he
  have hb := kSuN_b (n := n) hq e (by omega)
  rw [kSm_s]
  cases n.testBit e
  · rw [if_neg nft, if_neg nft, Int.zero_mul, jw_00, Int.add_zero, Nat.add_zero, jw_nat (by omega)]
  · rw [if_pos (rfl : true = true), if_pos (rfl : true = true), Int.one_mul, s1, Int.toNat_natCast, jw_nat (by omega), ← Int.natCast_add, jw_nat (by omega)]
theorem sp_41 {m : jm} {c : kC} {p : kP} {cl : List Int} {n : Nat} (H : kK 0 m c p cl) (hN : n < 4096) : jf_41 n m = some ((kSuN c p n : Nat) : Int) := by
  have hn := H.1.1
  have n1 := kK_n H (i := 1) (by decide)
  unfold jf_41
  rw [jlp_fr (a := ((0 : Int), (0 : Int))) (c := ((kSuN c p n : Nat) : Int)) (c 11 1) (fun e => (((kSm (fun e => if n.testBit e = true then (p 0 e).toNat else 0) e : Nat) : Int), (e : Int))) (by omega) rfl ?hs ?he]
  case he =>
    dsimp only
    rw [n1, if_neg (by omega)]; rfl
  case hs =>
    intro e he
    dsimp only
    rw [n1, if_pos (show (e : Int) < (c 11 1 : Int) by omega), sp_65 H he, jsb, jtst (by omega) (by omega), sm_st H.1 H.2.1 he, jwn (n := e) (by omega)]
  rfl
theorem sp_279 {m : jm} {n W : Nat} (hN : n < 2 ^ W) (hW : W ≤ 12) : jf_279 n m = some ((kCnt (fun e => n.testBit e) W : Nat) : Int) := by
  have h12 : kCnt (fun e => n.testBit e) 12 = kCnt (fun e => n.testBit e) W := by
    have := kCnt_cut (S := fun i => n.testBit i) (n := W) (12 - W) (fun i hi => tb_ge hN hi)
    rw [show W + (12 - W) = 12 by omega] at this; exact this
  have hN2 : n < 4096 := Nat.lt_of_lt_of_le hN (two_pow_le (k := 12) hW)
  unfold jf_279
  rw [← h12]
  rw [jlp_fr (a := ((0 : Int), (0 : Int))) (c := ((kCnt (fun e => n.testBit e) 12 : Nat) : Int)) 12 (fun e => (((kCnt (fun e => n.testBit e) e : Nat) : Int), (e : Int))) (by decide) rfl ?hs ?he]
  case he => rfl
  case hs =>
    intro e he
    have hc := kCnt_le (S := fun e => n.testBit e) e
    dsimp only
    rw [if_pos (show (e : Int) < 12 by omega), jtst (by omega) (by omega), jwn (n := e) (by omega), kCnt_s]
    cases n.testBit e
    · rw [if_neg nft, if_neg nft, Int.add_zero, jw_nat (by omega)]; rfl
    · rw [if_pos (rfl : true = true), if_pos (rfl : true = true), jwn (by omega)]
  rfl
def kVn (c : kC) (p : kP) (n : Nat) : Int := ((100 * kSuN c p n + kCnt (fun e => n.testBit e) (c 11 1) : Nat) : Int)
def kGd (c : kC) (n : Nat) : Bool := decide (kCo c (fun e => n.testBit e) = kCo c (fun e => (kAll c).testBit e))
theorem kFr_ok {c : kC} {p : kP} (hv : kV c) (hq : kVp c p) : kFr (kGd c) (kVn c p) (2 ^ c 11 1) = (((kB (kKr c (kWe p)) (c 11 1) : Nat) : Int), kVn c p (kB (kKr c (kWe p)) (c 11 1))) := by
  have hn := hv.1
  have hwi : ∀ e f, e < c 11 1 → f < c 11 1 → kWe p e = kWe p f → e = f := fun e f he hf h => kWe_i (by omega) (by omega) h
  have hwN : ∀ e, e < c 11 1 → kWe p e < 2000000 := fun e he => by
    have h1 := p2_12 (e := e) (by omega)
    have h2 := (kSl hq he).2
    unfold kWe; omega
  have hall : kCo c (fun e => (kAll c).testBit e) = kCo c (fun _ => true) := kCo_x hv (fun e he => kAll_tb he)
  have hkb : ∀ e, e < c 11 1 → (kB (kKr c (kWe p)) (c 11 1)).testBit e = kKr c (kWe p) e := fun e he => by rw [kB_tb, decide_eq_true he, Bool.true_and]
  have hKn : kB (kKr c (kWe p)) (c 11 1) < 2 ^ c 11 1 := kB_lt _
  have h12 : 2 ^ c 11 1 ≤ 4096 := two_pow_le (k := 12) hn.2.1
  have hsu : ∀ n, kSuN c p n ≤ 108 := fun n => by
    have := kSuN_b (n := n) hq (c 11 1) (Nat.le_refl _)
    unfold kSuN; omega
  have hon : ∀ n : Nat, kCnt (fun e => n.testBit e) (c 11 1) ≤ 12 := fun n => by
    have := kCnt_le (S := fun e => n.testBit e) (c 11 1)
    omega
  have hwt : ∀ n, n < 2 ^ c 11 1 → kWt (kWe p) (fun e => n.testBit e) (c 11 1) = 131072 * kSuN c p n + 8192 * kCnt (fun e => n.testBit e) (c 11 1) + n := fun n hN => by
    rw [kWt_3, kSm_num, Nat.mod_eq_of_lt hN]; rfl
  have hwK : kWt (kWe p) (kKr c (kWe p)) (c 11 1) = kWt (kWe p) (fun e => (kB (kKr c (kWe p)) (c 11 1)).testBit e) (c 11 1) := kSm_x _ (fun e he => by simp only [hkb e he])
  refine kFr_min hKn ?_ ?_ (fun n hN hg => ?_)
  · unfold kGd
    refine decide_eq_true ?_
    rw [hall, ← kr_span hv hwi hwN]
    exact kCo_x hv hkb
  · have h1 := hsu (kB (kKr c (kWe p)) (c 11 1))
    have h2 := hon (kB (kKr c (kWe p)) (c 11 1))
    unfold kVn; omega
  · have hS : kCo c (fun e => n.testBit e) = kCo c (fun _ => true) := by rw [← hall]; exact of_decide_eq_true hg
    have hD := kr_D hv hwi hwN hS
    rw [hwK, hwt _ hKn, hwt n hN] at hD
    have h1 := hsu (kB (kKr c (kWe p)) (c 11 1))
    have h2 := hon (kB (kKr c (kWe p)) (c 11 1))
    have h3 := hsu n
    have h4 := hon n
    unfold kVn
    omega
theorem sy_22 {m : jm} {x0 : Int} (hx0 : jg x0) (h : Inv m) : kSy (fun m => jf_322 x0 m) (fun m => jf_278 x0 m) m := by
  obtain ⟨c, p, cl, HK, hC, hP, hL, hB⟩ := Inv_K h
  have hn := HK.1.1
  have n0 := kK_n HK (i := 0) (by decide)
  have n1 := kK_n HK (i := 1) (by decide)
  have n2 := kK_n HK (i := 2) (by decide)
  have n3 := kK_n HK (i := 3) (by decide)
  by_cases hR : 0 ≤ x0 ∧ x0 ≤ 1
  · skip
    have h4 : x0 = 0 ∨ x0 = 1 := by omega
    have hK : (kB (kKr c (kWe p)) (c 11 1)) < 4096 := Nat.lt_of_lt_of_le (kB_lt _) (two_pow_le (k := 12) hn.2.1)
    have hsuK : kSuN c p (kB (kKr c (kWe p)) (c 11 1)) ≤ c 11 1 * 9 := kSuN_b HK.2.1 (c 11 1) (Nat.le_refl _)
    have honK := kCnt_le (S := fun e => (kB (kKr c (kWe p)) (c 11 1)).testBit e) (c 11 1)
    rcases h4 with rfl | rfl
    · refine q_ok (W := fun _ _ => False) (W' := jW_276) (((kSuN c p (kB (kKr c (kWe p)) (c 11 1)) : Nat) : Int)) h (⟨by omega, by omega⟩) ?_ (fun _ _ h => h.elim) (fun M hM => ?_) (fun k j h => by unfold jW_276 at h; unfold kQ kQS kQT kQR; omega)
      · show jo (jf_322 _ m) _
        unfold jf_322
        refine wr0 ?_
        unfold jf_174
        rw [ck_R hR]
        dsimp only
        rw [sp_40 HK, jsb, if_pos rfl, sp_41 HK hK]
        exact ⟨rfl, rfl, jfr_r⟩
      · show jo (jf_278 _ M) _
        unfold jf_278
        have hC' := kCm_Q hM hC
        have hP' := kPm_Q hM hP
        rw [jle_eq, mk_R th0 (jg_c rfl) (by decide) hR]
        dsimp only
        have hfr : ∀ {M2 : jm}, jfr true jW_276 (js M 67 0 0) M2 → kCm M2 24 75 c := fun h => kCm_fr hC' h (fun k j hk => by unfold jW_276 at hk; omega)
        have h12 : 2 ^ c 11 1 ≤ 4096 := two_pow_le (k := 12) hn.2.1
        rw [show ja (js M 67 0 0) 67 25 = (c 11 1 : Int) from hC'.1 1 (by decide), jAll HK.1]
        refine jo_c (sl_276 HK.1 hC' (kAll_b HK.1)) (fun r hr => ?_)
        obtain ⟨hr1, -, hr3⟩ := hr
        rw [hr1]
        refine jo_c (R := fun (t : Int × Int × jm) => t.1 = (kFr (kGd c) (kVn c p) (2 ^ c 11 1)).1 ∧ t.2.1 = (kFr (kGd c) (kVn c p) (2 ^ c 11 1)).2 ∧ jfr true jW_276 (js M 67 0 0) t.2.2) ?_ (fun t ht => ?_)
        · refine jo_for (2 ^ c 11 1) jfu (fun n (s : Int × Int × Int × jm) => s.2.2.1 = n ∧ s.1 = (kFr (kGd c) (kVn c p) n).1 ∧ s.2.1 = (kFr (kGd c) (kVn c p) n).2 ∧ jfr true jW_276 (js M 67 0 0) s.2.2.2) (jfu_lt (by omega)) ?_ ?_ _ ⟨rfl, rfl, rfl, hr3⟩
          · intro n hN s hs
            obtain ⟨best, least, x, M2⟩ := s
            obtain ⟨g1, g2, g3, g4⟩ := hs
            dsimp only at g1 g2 g3 g4 ⊢
            subst g1 g2 g3
            have n1' : ja M2 67 25 = (c 11 1 : Int) := (hfr g4).1 1 (by decide)
            have hsu := kSuN_b (n := n) HK.2.1 (c 11 1) (Nat.le_refl _)
            have hon := kCnt_le (S := fun e => n.testBit e) (c 11 1)
            have e88 : ∀ e, e < c 11 1 → ja M2 88 e = p 0 e := fun e he => by rw [ja_fr g4 (by unfold jW_276; omega)]; exact (hP'.2.2.1 e he).1
            rw [n1', jshl_n (by omega), if_pos (show (n : Int) < ((2 ^ c 11 1 : Nat) : Int) by omega)]
            rw [jlp_fr (a := ((0 : Int), (0 : Int))) (c := ((kSuN c p n : Nat) : Int)) (c 11 1) (fun e => (((kSm (fun e => if n.testBit e = true then (p 0 e).toNat else 0) e : Nat) : Int), (e : Int))) (by omega) rfl ?hs ?he]
            case he =>
              dsimp only
              rw [if_neg (by omega)]; rfl
            case hs =>
              intro e he
              have d0 : jw ((0 : Int) + (e : Int)) = (e : Int) := by rw [Int.zero_add]; exact jwi (by omega) (by omega)
              dsimp only
              rw [if_pos (show (e : Int) < (c 11 1 : Int) by omega), d0, if_pos (show 0 ≤ (e : Int) ∧ (e : Int) < 68 by omega), Int.toNat_natCast, e88 e he, jtst (by omega) (by omega), sm_st HK.1 HK.2.1 he, jwn (n := e) (by omega)]
            have ev : jw (jw ((100 : Int) * ((kSuN c p n : Nat) : Int)) + ((kCnt (fun e => n.testBit e) (c 11 1) : Nat) : Int)) = kVn c p n := by
              have hs2 : kSuN c p n ≤ c 11 1 * 9 := hsu
              unfold kVn
              rw [jwi (x := 100 * _) (by omega) (by omega), jwi (by omega) (by omega)]; omega
            rw [jsb, sp_279 hN hn.2.1, jsb, ev, jwn (n := n) (by omega)]
            have ek := kFr_s (good := kGd c) (v := kVn c p) (n := n)
            by_cases hl : kVn c p n < (kFr (kGd c) (kVn c p) n).2
            · rw [if_pos hl] at ek
              rw [if_pos hl, jo_bind, jo_bind]
              refine jo_mono (sl_276 HK.1 (hfr g4) (show n < 4096 by omega)) (fun r2 hr2 => ?_)
              rw [hr2.1]
              by_cases hg : kCo c (fun e => n.testBit e) = kCo c (fun e => (kAll c).testBit e)
              · rw [if_pos (show ((kCo c (fun e => n.testBit e) : Nat) : Int) = _ by omega)]
                rw [if_pos (show kGd c n = true from decide_eq_true hg)] at ek
                rw [ek]
                exact ⟨rfl, rfl, rfl, jfr_tr g4 hr2.2.2⟩
              · rw [if_neg (show ¬ ((kCo c (fun e => n.testBit e) : Nat) : Int) = _ by omega)]
                rw [if_neg (show ¬ kGd c n = true from fun z => hg (of_decide_eq_true z))] at ek
                rw [ek]
                exact ⟨rfl, rfl, rfl, jfr_tr g4 hr2.2.2⟩
            · rw [if_neg hl] at ek
              rw [if_neg hl, jsb, ek]
              exact ⟨rfl, rfl, rfl, g4⟩
          · intro s hs
            obtain ⟨best, least, x, M2⟩ := s
            obtain ⟨g1, g2, g3, g4⟩ := hs
            dsimp only at g1 g2 g3 g4 ⊢
            rw [show ja M2 67 25 = (c 11 1 : Int) from (hfr g4).1 1 (by decide), jshl_n (by omega), if_neg (by omega)]
            exact ⟨g2, g3, g4⟩
        · obtain ⟨b1, b2, b3⟩ := ht
          rw [kFr_ok HK.1 HK.2.1] at b1 b2
          dsimp only at b1 b2
          rw [if_pos rfl, jsb, b2]
          refine ⟨?_, b3⟩
          show jdiv (kVn c p (kB (kKr c (kWe p)) (c 11 1))) 100 = _
          unfold kVn
          rw [show jdiv (((100 * kSuN c p (kB (kKr c (kWe p)) (c 11 1)) + kCnt (fun e => (kB (kKr c (kWe p)) (c 11 1)).testBit e) (c 11 1) : Nat)) : Int) 100 = (((100 * kSuN c p (kB (kKr c (kWe p)) (c 11 1)) + kCnt (fun e => (kB (kKr c (kWe p)) (c 11 1)).testBit e) (c 11 1)) / 100 : Nat) : Int) from jdiv_n (b := 100) (by omega) (by decide)]
          congr 1; omega
    · refine q_ok (W := fun _ _ => False) (W' := jW_276) ((((kB (kKr c (kWe p)) (c 11 1)) : Nat) : Int)) h (⟨by omega, by omega⟩) ?_ (fun _ _ h => h.elim) (fun M hM => ?_) (fun k j h => by unfold jW_276 at h; unfold kQ kQS kQT kQR; omega)
      · show jo (jf_322 _ m) _
        unfold jf_322
        refine wr0 ?_
        unfold jf_174
        rw [ck_R hR]
        dsimp only
        rw [sp_40 HK, jsb, if_neg (by decide)]
        exact ⟨rfl, rfl, jfr_r⟩
      · show jo (jf_278 _ M) _
        unfold jf_278
        have hC' := kCm_Q hM hC
        have hP' := kPm_Q hM hP
        rw [jle_eq, mk_R th0 (jg_c rfl) (by decide) hR]
        dsimp only
        have hfr : ∀ {M2 : jm}, jfr true jW_276 (js M 67 0 0) M2 → kCm M2 24 75 c := fun h => kCm_fr hC' h (fun k j hk => by unfold jW_276 at hk; omega)
        have h12 : 2 ^ c 11 1 ≤ 4096 := two_pow_le (k := 12) hn.2.1
        rw [show ja (js M 67 0 0) 67 25 = (c 11 1 : Int) from hC'.1 1 (by decide), jAll HK.1]
        refine jo_c (sl_276 HK.1 hC' (kAll_b HK.1)) (fun r hr => ?_)
        obtain ⟨hr1, -, hr3⟩ := hr
        rw [hr1]
        refine jo_c (R := fun (t : Int × Int × jm) => t.1 = (kFr (kGd c) (kVn c p) (2 ^ c 11 1)).1 ∧ t.2.1 = (kFr (kGd c) (kVn c p) (2 ^ c 11 1)).2 ∧ jfr true jW_276 (js M 67 0 0) t.2.2) ?_ (fun t ht => ?_)
        · refine jo_for (2 ^ c 11 1) jfu (fun n (s : Int × Int × Int × jm) => s.2.2.1 = n ∧ s.1 = (kFr (kGd c) (kVn c p) n).1 ∧ s.2.1 = (kFr (kGd c) (kVn c p) n).2 ∧ jfr true jW_276 (js M 67 0 0) s.2.2.2) (jfu_lt (by omega)) ?_ ?_ _ ⟨rfl, rfl, rfl, hr3⟩
          · intro n hN s hs
            obtain ⟨best, least, x, M2⟩ := s
            obtain ⟨g1, g2, g3, g4⟩ := hs
            dsimp only at g1 g2 g3 g4 ⊢
            subst g1 g2 g3
            have n1' : ja M2 67 25 = (c 11 1 : Int) := (hfr g4).1 1 (by decide)
            have hsu := kSuN_b (n := n) HK.2.1 (c 11 1) (Nat.le_refl _)
            have hon := kCnt_le (S := fun e => n.testBit e) (c 11 1)
            have e88 : ∀ e, e < c 11 1 → ja M2 88 e = p 0 e := fun e he => by rw [ja_fr g4 (by unfold jW_276; omega)]; exact (hP'.2.2.1 e he).1
            rw [n1', jshl_n (by omega), if_pos (show (n : Int) < ((2 ^ c 11 1 : Nat) : Int) by omega)]
            rw [jlp_fr (a := ((0 : Int), (0 : Int))) (c := ((kSuN c p n : Nat) : Int)) (c 11 1) (fun e => (((kSm (fun e => if n.testBit e = true then (p 0 e).toNat else 0) e : Nat) : Int), (e : Int))) (by omega) rfl ?hs ?he]
            case he =>
              dsimp only
              rw [if_neg (by omega)]; rfl
            case hs =>
              intro e he
              have d0 : jw ((0 : Int) + (e : Int)) = (e : Int) := by rw [Int.zero_add]; exact jwi (by omega) (by omega)
              dsimp only
              rw [if_pos (show (e : Int) < (c 11 1 : Int) by omega), d0, if_pos (show 0 ≤ (e : Int) ∧ (e : Int) < 68 by omega), Int.toNat_natCast, e88 e he, jtst (by omega) (by omega), sm_st HK.1 HK.2.1 he, jwn (n := e) (by omega)]
            have ev : jw (jw ((100 : Int) * ((kSuN c p n : Nat) : Int)) + ((kCnt (fun e => n.testBit e) (c 11 1) : Nat) : Int)) = kVn c p n := by
              have hs2 : kSuN c p n ≤ c 11 1 * 9 := hsu
              unfold kVn
              rw [jwi (x := 100 * _) (by omega) (by omega), jwi (by omega) (by omega)]; omega
            rw [jsb, sp_279 hN hn.2.1, jsb, ev, jwn (n := n) (by omega)]
            have ek := kFr_s (good := kGd c) (v := kVn c p) (n := n)
            by_cases hl : kVn c p n < (kFr (kGd c) (kVn c p) n).2
            · rw [if_pos hl] at ek
              rw [if_pos hl, jo_bind, jo_bind]
              refine jo_mono (sl_276 HK.1 (hfr g4) (show n < 4096 by omega)) (fun r2 hr2 => ?_)
              rw [hr2.1]
              by_cases hg : kCo c (fun e => n.testBit e) = kCo c (fun e => (kAll c).testBit e)
              · rw [if_pos (show ((kCo c (fun e => n.testBit e) : Nat) : Int) = _ by omega)]
                rw [if_pos (show kGd c n = true from decide_eq_true hg)] at ek
                rw [ek]
                exact ⟨rfl, rfl, rfl, jfr_tr g4 hr2.2.2⟩
              · rw [if_neg (show ¬ ((kCo c (fun e => n.testBit e) : Nat) : Int) = _ by omega)]
                rw [if_neg (show ¬ kGd c n = true from fun z => hg (of_decide_eq_true z))] at ek
                rw [ek]
                exact ⟨rfl, rfl, rfl, jfr_tr g4 hr2.2.2⟩
            · rw [if_neg hl] at ek
              rw [if_neg hl, jsb, ek]
              exact ⟨rfl, rfl, rfl, g4⟩
          · intro s hs
            obtain ⟨best, least, x, M2⟩ := s
            obtain ⟨g1, g2, g3, g4⟩ := hs
            dsimp only at g1 g2 g3 g4 ⊢
            rw [show ja M2 67 25 = (c 11 1 : Int) from (hfr g4).1 1 (by decide), jshl_n (by omega), if_neg (by omega)]
            exact ⟨g2, g3, g4⟩
        · obtain ⟨b1, b2, b3⟩ := ht
          rw [kFr_ok HK.1 HK.2.1] at b1 b2
          dsimp only at b1 b2
          rw [if_neg (by decide), jsb, b1]
          exact ⟨rfl, b3⟩
  · refine rf_A (w := 1) h (jg_c rfl) (by decide) ?_ (fun M hM => ?_)
    · show jf_322 _ m = _
      unfold jf_322 jf_174
      rw [ck_Rr hR]; rfl
    · show jf_278 _ M = _
      unfold jf_278
      have hC' := kCm_Q hM hC
      rw [jle_eq, mk_Rr th0 (jg_c rfl) (by decide) hR]
