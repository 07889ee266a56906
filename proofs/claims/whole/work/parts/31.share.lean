/-! SHARE. Numbers divided. -/
theorem jw_nat {z : Nat} (h : z < 2147483648) : jw (z : Int) = z := jwi (by omega) (by omega)
theorem jt_nat {z : Nat} (h : z < 2147483648) : (Int32.ofInt (z : Int)).toInt = z := jw_nat h
theorem jw_00 : jw 0 = 0 := rfl
theorem jdiv_n {a b : Nat} (ha : a < 2147483648) (hb : b < 2147483648) : jdiv a b = ((a / b : Nat) : Int) := by
  unfold jdiv
  rw [Int32.toInt_div, jt_g ⟨by omega, by omega⟩, jt_g ⟨by omega, by omega⟩, ← Int.ofNat_tdiv]
  have h : a / b ≤ a := Nat.div_le_self _ _
  rw [show ((2 : Nat) ^ 32) = 4294967296 from rfl, ← jw_bmod, jw_nat (Nat.lt_of_le_of_lt h ha)]
theorem jrem_n {a b : Nat} (ha : a < 2147483648) (hb : b < 2147483648) : jrem a b = ((a % b : Nat) : Int) := by
  have hq : Int32.ofInt (a : Int) / Int32.ofInt (b : Int) = Int32.ofInt ((a / b : Nat) : Int) := by
    refine Int32.toInt_inj.1 ?_
    have h : a / b ≤ a := Nat.div_le_self _ _
    rw [jt_nat (Nat.lt_of_le_of_lt h ha)]
    exact jdiv_n ha hb
  unfold jrem
  rw [hq, ← Int32.ofInt_mul, ← Int32.ofInt_sub]
  have h1 := Nat.div_add_mod a b
  have h2 : ((a : Int) - ((a / b : Nat) : Int) * (b : Int)) = ((a % b : Nat) : Int) := by
    have : ((b * (a / b) : Nat) : Int) = ((a / b : Nat) : Int) * (b : Int) := by rw [Int.natCast_mul, Int.mul_comm]
    omega
  rw [h2]
  have h3 : a % b ≤ a := Nat.mod_le _ _
  exact jt_g ⟨by omega, by omega⟩
/-- all the weights of the letters in b -/
def kAl (c : kC) (b : Nat) : Nat → Nat
  | 0 => 0
  | n + 1 => kAl c b n + (if b.testBit n = true then c 10 n else 0)
theorem kAl_s {c : kC} {b n : Nat} : kAl c b (n + 1) = kAl c b n + (if b.testBit n = true then c 10 n else 0) := rfl
theorem kAl_b {c : kC} {b : Nat} (hv : kV c) : ∀ n, n ≤ c 11 3 → kAl c b n ≤ 9 * n
  | 0, _ => Nat.le_refl _
  | n + 1, h => by
    have ih := kAl_b (b := b) hv n (by omega)
    have hl := hv.2.2.2.2.2 n (by omega)
    rw [kAl_s]
    split <;> omega
theorem kAl_p {c : kC} {b l : Nat} (hv : kV c) (hl : l < c 11 3) (hb : b.testBit l = true) : ∀ n, l < n → n ≤ c 11 3 → 0 < kAl c b n
  | 0, h, _ => absurd h (Nat.not_lt_zero _)
  | n + 1, h, h2 => by
    have hw := hv.2.2.2.2.2 l hl
    rw [kAl_s]
    by_cases e : l = n
    · subst e; rw [if_pos hb]; omega
    · have := kAl_p hv hl hb n (by omega) (by omega); omega
/-- what is left, and how many are ahead -/
def kSh (c : kC) (b l : Nat) (n all : Int) : Nat → Int × Int
  | 0 => (n, 0)
  | k + 1 => if b.testBit k = true then (jw ((kSh c b l n all k).1 - jdiv (jw (n * (c 10 k : Int))) all), jw ((kSh c b l n all k).2 + (if jrem (jw (n * (c 10 l : Int))) all < jrem (jw (n * (c 10 k : Int))) all then 1 else if jrem (jw (n * (c 10 k : Int))) all = jrem (jw (n * (c 10 l : Int))) all then (if k < l then 1 else 0) else 0))) else kSh c b l n all k
theorem kSh_s {c : kC} {b l : Nat} {n all : Int} {k : Nat} : kSh c b l n all (k + 1) = if b.testBit k = true then (jw ((kSh c b l n all k).1 - jdiv (jw (n * (c 10 k : Int))) all), jw ((kSh c b l n all k).2 + (if jrem (jw (n * (c 10 l : Int))) all < jrem (jw (n * (c 10 k : Int))) all then 1 else if jrem (jw (n * (c 10 k : Int))) all = jrem (jw (n * (c 10 l : Int))) all then (if k < l then 1 else 0) else 0))) else kSh c b l n all k := rfl
theorem kSh_g {c : kC} {b l : Nat} {n all : Int} (hn : jg n) : ∀ k, jg (kSh c b l n all k).1 ∧ jg (kSh c b l n all k).2
  | 0 => ⟨hn, jg_0⟩
  | k + 1 => by
    rw [kSh_s]
    by_cases h : b.testBit k = true
    · rw [if_pos h]; exact ⟨jg_w, jg_w⟩
    · rw [if_neg h]; exact kSh_g hn k
def kShr (c : kC) (b l : Nat) (n : Int) : Int := if b.testBit l = true then jw (jdiv (jw (n * (c 10 l : Int))) (kAl c b (c 11 3)) + (if (kSh c b l n (kAl c b (c 11 3)) (c 11 3)).2 < (kSh c b l n (kAl c b (c 11 3)) (c 11 3)).1 then 1 else 0)) else 0
theorem kShr_g {c : kC} {b l : Nat} {n : Int} : jg (kShr c b l n) := by
  unfold kShr; split
  · exact jg_w
  · exact jg_0
theorem sp_21 {m : jm} {c : kC} {p : kP} {cl : List Int} {l b : Nat} {n : Int} (H : kK 0 m c p cl) (hl : l < c 11 3) (hb : b < 2 ^ c 11 3) : jf_21 l b n m = some (kShr c b l n) := by
  have hn := H.1.1
  have h256 : b < 256 := Nat.lt_of_lt_of_le hb (two_pow_le (k := 8) hn.2.2.2)
  have n3 := kK_n H (i := 3) (by decide)
  have hal := kAl_b (b := b) H.1 (c 11 3) (Nat.le_refl _)
  unfold jf_21
  rw [jlp_fr (a := ((0 : Int), (0 : Int))) (c := ((kAl c b (c 11 3) : Nat) : Int)) (c 11 3) (fun i => (((kAl c b i : Nat) : Int), (i : Int))) (by omega) rfl ?hs ?he]
  case he =>
    dsimp only
    rw [n3, if_neg (by omega)]
  case hs =>
    intro i hi
    have hw := H.1.2.2.2.2.2 i hi
    have hi2 := kAl_b (b := b) H.1 i (by omega)
    dsimp only
    rw [n3, if_pos (by omega), if_pos (by omega), Int.toNat_natCast, kK_wt H hi, jtst (by omega) (by omega), jwn (by omega), kAl_s]
    cases hb : b.testBit i
    · rw [if_neg nft, if_neg nft, Int.zero_mul, jw_00, jwi (by omega) (by omega)]; rfl
    · rw [if_pos rfl, if_pos rfl, Int.one_mul, jwi (x := (c 10 i : Int)) (by omega) (by omega), jwi (by omega) (by omega)]; rfl
  rw [jsb, jtst (by omega) (by omega)]
  unfold kShr
  cases htb : b.testBit l
  · rw [if_neg nft, if_pos rfl, if_neg nft]
  · have hp := kAl_p H.1 hl htb (c 11 3) hl (Nat.le_refl _)
    rw [if_pos (rfl : true = true), if_neg (by decide), if_pos (rfl : true = true), if_pos (show (0 : Int) < ((kAl c b (c 11 3) : Nat) : Int) by omega), if_pos (show 0 ≤ (l : Int) ∧ (l : Int) < 8 by omega), if_pos (show ¬ ((kAl c b (c 11 3) : Nat) : Int) = 0 by omega), Int.toNat_natCast, kK_wt H hl]
    rw [jlp_fr (a := (n, (0 : Int), (0 : Int))) (c := kSh c b l n (kAl c b (c 11 3)) (c 11 3)) (c 11 3) (fun i => ((kSh c b l n (kAl c b (c 11 3)) i).1, (kSh c b l n (kAl c b (c 11 3)) i).2, (i : Int))) (by omega) rfl ?hs2 ?he2]
    case he2 =>
      dsimp only
      rw [n3, if_neg (by omega)]
    case hs2 =>
      intro i hi
      dsimp only
      rw [n3, if_pos (by omega), jtst (by omega) (by omega), Int.toNat_natCast, kK_wt H hi, jwn (by omega), kSh_s]
      cases hbi : b.testBit i
      · rw [if_neg nft, if_neg (by decide), if_neg nft]; rfl
      · rw [if_pos (rfl : true = true), if_pos (rfl : (1 : Int) = 1), if_pos (rfl : true = true), if_pos (show 0 ≤ (i : Int) ∧ (i : Int) < 8 by omega), if_pos (show ¬ ((kAl c b (c 11 3) : Nat) : Int) = 0 by omega), if_pos (show 0 ≤ (i : Int) ∧ (i : Int) < 8 by omega), if_pos (show ¬ ((kAl c b (c 11 3) : Nat) : Int) = 0 by omega)]
        by_cases h1 : jrem (jw (n * (c 10 l : Int))) (kAl c b (c 11 3)) < jrem (jw (n * (c 10 i : Int))) (kAl c b (c 11 3))
        · rw [if_pos h1, if_pos h1]; rfl
        · rw [if_neg h1, if_neg h1]
          by_cases h2 : jrem (jw (n * (c 10 i : Int))) (kAl c b (c 11 3)) = jrem (jw (n * (c 10 l : Int))) (kAl c b (c 11 3))
          · rw [if_pos h2, if_pos h2]
            by_cases h3 : i < l
            · rw [if_pos (show (i : Int) < (l : Int) by omega), if_pos h3]; rfl
            · rw [if_neg (show ¬ (i : Int) < (l : Int) by omega), if_neg h3]; rfl
          · rw [if_neg h2, if_neg h2]; rfl
    rw [jsb, if_pos (show 0 ≤ (l : Int) ∧ (l : Int) < 8 by omega), if_pos (show ¬ ((kAl c b (c 11 3) : Nat) : Int) = 0 by omega)]
    by_cases h1 : (kSh c b l n (kAl c b (c 11 3)) (c 11 3)).2 < (kSh c b l n (kAl c b (c 11 3)) (c 11 3)).1
    · rw [if_pos h1, if_pos h1]; rfl
    · rw [if_neg h1, if_neg h1]; rfl
/-- the model's rest over all, as it keeps it -/
def kOr (c : kC) (b : Nat) (n : Int) (all : Nat) (k : Nat) : Int := if b.testBit k = true then jrem (jw (n * (c 10 k : Int))) all else -1
theorem jdiv_0 {b : Nat} (hb : b < 2147483648) : jdiv 0 b = 0 := by
  have := jdiv_n (a := 0) (b := b) (by omega) hb
  rw [Nat.zero_div] at this; exact this
theorem sy_29 {m : jm} {x0 x1 x2 : Int} (hx0 : jg x0) (hx1 : jg x1) (hx2 : jg x2) (h : Inv m) : kSy (fun m => jf_328 x0 x1 x2 m) (fun m => jf_291 x0 x1 x2 m) m := by
  obtain ⟨c, p, cl, HK, hC, hP, hL, hB⟩ := Inv_K h
  have hn := HK.1.1
  have n3 := kK_n HK (i := 3) (by decide)
  have h28 : 2 ^ c 11 3 ≤ 2 ^ 8 := two_pow_le hn.2.2.2
  have h20 : 0 < 2 ^ c 11 3 := Nat.pow_pos (by decide)
  have es : jshl 1 ((c 11 3 : Nat) : Int) = ((2 ^ c 11 3 : Nat) : Int) := jshl_n (by omega)
  by_cases hE : 0 ≤ x0 ∧ x0 < (c 11 3 : Int)
  · obtain ⟨l, rfl⟩ := Int.eq_ofNat_of_zero_le hE.1
    have hl : l < c 11 3 := by omega
    by_cases hG : (0 ≤ x2 ∧ x2 ≤ 999) ∧ (0 ≤ x1 ∧ x1 < ((2 ^ c 11 3 : Nat) : Int))
    · obtain ⟨b, rfl⟩ := Int.eq_ofNat_of_zero_le hG.2.1
      have hb : b < 2 ^ c 11 3 := by omega
      refine q_ok (W := fun _ _ => False) (W' := fun k _ => k = 100) (kShr c b l x2) h (jgl_g kShr_g) ?_ (fun _ _ h => h.elim) (fun M hM => ?_) (fun k j h => by unfold kQ kQS kQT kQR; omega)
      · show jo (jf_328 _ _ _ m) _
        unfold jf_328
        refine wr0 ?_
        unfold jf_181
        rw [ck_E n3 (by omega) hl]
        dsimp only
        rw [n3, es]
        simp only [sp_153, jsb, an0, an1]
        rw [ck_A (if10 ⟨hG.1, by rw [jwi (by omega) (by omega)]; omega⟩)]
        dsimp only
        rw [sp_21 HK hl hb]
        exact ⟨rfl, rfl, jfr_r⟩
      · show jo (jf_291 _ _ _ M) _
        unfold jf_291
        have hC' := kCm_Q hM hC
        have m3 : ja (js M 67 0 0) 67 27 = (c 11 3 : Int) := hC'.1 3 (by decide)
        rw [jle_eq, mk_258 th0 m3 (by omega) (jg_c rfl) (by decide) hl]
        dsimp only
        rw [m3, es]
        simp only [sp_247, jsb, an0, an1]
        rw [if_neg (show ¬ (b : Int) < 0 by omega), if_pos hG.2.2, jsb, mk_A th0 (jg_c rfl) (by decide) (if10 hG.1)]
        dsimp only
        rw [jtst (by omega) (by omega)]
        unfold kShr
        cases htb : b.testBit l
        · rw [if_neg nft, if_pos rfl, if_neg nft]; exact ⟨rfl, jfr_r⟩
        · have hp := kAl_p HK.1 hl htb (c 11 3) hl (Nat.le_refl _)
          have hal := kAl_b (b := b) HK.1 (c 11 3) (Nat.le_refl _)
          rw [if_pos (rfl : true = true), if_neg (by decide), if_pos (rfl : true = true)]
          rw [jlp_fr (a := ((0 : Int), (0 : Int))) (c := ((kAl c b (c 11 3) : Nat) : Int)) (c 11 3) (fun i => (((kAl c b i : Nat) : Int), (i : Int))) (by omega) rfl ?hs ?he]
          case he =>
            dsimp only
            rw [m3, if_neg (by omega)]
          case hs =>
            intro i hi
            have hw := HK.1.2.2.2.2.2 i hi
            have hi2 := kAl_b (b := b) HK.1 i (by omega)
            have t1 : ((4 : Int) * (i : Int) + 3).toNat = 4 * i + 3 := by omega
            have d1 : jw ((4 : Int) * (i : Int)) = (4 : Int) * (i : Int) := jwi (by omega) (by omega)
            have d2 : jw ((4 : Int) * (i : Int) + 3) = (4 : Int) * (i : Int) + 3 := jwi (by omega) (by omega)
            have ew : ja (js M 67 0 0) 79 (4 * i + 3) = (c 10 i : Int) := (hC'.2.2.2.2 i hi).2.2.2
            dsimp only
            rw [m3, if_pos (show (i : Int) < (c 11 3 : Int) by omega), d1, d2, if_pos (show 0 ≤ (4 : Int) * (i : Int) + 3 ∧ (4 : Int) * (i : Int) + 3 < 32 by omega), t1, ew, jtst (by omega) (by omega), jwn (by omega), kAl_s]
            cases hb : b.testBit i
            · rw [if_neg nft, if_neg nft, Int.zero_mul, jw_00, jwi (by omega) (by omega)]; rfl
            · rw [if_pos rfl, if_pos rfl, Int.one_mul, jwi (x := (c 10 i : Int)) (by omega) (by omega), jwi (by omega) (by omega)]; rfl
          rw [jsb]
          have hx999 : ∀ k, k < c 11 3 → x2 * (c 10 k : Int) = ((x2.toNat * c 10 k : Nat) : Int) ∧ x2.toNat * c 10 k ≤ 8991 := fun k hk => by
            have hw := HK.1.2.2.2.2.2 k hk
            refine ⟨by rw [Int.natCast_mul, Int.toNat_of_nonneg hG.1.1], ?_⟩
            have h1 : x2.toNat ≤ 999 := by omega
            exact Nat.le_trans (Nat.mul_le_mul h1 hw.2.2.2.2) (by decide)
          have hrem : ∀ k, k < c 11 3 → 0 ≤ jrem (jw (x2 * (c 10 k : Int))) (kAl c b (c 11 3) : Nat) := fun k hk => by
            obtain ⟨e1, e2⟩ := hx999 k hk
            rw [e1, jw_nat (by omega), jrem_n (by omega) (by omega)]
            exact Int.natCast_nonneg _
          refine jo_c (R := fun r => r.1 = (kSh c b l x2 (kAl c b (c 11 3)) (c 11 3)).1 ∧ (∀ k, k < c 11 3 → ja r.2 100 k = kOr c b x2 (kAl c b (c 11 3)) k) ∧ jfr true (fun k _ => k = 100) (js M 67 0 0) r.2) ?_ (fun r hr => ?_)
          · refine jo_for (c 11 3) jfu (fun i (s : Int × Int × jm) => s.2.1 = i ∧ s.1 = (kSh c b l x2 (kAl c b (c 11 3)) i).1 ∧ (∀ k, k < i → ja s.2.2 100 k = kOr c b x2 (kAl c b (c 11 3)) k) ∧ jfr true (fun k _ => k = 100) (js M 67 0 0) s.2.2) (jfu_lt (by omega)) ?_ ?_ _ ⟨rfl, rfl, fun k hk => absurd hk (Nat.not_lt_zero _), jfr_r⟩
            · intro i hi s hs
              obtain ⟨rest, at_, m'⟩ := s
              obtain ⟨h1, h2, h3, h4⟩ := hs
              dsimp only at h1 h2 h3 h4 ⊢
              subst h1 h2
              have rd : ∀ k j, k ≠ 100 → ja m' k j = ja (js M 67 0 0) k j := fun k j hk => by unfold ja; rw [h4.1 k j hk]
              have t1 : ((4 : Int) * (i : Int) + 3).toNat = 4 * i + 3 := by omega
              have d1 : jw ((4 : Int) * (i : Int)) = (4 : Int) * (i : Int) := jwi (by omega) (by omega)
              have d2 : jw ((4 : Int) * (i : Int) + 3) = (4 : Int) * (i : Int) + 3 := jwi (by omega) (by omega)
              have ew : ja m' 79 (4 * i + 3) = (c 10 i : Int) := by rw [rd _ _ (by decide)]; exact (hC'.2.2.2.2 i hi).2.2.2
              have e3 : ja m' 67 27 = (c 11 3 : Int) := by rw [rd _ _ (by decide)]; exact m3
              have hg := kSh_g (c := c) (b := b) (l := l) (all := (kAl c b (c 11 3) : Nat)) hx2 i
              have fin : ∀ (x y : Int), jw x = kOr c b x2 (kAl c b (c 11 3)) i → y = (kSh c b l x2 (kAl c b (c 11 3)) (i + 1)).1 → jo (jle (js m' 100 i x) fun m55 => some (Sum.inl (y, ((i + 1 : Nat) : Int), m55))) (jcase (fun (s : Int × Int × jm) => s.2.1 = ((i + 1 : Nat) : Int) ∧ s.1 = (kSh c b l x2 (kAl c b (c 11 3)) (i + 1)).1 ∧ (∀ k, k < i + 1 → ja s.2.2 100 k = kOr c b x2 (kAl c b (c 11 3)) k) ∧ jfr true (fun k _ => k = 100) (js M 67 0 0) s.2.2) (fun (r : Int × jm) => r.1 = (kSh c b l x2 (kAl c b (c 11 3)) (c 11 3)).1 ∧ (∀ k, k < c 11 3 → ja r.2 100 k = kOr c b x2 (kAl c b (c 11 3)) k) ∧ jfr true (fun k _ => k = 100) (js M 67 0 0) r.2)) := fun x y hx hy => by
                refine ⟨rfl, hy, fun k hk => ?_, jfr_js h4 rfl⟩
                show ja (js m' 100 i x) 100 k = _
                rw [ja_js]
                by_cases e : k = i
                · rw [if_pos ⟨rfl, e⟩, e, hx]
                · rw [if_neg (fun f => e f.2)]; exact h3 k (by omega)
              rw [e3, if_pos (show (i : Int) < (c 11 3 : Int) by omega), d1, d2, if_pos (show 0 ≤ (4 : Int) * (i : Int) + 3 ∧ (4 : Int) * (i : Int) + 3 < 32 by omega), t1, ew, jtst (by omega) (by omega), jwn (n := i) (by omega), if_pos (show ¬ ((kAl c b (c 11 3) : Nat) : Int) = 0 by omega), if_pos (show ¬ ((kAl c b (c 11 3) : Nat) : Int) = 0 by omega), Int.toNat_natCast]
              cases hbi : b.testBit i
              · rw [if_neg nft, if_neg (by decide), jsb, if_pos (show 0 ≤ (i : Int) ∧ (i : Int) < 8 by omega), Int.zero_mul, jw_00, Int.zero_mul, jw_00, jdiv_0 (by omega), Int.sub_zero, jw_id hg.1]
                refine fin _ _ ?_ ?_
                · unfold kOr; rw [hbi]; rfl
                · rw [kSh_s, hbi, if_neg nft]
              · rw [if_pos (rfl : true = true), if_pos (rfl : (1 : Int) = 1), jsb, if_pos (show 0 ≤ (i : Int) ∧ (i : Int) < 8 by omega), Int.one_mul, jw_id hx2]
                refine fin _ _ ?_ ?_
                · unfold kOr; rw [hbi, if_pos (rfl : true = true)]; exact jw_id jg_rem
                · rw [kSh_s, hbi, if_pos (rfl : true = true)]
            · intro s hs
              obtain ⟨rest, at_, m'⟩ := s
              obtain ⟨h1, h2, h3, h4⟩ := hs
              dsimp only at h1 h2 h3 h4 ⊢
              have e3 : ja m' 67 27 = (c 11 3 : Int) := by unfold ja; rw [h4.1 67 27 (by decide)]; exact m3
              rw [e3, if_neg (by omega)]
              exact ⟨h2, h3, h4⟩
          · obtain ⟨rest, m'⟩ := r
            obtain ⟨h2, h3, h4⟩ := hr
            dsimp only at h2 h3 h4 ⊢
            have rd : ∀ k j, k ≠ 100 → ja m' k j = ja (js M 67 0 0) k j := fun k j hk => by unfold ja; rw [h4.1 k j hk]
            have e3 : ja m' 67 27 = (c 11 3 : Int) := by rw [rd _ _ (by decide)]; exact m3
            have t1 : ((4 : Int) * (l : Int) + 3).toNat = 4 * l + 3 := by omega
            have d1 : jw ((4 : Int) * (l : Int)) = (4 : Int) * (l : Int) := jwi (by omega) (by omega)
            have d2 : jw ((4 : Int) * (l : Int) + 3) = (4 : Int) * (l : Int) + 3 := jwi (by omega) (by omega)
            have ew : ja m' 79 (4 * l + 3) = (c 10 l : Int) := by rw [rd _ _ (by decide)]; exact (hC'.2.2.2.2 l hl).2.2.2
            rw [jlp_fr (a := ((0 : Int), (0 : Int))) (c := (kSh c b l x2 (kAl c b (c 11 3)) (c 11 3)).2) (c 11 3) (fun i => ((kSh c b l x2 (kAl c b (c 11 3)) i).2, (i : Int))) (by omega) rfl ?hs3 ?he3]
            case he3 =>
              dsimp only
              rw [e3, if_neg (by omega)]
            case hs3 =>
              intro i hi
              have hg := kSh_g (c := c) (b := b) (l := l) (all := (kAl c b (c 11 3) : Nat)) hx2 i
              have hol : kOr c b x2 (kAl c b (c 11 3)) l = jrem (jw (x2 * (c 10 l : Int))) (kAl c b (c 11 3) : Nat) := by unfold kOr; rw [htb]; rfl
              have hrl := hrem l hl
              dsimp only
              rw [e3, if_pos (show (i : Int) < (c 11 3 : Int) by omega), if_pos (show 0 ≤ (i : Int) ∧ (i : Int) < 8 by omega), if_pos (show 0 ≤ (l : Int) ∧ (l : Int) < 8 by omega), if_pos (show 0 ≤ (i : Int) ∧ (i : Int) < 8 by omega), if_pos (show 0 ≤ (l : Int) ∧ (l : Int) < 8 by omega), Int.toNat_natCast, Int.toNat_natCast, h3 i hi, h3 l hl, hol, jwn (n := i) (by omega), kSh_s]
              unfold kOr
              cases hbi : b.testBit i
              · rw [if_neg nft, if_neg nft, if_neg (show ¬ jrem (jw (x2 * (c 10 l : Int))) (kAl c b (c 11 3) : Nat) < -1 by omega), if_neg (show ¬ -1 = jrem (jw (x2 * (c 10 l : Int))) (kAl c b (c 11 3) : Nat) by omega), jsb, Int.add_zero, jw_id hg.2]
              · rw [if_pos (rfl : true = true), if_pos (rfl : true = true)]
                by_cases g1 : jrem (jw (x2 * (c 10 l : Int))) (kAl c b (c 11 3) : Nat) < jrem (jw (x2 * (c 10 i : Int))) (kAl c b (c 11 3) : Nat)
                · rw [if_pos g1, if_pos g1]; rfl
                · rw [if_neg g1, if_neg g1]
                  by_cases g2 : jrem (jw (x2 * (c 10 i : Int))) (kAl c b (c 11 3) : Nat) = jrem (jw (x2 * (c 10 l : Int))) (kAl c b (c 11 3) : Nat)
                  · rw [if_pos g2, if_pos g2]
                    by_cases g3 : i < l
                    · rw [if_pos (show (i : Int) < (l : Int) by omega), if_pos g3]; rfl
                    · rw [if_neg (show ¬ (i : Int) < (l : Int) by omega), if_neg g3]; rfl
                  · rw [if_neg g2, if_neg g2]; rfl
            rw [jsb, d1, d2, t1, ew, if_pos (show 0 ≤ (4 : Int) * (l : Int) + 3 ∧ (4 : Int) * (l : Int) + 3 < 32 by omega), if_pos (show ¬ ((kAl c b (c 11 3) : Nat) : Int) = 0 by omega), h2]
            by_cases g1 : (kSh c b l x2 (kAl c b (c 11 3)) (c 11 3)).2 < (kSh c b l x2 (kAl c b (c 11 3)) (c 11 3)).1
            · rw [if_pos g1, if_pos g1]; exact ⟨rfl, h4⟩
            · rw [if_neg g1, if_neg g1]; exact ⟨rfl, h4⟩
    · refine rf_A (w := 2) h (jg_c rfl) (by decide) ?_ (fun M hM => ?_)
      · show jf_328 _ _ _ m = _
        unfold jf_328 jf_181
        rw [ck_E n3 (by omega) hl]
        dsimp only
        rw [n3, es]
        simp only [sp_153, jsb, an0, an1]
        rw [ck_Ar (if_neg (by rw [jwi (by omega) (by omega)]; omega))]; rfl
      · show jf_291 _ _ _ M = _
        unfold jf_291
        have hC' := kCm_Q hM hC
        have m3 : ja (js M 67 0 0) 67 27 = (c 11 3 : Int) := hC'.1 3 (by decide)
        rw [jle_eq, mk_258 th0 m3 (by omega) (jg_c rfl) (by decide) hl]
        dsimp only
        rw [m3, es]
        simp only [sp_247, jsb, an0, an1]
        by_cases g1 : x1 < 0
        · rw [if_pos g1, jsb, mk_Ar th0 (jg_c rfl) (by decide) rfl]
        · rw [if_neg g1]
          by_cases g2 : x1 < ((2 ^ c 11 3 : Nat) : Int)
          · rw [if_pos g2, jsb, mk_Ar th0 (jg_c rfl) (by decide) (if_neg (by omega))]
          · rw [if_neg g2, jsb, mk_Ar th0 (jg_c rfl) (by decide) rfl]
  · refine rf_E (w := 1) h (jg_c rfl) (by decide) ?_ (fun M hM => ?_)
    · show jf_328 _ _ _ m = _
      unfold jf_328 jf_181
      rw [ck_Er n3 (by omega) hE]; rfl
    · show jf_291 _ _ _ M = _
      unfold jf_291
      rw [jle_eq, mk_258r th0 ((kCm_Q hM hC).1 3 (by decide)) (by omega) (jg_c rfl) (by decide) hE]
