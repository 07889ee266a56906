/-! WAYS: reach, way, send, meet: what they say. -/
def kHw (c : kC) (p : kP) (w : Nat) : Int × Int × Int := kCar c (fun l => decide (p 6 l = (w : Int))) (c 11 3)
def kWy (c : kC) (p : kP) (cl : List Int) (w t : Nat) : Int := if p 2 w = -1 then -1 else kDs (kG c p cl w (kHw c p w)) (c 11 0) (p 2 w).toNat t
theorem kWy_b {c : kC} {p : kP} {cl : List Int} {w t : Nat} : -1 ≤ kWy c p cl w t ∧ kWy c p cl w t < 8 := by
  have := kDs_b (G := kG c p cl w (kHw c p w)) (T := c 11 0) (a := (p 2 w).toNat) (b := t)
  unfold kWy; split <;> omega
theorem sl_127n {m : jm} {c : kC} {p : kP} {cl : List Int} {w b : Nat} (H : kK 0 m c p cl) (hw : w < c 11 2) (hb : b < 2 ^ c 11 3) : jo (jf_127 w b m) (fun r => kNR r (kG c p cl w (kCar c (fun i => b.testBit i) (c 11 3))) (c 11 0) ∧ jfr true jW_127 m r) := by
  refine jo_mono (sl_127 H hw hb) (fun r hr => ⟨⟨?_, H.1.1.1, hr.1⟩, hr.2⟩)
  rw [ja_fr hr.2 (by unfold jW_127; omega)]; exact kK_n H (by decide)
theorem kK_127 {m r : jm} {c : kC} {p : kP} {cl : List Int} (H : kK 0 m c p cl) (hf : jfr true jW_127 m r) : kK 0 r c p cl := kK_fr H hf (fun k j hk => by unfold jW_127 at hk; unfold kQK; omega)
theorem sl_131 {m : jm} {c : kC} {p : kP} {cl : List Int} {w : Nat} (H : kK 0 m c p cl) (hw : w < c 11 2) : jo (jf_131 w m) (fun r => kNR r (kG c p cl w (kHw c p w)) (c 11 0) ∧ jfr true jW_127 m r) := by
  unfold jf_131
  rw [sp_60 H, jsb, jo_bind]
  refine jo_mono (sl_127n H hw (kB_lt _)) (fun r hr => ?_)
  rw [kCar_h] at hr
  exact hr
theorem kP2_b {c : kC} {p : kP} {w : Nat} (hq : kVp c p) (hw : w < c 11 2) (h : p 2 w ≠ -1) : p 2 w = (((p 2 w).toNat : Nat) : Int) ∧ (p 2 w).toNat < c 11 0 := by
  have := hq.2.2.1 w hw
  omega
theorem sl_132 {m : jm} {c : kC} {p : kP} {cl : List Int} {w t : Nat} (H : kK 0 m c p cl) (hw : w < c 11 2) (ht : t < c 11 0) : jo (jf_132 w t m) (fun r => r.1 = kWy c p cl w t ∧ jfr true jW_127 m r.2) := by
  unfold jf_132 kWy
  refine jo_c (sl_131 H hw) (fun r hr => ?_)
  rw [sp_59 (kK_127 H hr.2) hw, jsb]
  by_cases h : p 2 w = -1
  · rw [h, sp_128n, if_pos rfl]; exact ⟨rfl, hr.2⟩
  · obtain ⟨h1, h2⟩ := kP2_b H.2.1 hw h
    rw [if_neg h, h1, sp_128 hr.1 h2 ht]; exact ⟨rfl, hr.2⟩
theorem sl_133 {m : jm} {c : kC} {p : kP} {cl : List Int} {w t : Nat} (H : kK 0 m c p cl) (hw : w < c 11 2) (ht : t < c 11 0) : jo (jf_133 w t m) (fun r => r.1 = (if p 2 w = -1 then -1 else kFh (kG c p cl w (kHw c p w)) (c 11 0) (p 2 w).toNat t) ∧ jfr true jW_127 m r.2) := by
  unfold jf_133
  refine jo_c (sl_131 H hw) (fun r hr => ?_)
  rw [sp_59 (kK_127 H hr.2) hw, jsb]
  by_cases h : p 2 w = -1
  · have e : jf_134 (-1) t r = some (-1) := by
      unfold jf_134
      rw [sp_128n, jsb]
      refine kFs_lp (n := 0) (fun _ => false) (by decide) (fun i hi => absurd hi (Nat.not_lt_zero _)) ?_
      rw [hr.1.1]
      by_cases hT : ((0 : Nat) : Int) < (c 11 0 : Int)
      · rw [if_pos hT, if_neg (by decide)]
      · rw [if_neg hT]
    rw [if_pos h, h, e]; exact ⟨rfl, hr.2⟩
  · obtain ⟨h1, h2⟩ := kP2_b H.2.1 hw h
    rw [if_neg h, h1, sp_134 hr.1 h2 ht]; exact ⟨rfl, hr.2⟩
def kRc (c : kC) (p : kP) (cl : List Int) (w : Nat) : Nat := if p 2 w = -1 then 0 else kB (fun t => decide (kDs (kG c p cl w (kHw c p w)) (c 11 0) (p 2 w).toNat t ≠ -1)) (c 11 0)
theorem sl_130 {m : jm} {c : kC} {p : kP} {cl : List Int} {w : Nat} (H : kK 0 m c p cl) (hw : w < c 11 2) : jo (jf_130 w m) (fun r => r.1 = ((kRc c p cl w : Nat) : Int) ∧ jfr true jW_127 m r.2) := by
  have hn := H.1.1
  unfold jf_130 kRc
  rw [sp_58 H hw, jsb]
  by_cases h : p 2 w = -1
  · rw [if_pos h, if_neg (by decide), if_pos h]; exact ⟨rfl, jfr_r⟩
  · obtain ⟨h1, h2⟩ := kP2_b H.2.1 hw h
    rw [if_neg h, if_pos rfl, if_neg h]
    refine jo_c (sl_131 H hw) (fun r hr => ?_)
    rw [sp_59 (kK_127 H hr.2) hw, jsb, h1, Int.toNat_natCast]
    rw [jlp_fr (a := (jshl 1 (((p 2 w).toNat : Nat) : Int), (0 : Int))) (c := ((kB (kD (kG c p cl w (kHw c p w)) (c 11 0) (p 2 w).toNat 8) (c 11 0) : Nat) : Int)) 8 (fun n => (((kB (kD (kG c p cl w (kHw c p w)) (c 11 0) (p 2 w).toNat n) (c 11 0) : Nat) : Int), (n : Int))) (by decide) ?h0 ?hs ?he]
    case h0 => rw [jshl_n (by omega), ← kB_one h2]; rfl
    case he => rfl
    case hs =>
      intro i hi
      dsimp only
      rw [if_pos (show (i : Int) < 8 by omega), sp_129 hr.1, jsb, jwn (n := i) (by omega)]; rfl
    rw [jsb]
    refine ⟨?_, hr.2⟩
    refine congrArg (fun (x : Nat) => (x : Int)) (kB_ext _ (fun v hv => ?_))
    have := kDs_r (G := kG c p cl w (kHw c p w)) hn.1 h2 hv
    by_cases hd : kDs (kG c p cl w (kHw c p w)) (c 11 0) (p 2 w).toNat v ≠ -1
    · rw [decide_eq_true hd]; exact this.2 hd
    · rw [decide_eq_false hd]
      cases hk : kD (kG c p cl w (kHw c p w)) (c 11 0) (p 2 w).toNat 8 v
      · rfl
      · exact absurd (this.1 hk) hd
/-! who takes what -/
def kSu (c : kC) (w l : Nat) : Bool := decide (c 6 w = 6 ∨ c 6 w = c 9 l)
theorem sp_10 {q : Nat} {m : jm} {c : kC} {p : kP} {cl : List Int} {w l : Nat} (H : kK q m c p cl) (hw : w < c 11 2) (hl : l < c 11 3) : jf_10 w l m = some (b2i (kSu c w l)) := by
  have hn := H.1.1
  unfold jf_10 kSu
  rw [Int.toNat_natCast, Int.toNat_natCast, kK_tk H hw, kK_kd H hl, if_pos (show 0 ≤ (w : Int) ∧ (w : Int) < 6 by omega), if_pos (show 0 ≤ (w : Int) ∧ (w : Int) < 6 by omega), if_pos (show 0 ≤ (l : Int) ∧ (l : Int) < 8 by omega)]
  by_cases h1 : c 6 w = 6
  · rw [if_pos (show (c 6 w : Int) = 6 by omega), decide_eq_true (Or.inl h1)]; rfl
  · rw [if_neg (show ¬ (c 6 w : Int) = 6 by omega)]
    by_cases h2 : c 6 w = c 9 l
    · rw [if_pos (show (c 6 w : Int) = (c 9 l : Int) by omega), decide_eq_true (Or.inr h2)]; rfl
    · rw [if_neg (show ¬ (c 6 w : Int) = (c 9 l : Int) by omega), decide_eq_false (by omega)]; rfl
theorem sp_231 {m : jm} {c : kC} {p : kP} {cl : List Int} {w l : Nat} (H : kM m c p cl) (hw : w < c 11 2) (hl : l < c 11 3) : jf_231 w l m = some (b2i (kSu c w l)) := by
  have hn := H.1.1
  have d1 : jw ((3 : Int) * (w : Int)) = (3 : Int) * (w : Int) := jwi (by omega) (by omega)
  have d2 : jw ((3 : Int) * (w : Int) + 2) = (3 : Int) * (w : Int) + 2 := jwi (by omega) (by omega)
  have d3 : jw ((4 : Int) * (l : Int)) = (4 : Int) * (l : Int) := jwi (by omega) (by omega)
  have d4 : jw ((4 : Int) * (l : Int) + 2) = (4 : Int) * (l : Int) + 2 := jwi (by omega) (by omega)
  have t1 : ((3 : Int) * (w : Int) + 2).toNat = 3 * w + 2 := by omega
  have t2 : ((4 : Int) * (l : Int) + 2).toNat = 4 * l + 2 := by omega
  unfold jf_231 kSu
  rw [d1, d2, d3, d4, t1, t2, kM_tk H hw, kM_kd H hl, if_pos (show 0 ≤ (3 : Int) * (w : Int) + 2 ∧ (3 : Int) * (w : Int) + 2 < 18 by omega), if_pos (show 0 ≤ (3 : Int) * (w : Int) + 2 ∧ (3 : Int) * (w : Int) + 2 < 18 by omega), if_pos (show 0 ≤ (4 : Int) * (l : Int) + 2 ∧ (4 : Int) * (l : Int) + 2 < 32 by omega)]
  by_cases h1 : c 6 w = 6
  · rw [if_pos (show (c 6 w : Int) = 6 by omega), decide_eq_true (Or.inl h1)]; rfl
  · rw [if_neg (show ¬ (c 6 w : Int) = 6 by omega)]
    by_cases h2 : c 6 w = c 9 l
    · rw [if_pos (show (c 6 w : Int) = (c 9 l : Int) by omega), decide_eq_true (Or.inr h2)]; rfl
    · rw [if_neg (show ¬ (c 6 w : Int) = (c 9 l : Int) by omega), decide_eq_false (by omega)]; rfl
/-! nothing carried; one letter carried -/
theorem kCar_0 {c : kC} {S : Nat → Bool} : ∀ n, (∀ i, i < n → S i = false) → kCar c S n = (0, 0, 0)
  | 0, _ => rfl
  | n + 1, h => by rw [kCar_s, h n (by omega), if_neg nft, kCar_0 n (fun i hi => h i (by omega))]
theorem kCnt_0 {S : Nat → Bool} : ∀ n, kCnt S n = 0 → ∀ i, i < n → S i = false
  | 0, _, i, hi => absurd hi (Nat.not_lt_zero _)
  | n + 1, h, i, hi => by
    rw [kCnt_s] at h
    by_cases e : i = n
    · subst e
      cases hs : S i
      · rfl
      · rw [hs, if_pos rfl] at h; omega
    · exact kCnt_0 n (by omega) i (by omega)
theorem kCnt_z {S : Nat → Bool} : ∀ n, (∀ i, i < n → S i = false) → kCnt S n = 0
  | 0, _ => rfl
  | n + 1, h => by rw [kCnt_s, h n (by omega), kCnt_z n (fun i hi => h i (by omega))]; rfl
theorem kB_0 {S : Nat → Bool} {n : Nat} : kB S n = 0 ↔ kCnt S n = 0 := by
  refine ⟨fun h => kCnt_z n (fun i hi => ?_), fun h => ?_⟩
  · have := kB_tb (f := S) (k := i) n
    rw [h, Nat.zero_testBit, decide_eq_true hi, Bool.true_and] at this
    exact this.symm
  · refine Nat.eq_of_testBit_eq (fun k => ?_)
    rw [kB_tb, Nat.zero_testBit]
    by_cases hk : k < n
    · rw [kCnt_0 n h k hk, Bool.and_false]
    · rw [decide_eq_false hk]; rfl
theorem kHw_0 {c : kC} {p : kP} {w : Nat} (h : (kHw c p w).2.2 = 0) : kHw c p w = (0, 0, 0) := by
  unfold kHw at *
  rw [kCar_n] at h
  exact kCar_0 _ (kCnt_0 _ (by omega))
theorem kCar_1 {c : kC} {l : Nat} (hv : kV c) (hl : l < c 11 3) : kCar c (fun i => (2 ^ l).testBit i) (c 11 3) = ((c 10 l : Int), (c 9 l : Int), 1) := by
  have h0 := kCar_0 (c := c) (S := fun i => (2 ^ l).testBit i) l (fun i hi => by rw [Nat.testBit_two_pow]; exact decide_eq_false (by omega))
  have h1 : kCar c (fun i => (2 ^ l).testBit i) (l + 1) = ((c 10 l : Int), (c 9 l : Int), 1) := by
    rw [kCar_s, h0, Nat.testBit_two_pow, decide_eq_true (rfl : l = l), if_pos (rfl : true = true)]
    dsimp only
    rw [Int.zero_add, Int.zero_add]
    by_cases h : (0 : Int) < (c 9 l : Int)
    · rw [if_pos h]
    · rw [if_neg h]
      have : (c 9 l : Int) = 0 := by omega
      rw [this]
  have h2 : ∀ k, l + 1 + k ≤ c 11 3 → kCar c (fun i => (2 ^ l).testBit i) (l + 1 + k) = ((c 10 l : Int), (c 9 l : Int), 1) := fun k => by
    induction k with
    | zero => intro _; exact h1
    | succ k ih =>
      intro hk
      show kCar c _ (l + 1 + k + 1) = _
      rw [kCar_s, Nat.testBit_two_pow, decide_eq_false (by omega), if_neg nft]; exact ih (by omega)
  have := h2 (c 11 3 - (l + 1)) (by omega)
  rw [show l + 1 + (c 11 3 - (l + 1)) = c 11 3 by omega] at this; exact this
/-- how many wires w needs to bring l; -1: he can't -/
def kBr (c : kC) (p : kP) (cl : List Int) (w l : Nat) : Int :=
  if p 2 w = -1 then -1 else if (kHw c p w).2.2 ≠ 0 then -1 else if kSu c w l = false then -1 else if kLs p l = -1 then -1
  else if kDs (kG c p cl w (0, 0, 0)) (c 11 0) (p 2 w).toNat (kLs p l).toNat = -1 then -1
  else if kDs (kG c p cl w ((c 10 l : Int), (c 9 l : Int), 1)) (c 11 0) (kLs p l).toNat (c 8 l) = -1 then -1
  else kDs (kG c p cl w (0, 0, 0)) (c 11 0) (p 2 w).toNat (kLs p l).toNat + kDs (kG c p cl w ((c 10 l : Int), (c 9 l : Int), 1)) (c 11 0) (kLs p l).toNat (c 8 l)
theorem kBr_b {c : kC} {p : kP} {cl : List Int} {w l : Nat} : -1 ≤ kBr c p cl w l ∧ kBr c p cl w l < 16 := by
  have h1 := kDs_b (G := kG c p cl w (0, 0, 0)) (T := c 11 0) (a := (p 2 w).toNat) (b := (kLs p l).toNat)
  have h2 := kDs_b (G := kG c p cl w ((c 10 l : Int), (c 9 l : Int), 1)) (T := c 11 0) (a := (kLs p l).toNat) (b := c 8 l)
  unfold kBr
  repeat' split
  all_goals omega
theorem kLs_b {c : kC} {p : kP} {l : Nat} (hv : kV c) (hq : kVp c p) (hl : l < c 11 3) : (kLs p l = -1 ∧ ¬ (p 6 l = -1 ∧ p 7 l = 0)) ∨ (kLs p l = p 5 l ∧ p 6 l = -1 ∧ p 7 l = 0 ∧ p 5 l = (((p 5 l).toNat : Nat) : Int) ∧ (p 5 l).toNat < c 11 0) := by
  have h := hq.2.2.2.1 l hl
  unfold kLs
  rcases h.1 with h7 | h7
  · rw [if_neg (by omega)]
    by_cases h6 : p 6 l = -1
    · exact Or.inr ⟨rfl, h6, h7, by omega, by omega⟩
    · exact Or.inl ⟨(h.2.2.2.2.1 h6).1, by omega⟩
  · rw [if_pos h7]; exact Or.inl ⟨rfl, by omega⟩
theorem sl_126 {m : jm} {c : kC} {p : kP} {cl : List Int} {w l : Nat} (H : kK 0 m c p cl) (hw : w < c 11 2) (hl : l < c 11 3) : jo (jf_126 l w m) (fun r => r.1 = kBr c p cl w l ∧ jfr true jW_127 m r.2) := by
  have hn := H.1.1
  have hL := H.1.2.2.2.2.2 l hl
  unfold jf_126 kBr
  rw [sp_57 H hl, jsb, sp_58 H hw, jsb, sp_60 H, jsb]
  have e3 : (if (if p 2 w = -1 then (1 : Int) else 0) = 0 then (if ((kB (fun l => decide (p 6 l = (w : Int))) (c 11 3) : Nat) : Int) = 0 then some (1 : Int) else some 0) else some 0) = some (if p 2 w = -1 then 0 else if (kHw c p w).2.2 ≠ 0 then 0 else 1) := by
    by_cases h : p 2 w = -1
    · rw [if_pos h, if_pos h, if_neg (by decide)]
    · rw [if_neg h, if_neg h, if_pos rfl]
      have hb := kB_0 (S := fun l => decide (p 6 l = (w : Int))) (n := c 11 3)
      have hc := kCar_n (c := c) (S := fun l => decide (p 6 l = (w : Int))) (c 11 3)
      unfold kHw
      by_cases h0 : kB (fun l => decide (p 6 l = (w : Int))) (c 11 3) = 0
      · have := hb.1 h0
        rw [if_pos (by omega), if_neg (by omega)]
      · have : ¬ kCnt (fun l => decide (p 6 l = (w : Int))) (c 11 3) = 0 := fun e => h0 (hb.2 e)
        rw [if_neg (by omega), if_pos (by omega)]
  rw [e3, jsb]
  rcases kLs_b H.1 H.2.1 hl with ⟨q1, -⟩ | ⟨q1, -, -, q2, q3⟩
  · rw [if_pos q1]
    refine ⟨?_, jfr_r⟩
    rw [if_pos q1]
    repeat' split
    all_goals rfl
  · have hne : ¬ kLs p l = -1 := by omega
    rw [if_neg hne, if_neg hne]
    by_cases h : p 2 w = -1
    · rw [if_pos h, if_pos h, if_pos rfl]; exact ⟨rfl, jfr_r⟩
    · obtain ⟨h1, h2⟩ := kP2_b H.2.1 hw h
      rw [if_neg h, if_neg h]
      by_cases hh : (kHw c p w).2.2 ≠ 0
      · rw [if_pos hh, if_pos hh, if_pos rfl]; exact ⟨rfl, jfr_r⟩
      · rw [if_neg hh, if_neg hh, if_neg (by decide), sp_10 H hw hl, jsb]
        cases hs : kSu c w l
        · rw [if_pos (show b2i false = 0 from rfl), if_pos (rfl : false = false)]; exact ⟨rfl, jfr_r⟩
        · rw [if_neg (show ¬ b2i true = 0 by decide), if_neg (by decide : ¬ true = false)]
          have hr0 := sl_127n (b := 0) H hw (Nat.pow_pos (by decide))
          rw [kCar_0 (c 11 3) (fun i _ => Nat.zero_testBit i)] at hr0
          refine jo_c hr0 (fun r hr => ?_)
          have q4 : (kLs p l).toNat < c 11 0 := by rw [q1]; exact q3
          have q5 : kLs p l = (((kLs p l).toNat : Nat) : Int) := by rw [q1]; exact q2
          have H1 := kK_127 H hr.2
          rw [sp_59 H1 hw, jsb]
          have e128 : jf_128 (p 2 w) (kLs p l) r = some (kDs (kG c p cl w (0, 0, 0)) (c 11 0) (p 2 w).toNat (kLs p l).toNat) := by
            rw [← sp_128 hr.1 h2 q4, ← h1, ← q5]
          rw [e128, jsb]
          by_cases hd : kDs (kG c p cl w (0, 0, 0)) (c 11 0) (p 2 w).toNat (kLs p l).toNat = -1
          · rw [if_pos hd, if_pos hd]; exact ⟨rfl, hr.2⟩
          · rw [if_neg hd, if_neg hd, jshl_n (by omega)]
            have hr1 := sl_127n (b := 2 ^ l) H1 hw ((Nat.pow_lt_pow_iff_right (a := 2) (by decide)).2 hl)
            rw [kCar_1 H.1 hl] at hr1
            refine jo_c hr1 (fun r2 hr2 => ?_)
            have H2 := kK_127 H1 hr2.2
            rw [if_pos (show 0 ≤ (l : Int) ∧ (l : Int) < 8 by omega), Int.toNat_natCast, kK_T H2 hl]
            have e128' : jf_128 (kLs p l) (c 8 l : Int) r2 = some (kDs (kG c p cl w ((c 10 l : Int), (c 9 l : Int), 1)) (c 11 0) (kLs p l).toNat (c 8 l)) := by
              rw [← sp_128 hr2.1 q4 hL.2.1, ← q5]
            have b1 := kDs_b (G := kG c p cl w (0, 0, 0)) (T := c 11 0) (a := (p 2 w).toNat) (b := (kLs p l).toNat)
            have b2 := kDs_b (G := kG c p cl w ((c 10 l : Int), (c 9 l : Int), 1)) (T := c 11 0) (a := (kLs p l).toNat) (b := c 8 l)
            rw [e128', jsb]
            by_cases hd2 : kDs (kG c p cl w ((c 10 l : Int), (c 9 l : Int), 1)) (c 11 0) (kLs p l).toNat (c 8 l) = -1
            · rw [if_pos hd2, if_pos hd2]; exact ⟨rfl, jfr_tr hr.2 hr2.2⟩
            · rw [if_neg hd2, if_neg hd2, jwi (by omega) (by omega)]; exact ⟨rfl, jfr_tr hr.2 hr2.2⟩
