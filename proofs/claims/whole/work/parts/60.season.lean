/-! SEASON: draws, and one step of it. -/
theorem jband_32767 {y : Int} : jband y 32767 = (((Int32.ofInt y).toBitVec.toNat % 32768 : Nat) : Int) := by
  unfold jband
  refine jti ?_ (Nat.lt_of_lt_of_le (Nat.mod_lt _ (by decide)) (by decide))
  rw [Int32.toBitVec_and, BitVec.toNat_and]
  have : (Int32.ofInt 32767).toBitVec.toNat = 2 ^ 15 - 1 := by decide +kernel
  rw [this, Nat.and_two_pow_sub_one_eq_mod]
theorem draw_eq {x : Int} : jband (jushr x 16) 32767 = jband (jshr x 16) 32767 := by
  rw [jband_32767, jband_32767]
  unfold jushr jshr
  rw [Int32.ofInt_toInt, Int32.ofInt_toInt]
  have h1 := pk_ushr (Int32.ofInt x) (Int32.ofInt ((16 : Nat) : Int)) 16 (sh_u ⟨16, by omega⟩)
  have h2 := pk_shr (Int32.ofInt x) (Int32.ofInt ((16 : Nat) : Int) &&& 31) 16 (jshs_f ⟨16, by omega⟩)
  show (((((Int32.ofInt x).toUInt32 >>> ((Int32.ofInt ((16 : Nat) : Int)).toUInt32 &&& Int32.toUInt32 31)).toInt32).toBitVec.toNat % 32768 : Nat) : Int) = (((Int32.ofInt x >>> (Int32.ofInt ((16 : Nat) : Int) &&& 31)).toBitVec.toNat % 32768 : Nat) : Int)
  rw [h1]
  generalize Int32.ofInt x >>> (Int32.ofInt ((16 : Nat) : Int) &&& 31) = z at h2
  have h3 : (Int32.ofInt x).toInt = if 2 * (Int32.ofInt x).toBitVec.toNat < 2 ^ 32 then ((Int32.ofInt x).toBitVec.toNat : Int) else ((Int32.ofInt x).toBitVec.toNat : Int) - ((2 ^ 32 : Nat) : Int) := BitVec.toInt_eq_toNat_cond _
  have h4 : z.toInt = if 2 * z.toBitVec.toNat < 2 ^ 32 then (z.toBitVec.toNat : Int) else (z.toBitVec.toNat : Int) - ((2 ^ 32 : Nat) : Int) := BitVec.toInt_eq_toNat_cond _
  have h5 : (Int32.ofInt x).toBitVec.toNat < 2 ^ 32 := (Int32.ofInt x).toBitVec.isLt
  have h6 : z.toBitVec.toNat < 2 ^ 32 := z.toBitVec.isLt
  rw [Int.shiftRight_eq_div_pow] at h2
  generalize (Int32.ofInt x).toBitVec.toNat = u at h3 h5
  generalize z.toBitVec.toNat = v at h4 h6
  generalize (Int32.ofInt x).toInt = X at h2 h3
  generalize z.toInt = Z at h2 h4
  split at h3 <;> split at h4 <;> omega
def kSd (g : Int) : Int := jw (jw (g * 1103515245) + 12345)
/-- the number drawn below n at seed g, after it has gone on -/
def kDr (g : Int) (n : Nat) : Nat := (Int32.ofInt (jshr g 16)).toBitVec.toNat % 32768 % n
theorem kDr_e {g : Int} {n : Nat} (hn : n < 100) : jrem (jband (jshr g 16) 32767) n = ((kDr g n : Nat) : Int) := by
  rw [jband_32767, jrem_n (Nat.lt_of_lt_of_le (Nat.mod_lt _ (by decide)) (by decide)) (by omega)]; rfl
theorem kDr_lt {g : Int} {n : Nat} (h : 0 < n) : kDr g n < n := Nat.mod_lt _ h
theorem kSd_w {g : Int} : jw (kSd g) = kSd g := jw_w
theorem sp_110 {m : jm} {n : Nat} (hn : n < 100) (h0 : 0 < n) : jf_110 n m = some (((kDr (kSd (ja m 63 2)) n : Nat) : Int), js m 63 2 (kSd (ja m 63 2))) := by
  unfold jf_110
  rw [jle_eq, if_pos (show (0 : Int) < (n : Int) by omega), if_pos (show ¬ (n : Int) = 0 by omega), jsb, ja_js1, draw_eq]
  show some (jrem (jband (jshr (jw (kSd (ja m 63 2))) 16) 32767) n, js m 63 2 (kSd (ja m 63 2))) = _
  rw [kSd_w, kDr_e hn]
theorem sp_296 {m : jm} {n : Nat} (hn : n < 100) (h0 : 0 < n) : jf_296 n m = some (((kDr (kSd (ja m 67 61)) n : Nat) : Int), js m 67 61 (kSd (ja m 67 61))) := by
  unfold jf_296
  rw [jle_eq, if_pos (show ¬ (n : Int) = 0 by omega), ja_js1]
  show some (jrem (jband (jshr (jw (kSd (ja m 67 61))) 16) 32767) n, js m 67 61 (kSd (ja m 67 61))) = _
  rw [kSd_w, kDr_e hn]
/-- seed, falls, walks, nights, post -/
abbrev kZt5 : Type := Int × Int × Int × Int × kP
def kZw (c : kC) (z : kZt5) : Nat := kDr (kSd z.1) (c 11 2)
def kZt (c : kC) (z : kZt5) : Nat := kDr (kSd (kSd z.1)) (c 11 0)
def kZg (c : kC) (cl : List Int) (z : kZt5) : Bool × kP := kGo c z.2.2.2.2 cl (kZw c z) (kZt c z)
def kZ3 (c : kC) (cl : List Int) (z : kZt5) : kP := kAt c (kAg c (kZg c cl z).2 (kZw c z) (c 11 3)) (kZw c z) (c 11 3)
def kZ4 (c : kC) (cl : List Int) (fog : Int) (z : kZt5) : kP := if ((kDr (kSd (kSd (kSd z.1))) 16 : Nat) : Int) < fog then kFo (kZ3 c cl z) else kZ3 c cl z
def kZs (c : kC) (cl : List Int) (fog : Int) (i : Nat) (z : kZt5) : kZt5 := (kSd (kSd (kSd z.1)), jw (z.2.1 + b2i ((kZg c cl z).1 && decide ((kZg c cl z).2 2 (kZw c z) = -1))), jw (z.2.2.1 + b2i (kZg c cl z).1), if i % 8 = 0 then (jw (z.2.2.2.1 + 1), kNi c (kZ4 c cl fog z)) else (z.2.2.2.1, kZ4 c cl fog z))
def kZn (c : kC) (cl : List Int) (fog : Int) (z : kZt5) : Nat → kZt5
  | 0 => z
  | n + 1 => kZs c cl fog (n + 1) (kZn c cl fog z n)
/-- how he falls -/
theorem kGo_f {c : kC} {p : kP} {cl : List Int} {w t : Nat} (h4 : jg (p 4 w)) : jw ((kGo c p cl w t).2 4 w - p 4 w) = b2i ((kGo c p cl w t).1 && decide ((kGo c p cl w t).2 2 w = -1)) := by
  unfold kGo
  by_cases h1 : p 2 w = -1
  · rw [if_pos h1]
    show jw (p 4 w - p 4 w) = 0
    rw [Int.sub_self]; exact wz0
  · rw [if_neg h1]
    by_cases h2 : kJo c (p 2 w) t = -1
    · rw [if_pos h2]
      show jw (p 4 w - p 4 w) = 0
      rw [Int.sub_self]; exact wz0
    · rw [if_neg h2]
      generalize (kJo c (p 2 w) t).toNat = e
      by_cases h3 : kOvr c p cl w e = true
      · rw [if_pos h3]
        show jw (kU (kU p 1 e (jw (p 1 e + 1))) 2 w t 4 w - p 4 w) = b2i (true && decide (kU (kU p 1 e (jw (p 1 e + 1))) 2 w t 2 w = -1))
        rw [kU_a (by decide), kU_a (by decide), kU_e, Int.sub_self, decide_eq_false (show ¬ (t : Int) = -1 by omega)]; exact wz0
      · rw [if_neg h3]
        show jw (kFall c (kU p 1 e (jw (p 1 e + 1))) w 4 w - p 4 w) = b2i (true && decide (kFall c (kU p 1 e (jw (p 1 e + 1))) w 2 w = -1))
        unfold kFall
        rw [kU_e, kU_a (show (2 : Nat) ≠ 4 by decide), kU_e, kU_a (show (4 : Nat) ≠ 1 by decide), decide_eq_true (rfl : (-1 : Int) = -1)]
        show _ = (1 : Int)
        have := h4.1
        have := h4.2
        by_cases hb : p 4 w = 2147483647
        · rw [hb]; decide +kernel
        · rw [show jw (p 4 w + 1) = p 4 w + 1 from jwi (by omega) (by omega), show p 4 w + 1 - p 4 w = 1 by omega]; exact wo1
/-! the class -/
def kZc (m : jm) (c : kC) (cl : List Int) (z : kZt5) : Prop := kK 17 m c z.2.2.2.2 cl ∧ ja m 63 2 = z.1 ∧ ja m 63 3 = z.2.1 ∧ ja m 63 4 = z.2.2.1 ∧ ja m 63 5 = z.2.2.2.1
theorem sl_111 {m : jm} {c : kC} {cl : List Int} {w t : Nat} {z : kZt5} (H : kZc m c cl z) (hw : w < c 11 2) (ht : t < c 11 0) : jo (jf_111 w t m) (fun r => kZc r c cl (z.1, jw (z.2.1 + b2i ((kGo c z.2.2.2.2 cl w t).1 && decide ((kGo c z.2.2.2.2 cl w t).2 2 w = -1))), jw (z.2.2.1 + b2i (kGo c z.2.2.2.2 cl w t).1), z.2.2.2.1, kAt c (kAg c (kGo c z.2.2.2.2 cl w t).2 w (c 11 3)) w (c 11 3))) := by
  obtain ⟨g, f, k, n, p⟩ := z
  obtain ⟨H0, z1, z2, z3, z4⟩ := H
  dsimp only at *
  unfold jf_111
  refine jo_c (jo_and (sl_77 H0 hw ht) jx_77) (fun r hr => ?_)
  obtain ⟨⟨r1, r2⟩, r3⟩ := hr
  have e63 : ∀ j, ja r.2 63 j = ja m 63 j := fun j => ja_fr r3 (by unfold jW_77; omega)
  have hrest : ∀ M : jm, kZc M c cl (g, jw (f + b2i ((kGo c p cl w t).1 && decide ((kGo c p cl w t).2 2 w = -1))), jw (k + b2i (kGo c p cl w t).1), n, (kGo c p cl w t).2) → jo ((jf_79 17 w M).bind fun p30 => (jf_97 17 w p30).bind fun p31 => some p31) (fun r => kZc r c cl (g, jw (f + b2i ((kGo c p cl w t).1 && decide ((kGo c p cl w t).2 2 w = -1))), jw (k + b2i (kGo c p cl w t).1), n, kAt c (kAg c (kGo c p cl w t).2 w (c 11 3)) w (c 11 3))) := fun M hM => by
    obtain ⟨M0, M1, M2, M3, M4⟩ := hM
    refine jo_c (jo_and (sl_79 M0 hw) jx_79) (fun a ha => ?_)
    refine jo_c (jo_and (sl_97 ha.1 hw) jx_97) (fun b hb => ?_)
    have e : ∀ j, ja b 63 j = ja M 63 j := fun j => by rw [ja_fr hb.2 (by unfold jW_97; omega), ja_fr ha.2 (by unfold jW_79; omega)]
    exact ⟨hb.1, by rw [e]; exact M1, by rw [e]; exact M2, by rw [e]; exact M3, by rw [e]; exact M4⟩
  have g2 : jw f = f := by rw [← z2]; exact jw_a
  have g3 : jw k = k := by rw [← z3]; exact jw_a
  cases hg : (kGo c p cl w t).1
  · rw [hg] at r1 hrest
    rw [r1, if_pos (show b2i false = 0 by decide), jsb]
    rw [Bool.false_and] at hrest ⊢
    rw [show b2i false = 0 from rfl, Int.add_zero, Int.add_zero, g2, g3] at hrest ⊢
    exact hrest r.2 ⟨r2, by rw [e63]; exact z1, by rw [e63]; exact z2, by rw [e63]; exact z3, by rw [e63]; exact z4⟩
  · rw [hg] at r1 hrest
    rw [r1, if_neg (show ¬ b2i true = 0 by decide), jle_eq, e63, z3]
    rw [Bool.true_and] at hrest ⊢
    have H2 : kK 17 (js r.2 63 4 (jw (k + 1))) c (kGo c p cl w t).2 cl := kK_js r2 (by unfold kQK; omega)
    rw [sp_58 H2 hw, jsb]
    have hh : (if (if (kGo c p cl w t).2 2 w = -1 then (1 : Int) else 0) = 0 then some (0 : Int) else some 1) = some (b2i (decide ((kGo c p cl w t).2 2 w = -1))) := by
      by_cases h : (kGo c p cl w t).2 2 w = -1
      · rw [if_pos h, if_neg Int.one_ne_zero, decide_eq_true h]; rfl
      · rw [if_neg h, if_pos rfl, decide_eq_false h]; rfl
    rw [hh, jsb, jle_eq, jsb, ja_jsj (show (3 : Nat) ≠ 4 by decide), e63, z2]
    refine hrest _ ⟨kK_js H2 (by unfold kQK; omega), ?_, ?_, ?_, ?_⟩
    · show ja (js (js r.2 63 4 (jw (k + 1))) 63 3 (jw (f + b2i (decide ((kGo c p cl w t).2 2 w = -1))))) 63 2 = g
      rw [ja_jsj (by decide), ja_jsj (by decide), e63]; exact z1
    · show ja (js (js r.2 63 4 (jw (k + 1))) 63 3 (jw (f + b2i (decide ((kGo c p cl w t).2 2 w = -1))))) 63 3 = _
      rw [ja_js1, jw_w]
    · show ja (js (js r.2 63 4 (jw (k + 1))) 63 3 (jw (f + b2i (decide ((kGo c p cl w t).2 2 w = -1))))) 63 4 = jw (k + b2i true)
      rw [ja_jsj (by decide), ja_js1, jw_w]; rfl
    · show ja (js (js r.2 63 4 (jw (k + 1))) 63 3 (jw (f + b2i (decide ((kGo c p cl w t).2 2 w = -1))))) 63 5 = n
      rw [ja_jsj (by decide), ja_jsj (by decide), e63]; exact z4
