/-! FEED. -/
theorem jband_255 {y : Int} : jband y 255 = (((Int32.ofInt y).toBitVec.toNat % 256 : Nat) : Int) := by
  unfold jband
  refine jti ?_ (Nat.lt_of_lt_of_le (Nat.mod_lt _ (by decide)) (by decide))
  rw [Int32.toBitVec_and, BitVec.toNat_and]
  have : (Int32.ofInt 255).toBitVec.toNat = 2 ^ 8 - 1 := by decide +kernel
  rw [this, Nat.and_two_pow_sub_one_eq_mod]
theorem sh_u : ∀ k : Fin 32, (((Int32.ofInt ((k : Nat) : Int)).toUInt32 &&& Int32.toUInt32 31).toBitVec % 32).toNat = (k : Nat) := by decide +kernel
theorem byte_eq {x : Int} {k : Nat} (hk : k = 0 ∨ k = 8 ∨ k = 16 ∨ k = 24) : jband (jushr x (k : Int)) 255 = jband (jshr x (k : Int)) 255 := by
  rw [jband_255, jband_255]
  unfold jushr jshr
  rw [Int32.ofInt_toInt, Int32.ofInt_toInt]
  have h1 := pk_ushr (Int32.ofInt x) (Int32.ofInt (k : Int)) k (sh_u ⟨k, by omega⟩)
  have h2 := pk_shr (Int32.ofInt x) (Int32.ofInt (k : Int) &&& 31) k (jshs_f ⟨k, by omega⟩)
  rw [h1]
  generalize Int32.ofInt x >>> (Int32.ofInt (k : Int) &&& 31) = z at h2
  have h3 : (Int32.ofInt x).toInt = if 2 * (Int32.ofInt x).toBitVec.toNat < 2 ^ 32 then ((Int32.ofInt x).toBitVec.toNat : Int) else ((Int32.ofInt x).toBitVec.toNat : Int) - ((2 ^ 32 : Nat) : Int) := BitVec.toInt_eq_toNat_cond _
  have h4 : z.toInt = if 2 * z.toBitVec.toNat < 2 ^ 32 then (z.toBitVec.toNat : Int) else (z.toBitVec.toNat : Int) - ((2 ^ 32 : Nat) : Int) := BitVec.toInt_eq_toNat_cond _
  have h5 : (Int32.ofInt x).toBitVec.toNat < 2 ^ 32 := (Int32.ofInt x).toBitVec.isLt
  have h6 : z.toBitVec.toNat < 2 ^ 32 := z.toBitVec.isLt
  rw [Int.shiftRight_eq_div_pow] at h2
  generalize (Int32.ofInt x).toBitVec.toNat = u at h3 h5
  generalize z.toBitVec.toNat = v at h4 h6
  generalize (Int32.ofInt x).toInt = X at h2 h3
  generalize z.toInt = Z at h2 h4
  rcases hk with rfl | rfl | rfl | rfl
  · split at h3 <;> split at h4 <;> omega
  · split at h3 <;> split at h4 <;> omega
  · split at h3 <;> split at h4 <;> omega
  · split at h3 <;> split at h4 <;> omega
def kBy (x : Int) (s : Nat) : Int := jband (jshr x (s : Int)) 255
theorem kBy_b {x : Int} {s : Nat} : 0 ≤ kBy x s ∧ kBy x s ≤ 255 := by
  unfold kBy; rw [jband_255]; omega
theorem sl_114 {m : jm} {x : Int} {h : Nat} (hh : ja m 1 1 = (h : Int)) (h6 : h + 4 ≤ 600) : jo (jf_114 x m) (fun M => ja M 1 1 = ((h + 4 : Nat) : Int) ∧ (∀ i, i < 4 → ja M 2 (h + i) = kBy x (24 - 8 * i)) ∧ ∀ k j, ¬ (k = 2 ∧ h ≤ j ∧ j < h + 4) → ¬ (k = 1 ∧ j = 1) → ja M k j = ja m k j) := by
  unfold jf_114
  refine jo_c (R := fun M => ja M 1 1 = ((h + 4 : Nat) : Int) ∧ (∀ i, i < 4 → ja M 2 (h + i) = kBy x (24 - 8 * i)) ∧ ∀ k j, ¬ (k = 2 ∧ h ≤ j ∧ j < h + 4) → ¬ (k = 1 ∧ j = 1) → ja M k j = ja m k j) ?_ (fun r hr => hr)
  refine jo_for 4 jfu (fun n (s : Int × jm) => s.1 = 24 - 8 * (n : Int) ∧ ja s.2 1 1 = ((h + n : Nat) : Int) ∧ (∀ i, i < n → ja s.2 2 (h + i) = kBy x (24 - 8 * i)) ∧ ∀ k j, ¬ (k = 2 ∧ h ≤ j ∧ j < h + n) → ¬ (k = 1 ∧ j = 1) → ja s.2 k j = ja m k j) (jfu_lt (by decide)) ?_ ?_ _ ⟨rfl, hh, fun i hi => absurd hi (Nat.not_lt_zero _), fun k j _ _ => rfl⟩
  · intro n hn s hs
    obtain ⟨y, M⟩ := s
    obtain ⟨a1, a2, a3, a4⟩ := hs
    dsimp only at a1 a2 a3 a4 ⊢
    have ey : y = ((24 - 8 * n : Nat) : Int) := by omega
    subst ey
    have hb := kBy_b (x := x) (s := 24 - 8 * n)
    have e1 : jw (((24 - 8 * n : Nat) : Int) + -8) = 24 - 8 * ((n + 1 : Nat) : Int) := by rw [jwi (by omega) (by omega)]; omega
    have e2 : ja (js M 2 (h + n) (kBy x (24 - 8 * n))) 1 1 = ((h + n : Nat) : Int) := by rw [ja_jsk (by decide)]; exact a2
    rw [if_neg (show ¬ ((24 - 8 * n : Nat) : Int) < 0 by omega), a2, if_pos (show ((h + n : Nat) : Int) < 600 by omega), if_pos (show 0 ≤ ((h + n : Nat) : Int) ∧ ((h + n : Nat) : Int) < 600 by omega), byte_eq (by omega), jle_eq, Int.toNat_natCast]
    show jo ((jle (js (js M 2 (h + n) (kBy x (24 - 8 * n))) 1 1 (jw (ja (js M 2 (h + n) (kBy x (24 - 8 * n))) 1 1 + 1))) fun m11 => some m11).bind fun t8 => some (Sum.inl (jw (((24 - 8 * n : Nat) : Int) + -8), t8))) _
    rw [e2, jwn (n := h + n) (by omega), jle_eq, jsb, e1]
    refine ⟨rfl, ?_, fun i hi => ?_, fun k j q1 q2 => ?_⟩
    · show ja (js _ 1 1 _) 1 1 = _
      rw [ja_js1, jw_nat (by omega)]; rfl
    · show ja (js _ 1 1 _) 2 (h + i) = _
      rw [ja_jsk (by decide), ja_js]
      by_cases e : i = n
      · rw [if_pos ⟨rfl, by omega⟩, e, jwi (by omega) (by omega)]
      · rw [if_neg (by omega)]; exact a3 i (by omega)
    · show ja (js _ 1 1 _) k j = _
      rw [ja_js, if_neg q2, ja_js, if_neg (by omega)]; exact a4 k j (by omega) q2
  · intro s hs
    obtain ⟨y, M⟩ := s
    obtain ⟨a1, a2, a3, a4⟩ := hs
    dsimp only at a1 a2 a3 a4 ⊢
    rw [if_pos (by omega)]
    exact ⟨a2, a3, a4⟩
/-- the byte k of five numbers -/
def kB5 (x0 x1 x2 x3 x4 : Int) (k : Nat) : Int := kBy (if k < 4 then x0 else if k < 8 then x1 else if k < 12 then x2 else if k < 16 then x3 else x4) (24 - 8 * (k % 4))
theorem sl_141 {m : jm} {x0 x1 x2 x3 x4 : Int} {h : Nat} (hh : ja m 1 1 = (h : Int)) (h6 : h + 20 ≤ 600) : jo (jf_141 x0 x1 x2 x3 x4 m) (fun p => p.1 = ((h + 20 : Nat) : Int) ∧ ja p.2 1 1 = ((h + 20 : Nat) : Int) ∧ (∀ i, i < 20 → ja p.2 2 (h + i) = kB5 x0 x1 x2 x3 x4 i) ∧ ∀ k j, ¬ (k = 2 ∧ h ≤ j ∧ j < h + 20) → ¬ (k = 1 ∧ j = 1) → ja p.2 k j = ja m k j) := by
  unfold jf_141
  rw [hh, show jw ((h : Int) + 20) = ((h + 20 : Nat) : Int) by rw [jwi (by omega) (by omega)]; omega, if_neg (by omega)]
  refine jo_c (sl_114 hh (by omega)) (fun m1 h1 => ?_)
  refine jo_c (sl_114 (h := h + 4) h1.1 (by omega)) (fun m2 h2 => ?_)
  refine jo_c (sl_114 (h := h + 4 + 4) h2.1 (by omega)) (fun m3 h3 => ?_)
  refine jo_c (sl_114 (h := h + 4 + 4 + 4) h3.1 (by omega)) (fun m4 h4 => ?_)
  refine jo_c (sl_114 (h := h + 4 + 4 + 4 + 4) h4.1 (by omega)) (fun m5 h5 => ?_)
  refine ⟨h5.1, h5.1, fun i hi => ?_, fun k j q1 q2 => ?_⟩
  · show ja m5 2 (h + i) = _
    unfold kB5
    by_cases c1 : i < 4
    · rw [h5.2.2 _ _ (by omega) (by omega), h4.2.2 _ _ (by omega) (by omega), h3.2.2 _ _ (by omega) (by omega), h2.2.2 _ _ (by omega) (by omega), h1.2.1 i c1, if_pos c1, Nat.mod_eq_of_lt c1]
    by_cases c2 : i < 8
    · have := h2.2.1 (i - 4) (by omega)
      rw [show h + 4 + (i - 4) = h + i by omega] at this
      rw [h5.2.2 _ _ (by omega) (by omega), h4.2.2 _ _ (by omega) (by omega), h3.2.2 _ _ (by omega) (by omega), this, if_neg c1, if_pos c2, show i % 4 = i - 4 by omega]
    by_cases c3 : i < 12
    · have := h3.2.1 (i - 8) (by omega)
      rw [show h + 4 + 4 + (i - 8) = h + i by omega] at this
      rw [h5.2.2 _ _ (by omega) (by omega), h4.2.2 _ _ (by omega) (by omega), this, if_neg c1, if_neg c2, if_pos c3, show i % 4 = i - 8 by omega]
    by_cases c4 : i < 16
    · have := h4.2.1 (i - 12) (by omega)
      rw [show h + 4 + 4 + 4 + (i - 12) = h + i by omega] at this
      rw [h5.2.2 _ _ (by omega) (by omega), this, if_neg c1, if_neg c2, if_neg c3, if_pos c4, show i % 4 = i - 12 by omega]
    · have := h5.2.1 (i - 16) (by omega)
      rw [show h + 4 + 4 + 4 + 4 + (i - 16) = h + i by omega] at this
      rw [this, if_neg c1, if_neg c2, if_neg c3, if_neg c4, show i % 4 = i - 16 by omega]
  · show ja m5 k j = _
    rw [h5.2.2 _ _ (by omega) q2, h4.2.2 _ _ (by omega) q2, h3.2.2 _ _ (by omega) q2, h2.2.2 _ _ (by omega) q2, h1.2.2 _ _ (by omega) q2]
theorem sy_0 {m : jm} {x0 x1 x2 x3 x4 : Int} (hx0 : jg x0) (hx1 : jg x1) (hx2 : jg x2) (hx3 : jg x3) (hx4 : jg x4) (h : Inv m) : kSe (fun m => jf_141 x0 x1 x2 x3 x4 m) (fun m => jf_191 x0 x1 x2 x3 x4 m) m := by
  obtain ⟨hS, ⟨n, t1, t2, t3, t4, t5⟩, hR⟩ := id h
  unfold kSe
  show jo (jf_141 x0 x1 x2 x3 x4 m) (fun p => jo (jf_191 x0 x1 x2 x3 x4 p.2) _)
  by_cases hn : n + 20 ≤ 600
  · refine jo_mono (sl_141 (x0 := x0) (x1 := x1) (x2 := x2) (x3 := x3) (x4 := x4) t2 hn) (fun p hp => ?_)
    obtain ⟨p1, mc⟩ := p
    obtain ⟨a1, a2, a3, a4⟩ := hp
    dsimp only at a1 a2 a3 a4 ⊢
    subst a1
    unfold jf_191
    have k1 : ja (js mc 67 0 0) 67 2 = (n : Int) := by rw [ja_jsj (by decide), a4 _ _ (by omega) (by omega)]; exact t3
    rw [jle_eq, k1, show jw ((n : Int) + 20) = ((n + 20 : Nat) : Int) by rw [jwi (by omega) (by omega)]; omega, if_neg (by omega)]
    refine jo_c (R := fun M => ja M 67 2 = ((n + 20 : Nat) : Int) ∧ (∀ i, i < 20 → ja M 69 (n + i) = kB5 x0 x1 x2 x3 x4 i) ∧ ∀ k j, ¬ (k = 69 ∧ n ≤ j ∧ j < n + 20) → ¬ (k = 67 ∧ j = 2) → ja M k j = ja (js mc 67 0 0) k j) ?_ (fun M hM => ?_)
    · refine jo_for 20 jfu (fun i (s : Int × jm) => s.1 = i ∧ ja s.2 67 2 = ((n + i : Nat) : Int) ∧ (∀ i', i' < i → ja s.2 69 (n + i') = kB5 x0 x1 x2 x3 x4 i') ∧ ∀ k j, ¬ (k = 69 ∧ n ≤ j ∧ j < n + i) → ¬ (k = 67 ∧ j = 2) → ja s.2 k j = ja (js mc 67 0 0) k j) (jfu_lt (by decide)) ?_ ?_ _ ⟨rfl, k1, fun i hi => absurd hi (Nat.not_lt_zero _), fun k j _ _ => rfl⟩
      · intro i hi s hs
        obtain ⟨y, M⟩ := s
        obtain ⟨b1, b2, b3, b4⟩ := hs
        dsimp only at b1 b2 b3 b4 ⊢
        subst b1
        have er : jrem (i : Int) 4 = ((i % 4 : Nat) : Int) := jrem_n (b := 4) (by omega) (by decide)
        have es : jw (24 - jw (8 * ((i % 4 : Nat) : Int))) = ((24 - 8 * (i % 4) : Nat) : Int) := by rw [jwi (x := 8 * _) (by omega) (by omega), jwi (by omega) (by omega)]; omega
        have ev : (if (i : Int) < 4 then some x0 else if (i : Int) < 8 then some x1 else if (i : Int) < 12 then some x2 else if (i : Int) < 16 then some x3 else some x4) = some (if i < 4 then x0 else if i < 8 then x1 else if i < 12 then x2 else if i < 16 then x3 else x4) := by
          by_cases c1 : i < 4
          · rw [if_pos c1, if_pos (by omega)]
          rw [if_neg c1, if_neg (by omega)]
          by_cases c2 : i < 8
          · rw [if_pos c2, if_pos (by omega)]
          rw [if_neg c2, if_neg (by omega)]
          by_cases c3 : i < 12
          · rw [if_pos c3, if_pos (by omega)]
          rw [if_neg c3, if_neg (by omega)]
          by_cases c4 : i < 16
          · rw [if_pos c4, if_pos (by omega)]
          rw [if_neg c4, if_neg (by omega)]
        have hb := kBy_b (x := if i < 4 then x0 else if i < 8 then x1 else if i < 12 then x2 else if i < 16 then x3 else x4) (s := 24 - 8 * (i % 4))
        have e2 : ja (js M 69 (n + i) (kB5 x0 x1 x2 x3 x4 i)) 67 2 = ((n + i : Nat) : Int) := by rw [ja_jsk (by decide)]; exact b2
        rw [if_pos (show (i : Int) < 20 by omega), ev, jsb, b2, if_pos (show 0 ≤ ((n + i : Nat) : Int) ∧ ((n + i : Nat) : Int) < 600 by omega), er, es, Int.toNat_natCast, jwn (n := i) (by omega)]
        show jo (jle (js (js M 69 (n + i) (kB5 x0 x1 x2 x3 x4 i)) 67 2 (jw (ja (js M 69 (n + i) (kB5 x0 x1 x2 x3 x4 i)) 67 2 + 1))) fun m24 => some (Sum.inl (((i + 1 : Nat) : Int), m24))) _
        rw [e2, jwn (n := n + i) (by omega), jle_eq]
        refine ⟨rfl, ?_, fun i' hi' => ?_, fun k j q1 q2 => ?_⟩
        · show ja (js _ 67 2 _) 67 2 = _
          rw [ja_js1, jw_nat (by omega)]; rfl
        · show ja (js _ 67 2 _) 69 (n + i') = _
          rw [ja_jsk (by decide), ja_js]
          by_cases e : i' = i
          · rw [if_pos ⟨rfl, by omega⟩, e]
            exact jwi (by have := hb.1; unfold kB5; omega) (by have := hb.2; unfold kB5; omega)
          · rw [if_neg (by omega)]; exact b3 i' (by omega)
        · show ja (js _ 67 2 _) k j = _
          rw [ja_js, if_neg q2, ja_js, if_neg (by omega)]; exact b4 k j (by omega) q2
      · intro s hs
        obtain ⟨y, M⟩ := s
        obtain ⟨b1, b2, b3, b4⟩ := hs
        dsimp only at b1 b2 b3 b4 ⊢
        rw [if_neg (by omega)]
        exact ⟨b2, b3, b4⟩
    · obtain ⟨b2, b3, b4⟩ := hM
      have z : ∀ k j, ¬ (k = 69) → ¬ (k = 67 ∧ (j = 2 ∨ j = 0)) → ¬ (k = 2) → ¬ (k = 1 ∧ j = 1) → ja M k j = ja m k j := fun k j q1 q2 q3 q4 => by
        rw [b4 k j (by omega) (by omega), ja_js, if_neg (by omega), a4 k j (by omega) q4]
      have zm : ∀ k j, k ≤ 2 → ja M k j = ja mc k j := fun k j q => by
        rw [b4 k j (by omega) (by omega), ja_js, if_neg (by omega)]
      refine ⟨b2.symm, kS_congr (fun k j hk => z k j (by unfold kQS at hk; omega) (by unfold kQS at hk; omega) (by unfold kQS at hk; omega) (by unfold kQS at hk; omega)) hS, ?_, kR_congr (fun k j hk => z k j (by unfold kQR at hk; omega) (by unfold kQR at hk; omega) (by unfold kQR at hk; omega) (by unfold kQR at hk; omega)) hR⟩
      refine ⟨n + 20, hn, ?_, b2, fun i hi => ?_, ?_⟩
      · rw [zm _ _ (by omega)]; exact a2
      · by_cases ei : i < n
        · have := t4 i ei
          rw [zm _ _ (by omega), a4 _ _ (by omega) (by omega), b4 _ _ (by omega) (by omega), ja_jsk (by decide), a4 _ _ (by omega) (by omega)]
          exact this
        · have c1 := a3 (i - n) (by omega)
          have c2 := b3 (i - n) (by omega)
          rw [show n + (i - n) = i by omega] at c1 c2
          rw [zm _ _ (by omega), c1, c2]
          exact ⟨rfl, kBy_b⟩
      · rw [zm _ _ (by omega), a4 _ _ (by omega) (by omega), b4 _ _ (by omega) (by omega), ja_jsj (by decide), a4 _ _ (by omega) (by omega)]; exact t5
  · unfold jf_141
    rw [t2, show jw ((n : Int) + 20) = ((n + 20 : Nat) : Int) by rw [jwi (by omega) (by omega)]; omega, if_pos (by omega)]
    show jo (jf_191 x0 x1 x2 x3 x4 m) _
    unfold jf_191
    have k1 : ja (js m 67 0 0) 67 2 = (n : Int) := by rw [ja_jsj (by decide)]; exact t3
    rw [jle_eq, k1, show jw ((n : Int) + 20) = ((n + 20 : Nat) : Int) by rw [jwi (by omega) (by omega)]; omega, if_pos (by omega)]
    exact ⟨rfl, Inv_th h⟩
