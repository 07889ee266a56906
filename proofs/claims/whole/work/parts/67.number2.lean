/-! NUMBERS and SIGNS, in the model; signs in the class. -/
theorem sp_196 {m : jm} : jf_196 m = some (if ja m 67 5 = -1 then 1 else 0) := by
  unfold jf_196
  by_cases h : ja m 67 5 = -1
  · rw [if_pos h, if_pos h]; rfl
  · rw [if_neg h, if_neg h]; rfl
theorem sp_203 {a b : Int} {m : jm} (h : ja m 67 5 = -1) : jf_203 a b m = some (js (js m 67 5 b) 67 6 a) := by
  unfold jf_203; rw [if_pos h]; rfl
theorem sp_203n {a b : Int} {m : jm} (h : ja m 67 5 ≠ -1) : jf_203 a b m = some m := by
  unfold jf_203; rw [if_neg h]
theorem sp_208 {a : Int} {m : jm} : jf_208 a m = some (if 48 ≤ a ∧ a ≤ 57 then 1 else 0) := by
  unfold jf_208
  by_cases h1 : a < 48
  · rw [if_pos h1, if_neg (by omega)]; rfl
  · rw [if_neg h1]
    by_cases h2 : 57 < a
    · rw [if_pos h2, if_neg (by omega)]; rfl
    · rw [if_neg h2, if_pos (by omega)]; rfl
theorem sp_207n {lo hi : Int} {m : jm} (h : ja m 67 5 ≠ -1) : jf_207 lo hi m = some (0, m) := by
  unfold jf_207; rw [sp_196, if_neg h, jsb, if_pos rfl]
theorem kVm_b {f : Nat → Int} {i : Nat} {k : Nat} (h : ∀ j, j < k → 48 ≤ f (i + j) ∧ f (i + j) ≤ 57) : 0 ≤ kVm f i k ∧ kVm f i k ≤ 99999 := by
  have := kVcm k h
  omega
theorem sl_207 {m : jm} {f : Nat → Int} {n i : Nat} {lo hi : Int} (H : kTm m f n i) (hf : ja m 67 5 = -1) (hhi : hi ≤ 9999) : jo (jf_207 lo hi m) (fun r => ((∃ e, kTm r.2 f n e) ∧ (kNok f n i lo hi → r.1 = kDv f n i ∧ kTm r.2 f n (kDe f n i) ∧ ja r.2 67 5 = -1) ∧ (¬ kNok f n i lo hi → r.1 = 0 ∧ ja r.2 67 5 = (kSkp f n i : Int) ∧ ja r.2 67 6 = kNkd f n i)) ∧ jfr true jW_207 m r.2) := by
  refine jo_and ?_ jx_207
  obtain ⟨h1, h2, h3⟩ := H.1
  have hs1 := kSkp_le (f := f) h2
  have he1 := kDe_le (f := f) h2
  have he2 := kDe_ge (f := f) (n := n) (i := i)
  unfold jf_207
  rw [sp_196, if_pos hf, jsb, if_neg Int.one_ne_zero]
  refine jo_c (sl_198 H) (fun r hr => ?_)
  obtain ⟨a1, a2, a3⟩ := hr
  have m5 : ja r.2 67 5 = -1 := by rw [ja_fr a3 (by unfold jW_198; omega)]; exact hf
  rw [sp_208, jsb]
  by_cases hd : kDt f n i
  · have hd2 : 48 ≤ f (kSkp f n i) ∧ f (kSkp f n i) ≤ 57 := of_decide_eq_true hd.2
    rw [a1, if_pos hd.1, if_pos hd2, if_neg Int.one_ne_zero, a2.2.2.2]
    refine jo_c (R := fun s => s.1 = kVm f (kSkp f n i) (kDe f n i - kSkp f n i) ∧ kTm s.2 f n (kDe f n i) ∧ ja s.2 67 5 = -1) ?_ (fun s hs => ?_)
    · refine jo_scan (P := kId f) (n := n) (i := kSkp f n i) (I := fun j (s : Int × jm) => s.1 = kVm f (kSkp f n i) (j - kSkp f n i) ∧ kSkp f n i ≤ j ∧ (∀ k, k < j - kSkp f n i → 48 ≤ f (kSkp f n i + k) ∧ f (kSkp f n i + k) ≤ 57) ∧ kTm s.2 f n j ∧ ja s.2 67 5 = -1) h1 hs1 (fun j s hij hj hp hs => ?_) (fun s hs => ?_) ⟨by rw [Nat.sub_self]; rfl, Nat.le_refl _, fun k hk => by omega, a2, m5⟩
      · obtain ⟨b1, b2, b3, b4, b5⟩ := hs
        have hp2 : 48 ≤ f j ∧ f j ≤ 57 := of_decide_eq_true hp
        have hv := kVm_b b3
        rw [b4.2.2.2, b4.2.2.1, if_pos (show (j : Int) < (n : Int) by omega), if_pos (show 0 ≤ (j : Int) ∧ (j : Int) < 600 by omega), Int.toNat_natCast, b4.2.1 j hj, sp_208, jsb, if_pos hp2, if_neg Int.one_ne_zero, if_pos (show 0 ≤ (j : Int) ∧ (j : Int) < 600 by omega), b1, jwn (by omega)]
        have e2 : (if 9999 < kVm f (kSkp f n i) (j - kSkp f n i) then some (10000 : Int) else some (jw (jw (jw (10 * kVm f (kSkp f n i) (j - kSkp f n i)) + f j) - 48))) = some (kVm f (kSkp f n i) (j + 1 - kSkp f n i)) := by
          rw [show j + 1 - kSkp f n i = (j - kSkp f n i) + 1 by omega]
          show _ = some (if 9999 < kVm f (kSkp f n i) (j - kSkp f n i) then 10000 else 10 * kVm f (kSkp f n i) (j - kSkp f n i) + f (kSkp f n i + (j - kSkp f n i)) - 48)
          rw [show kSkp f n i + (j - kSkp f n i) = j by omega]
          by_cases h9 : 9999 < kVm f (kSkp f n i) (j - kSkp f n i)
          · rw [if_pos h9, if_pos h9]
          · rw [if_neg h9, if_neg h9, show jw (10 * kVm f (kSkp f n i) (j - kSkp f n i)) = 10 * kVm f (kSkp f n i) (j - kSkp f n i) from jwi (by omega) (by omega), show jw (10 * kVm f (kSkp f n i) (j - kSkp f n i) + f j) = 10 * kVm f (kSkp f n i) (j - kSkp f n i) + f j from jwi (by omega) (by omega), jwi (by omega) (by omega)]
        rw [e2, jsb, jle_eq]
        refine ⟨rfl, by omega, ?_, kTm_mv b4 (by omega), ?_⟩
        · intro k hk
          by_cases e : k < j - kSkp f n i
          · exact b3 k e
          · rw [show kSkp f n i + k = j by omega]; exact hp2
        · show ja (js s.2 67 4 _) 67 5 = _
          rw [ja_jsj (by decide)]; exact b5
      · obtain ⟨b1, b2, b3, b4, b5⟩ := hs
        have fin : jo (some (Sum.inr (α := Int × jm) (s.1, s.2))) (jcase (fun _ => False) (fun (s : Int × jm) => s.1 = kVm f (kSkp f n i) (kDe f n i - kSkp f n i) ∧ kTm s.2 f n (kDe f n i) ∧ ja s.2 67 5 = -1)) := ⟨b1, b4, b5⟩
        have hle := b4.1.2.1
        rw [b4.2.2.2, b4.2.2.1]
        by_cases hl : kWh (kId f) n (kSkp f n i) < n
        · have hno : ¬ (48 ≤ f (kWh (kId f) n (kSkp f n i)) ∧ f (kWh (kId f) n (kSkp f n i)) ≤ 57) := of_decide_eq_false (kWh_no hl)
          rw [if_pos (show ((kWh (kId f) n (kSkp f n i) : Nat) : Int) < (n : Int) by omega), if_pos (show 0 ≤ ((kWh (kId f) n (kSkp f n i) : Nat) : Int) ∧ ((kWh (kId f) n (kSkp f n i) : Nat) : Int) < 600 by omega), Int.toNat_natCast, b4.2.1 _ hl, sp_208, jsb, if_neg hno, if_pos rfl]
          exact fin
        · rw [if_neg (show ¬ ((kWh (kId f) n (kSkp f n i) : Nat) : Int) < (n : Int) by omega)]; exact fin
    · obtain ⟨c1, c2, c3⟩ := hs
      have hcm := kVcm (f := f) (i := kSkp f n i) (kDe f n i - kSkp f n i) (fun j hj => kDd j hj)
      have hv : kDv f n i = kVc f (kSkp f n i) (kDe f n i - kSkp f n i) := rfl
      rw [c1]
      have bad : ¬ (lo ≤ kDv f n i ∧ kDv f n i ≤ hi) → jo ((some (js (js s.2 67 5 (kSkp f n i : Int)) 67 6 2)).bind fun p36 => some ((0 : Int), p36)) (fun r => (∃ e, kTm r.2 f n e) ∧ (kNok f n i lo hi → r.1 = kDv f n i ∧ kTm r.2 f n (kDe f n i) ∧ ja r.2 67 5 = -1) ∧ (¬ kNok f n i lo hi → r.1 = 0 ∧ ja r.2 67 5 = (kSkp f n i : Int) ∧ ja r.2 67 6 = kNkd f n i)) := fun hb => by
        rw [jsb]
        refine ⟨⟨kDe f n i, kTm_js (kTm_js c2 (by omega)) (by omega)⟩, fun z => absurd z.2 hb, fun _ => ⟨rfl, ?_, ?_⟩⟩
        · show ja (js (js s.2 67 5 _) 67 6 2) 67 5 = _
          rw [ja_jsj (by decide), ja_js1, jwi (by omega) (by omega)]
        · show ja (js (js s.2 67 5 _) 67 6 2) 67 6 = _
          rw [ja_js1, kNkd_2 hd]; exact jwi (by decide) (by decide)
      by_cases g1 : kVm f (kSkp f n i) (kDe f n i - kSkp f n i) < lo
      · rw [if_pos g1, sp_203 c3]
        exact bad (by omega)
      · rw [if_neg g1]
        by_cases g2 : hi < kVm f (kSkp f n i) (kDe f n i - kSkp f n i)
        · rw [if_pos g2, sp_203 c3]
          exact bad (by omega)
        · rw [if_neg g2]
          have hok : lo ≤ kDv f n i ∧ kDv f n i ≤ hi := by omega
          exact ⟨⟨_, c2⟩, fun _ => ⟨by show kVm f (kSkp f n i) (kDe f n i - kSkp f n i) = _; omega, c2, c3⟩, fun z => absurd ⟨hd, hok⟩ z⟩
  · have hz : ¬ (48 ≤ r.1 ∧ r.1 ≤ 57) := by
      rw [a1]
      by_cases hl : kSkp f n i < n
      · rw [if_pos hl]
        exact fun z => hd ⟨hl, decide_eq_true z⟩
      · rw [if_neg hl]; decide
    rw [if_neg hz, if_pos rfl, sp_203 m5, jsb, a2.2.2.2]
    refine ⟨⟨kSkp f n i, kTm_js (kTm_js a2 (by omega)) (by omega)⟩, fun z => absurd z.1 hd, fun _ => ⟨rfl, ?_, ?_⟩⟩
    · show ja (js (js r.2 67 5 _) 67 6 1) 67 5 = _
      rw [ja_jsj (by decide), ja_js1, jwi (by omega) (by omega)]
    · show ja (js (js r.2 67 5 _) 67 6 1) 67 6 = _
      rw [ja_js1, kNkd_1 hd]; exact jwi (by decide) (by decide)
/-- sign x stands at i -/
def kSg (f : Nat → Int) (n i : Nat) (x : Int) : Prop := kSkp f n i < n ∧ f (kSkp f n i) = x
theorem sl_123 {m : jm} {f : Nat → Int} {n i : Nat} {x : Int} (H : kTc m f n i) (hx : x ≠ -1) : jo (jf_123 x m) (fun r => ((∃ e, kTc r.2 f n e) ∧ (kSg f n i x → r.1 = 1 ∧ kTc r.2 f n (kSkp f n i + 1) ∧ ja r.2 1 4 = ja m 1 4 ∧ ja r.2 1 5 = ja m 1 5 ∧ ja r.2 1 6 = ja m 1 6) ∧ (¬ kSg f n i x → r.1 = 0 ∧ ja r.2 1 5 = 1 ∧ ja r.2 1 6 = (kSkp f n i : Int))) ∧ jfr true jW_123 m r.2) := by
  refine jo_and ?_ jx_123
  obtain ⟨h1, h2, h3⟩ := H.1
  have hs1 := kSkp_le (f := f) h2
  unfold jf_123
  refine jo_c (sl_116 H) (fun r hr => ?_)
  obtain ⟨a1, a2, a3⟩ := hr
  have mm : ∀ j, j ≠ 3 → ja r.2 1 j = ja m 1 j := fun j hj => ja_fr a3 (by unfold jW_116; omega)
  by_cases hg : kSg f n i x
  · rw [a1, if_pos hg.1, if_pos hg.2]
    unfold jf_124
    have hl := hg.1
    rw [a2.2.2.2, a2.2.2.1, if_pos (show ((kSkp f n i : Nat) : Int) < (n : Int) by omega), jle_eq, jsb, jsb, jwn (by omega)]
    have hT := kTc_mv (j := kSkp f n i + 1) a2 (by omega)
    refine ⟨⟨_, hT⟩, fun _ => ⟨rfl, hT, ?_, ?_, ?_⟩, fun z => absurd hg z⟩
    · show ja (js r.2 1 3 _) 1 4 = _
      rw [ja_jsj (by decide), mm 4 (by decide)]
    · show ja (js r.2 1 3 _) 1 5 = _
      rw [ja_jsj (by decide), mm 5 (by decide)]
    · show ja (js r.2 1 3 _) 1 6 = _
      rw [ja_jsj (by decide), mm 6 (by decide)]
  · have hz : ¬ r.1 = x := by
      rw [a1]
      by_cases hl : kSkp f n i < n
      · rw [if_pos hl]; exact fun z => hg ⟨hl, z⟩
      · rw [if_neg hl]; exact fun z => hx z.symm
    rw [if_neg hz, sp_120, jsb, a2.2.2.2]
    refine ⟨⟨kSkp f n i, kTc_js (kTc_js a2 (by omega)) (by omega)⟩, fun z => absurd z hg, fun _ => ⟨rfl, ?_, ?_⟩⟩
    · show ja (js (js r.2 1 5 1) 1 6 _) 1 5 = _
      rw [ja_jsj (by decide), ja_js1]; exact jwi (by decide) (by decide)
    · show ja (js (js r.2 1 5 1) 1 6 _) 1 6 = _
      rw [ja_js1, jwi (by omega) (by omega)]
theorem sp_211n {x : Int} {m : jm} (h : ja m 67 5 ≠ -1) : jf_211 x m = some m := by
  unfold jf_211
  rw [sp_196, if_neg h, jsb, if_pos rfl, jsb, sp_196, if_neg h, jsb, if_pos rfl, jsb]
theorem sl_211 {m : jm} {f : Nat → Int} {n i : Nat} {x : Int} (H : kTm m f n i) (hf : ja m 67 5 = -1) (hx : x ≠ 0) : jo (jf_211 x m) (fun r => ((∃ e, kTm r f n e) ∧ (kSg f n i x → kTm r f n (kSkp f n i + 1) ∧ ja r 67 5 = -1) ∧ (¬ kSg f n i x → ja r 67 5 = (kSkp f n i : Int) ∧ ja r 67 6 = 1)) ∧ jfr true jW_211 m r) := by
  refine jo_and ?_ jx_211
  obtain ⟨h1, h2, h3⟩ := H.1
  have hs1 := kSkp_le (f := f) h2
  unfold jf_211
  rw [sp_196, if_pos hf, jsb, if_neg Int.one_ne_zero, jo_bind, jo_bind]
  refine jo_mono (sl_198 H) (fun r hr => ?_)
  obtain ⟨a1, a2, a3⟩ := hr
  have m5 : ja r.2 67 5 = -1 := by rw [ja_fr a3 (by unfold jW_198; omega)]; exact hf
  by_cases hg : kSg f n i x
  · have hl := hg.1
    rw [a1, if_pos hg.1, if_pos hg.2, jo_some, sp_196, if_pos m5, jsb, if_neg Int.one_ne_zero, jle_eq, jsb, a2.2.2.2, jwn (by omega)]
    have hT := kTm_mv (j := kSkp f n i + 1) a2 (by omega)
    refine ⟨⟨_, hT⟩, fun _ => ⟨hT, ?_⟩, fun z => absurd hg z⟩
    rw [ja_jsj (by decide)]; exact m5
  · have hz : ¬ r.1 = x := by
      rw [a1]
      by_cases hl : kSkp f n i < n
      · rw [if_pos hl]; exact fun z => hg ⟨hl, z⟩
      · rw [if_neg hl]; exact fun z => hx z.symm
    have e5 : ja (js (js r.2 67 5 (kSkp f n i : Int)) 67 6 1) 67 5 = (kSkp f n i : Int) := by rw [ja_jsj (by decide), ja_js1, jwi (by omega) (by omega)]
    rw [if_neg hz, sp_203 m5, a2.2.2.2, jsb, jo_some, sp_196, if_neg (show ¬ ja (js (js r.2 67 5 (kSkp f n i : Int)) 67 6 1) 67 5 = -1 by rw [e5]; omega), jsb, if_pos rfl, jsb]
    refine ⟨⟨kSkp f n i, kTm_js (kTm_js a2 (by omega)) (by omega)⟩, fun z => absurd z hg, fun _ => ⟨e5, ?_⟩⟩
    rw [ja_js1]; exact jwi (by decide) (by decide)
theorem sl_197 {m : jm} {f : Nat → Int} {n i : Nat} (H : kTm m f n i) : jo (jf_197 m) (fun r => (r.1 = if kSkp f n i < n then 1 else 0) ∧ kTm r.2 f n (kSkp f n i) ∧ jfr true jW_198 m r.2) := by
  unfold jf_197
  refine jo_c (sl_198 H) (fun r hr => ?_)
  obtain ⟨a1, a2, a3⟩ := hr
  rw [a2.2.2.2, a2.2.2.1]
  by_cases hl : kSkp f n i < n
  · rw [if_pos (show ((kSkp f n i : Nat) : Int) < (n : Int) by omega), jsb, if_pos hl]; exact ⟨rfl, a2, a3⟩
  · rw [if_neg (show ¬ ((kSkp f n i : Nat) : Int) < (n : Int) by omega), jsb, if_neg hl]; exact ⟨rfl, a2, a3⟩
