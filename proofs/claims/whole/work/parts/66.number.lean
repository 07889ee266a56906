/-! NUMBERS on the tape. -/
def kVc (f : Nat → Int) (i : Nat) : Nat → Int
  | 0 => 0
  | k + 1 => jmin 100000 (kVc f i k * 10 + f (i + k) - 48)
def kVm (f : Nat → Int) (i : Nat) : Nat → Int
  | 0 => 0
  | k + 1 => if 9999 < kVm f i k then 10000 else 10 * kVm f i k + f (i + k) - 48
theorem kVcm {f : Nat → Int} {i : Nat} : ∀ k, (∀ j, j < k → 48 ≤ f (i + j) ∧ f (i + j) ≤ 57) → (kVc f i k = kVm f i k ∧ 0 ≤ kVc f i k ∧ kVc f i k ≤ 9999) ∨ (9999 < kVc f i k ∧ kVc f i k ≤ 100000 ∧ 9999 < kVm f i k ∧ kVm f i k ≤ 99999)
  | 0, _ => Or.inl ⟨rfl, (by decide : (0 : Int) ≤ 0), (by decide : (0 : Int) ≤ 9999)⟩
  | k + 1, h => by
    have ih := kVcm k (fun j hj => h j (by omega))
    have hd := h k (by omega)
    have e1 : kVc f i (k + 1) = jmin 100000 (kVc f i k * 10 + f (i + k) - 48) := rfl
    have e2 : kVm f i (k + 1) = if 9999 < kVm f i k then 10000 else 10 * kVm f i k + f (i + k) - 48 := rfl
    unfold jmin at e1
    rcases ih with ⟨a, b, d⟩ | ⟨a, b, d, e⟩
    · rw [if_neg (by omega)] at e2
      rw [if_pos (by omega)] at e1
      omega
    · rw [if_pos d] at e2
      rw [if_neg (by omega)] at e1
      omega
def kDe (f : Nat → Int) (n i : Nat) : Nat := kWh (kId f) n (kSkp f n i)
def kDv (f : Nat → Int) (n i : Nat) : Int := kVc f (kSkp f n i) (kDe f n i - kSkp f n i)
def kDt (f : Nat → Int) (n i : Nat) : Prop := kSkp f n i < n ∧ kId f (kSkp f n i) = true
/-- a number between lo and hi stands at i -/
def kNok (f : Nat → Int) (n i : Nat) (lo hi : Int) : Prop := kDt f n i ∧ lo ≤ kDv f n i ∧ kDv f n i ≤ hi
def kNkd (f : Nat → Int) (n i : Nat) : Int := if kSkp f n i < n ∧ kId f (kSkp f n i) = true then 2 else 1
theorem kNkd_2 {f : Nat → Int} {n i : Nat} (h : kDt f n i) : kNkd f n i = 2 := if_pos h
theorem kNkd_1 {f : Nat → Int} {n i : Nat} (h : ¬ kDt f n i) : kNkd f n i = 1 := if_neg h
theorem kSkp_le {f : Nat → Int} {n i : Nat} (h : i ≤ n) : kSkp f n i ≤ n := kWh_le h
theorem kDe_le {f : Nat → Int} {n i : Nat} (h : i ≤ n) : kDe f n i ≤ n := kWh_le (kSkp_le h)
theorem kDe_ge {f : Nat → Int} {n i : Nat} : kSkp f n i ≤ kDe f n i := kWh_ge
theorem kDd {f : Nat → Int} {n i : Nat} (j : Nat) (h : j < kDe f n i - kSkp f n i) : 48 ≤ f (kSkp f n i + j) ∧ f (kSkp f n i + j) ≤ 57 := of_decide_eq_true (kWh_in (P := kId f) (n := n) (i := kSkp f n i) (by omega) (by unfold kDe at h; omega))
theorem kVc_b {f : Nat → Int} {i : Nat} {k : Nat} (h : ∀ j, j < k → 48 ≤ f (i + j) ∧ f (i + j) ≤ 57) : 0 ≤ kVc f i k ∧ kVc f i k ≤ 100000 := by
  have := kVcm k h
  omega
theorem sp_120 {a b : Int} {m : jm} : jf_120 a b m = some (0, js (js m 1 5 a) 1 6 b) := rfl
theorem sl_121 {m : jm} {f : Nat → Int} {n i : Nat} {lo hi : Int} (H : kTc m f n i) : jo (jf_121 lo hi m) (fun r => ((∃ e, kTc r.2 f n e) ∧ (kNok f n i lo hi → r.1 = kDv f n i ∧ kTc r.2 f n (kDe f n i) ∧ ja r.2 1 4 = (kSkp f n i : Int) ∧ ja r.2 1 5 = ja m 1 5 ∧ ja r.2 1 6 = ja m 1 6) ∧ (¬ kNok f n i lo hi → r.1 = -1 ∧ ja r.2 1 5 = kNkd f n i ∧ ja r.2 1 6 = (kSkp f n i : Int))) ∧ jfr true jW_121 m r.2) := by
  refine jo_and ?_ jx_121
  obtain ⟨h1, h2, h3⟩ := H.1
  have hs1 := kSkp_le (f := f) h2
  have he1 := kDe_le (f := f) h2
  have he2 := kDe_ge (f := f) (n := n) (i := i)
  unfold jf_121 jf_122
  rw [jo_bind, jo_bind]
  refine jo_mono (sl_116 H) (fun r hr => ?_)
  obtain ⟨a1, a2, a3⟩ := hr
  have m5 : ja r.2 1 5 = ja m 1 5 := ja_fr a3 (by unfold jW_116; omega)
  have m6 : ja r.2 1 6 = ja m 1 6 := ja_fr a3 (by unfold jW_116; omega)
  by_cases hd : kDt f n i
  · have hd2 : 48 ≤ f (kSkp f n i) ∧ f (kSkp f n i) ≤ 57 := of_decide_eq_true hd.2
    rw [a1, if_pos hd.1, if_neg (show ¬ f (kSkp f n i) < 48 by omega), if_neg (show ¬ 57 < f (kSkp f n i) by omega), jsb]
    rw [jo_some]
    dsimp only
    rw [if_neg Int.one_ne_zero, jle_eq, a2.2.2.2]
    refine jo_c (R := fun s => s.1 = kDv f n i ∧ kTc s.2 f n (kDe f n i) ∧ ja s.2 1 4 = (kSkp f n i : Int) ∧ ja s.2 1 5 = ja m 1 5 ∧ ja s.2 1 6 = ja m 1 6) ?_ (fun s hs => ?_)
    · refine jo_scan (P := kId f) (n := n) (i := kSkp f n i) (I := fun j (s : Int × jm) => s.1 = kVc f (kSkp f n i) (j - kSkp f n i) ∧ kSkp f n i ≤ j ∧ (∀ k, k < j - kSkp f n i → 48 ≤ f (kSkp f n i + k) ∧ f (kSkp f n i + k) ≤ 57) ∧ kTc s.2 f n j ∧ ja s.2 1 4 = (kSkp f n i : Int) ∧ ja s.2 1 5 = ja m 1 5 ∧ ja s.2 1 6 = ja m 1 6) h1 hs1 (fun j s hij hj hp hs => ?_) (fun s hs => ?_) ⟨by rw [Nat.sub_self]; rfl, Nat.le_refl _, fun k hk => by omega, kTc_js a2 (by omega), ?_, ?_, ?_⟩
      · obtain ⟨b1, b2, b3, b4, b5, b6, b7⟩ := hs
        have hp2 : 48 ≤ f j ∧ f j ≤ 57 := of_decide_eq_true hp
        have hv := kVc_b b3
        rw [b4.2.2.2, b4.2.2.1, if_pos (show (j : Int) < (n : Int) by omega), if_pos (show 0 ≤ (j : Int) ∧ (j : Int) < 600 by omega), Int.toNat_natCast, b4.2.1 j hj, if_neg (show ¬ f j < 48 by omega), if_pos (show 0 ≤ (j : Int) ∧ (j : Int) < 600 by omega), if_neg (show ¬ 57 < f j by omega), if_pos (show 0 ≤ (j : Int) ∧ (j : Int) < 600 by omega), jle_eq, b1, jwn (by omega)]
        refine ⟨?_, by omega, ?_, kTc_mv b4 (by omega), ?_, ?_, ?_⟩
        · show jmin 100000 (jw (jw (jw (kVc f (kSkp f n i) (j - kSkp f n i) * 10) + f j) - 48)) = _
          rw [show jw (kVc f (kSkp f n i) (j - kSkp f n i) * 10) = kVc f (kSkp f n i) (j - kSkp f n i) * 10 from jwi (by omega) (by omega), show jw (kVc f (kSkp f n i) (j - kSkp f n i) * 10 + f j) = kVc f (kSkp f n i) (j - kSkp f n i) * 10 + f j from jwi (by omega) (by omega), jwi (by omega) (by omega), show j + 1 - kSkp f n i = (j - kSkp f n i) + 1 by omega]
          show _ = jmin 100000 (kVc f (kSkp f n i) (j - kSkp f n i) * 10 + f (kSkp f n i + (j - kSkp f n i)) - 48)
          rw [show kSkp f n i + (j - kSkp f n i) = j by omega]
        · intro k hk
          by_cases e : k < j - kSkp f n i
          · exact b3 k e
          · rw [show kSkp f n i + k = j by omega]; exact hp2
        · show ja (js s.2 1 3 _) 1 4 = _
          rw [ja_jsj (by decide)]; exact b5
        · show ja (js s.2 1 3 _) 1 5 = _
          rw [ja_jsj (by decide)]; exact b6
        · show ja (js s.2 1 3 _) 1 6 = _
          rw [ja_jsj (by decide)]; exact b7
      · obtain ⟨b1, b2, b3, b4, b5, b6, b7⟩ := hs
        have fin : jo (some (Sum.inr (α := Int × jm) (s.1, s.2))) (jcase (fun _ => False) (fun (s : Int × jm) => s.1 = kDv f n i ∧ kTc s.2 f n (kDe f n i) ∧ ja s.2 1 4 = (kSkp f n i : Int) ∧ ja s.2 1 5 = ja m 1 5 ∧ ja s.2 1 6 = ja m 1 6)) := ⟨b1, b4, b5, b6, b7⟩
        have hle := b4.1.2.1
        rw [b4.2.2.2, b4.2.2.1]
        by_cases hl : kWh (kId f) n (kSkp f n i) < n
        · have hno : ¬ (48 ≤ f (kWh (kId f) n (kSkp f n i)) ∧ f (kWh (kId f) n (kSkp f n i)) ≤ 57) := of_decide_eq_false (kWh_no hl)
          rw [if_pos (show ((kWh (kId f) n (kSkp f n i) : Nat) : Int) < (n : Int) by omega), if_pos (show 0 ≤ ((kWh (kId f) n (kSkp f n i) : Nat) : Int) ∧ ((kWh (kId f) n (kSkp f n i) : Nat) : Int) < 600 by omega), Int.toNat_natCast, b4.2.1 _ hl]
          by_cases h48 : f (kWh (kId f) n (kSkp f n i)) < 48
          · rw [if_pos h48]; exact fin
          · rw [if_neg h48, if_pos (show 0 ≤ ((kWh (kId f) n (kSkp f n i) : Nat) : Int) ∧ ((kWh (kId f) n (kSkp f n i) : Nat) : Int) < 600 by omega), if_pos (show 57 < f (kWh (kId f) n (kSkp f n i)) by omega)]; exact fin
        · rw [if_neg (show ¬ ((kWh (kId f) n (kSkp f n i) : Nat) : Int) < (n : Int) by omega)]; exact fin
      · show ja (js r.2 1 4 _) 1 4 = _
        rw [ja_js1, jwi (by omega) (by omega)]
      · show ja (js r.2 1 4 _) 1 5 = _
        rw [ja_jsj (by decide)]; exact m5
      · show ja (js r.2 1 4 _) 1 6 = _
        rw [ja_jsj (by decide)]; exact m6
    · obtain ⟨c1, c2, c3, c4, c5⟩ := hs
      rw [sp_153, jsb, c1]
      by_cases hr : lo ≤ kDv f n i ∧ kDv f n i ≤ hi
      · rw [if_pos hr, if_neg Int.one_ne_zero]
        exact ⟨⟨_, c2⟩, fun _ => ⟨rfl, c2, c3, c4, c5⟩, fun z => absurd ⟨hd, hr⟩ z⟩
      · rw [if_neg hr, if_pos rfl, sp_120, jsb, c3]
        refine ⟨⟨kDe f n i, kTc_js (kTc_js c2 (by omega)) (by omega)⟩, fun z => absurd z.2 hr, fun _ => ⟨rfl, ?_, ?_⟩⟩
        · show ja (js (js s.2 1 5 2) 1 6 _) 1 5 = _
          rw [ja_jsj (by decide), ja_js1, kNkd_2 hd]; exact jwi (by decide) (by decide)
        · show ja (js (js s.2 1 5 2) 1 6 _) 1 6 = _
          rw [ja_js1, jwi (by omega) (by omega)]
  · have hz : (if r.1 < 48 then some (0 : Int) else if 57 < r.1 then some 0 else some 1) = some 0 := by
      rw [a1]
      by_cases hl : kSkp f n i < n
      · rw [if_pos hl]
        have : ¬ (48 ≤ f (kSkp f n i) ∧ f (kSkp f n i) ≤ 57) := fun z => hd ⟨hl, decide_eq_true z⟩
        by_cases h48 : f (kSkp f n i) < 48
        · rw [if_pos h48]
        · rw [if_neg h48, if_pos (by omega)]
      · rw [if_neg hl]; rfl
    rw [hz, jsb]
    rw [jo_some]
    dsimp only
    rw [if_pos rfl, sp_120, jsb, a2.2.2.2]
    refine ⟨⟨kSkp f n i, kTc_js (kTc_js a2 (by omega)) (by omega)⟩, fun z => absurd z.1 hd, fun _ => ⟨rfl, ?_, ?_⟩⟩
    · show ja (js (js r.2 1 5 1) 1 6 _) 1 5 = _
      rw [ja_jsj (by decide), ja_js1, kNkd_1 hd]; exact jwi (by decide) (by decide)
    · show ja (js (js r.2 1 5 1) 1 6 _) 1 6 = _
      rw [ja_js1, jwi (by omega) (by omega)]
