/-! A NEW CITY in the model. -/
def kP0 (c : kC) : kP := fun a i => if a = 0 then (c 3 i : Int) else if a = 2 then (c 4 i : Int) else if a = 5 then (c 7 i : Int) else if a = 6 then -1 else 0
theorem kVp_0 {c : kC} (hv : kV c) : kVp c (kP0 c) := by
  refine ⟨Or.inl rfl, fun e he => ?_, fun w hw => ?_, fun l hl => ?_, fun w hw => ?_⟩
  · have := (hv.2.2.1 e he).2.2.2
    show 0 ≤ (c 3 e : Int) ∧ (c 3 e : Int) ≤ 9
    omega
  · have := (hv.2.2.2.2.1 w hw).1
    show -1 ≤ (c 4 w : Int) ∧ (c 4 w : Int) < c 11 0 ∧ (0 : Int) ≤ 0 ∧ (0 : Int) ≤ 9
    omega
  · have := (hv.2.2.2.2.2 l hl).1
    show ((0 : Int) = 0 ∨ (0 : Int) = 1) ∧ (-1 : Int) ≤ -1 ∧ (-1 : Int) < c 11 2 ∧ ((0 : Int) = 1 → (-1 : Int) = -1 ∧ (c 7 l : Int) = c 8 l) ∧ ((-1 : Int) ≠ -1 → _) ∧ ((-1 : Int) = -1 → 0 ≤ (c 7 l : Int) ∧ (c 7 l : Int) < c 11 0)
    exact ⟨Or.inl rfl, by omega, by omega, fun z => by omega, fun z => absurd rfl z, fun _ => by omega⟩
  · rw [kHeld_c, kCnt_z (S := fun l => decide (kP0 c 6 l = (w : Int))) _ (fun l hl => decide_eq_false (show ¬ (-1 : Int) = (w : Int) by omega))]; omega
def kS3 (c : kC) (i j : Nat) : Int := if j < i then (c 3 j : Int) else 0
def kS4 (c : kC) (i j : Nat) : Int := if j < c 11 1 then (c 3 j : Int) else if 24 ≤ j ∧ j < 24 + i then (c 4 (j - 24) : Int) else 0
def kS5 (c : kC) (i j : Nat) : Int := if j < c 11 1 then (c 3 j : Int) else if 24 ≤ j ∧ j < 24 + c 11 2 then (c 4 (j - 24) : Int) else if 42 ≤ j ∧ j < 42 + i then (if j - 42 < c 11 3 then (c 7 (j - 42) : Int) else 0) else if 50 ≤ j ∧ j < 50 + i then -1 else 0
theorem kS5_P {c : kC} (hv : kV c) : kPm (kS5 c 8) c (kP0 c) := by
  have hn := hv.1
  refine ⟨?_, ?_, fun e he => ⟨?_, ?_⟩, fun w hw => ⟨?_, ?_, ?_⟩, fun l hl => ⟨?_, ?_, ?_⟩⟩
  · unfold kS5; rw [if_neg (by omega), if_neg (by omega), if_neg (by omega), if_neg (by omega)]; rfl
  · unfold kS5; rw [if_neg (by omega), if_neg (by omega), if_neg (by omega), if_neg (by omega)]; rfl
  · unfold kS5; rw [if_pos he]; rfl
  · unfold kS5; rw [if_neg (by omega), if_neg (by omega), if_neg (by omega), if_neg (by omega)]; rfl
  · unfold kS5; rw [if_neg (by omega), if_pos (by omega), show 24 + w - 24 = w by omega]; rfl
  · unfold kS5; rw [if_neg (by omega), if_neg (by omega), if_neg (by omega), if_neg (by omega)]; rfl
  · unfold kS5; rw [if_neg (by omega), if_neg (by omega), if_neg (by omega), if_neg (by omega)]; rfl
  · unfold kS5; rw [if_neg (by omega), if_neg (by omega), if_pos (by omega), if_pos (by omega), show 42 + l - 42 = l by omega]; rfl
  · unfold kS5; rw [if_neg (by omega), if_neg (by omega), if_neg (by omega), if_pos (by omega)]; rfl
  · unfold kS5; rw [if_neg (by omega), if_neg (by omega), if_neg (by omega), if_neg (by omega)]; rfl
def kW89 (k j : Nat) : Prop := k = 88 ∨ k = 92
/-- the four loops that set the post and clear the book -/
theorem sl_189l {m : jm} {c : kC} (hv : kV c) (hC : kCm m 24 75 c) : jo ((jlp (α := Int × jm) (β := jm) (fun s15 => if s15.1 < 12 then if 0 ≤ s15.1 ∧ s15.1 < 12 then jle (js s15.2 92 s15.1.toNat (-1)) fun m22 => some (Sum.inl (jw (s15.1 + 1), m22)) else none else some (Sum.inr (s15.2))) jfu (0, m)).bind fun t18 => (jlp (α := Int × jm) (β := jm) (fun s33 => if s33.1 < 68 then if 0 ≤ s33.1 ∧ s33.1 < 68 then jle (js s33.2 88 s33.1.toNat 0) fun m40 => some (Sum.inl (jw (s33.1 + 1), m40)) else none else some (Sum.inr (s33.2))) jfu (0, t18)).bind fun t36 => (jlp (α := Int × jm) (β := jm) (fun s51 => if s51.1 < (ja s51.2 67 25) then if 0 ≤ s51.1 ∧ s51.1 < 12 then if 0 ≤ (jw (0 + s51.1)) ∧ (jw (0 + s51.1)) < 68 then jle (js s51.2 88 (jw (0 + s51.1)).toNat (ja s51.2 77 s51.1.toNat)) fun m58 => some (Sum.inl (jw (s51.1 + 1), m58)) else none else none else some (Sum.inr (s51.2))) jfu (0, t36)).bind fun t54 => (jlp (α := Int × jm) (β := jm) (fun s69 => if s69.1 < (ja s69.2 67 26) then if 0 ≤ (jw (3 * s69.1)) ∧ (jw (3 * s69.1)) < 18 then if 0 ≤ (jw (24 + s69.1)) ∧ (jw (24 + s69.1)) < 68 then jle (js s69.2 88 (jw (24 + s69.1)).toNat (ja s69.2 78 (jw (3 * s69.1)).toNat)) fun m76 => some (Sum.inl (jw (s69.1 + 1), m76)) else none else none else some (Sum.inr (s69.2))) jfu (0, t54)).bind fun t72 => (jlp (α := Int × jm) (β := jm) (fun s87 => if s87.1 < 8 then (if s87.1 < (ja s87.2 67 27) then if 0 ≤ (jw (4 * s87.1)) ∧ (jw (4 * s87.1)) < 32 then some (ja s87.2 79 (jw (4 * s87.1)).toNat) else none else some (0)).bind fun t94 => if 0 ≤ (jw (42 + s87.1)) ∧ (jw (42 + s87.1)) < 68 then jle (js s87.2 88 (jw (42 + s87.1)).toNat t94) fun m106 => if 0 ≤ (jw (50 + s87.1)) ∧ (jw (50 + s87.1)) < 68 then jle (js m106 88 (jw (50 + s87.1)).toNat (-1)) fun m107 => some (Sum.inl (jw (s87.1 + 1), m107)) else none else none else some (Sum.inr (s87.2))) jfu (0, t72)).bind fun t90 => some t90) (fun r => (∀ e, e < 12 → ja r 92 e = -1) ∧ kPm (fun j => ja r 88 j) c (kP0 c) ∧ jfr true kW89 m r) := by
  have hn := hv.1
  have cm : ∀ {M : jm}, jfr true kW89 m M → kCm M 24 75 c := fun {M} hf => kCm_e (fun j _ _ => ja_fr hf (by unfold kW89; omega)) (fun k j _ _ => ja_fr hf (by unfold kW89; omega)) hC
  refine jo_c (R := fun M => (∀ e, e < 12 → ja M 92 e = -1) ∧ jfr true kW89 m M) ?_ (fun M1 h1 => ?_)
  · refine jo_for 12 jfu (fun i (s : Int × jm) => s.1 = (i : Int) ∧ (∀ w, w < i → ja s.2 92 w = -1) ∧ jfr true kW89 m s.2) (jfu_lt (by decide)) (fun i hi s hs => ?_) (fun s hs => ?_) _ ⟨rfl, fun w hw => absurd hw (Nat.not_lt_zero _), jfr_r⟩
    · obtain ⟨a1, a2, a3⟩ := hs
      rw [a1, if_pos (show (i : Int) < 12 by omega), if_pos (show 0 ≤ (i : Int) ∧ (i : Int) < 12 by omega), jle_eq, Int.toNat_natCast, jwn (by omega)]
      refine ⟨rfl, fun w hw => ?_, jfr_js a3 (Or.inr rfl)⟩
      show ja (js s.2 92 i (-1)) 92 w = -1
      by_cases e : w = i
      · rw [e, ja_js1]; exact wm1
      · rw [ja_jsj e]; exact a2 w (by omega)
    · obtain ⟨a1, a2, a3⟩ := hs
      rw [a1, if_neg (show ¬ ((12 : Nat) : Int) < 12 by decide)]
      exact ⟨a2, a3⟩
  · obtain ⟨g92, f1⟩ := h1
    have k92 : ∀ {M : jm}, jfr true (fun k _ => k = 88) M1 M → (∀ e, e < 12 → ja M 92 e = -1) ∧ jfr true kW89 m M := fun {M} hf => ⟨fun e he => by rw [ja_fr hf (by omega)]; exact g92 e he, jfr_t f1 hf (fun e => e) (fun k j h => Or.inl h)⟩
    refine jo_c (R := fun M => (∀ j, j < 68 → ja M 88 j = 0) ∧ jfr true (fun k _ => k = 88) M1 M) ?_ (fun M2 h2 => ?_)
    · refine jo_for 68 jfu (fun i (s : Int × jm) => s.1 = (i : Int) ∧ (∀ w, w < i → ja s.2 88 w = 0) ∧ jfr true (fun k _ => k = 88) M1 s.2) (jfu_lt (by decide)) (fun i hi s hs => ?_) (fun s hs => ?_) _ ⟨rfl, fun w hw => absurd hw (Nat.not_lt_zero _), jfr_r⟩
      · obtain ⟨a1, a2, a3⟩ := hs
        rw [a1, if_pos (show (i : Int) < 68 by omega), if_pos (show 0 ≤ (i : Int) ∧ (i : Int) < 68 by omega), jle_eq, Int.toNat_natCast, jwn (by omega)]
        refine ⟨rfl, fun w hw => ?_, jfr_js a3 rfl⟩
        show ja (js s.2 88 i 0) 88 w = 0
        by_cases e : w = i
        · rw [e, ja_js1]; exact wz0
        · rw [ja_jsj e]; exact a2 w (by omega)
      · obtain ⟨a1, a2, a3⟩ := hs
        rw [a1, if_neg (show ¬ ((68 : Nat) : Int) < 68 by decide)]
        exact ⟨a2, a3⟩
    · obtain ⟨g0, f2⟩ := h2
      refine jo_c (R := fun M => (∀ j, j < 68 → ja M 88 j = kS3 c (c 11 1) j) ∧ jfr true (fun k _ => k = 88) M1 M) ?_ (fun M3 h3 => ?_)
      · refine jo_for (c 11 1) jfu (fun i (s : Int × jm) => s.1 = (i : Int) ∧ (∀ j, j < 68 → ja s.2 88 j = kS3 c i j) ∧ jfr true (fun k _ => k = 88) M1 s.2) (jfu_lt (by omega)) (fun i hi s hs => ?_) (fun s hs => ?_) _ ⟨rfl, fun j hj => by show ja M2 88 j = _; rw [g0 j hj]; unfold kS3; rw [if_neg (by omega)], f2⟩
        · obtain ⟨a1, a2, a3⟩ := hs
          have hc := cm (k92 a3).2
          have h3 := (hv.2.2.1 i hi).2.2.2
          rw [a1, show ja s.2 67 25 = c 11 1 from hc.1 1 (by decide), if_pos (show (i : Int) < (c 11 1 : Int) by omega), if_pos (show 0 ≤ (i : Int) ∧ (i : Int) < 12 by omega), show jw ((0 : Int) + (i : Int)) = (i : Int) by rw [jwi (by omega) (by omega)]; omega, if_pos (show 0 ≤ (i : Int) ∧ (i : Int) < 68 by omega), jle_eq, Int.toNat_natCast, show ja s.2 77 i = c 3 i from (hc.2.2.1 i hi).2.2, jwn (by omega)]
          refine ⟨rfl, fun j hj => ?_, jfr_js a3 rfl⟩
          show ja (js s.2 88 i (c 3 i : Int)) 88 j = kS3 c (i + 1) j
          by_cases e : j = i
          · rw [e, ja_js1, jwi (by omega) (by omega)]; unfold kS3; rw [if_pos (by omega)]
          · rw [ja_jsj e, a2 j hj]; unfold kS3
            by_cases l : j < i
            · rw [if_pos l, if_pos (by omega)]
            · rw [if_neg l, if_neg (by omega)]
        · obtain ⟨a1, a2, a3⟩ := hs
          rw [a1, show ja s.2 67 25 = c 11 1 from (cm (k92 a3).2).1 1 (by decide), if_neg (show ¬ ((c 11 1 : Nat) : Int) < (c 11 1 : Int) by omega)]
          exact ⟨a2, a3⟩
      · obtain ⟨g3, f3⟩ := h3
        refine jo_c (R := fun M => (∀ j, j < 68 → ja M 88 j = kS4 c (c 11 2) j) ∧ jfr true (fun k _ => k = 88) M1 M) ?_ (fun M4 h4 => ?_)
        · refine jo_for (c 11 2) jfu (fun i (s : Int × jm) => s.1 = (i : Int) ∧ (∀ j, j < 68 → ja s.2 88 j = kS4 c i j) ∧ jfr true (fun k _ => k = 88) M1 s.2) (jfu_lt (by omega)) (fun i hi s hs => ?_) (fun s hs => ?_) _ ⟨rfl, fun j hj => by
              show ja M3 88 j = _
              rw [g3 j hj]; unfold kS3 kS4
              by_cases l : j < c 11 1
              · rw [if_pos l, if_pos l]
              · rw [if_neg l, if_neg l, if_neg (by omega)], f3⟩
          · obtain ⟨a1, a2, a3⟩ := hs
            have hc := cm (k92 a3).2
            have h3 := (hv.2.2.2.2.1 i hi).1
            rw [a1, show ja s.2 67 26 = c 11 2 from hc.1 2 (by decide), if_pos (show (i : Int) < (c 11 2 : Int) by omega), show jw ((3 : Int) * (i : Int)) = ((3 * i : Nat) : Int) by rw [jwi (by omega) (by omega)]; omega, if_pos (show 0 ≤ ((3 * i : Nat) : Int) ∧ ((3 * i : Nat) : Int) < 18 by omega), show jw ((24 : Int) + (i : Int)) = ((24 + i : Nat) : Int) by rw [jwi (by omega) (by omega)]; omega, if_pos (show 0 ≤ ((24 + i : Nat) : Int) ∧ ((24 + i : Nat) : Int) < 68 by omega), jle_eq, Int.toNat_natCast, Int.toNat_natCast, show ja s.2 78 (3 * i) = c 4 i from (hc.2.2.2.1 i hi).1, jwn (by omega)]
            refine ⟨rfl, fun j hj => ?_, jfr_js a3 rfl⟩
            show ja (js s.2 88 (24 + i) (c 4 i : Int)) 88 j = kS4 c (i + 1) j
            by_cases e : j = 24 + i
            · rw [e, ja_js1, jwi (by omega) (by omega)]; unfold kS4; rw [if_neg (by omega), if_pos (by omega), show 24 + i - 24 = i by omega]
            · rw [ja_jsj e, a2 j hj]; unfold kS4
              by_cases l : j < c 11 1
              · rw [if_pos l, if_pos l]
              · rw [if_neg l, if_neg l]
                by_cases l2 : 24 ≤ j ∧ j < 24 + i
                · rw [if_pos l2, if_pos (by omega)]
                · rw [if_neg l2, if_neg (by omega)]
          · obtain ⟨a1, a2, a3⟩ := hs
            rw [a1, show ja s.2 67 26 = c 11 2 from (cm (k92 a3).2).1 2 (by decide), if_neg (show ¬ ((c 11 2 : Nat) : Int) < (c 11 2 : Int) by omega)]
            exact ⟨a2, a3⟩
        · obtain ⟨g4, f4⟩ := h4
          refine jo_c (R := fun M => (∀ j, j < 68 → ja M 88 j = kS5 c 8 j) ∧ jfr true (fun k _ => k = 88) M1 M) ?_ (fun M5 h5 => ?_)
          · refine jo_for 8 jfu (fun i (s : Int × jm) => s.1 = (i : Int) ∧ (∀ j, j < 68 → ja s.2 88 j = kS5 c i j) ∧ jfr true (fun k _ => k = 88) M1 s.2) (jfu_lt (by omega)) (fun i hi s hs => ?_) (fun s hs => ?_) _ ⟨rfl, fun j hj => by
                show ja M4 88 j = _
                rw [g4 j hj]; unfold kS4 kS5
                by_cases l : j < c 11 1
                · rw [if_pos l, if_pos l]
                · rw [if_neg l, if_neg l]
                  by_cases l2 : 24 ≤ j ∧ j < 24 + c 11 2
                  · rw [if_pos l2, if_pos l2]
                  · rw [if_neg l2, if_neg l2, if_neg (by omega), if_neg (by omega)], f4⟩
            · obtain ⟨a1, a2, a3⟩ := hs
              have hc := cm (k92 a3).2
              have ht : (if (i : Int) < (c 11 3 : Int) then if 0 ≤ ((4 * i : Nat) : Int) ∧ ((4 * i : Nat) : Int) < 32 then some (ja s.2 79 (4 * i)) else none else some 0) = some (if i < c 11 3 then (c 7 i : Int) else 0) := by
                by_cases l : i < c 11 3
                · rw [if_pos (show (i : Int) < (c 11 3 : Int) by omega), if_pos (show 0 ≤ ((4 * i : Nat) : Int) ∧ ((4 * i : Nat) : Int) < 32 by omega), if_pos l, show ja s.2 79 (4 * i) = c 7 i from (hc.2.2.2.2 i l).1]
                · rw [if_neg (show ¬ (i : Int) < (c 11 3 : Int) by omega), if_neg l]
              have hb : -5 ≤ (if i < c 11 3 then (c 7 i : Int) else 0) ∧ (if i < c 11 3 then (c 7 i : Int) else 0) ≤ 100 := by
                by_cases l : i < c 11 3
                · rw [if_pos l]; have := (hv.2.2.2.2.2 i l).1; omega
                · rw [if_neg l]; omega
              rw [a1, show ja s.2 67 27 = c 11 3 from hc.1 3 (by decide), if_pos (show (i : Int) < 8 by omega), show jw ((4 : Int) * (i : Int)) = ((4 * i : Nat) : Int) by rw [jwi (by omega) (by omega)]; omega, Int.toNat_natCast, ht, jsb, show jw ((42 : Int) + (i : Int)) = ((42 + i : Nat) : Int) by rw [jwi (by omega) (by omega)]; omega, if_pos (show 0 ≤ ((42 + i : Nat) : Int) ∧ ((42 + i : Nat) : Int) < 68 by omega), jle_eq, show jw ((50 : Int) + (i : Int)) = ((50 + i : Nat) : Int) by rw [jwi (by omega) (by omega)]; omega, if_pos (show 0 ≤ ((50 + i : Nat) : Int) ∧ ((50 + i : Nat) : Int) < 68 by omega), jle_eq, Int.toNat_natCast, Int.toNat_natCast, jwn (by omega)]
              refine ⟨rfl, fun j hj => ?_, jfr_js (jfr_js a3 rfl) rfl⟩
              show ja (js (js s.2 88 (42 + i) (if i < c 11 3 then (c 7 i : Int) else 0)) 88 (50 + i) (-1)) 88 j = kS5 c (i + 1) j
              by_cases e : j = 50 + i
              · rw [e, ja_js1, wm1]; unfold kS5; rw [if_neg (by omega), if_neg (by omega), if_neg (by omega), if_pos (by omega)]
              · rw [ja_jsj e]
                by_cases e2 : j = 42 + i
                · rw [e2, ja_js1, jwi (by omega) (by omega)]; unfold kS5; rw [if_neg (show ¬ 42 + i < c 11 1 by omega), if_neg (show ¬ (24 ≤ 42 + i ∧ 42 + i < 24 + c 11 2) by omega), if_pos (show 42 ≤ 42 + i ∧ 42 + i < 42 + (i + 1) by omega), show 42 + i - 42 = i by omega]
                · rw [ja_jsj e2, a2 j hj]; unfold kS5
                  by_cases l : j < c 11 1
                  · rw [if_pos l, if_pos l]
                  · rw [if_neg l, if_neg l]
                    by_cases l2 : 24 ≤ j ∧ j < 24 + c 11 2
                    · rw [if_pos l2, if_pos l2]
                    · rw [if_neg l2, if_neg l2]
                      by_cases l3 : 42 ≤ j ∧ j < 42 + i
                      · rw [if_pos l3, if_pos (show 42 ≤ j ∧ j < 42 + (i + 1) by omega)]
                      · rw [if_neg l3, if_neg (show ¬ (42 ≤ j ∧ j < 42 + (i + 1)) by omega)]
                        by_cases l4 : 50 ≤ j ∧ j < 50 + i
                        · rw [if_pos l4, if_pos (show 50 ≤ j ∧ j < 50 + (i + 1) by omega)]
                        · rw [if_neg l4, if_neg (show ¬ (50 ≤ j ∧ j < 50 + (i + 1)) by omega)]
            · obtain ⟨a1, a2, a3⟩ := hs
              rw [a1, if_neg (show ¬ ((8 : Nat) : Int) < 8 by decide)]
              exact ⟨a2, a3⟩
          · obtain ⟨g5, f5⟩ := h5
            exact ⟨(k92 f5).1, kPm_lt hv (fun j hj => g5 j hj) (kS5_P hv), (k92 f5).2⟩
theorem sl_189 {m : jm} {c : kC} (hv : kV c) (hC : kCm m 20 70 c) : jo (jf_189 m) (fun r => (kCm r 24 75 c ∧ kPm (fun j => ja r 88 j) c (kP0 c) ∧ (∀ e, e < 12 → ja r 92 e = -1) ∧ ja r 67 34 = 0 ∧ ja r 67 52 = 0 ∧ ja r 67 39 = 0 ∧ ja r 67 66 = 0 ∧ ja r 67 40 = 0) ∧ jfr true jW_189 m r) := by
  refine jo_and ?_ jx_189
  have hn := hv.1
  have e1 : ∀ M, jf_190 70 75 8 M = some (jcp M (M.1 70) 75 0 0 8) := fun M => sp_190 (n := 8) (by decide) (by decide) (by decide)
  have e2 : ∀ M, jf_190 71 76 24 M = some (jcp M (M.1 71) 76 0 0 24) := fun M => sp_190 (n := 24) (by decide) (by decide) (by decide)
  have e3 : ∀ M, jf_190 72 77 12 M = some (jcp M (M.1 72) 77 0 0 12) := fun M => sp_190 (n := 12) (by decide) (by decide) (by decide)
  have e4 : ∀ M, jf_190 73 78 18 M = some (jcp M (M.1 73) 78 0 0 18) := fun M => sp_190 (n := 18) (by decide) (by decide) (by decide)
  have e5 : ∀ M, jf_190 74 79 32 M = some (jcp M (M.1 74) 79 0 0 32) := fun M => sp_190 (n := 32) (by decide) (by decide) (by decide)
  have cp : ∀ (M : jm) (a b n j : Nat), j < n → ja (jcp M (M.1 a) b 0 0 n) b j = ja M a j := fun M a b n j hj => by
    rw [ja_jcp, if_pos ⟨rfl, Nat.zero_le _, by omega⟩]
    show ja M a (0 + (j - 0)) = _
    rw [Nat.zero_add, Nat.sub_zero]
  have cq : ∀ (M : jm) (a b n k j : Nat), k ≠ b → ja (jcp M (M.1 a) b 0 0 n) k j = ja M k j := fun M a b n k j hk => by
    rw [ja_jcp, if_neg (fun z => hk z.1)]
  unfold jf_189
  rw [jle_eq, jle_eq, jle_eq, jle_eq, e1, jsb, e2, jsb, e3, jsb, e4, jsb, e5, jsb, jle_eq, jle_eq, jle_eq, jle_eq, jle_eq]
  have n0 : ja m 67 20 = c 11 0 := hC.1 0 (by decide)
  have n1 : ja m 67 21 = c 11 1 := hC.1 1 (by decide)
  have n2 : ja m 67 22 = c 11 2 := hC.1 2 (by decide)
  have n3 : ja m 67 23 = c 11 3 := hC.1 3 (by decide)
  rw [ja_jsj (show (21 : Nat) ≠ 24 by decide), ja_jsj (show (22 : Nat) ≠ 25 by decide), ja_jsj (show (22 : Nat) ≠ 24 by decide), ja_jsj (show (23 : Nat) ≠ 26 by decide), ja_jsj (show (23 : Nat) ≠ 25 by decide), ja_jsj (show (23 : Nat) ≠ 24 by decide), n0, n1, n2, n3]
  have w : ∀ k : Nat, k ≤ 100 → jw (k : Int) = k := fun k hk => jwi (by omega) (by omega)
  generalize hA : js (js (js (js m 67 24 (c 11 0 : Int)) 67 25 (c 11 1 : Int)) 67 26 (c 11 2 : Int)) 67 27 (c 11 3 : Int) = A
  have A0 : ja A 67 24 = c 11 0 ∧ ja A 67 25 = c 11 1 ∧ ja A 67 26 = c 11 2 ∧ ja A 67 27 = c 11 3 := by
    subst hA
    refine ⟨?_, ?_, ?_, ?_⟩
    · rw [ja_jsj (by decide), ja_jsj (by decide), ja_jsj (by decide), ja_js1, w _ (by omega)]
    · rw [ja_jsj (by decide), ja_jsj (by decide), ja_js1, w _ (by omega)]
    · rw [ja_jsj (by decide), ja_js1, w _ (by omega)]
    · rw [ja_js1, w _ (by omega)]
  have Ak : ∀ k j, k ≠ 67 → ja A k j = ja m k j := fun k j hk => by
    subst hA
    rw [ja_jsk hk, ja_jsk hk, ja_jsk hk, ja_jsk hk]
  generalize hB : jcp A (A.1 70) 75 0 0 8 = B
  have B1 : (∀ j, j < 8 → ja B 75 j = ja A 70 j) ∧ ∀ k j, k ≠ 75 → ja B k j = ja A k j := by subst hB; exact ⟨fun j hj => cp _ _ _ _ _ hj, fun k j hk => cq _ _ _ _ _ _ hk⟩
  generalize hD : jcp B (B.1 71) 76 0 0 24 = D
  have D1 : (∀ j, j < 24 → ja D 76 j = ja B 71 j) ∧ ∀ k j, k ≠ 76 → ja D k j = ja B k j := by subst hD; exact ⟨fun j hj => cp _ _ _ _ _ hj, fun k j hk => cq _ _ _ _ _ _ hk⟩
  generalize hE : jcp D (D.1 72) 77 0 0 12 = E
  have E1 : (∀ j, j < 12 → ja E 77 j = ja D 72 j) ∧ ∀ k j, k ≠ 77 → ja E k j = ja D k j := by subst hE; exact ⟨fun j hj => cp _ _ _ _ _ hj, fun k j hk => cq _ _ _ _ _ _ hk⟩
  generalize hG : jcp E (E.1 73) 78 0 0 18 = G
  have G1 : (∀ j, j < 18 → ja G 78 j = ja E 73 j) ∧ ∀ k j, k ≠ 78 → ja G k j = ja E k j := by subst hG; exact ⟨fun j hj => cp _ _ _ _ _ hj, fun k j hk => cq _ _ _ _ _ _ hk⟩
  generalize hK : jcp G (G.1 74) 79 0 0 32 = K
  have K1 : (∀ j, j < 32 → ja K 79 j = ja G 74 j) ∧ ∀ k j, k ≠ 79 → ja K k j = ja G k j := by subst hK; exact ⟨fun j hj => cp _ _ _ _ _ hj, fun k j hk => cq _ _ _ _ _ _ hk⟩
  have r67 : ∀ j, ja K 67 j = ja A 67 j := fun j => by rw [K1.2 _ _ (by decide), G1.2 _ _ (by decide), E1.2 _ _ (by decide), D1.2 _ _ (by decide), B1.2 _ _ (by decide)]
  have r75 : ∀ j, j < 8 → ja K 75 j = ja m 70 j := fun j hj => by rw [K1.2 _ _ (by decide), G1.2 _ _ (by decide), E1.2 _ _ (by decide), D1.2 _ _ (by decide), B1.1 j hj, Ak _ _ (by decide)]
  have r76 : ∀ j, j < 24 → ja K 76 j = ja m 71 j := fun j hj => by rw [K1.2 _ _ (by decide), G1.2 _ _ (by decide), E1.2 _ _ (by decide), D1.1 j hj, B1.2 _ _ (by decide), Ak _ _ (by decide)]
  have r77 : ∀ j, j < 12 → ja K 77 j = ja m 72 j := fun j hj => by rw [K1.2 _ _ (by decide), G1.2 _ _ (by decide), E1.1 j hj, D1.2 _ _ (by decide), B1.2 _ _ (by decide), Ak _ _ (by decide)]
  have r78 : ∀ j, j < 18 → ja K 78 j = ja m 73 j := fun j hj => by rw [K1.2 _ _ (by decide), G1.1 j hj, E1.2 _ _ (by decide), D1.2 _ _ (by decide), B1.2 _ _ (by decide), Ak _ _ (by decide)]
  have r79 : ∀ j, j < 32 → ja K 79 j = ja m 74 j := fun j hj => by rw [K1.1 j hj, G1.2 _ _ (by decide), E1.2 _ _ (by decide), D1.2 _ _ (by decide), B1.2 _ _ (by decide), Ak _ _ (by decide)]
  have CK : kCm K 24 75 c := by
    refine ⟨fun i hi => ?_, fun t ht => ?_, fun e he => ?_, fun w' hw => ?_, fun l hl => ?_⟩
    · rw [r67]
      rcases (by omega : i = 0 ∨ i = 1 ∨ i = 2 ∨ i = 3) with rfl | rfl | rfl | rfl
      · exact A0.1
      · exact A0.2.1
      · exact A0.2.2.1
      · exact A0.2.2.2
    · rw [r75 t (by omega)]; exact hC.2.1 t ht
    · rw [r76 _ (by omega), r76 _ (by omega), r77 _ (by omega)]; exact hC.2.2.1 e he
    · rw [r78 _ (by omega), r78 _ (by omega), r78 _ (by omega)]; exact hC.2.2.2.1 w' hw
    · rw [r79 _ (by omega), r79 _ (by omega), r79 _ (by omega), r79 _ (by omega)]; exact hC.2.2.2.2 l hl
  have CZ : kCm (js (js (js (js (js K 67 34 0) 67 52 0) 67 39 0) 67 66 0) 67 40 0) 24 75 c := kCm_e (fun j a b => by rw [ja_jsj (by omega), ja_jsj (by omega), ja_jsj (by omega), ja_jsj (by omega), ja_jsj (by omega)]) (fun k j a b => by rw [ja_jsk (by omega), ja_jsk (by omega), ja_jsk (by omega), ja_jsk (by omega), ja_jsk (by omega)]) CK
  refine jo_mono (sl_189l hv CZ) (fun r hr => ?_)
  obtain ⟨u1, u2, u3⟩ := hr
  refine ⟨kCm_e (fun j _ _ => ja_fr u3 (by unfold kW89; omega)) (fun k j _ _ => ja_fr u3 (by unfold kW89; omega)) CZ, u2, u1, ?_, ?_, ?_, ?_, ?_⟩
  · rw [ja_fr u3 (by unfold kW89; omega), ja_jsj (by decide), ja_jsj (by decide), ja_jsj (by decide), ja_jsj (by decide), ja_js1]; exact wz0
  · rw [ja_fr u3 (by unfold kW89; omega), ja_jsj (by decide), ja_jsj (by decide), ja_jsj (by decide), ja_js1]; exact wz0
  · rw [ja_fr u3 (by unfold kW89; omega), ja_jsj (by decide), ja_jsj (by decide), ja_js1]; exact wz0
  · rw [ja_fr u3 (by unfold kW89; omega), ja_jsj (by decide), ja_js1]; exact wz0
  · rw [ja_fr u3 (by unfold kW89; omega), ja_js1]; exact wz0
