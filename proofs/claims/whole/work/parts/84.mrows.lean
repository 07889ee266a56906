/-! ROWS of a city in the model. -/
def kSk (f : Nat → Int) (n : Nat) (s : kFS) : kFS := match s with
  | Sum.inl e => Sum.inl e
  | Sum.inr i => Sum.inr (kSkp f n i)
theorem kNb_s {f : Nat → Int} {n i : Nat} {lo hi : Int} : kNb f n (kSkp f n i) lo hi = kNb f n i lo hi := by unfold kNb; rw [kSkp_2, kDv_2]
theorem kGb_s {f : Nat → Int} {n i : Nat} {x : Int} : kGb f n (kSkp f n i) x = kGb f n i x := by unfold kGb; rw [kSkp_2]
theorem kNs_sk {f : Nat → Int} {n : Nat} {lo hi : Int} {s : kFS} : kNs f n lo hi (kSk f n s) = kNs f n lo hi s := by
  cases s with
  | inl e => rfl
  | inr i =>
    show (if kNb f n (kSkp f n i) lo hi = true then ((Sum.inr (kDe f n (kSkp f n i)) : kFS), kDv f n (kSkp f n i)) else (Sum.inl (kNkd f n (kSkp f n i), kSkp f n (kSkp f n i)), 0)) = (if kNb f n i lo hi = true then ((Sum.inr (kDe f n i) : kFS), kDv f n i) else (Sum.inl (kNkd f n i, kSkp f n i), 0))
    rw [kNb_s, kDe_2, kDv_2, kNkd_s, kSkp_2]
theorem kSs_sk {f : Nat → Int} {n : Nat} {x : Int} {s : kFS} : kSs f n x (kSk f n s) = kSs f n x s := by
  cases s with
  | inl e => rfl
  | inr i =>
    show (if kGb f n (kSkp f n i) x = true then (Sum.inr (kSkp f n (kSkp f n i) + 1) : kFS) else Sum.inl (1, kSkp f n (kSkp f n i))) = (if kGb f n i x = true then (Sum.inr (kSkp f n i + 1) : kFS) else Sum.inl (1, kSkp f n i))
    rw [kGb_s, kSkp_2]
theorem sl_198g {m : jm} {f : Nat → Int} {n : Nat} {s : kFS} (H : kMz m f n s) : jo (jf_198 m) (fun r => (kMz r.2 f n (kSk f n s) ∧ (∀ i, s = Sum.inr i → ja r.2 67 4 = (kSkp f n i : Int) ∧ (r.1 = if kSkp f n i < n then f (kSkp f n i) else 0))) ∧ jfr true jW_198 m r.2) := by
  cases s with
  | inl e =>
    obtain ⟨⟨i, t⟩, h2, h3, h4⟩ := H
    refine jo_mono (sl_198 t) (fun r hr => ⟨⟨⟨⟨_, hr.2.1⟩, ?_, ?_, h4⟩, fun i hi => by cases hi⟩, hr.2.2⟩)
    · rw [ja_fr hr.2.2 (by unfold jW_198; omega)]; exact h2
    · rw [ja_fr hr.2.2 (by unfold jW_198; omega)]; exact h3
  | inr i =>
    refine jo_mono (sl_198 H.1) (fun r hr => ⟨⟨⟨hr.2.1, ?_⟩, fun j hj => ?_⟩, hr.2.2⟩)
    · rw [ja_fr hr.2.2 (by unfold jW_198; omega)]; exact H.2
    · cases hj; exact ⟨hr.2.1.2.2.2, hr.1⟩
theorem kNs_b {f : Nat → Int} {n : Nat} {lo hi : Int} {s : kFS} (h0 : 0 ≤ lo) (h1 : hi ≤ 9999) : 0 ≤ (kNs f n lo hi s).2 ∧ (kNs f n lo hi s).2 ≤ 9999 := by
  cases s with
  | inl e => exact ⟨Int.le_refl _, by show (0 : Int) ≤ 9999; decide⟩
  | inr i =>
    cases hb : kNb f n i lo hi with
    | false => rw [kNs_n hb]; exact ⟨Int.le_refl _, by show (0 : Int) ≤ 9999; decide⟩
    | true =>
      rw [kNs_y hb]
      have := (kNb_t hb).2
      show 0 ≤ kDv f n i ∧ kDv f n i ≤ 9999
      omega
def kWm4 (c : kC) (t k j : Nat) : Prop := (k = 67 ∧ ((4 ≤ j ∧ j ≤ 6) ∨ j = 20 + t)) ∨ (t = 0 ∧ k = 70 ∧ j = c 11 0) ∨ (t = 1 ∧ ((k = 71 ∧ (j = 2 * c 11 1 ∨ j = 2 * c 11 1 + 1)) ∨ (k = 72 ∧ j = c 11 1))) ∨ (t = 2 ∧ k = 73 ∧ 3 * c 11 2 ≤ j ∧ j < 3 * c 11 2 + 3) ∨ (t = 3 ∧ k = 74 ∧ 4 * c 11 3 ≤ j ∧ j < 4 * c 11 3 + 4)
theorem kApp_x (a t : Nat) {c : kC} {v : Nat → Nat} {b : Nat} (h : decide (a < 11 ∧ kWk a ≠ t) = true) : kApp c t v a b = c a b := kApp_r (of_decide_eq_true h).1 (fun z => (of_decide_eq_true h).2 z.1)
theorem kApp_y (a t : Nat) {c : kC} {v : Nat → Nat} {b : Nat} (h : decide (a < 11) = true) (hb : b ≠ c 11 t) : kApp c t v a b = c a b := kApp_r (of_decide_eq_true h) (fun z => hb z.2)
theorem kCm_app {m m' : jm} {c : kC} {t : Nat} {v : Nat → Nat} (ht : t < 4) (H : kCm m 20 70 c) (F : jfr true (kWm4 c t) m m') (hn : ja m' 67 (20 + t) = ((c 11 t + 1 : Nat) : Int)) (h0 : t = 0 → ja m' 70 (c 11 0) = (v 0 : Int)) (h1 : t = 1 → ja m' 71 (2 * c 11 1) = (v 1 : Int) ∧ ja m' 71 (2 * c 11 1 + 1) = (v 2 : Int) ∧ ja m' 72 (c 11 1) = (v 3 : Int)) (h2 : t = 2 → ja m' 73 (3 * c 11 2) = (v 4 : Int) ∧ ja m' 73 (3 * c 11 2 + 1) = (v 5 : Int) ∧ ja m' 73 (3 * c 11 2 + 2) = (v 6 : Int)) (h3 : t = 3 → ja m' 74 (4 * c 11 3) = (v 7 : Int) ∧ ja m' 74 (4 * c 11 3 + 1) = (v 8 : Int) ∧ ja m' 74 (4 * c 11 3 + 2) = (v 9 : Int) ∧ ja m' 74 (4 * c 11 3 + 3) = (v 10 : Int)) : kCm m' 20 70 (kApp c t v) := by
  obtain ⟨q0, q1, q2, q3, q4⟩ := H
  refine ⟨fun i hi => ?_, fun i hi => ?_, fun i hi => ?_, fun i hi => ?_, fun i hi => ?_⟩
  · by_cases e : i = t
    · rw [e, kApp_n]; exact hn
    · rw [kApp_o e, ja_fr F (by unfold kWm4; omega)]; exact q0 i hi
  · by_cases z : t = 0
    · subst z
      rw [kApp_n] at hi
      by_cases e : i = c 11 0
      · rw [e, kApp_w 0 0 rfl]; exact h0 rfl
      · rw [kApp_y 0 0 rfl e, ja_fr F (by unfold kWm4; omega)]; exact q1 i (by omega)
    · rw [kApp_o (fun e => z e.symm)] at hi
      rw [kApp_r (by decide) (fun e => z (by rw [← e.1]; rfl)), ja_fr F (by unfold kWm4; omega)]; exact q1 i hi
  · by_cases z : t = 1
    · subst z
      rw [kApp_n] at hi
      by_cases e : i = c 11 1
      · rw [e, kApp_w 1 1 rfl, kApp_w 2 1 rfl, kApp_w 3 1 rfl]; exact h1 rfl
      · rw [kApp_y 1 1 rfl e, kApp_y 2 1 rfl e, kApp_y 3 1 rfl e, ja_fr F (by unfold kWm4; omega), ja_fr F (by unfold kWm4; omega), ja_fr F (by unfold kWm4; omega)]; exact q2 i (by omega)
    · rw [kApp_o (fun e => z e.symm)] at hi
      rw [kApp_r (a := 1) (by decide) (fun e => z (by rw [← e.1]; rfl)), kApp_r (a := 2) (by decide) (fun e => z (by rw [← e.1]; rfl)), kApp_r (a := 3) (by decide) (fun e => z (by rw [← e.1]; rfl)), ja_fr F (by unfold kWm4; omega), ja_fr F (by unfold kWm4; omega), ja_fr F (by unfold kWm4; omega)]; exact q2 i hi
  · by_cases z : t = 2
    · subst z
      rw [kApp_n] at hi
      by_cases e : i = c 11 2
      · rw [e, kApp_w 4 2 rfl, kApp_w 5 2 rfl, kApp_w 6 2 rfl]; exact h2 rfl
      · rw [kApp_y 4 2 rfl e, kApp_y 5 2 rfl e, kApp_y 6 2 rfl e, ja_fr F (by unfold kWm4; omega), ja_fr F (by unfold kWm4; omega), ja_fr F (by unfold kWm4; omega)]; exact q3 i (by omega)
    · rw [kApp_o (fun e => z e.symm)] at hi
      rw [kApp_r (a := 4) (by decide) (fun e => z (by rw [← e.1]; rfl)), kApp_r (a := 5) (by decide) (fun e => z (by rw [← e.1]; rfl)), kApp_r (a := 6) (by decide) (fun e => z (by rw [← e.1]; rfl)), ja_fr F (by unfold kWm4; omega), ja_fr F (by unfold kWm4; omega), ja_fr F (by unfold kWm4; omega)]; exact q3 i hi
  · by_cases z : t = 3
    · subst z
      rw [kApp_n] at hi
      by_cases e : i = c 11 3
      · rw [e, kApp_w 7 3 rfl, kApp_w 8 3 rfl, kApp_w 9 3 rfl, kApp_w 10 3 rfl]; exact h3 rfl
      · rw [kApp_y 7 3 rfl e, kApp_y 8 3 rfl e, kApp_y 9 3 rfl e, kApp_y 10 3 rfl e, ja_fr F (by unfold kWm4; omega), ja_fr F (by unfold kWm4; omega), ja_fr F (by unfold kWm4; omega), ja_fr F (by unfold kWm4; omega)]; exact q4 i (by omega)
    · rw [kApp_o (fun e => z e.symm)] at hi
      rw [kApp_r (a := 7) (by decide) (fun e => z (by rw [← e.1]; rfl)), kApp_r (a := 8) (by decide) (fun e => z (by rw [← e.1]; rfl)), kApp_r (a := 9) (by decide) (fun e => z (by rw [← e.1]; rfl)), kApp_r (a := 10) (by decide) (fun e => z (by rw [← e.1]; rfl)), ja_fr F (by unfold kWm4; omega), ja_fr F (by unfold kWm4; omega), ja_fr F (by unfold kWm4; omega), ja_fr F (by unfold kWm4; omega)]; exact q4 i hi
theorem sl_210 {m : jm} {f : Nat → Int} {n : Nat} {s : kFS} {c : kC} (H : kMz m f n s) (h20 : ja m 67 20 = (c 11 0 : Int)) (hv : c 11 0 ≤ 8) : jo (jf_210 m) (fun r => (kMz r.2 f n (kNs f n 0 (kTw c) s).1 ∧ r.1 = (kNs f n 0 (kTw c) s).2) ∧ jfr true jW_207 m r.2) := by
  unfold jf_210
  rw [h20, show jw ((c 11 0 : Int) - 1) = kTw c from jwi (by omega) (by omega)]
  exact jo_c (sl_207g H (by unfold kTw; omega)) (fun r hr => hr)
theorem kTn {x : Int} (h : 0 ≤ x) : (x.toNat : Int) = x := Int.toNat_of_nonneg h
theorem sl_206a {m : jm} {f : Nat → Int} {n : Nat} {s : kFS} {c : kC} (H : kMz m f n s) (hC : kCm m 20 70 c) (hn : c 11 0 < 8) : jo ((jf_207 0 40 m).bind fun p5 => if 0 ≤ (ja m 67 20) ∧ (ja m 67 20) < 8 then jle (js p5.2 70 (ja m 67 20).toNat p5.1) fun m6 => jle (js m6 67 20 (jw ((ja m6 67 20) + 1))) fun m7 => some (m7) else none) (fun r => kMz r f n (kR0 f n s c).1 ∧ kCm r 20 70 (kR0 f n s c).2) := by
  have e0 : ja m 67 20 = (c 11 0 : Int) := hC.1 0 (by decide)
  rw [e0]
  refine jo_c (sl_207g H (by decide)) (fun r hr => ?_)
  obtain ⟨⟨a1, a2⟩, a3⟩ := hr
  have b := kNs_b (f := f) (n := n) (s := s) (lo := 0) (hi := 40) (by decide) (by decide)
  rw [if_pos (show 0 ≤ (c 11 0 : Int) ∧ (c 11 0 : Int) < 8 by omega), Int.toNat_natCast, jle_eq, show ja (js r.2 70 (c 11 0) r.1) 67 20 = (c 11 0 : Int) by rw [ja_jsk (by decide), ja_fr a3 (by unfold jW_207; omega)]; exact e0, jle_eq, jwn (by omega)]
  refine ⟨kMz_js (kMz_js a1 (by omega)) (by omega), ?_⟩
  refine kCm_app (by decide) hC (jfr_js (jfr_js (jfr_t jfr_r a3 (fun e => e) (fun k j h => by unfold jW_207 at h; unfold kWm4; omega)) (by unfold kWm4; omega)) (by unfold kWm4; omega)) ?_ (fun _ => ?_) (fun e => by omega) (fun e => by omega) (fun e => by omega)
  · rw [ja_js1, jwi (by omega) (by omega)]
  · rw [ja_jsk (by decide), ja_js1, a2, jwi (by omega) (by omega)]; exact (kTn b.1).symm
theorem sl_206c {m : jm} {f : Nat → Int} {n : Nat} {s : kFS} {c : kC} (H : kMz m f n s) (hC : kCm m 20 70 c) (hv : c 11 0 ≤ 8) (hn : c 11 2 < 6) : jo ((jf_210 m).bind fun p11 => if 0 ≤ (jw (3 * (ja m 67 22))) ∧ (jw (3 * (ja m 67 22))) < 18 then jle (js p11.2 73 (jw (3 * (ja m 67 22))).toNat p11.1) fun m12 => (jf_207 0 40 m12).bind fun p13 => if 0 ≤ (jw ((jw (3 * (ja m 67 22))) + 1)) ∧ (jw ((jw (3 * (ja m 67 22))) + 1)) < 18 then jle (js p13.2 73 (jw ((jw (3 * (ja m 67 22))) + 1)).toNat p13.1) fun m14 => (jf_207 0 6 m14).bind fun p15 => if 0 ≤ (jw ((jw (3 * (ja m 67 22))) + 2)) ∧ (jw ((jw (3 * (ja m 67 22))) + 2)) < 18 then jle (js p15.2 73 (jw ((jw (3 * (ja m 67 22))) + 2)).toNat p15.1) fun m16 => jle (js m16 67 22 (jw ((ja m16 67 22) + 1))) fun m17 => some (m17) else none else none else none) (fun r => kMz r f n (kR2 f n s c).1 ∧ kCm r 20 70 (kR2 f n s c).2) := by
  have e0 : ja m 67 20 = (c 11 0 : Int) := hC.1 0 (by decide)
  have e2 : ja m 67 22 = (c 11 2 : Int) := hC.1 2 (by decide)
  have j0 : jw (3 * (c 11 2 : Int)) = ((3 * c 11 2 : Nat) : Int) := by rw [jwi (by omega) (by omega)]; omega
  have j1 : jw (((3 * c 11 2 : Nat) : Int) + 1) = ((3 * c 11 2 + 1 : Nat) : Int) := by rw [jwi (by omega) (by omega)]; omega
  have j2 : jw (((3 * c 11 2 : Nat) : Int) + 2) = ((3 * c 11 2 + 2 : Nat) : Int) := by rw [jwi (by omega) (by omega)]; omega
  have W7 : ∀ k j, jW_207 k j → kWm4 c 2 k j := fun k j h => by unfold jW_207 at h; unfold kWm4; omega
  rw [e2, j0, j1, j2, Int.toNat_natCast, Int.toNat_natCast, Int.toNat_natCast]
  refine jo_c (sl_210 H e0 hv) (fun r1 hr => ?_)
  obtain ⟨⟨a1, a2⟩, a3⟩ := hr
  have b1 := kNs_b (f := f) (n := n) (s := s) (lo := 0) (hi := kTw c) (by decide) (by unfold kTw; omega)
  rw [if_pos (by omega), jle_eq]
  have H1 : kMz (js r1.2 73 (3 * c 11 2) r1.1) f n (kRa f n s c).1 := kMz_js a1 (by omega)
  have F1 : jfr true (kWm4 c 2) m (js r1.2 73 (3 * c 11 2) r1.1) := jfr_js (jfr_t jfr_r a3 (fun e => e) W7) (by unfold kWm4; omega)
  have V1 : ja (js r1.2 73 (3 * c 11 2) r1.1) 73 (3 * c 11 2) = (kRa f n s c).2 := by rw [ja_js1, a2]; exact jwi (by omega) (by omega)
  have c1 : ja (js r1.2 73 (3 * c 11 2) r1.1) 67 22 = (c 11 2 : Int) := by rw [ja_jsk (by decide), ja_fr a3 (by unfold jW_207; omega)]; exact e2
  generalize js r1.2 73 (3 * c 11 2) r1.1 = M1 at *
  refine jo_c (sl_207g H1 (by decide)) (fun r2 hr => ?_)
  obtain ⟨⟨a4, a5⟩, a6⟩ := hr
  have b2 := kNs_b (f := f) (n := n) (s := (kRa f n s c).1) (lo := 0) (hi := 40) (by decide) (by decide)
  rw [if_pos (by omega), jle_eq]
  have H2 : kMz (js r2.2 73 (3 * c 11 2 + 1) r2.1) f n (kR2b f n s c).1 := kMz_js a4 (by omega)
  have F2 : jfr true (kWm4 c 2) m (js r2.2 73 (3 * c 11 2 + 1) r2.1) := jfr_js (jfr_t F1 a6 (fun e => e) W7) (by unfold kWm4; omega)
  have V2 : ja (js r2.2 73 (3 * c 11 2 + 1) r2.1) 73 (3 * c 11 2) = (kRa f n s c).2 := by rw [ja_jsj (by omega), ja_fr a6 (by unfold jW_207; omega)]; exact V1
  have V2' : ja (js r2.2 73 (3 * c 11 2 + 1) r2.1) 73 (3 * c 11 2 + 1) = (kR2b f n s c).2 := by rw [ja_js1, a5]; exact jwi (by omega) (by omega)
  have c2 : ja (js r2.2 73 (3 * c 11 2 + 1) r2.1) 67 22 = (c 11 2 : Int) := by rw [ja_jsk (by decide), ja_fr a6 (by unfold jW_207; omega)]; exact c1
  generalize js r2.2 73 (3 * c 11 2 + 1) r2.1 = M2 at *
  refine jo_c (sl_207g H2 (by decide)) (fun r3 hr => ?_)
  obtain ⟨⟨a7, a8⟩, a9⟩ := hr
  have b3 := kNs_b (f := f) (n := n) (s := (kR2b f n s c).1) (lo := 0) (hi := 6) (by decide) (by decide)
  rw [if_pos (by omega), jle_eq, show ja (js r3.2 73 (3 * c 11 2 + 2) r3.1) 67 22 = (c 11 2 : Int) by rw [ja_jsk (by decide), ja_fr a9 (by unfold jW_207; omega)]; exact c2, jle_eq, jwn (by omega)]
  refine ⟨kMz_js (kMz_js a7 (by omega)) (by omega), ?_⟩
  refine kCm_app (by decide) hC (jfr_js (jfr_js (jfr_t F2 a9 (fun e => e) W7) (by unfold kWm4; omega)) (by unfold kWm4; omega)) ?_ (fun e => by omega) (fun e => by omega) (fun _ => ⟨?_, ?_, ?_⟩) (fun e => by omega)
  · rw [ja_js1, jwi (by omega) (by omega)]
  · rw [ja_jsk (by decide), ja_jsj (by omega), ja_fr a9 (by unfold jW_207; omega), V2]; exact (kTn b1.1).symm
  · rw [ja_jsk (by decide), ja_jsj (by omega), ja_fr a9 (by unfold jW_207; omega), V2']; exact (kTn b2.1).symm
  · rw [ja_jsk (by decide), ja_js1, a8, jwi (by omega) (by omega)]; exact (kTn b3.1).symm
theorem sl_206d {m : jm} {f : Nat → Int} {n : Nat} {s : kFS} {c : kC} (H : kMz m f n s) (hC : kCm m 20 70 c) (hv : c 11 0 ≤ 8) (hn : c 11 3 < 8) : jo ((jf_210 m).bind fun p18 => if 0 ≤ (jw (4 * (ja m 67 23))) ∧ (jw (4 * (ja m 67 23))) < 32 then jle (js p18.2 74 (jw (4 * (ja m 67 23))).toNat p18.1) fun m19 => (jf_210 m19).bind fun p20 => if 0 ≤ (jw ((jw (4 * (ja m 67 23))) + 1)) ∧ (jw ((jw (4 * (ja m 67 23))) + 1)) < 32 then jle (js p20.2 74 (jw ((jw (4 * (ja m 67 23))) + 1)).toNat p20.1) fun m21 => (jf_207 0 5 m21).bind fun p22 => if 0 ≤ (jw ((jw (4 * (ja m 67 23))) + 2)) ∧ (jw ((jw (4 * (ja m 67 23))) + 2)) < 32 then jle (js p22.2 74 (jw ((jw (4 * (ja m 67 23))) + 2)).toNat p22.1) fun m23 => (jf_207 1 9 m23).bind fun p24 => if 0 ≤ (jw ((jw (4 * (ja m 67 23))) + 3)) ∧ (jw ((jw (4 * (ja m 67 23))) + 3)) < 32 then jle (js p24.2 74 (jw ((jw (4 * (ja m 67 23))) + 3)).toNat p24.1) fun m25 => jle (js m25 67 23 (jw ((ja m25 67 23) + 1))) fun m26 => some (m26) else none else none else none else none) (fun r => kMz r f n (kR3 f n s c).1 ∧ kCm r 20 70 (kR3 f n s c).2) := by
  have e0 : ja m 67 20 = (c 11 0 : Int) := hC.1 0 (by decide)
  have e2 : ja m 67 23 = (c 11 3 : Int) := hC.1 3 (by decide)
  have j0 : jw (4 * (c 11 3 : Int)) = ((4 * c 11 3 : Nat) : Int) := by rw [jwi (by omega) (by omega)]; omega
  have j1 : jw (((4 * c 11 3 : Nat) : Int) + 1) = ((4 * c 11 3 + 1 : Nat) : Int) := by rw [jwi (by omega) (by omega)]; omega
  have j2 : jw (((4 * c 11 3 : Nat) : Int) + 2) = ((4 * c 11 3 + 2 : Nat) : Int) := by rw [jwi (by omega) (by omega)]; omega
  have j3 : jw (((4 * c 11 3 : Nat) : Int) + 3) = ((4 * c 11 3 + 3 : Nat) : Int) := by rw [jwi (by omega) (by omega)]; omega
  have W7 : ∀ k j, jW_207 k j → kWm4 c 3 k j := fun k j h => by unfold jW_207 at h; unfold kWm4; omega
  rw [e2, j0, j1, j2, j3, Int.toNat_natCast, Int.toNat_natCast, Int.toNat_natCast, Int.toNat_natCast]
  refine jo_c (sl_210 H e0 hv) (fun r1 hr => ?_)
  obtain ⟨⟨a1, a2⟩, a3⟩ := hr
  have b1 := kNs_b (f := f) (n := n) (s := s) (lo := 0) (hi := kTw c) (by decide) (by unfold kTw; omega)
  rw [if_pos (by omega), jle_eq]
  have H1 : kMz (js r1.2 74 (4 * c 11 3) r1.1) f n (kRa f n s c).1 := kMz_js a1 (by omega)
  have F1 : jfr true (kWm4 c 3) m (js r1.2 74 (4 * c 11 3) r1.1) := jfr_js (jfr_t jfr_r a3 (fun e => e) W7) (by unfold kWm4; omega)
  have V1 : ja (js r1.2 74 (4 * c 11 3) r1.1) 74 (4 * c 11 3) = (kRa f n s c).2 := by rw [ja_js1, a2]; exact jwi (by omega) (by omega)
  have c1 : ja (js r1.2 74 (4 * c 11 3) r1.1) 67 23 = (c 11 3 : Int) := by rw [ja_jsk (by decide), ja_fr a3 (by unfold jW_207; omega)]; exact e2
  have c0 : ja (js r1.2 74 (4 * c 11 3) r1.1) 67 20 = (c 11 0 : Int) := by rw [ja_jsk (by decide), ja_fr a3 (by unfold jW_207; omega)]; exact e0
  generalize js r1.2 74 (4 * c 11 3) r1.1 = M1 at *
  refine jo_c (sl_210 H1 c0 hv) (fun r2 hr => ?_)
  obtain ⟨⟨a4, a5⟩, a6⟩ := hr
  have b2 := kNs_b (f := f) (n := n) (s := (kRa f n s c).1) (lo := 0) (hi := kTw c) (by decide) (by unfold kTw; omega)
  rw [if_pos (by omega), jle_eq]
  have H2 : kMz (js r2.2 74 (4 * c 11 3 + 1) r2.1) f n (kRb f n s c).1 := kMz_js a4 (by omega)
  have F2 : jfr true (kWm4 c 3) m (js r2.2 74 (4 * c 11 3 + 1) r2.1) := jfr_js (jfr_t F1 a6 (fun e => e) W7) (by unfold kWm4; omega)
  have V2 : ja (js r2.2 74 (4 * c 11 3 + 1) r2.1) 74 (4 * c 11 3) = (kRa f n s c).2 := by rw [ja_jsj (by omega), ja_fr a6 (by unfold jW_207; omega)]; exact V1
  have V2' : ja (js r2.2 74 (4 * c 11 3 + 1) r2.1) 74 (4 * c 11 3 + 1) = (kRb f n s c).2 := by rw [ja_js1, a5]; exact jwi (by omega) (by omega)
  have c2 : ja (js r2.2 74 (4 * c 11 3 + 1) r2.1) 67 23 = (c 11 3 : Int) := by rw [ja_jsk (by decide), ja_fr a6 (by unfold jW_207; omega)]; exact c1
  generalize js r2.2 74 (4 * c 11 3 + 1) r2.1 = M2 at *
  refine jo_c (sl_207g H2 (by decide)) (fun r3 hr => ?_)
  obtain ⟨⟨a7, a8⟩, a9⟩ := hr
  have b3 := kNs_b (f := f) (n := n) (s := (kRb f n s c).1) (lo := 0) (hi := 5) (by decide) (by decide)
  rw [if_pos (by omega), jle_eq]
  have H3 : kMz (js r3.2 74 (4 * c 11 3 + 2) r3.1) f n (kR3d f n s c).1 := kMz_js a7 (by omega)
  have F3 : jfr true (kWm4 c 3) m (js r3.2 74 (4 * c 11 3 + 2) r3.1) := jfr_js (jfr_t F2 a9 (fun e => e) W7) (by unfold kWm4; omega)
  have V3 : ja (js r3.2 74 (4 * c 11 3 + 2) r3.1) 74 (4 * c 11 3) = (kRa f n s c).2 := by rw [ja_jsj (by omega), ja_fr a9 (by unfold jW_207; omega)]; exact V2
  have V3' : ja (js r3.2 74 (4 * c 11 3 + 2) r3.1) 74 (4 * c 11 3 + 1) = (kRb f n s c).2 := by rw [ja_jsj (by omega), ja_fr a9 (by unfold jW_207; omega)]; exact V2'
  have V3'' : ja (js r3.2 74 (4 * c 11 3 + 2) r3.1) 74 (4 * c 11 3 + 2) = (kR3d f n s c).2 := by rw [ja_js1, a8]; exact jwi (by omega) (by omega)
  have c3 : ja (js r3.2 74 (4 * c 11 3 + 2) r3.1) 67 23 = (c 11 3 : Int) := by rw [ja_jsk (by decide), ja_fr a9 (by unfold jW_207; omega)]; exact c2
  generalize js r3.2 74 (4 * c 11 3 + 2) r3.1 = M3 at *
  refine jo_c (sl_207g H3 (by decide)) (fun r4 hr => ?_)
  obtain ⟨⟨p7, p8⟩, p9⟩ := hr
  have b4 := kNs_b (f := f) (n := n) (s := (kR3d f n s c).1) (lo := 1) (hi := 9) (by decide) (by decide)
  rw [if_pos (by omega), jle_eq, show ja (js r4.2 74 (4 * c 11 3 + 3) r4.1) 67 23 = (c 11 3 : Int) by rw [ja_jsk (by decide), ja_fr p9 (by unfold jW_207; omega)]; exact c3, jle_eq, jwn (by omega)]
  refine ⟨kMz_js (kMz_js p7 (by omega)) (by omega), ?_⟩
  refine kCm_app (by decide) hC (jfr_js (jfr_js (jfr_t F3 p9 (fun e => e) W7) (by unfold kWm4; omega)) (by unfold kWm4; omega)) ?_ (fun e => by omega) (fun e => by omega) (fun e => by omega) (fun _ => ⟨?_, ?_, ?_, ?_⟩)
  · rw [ja_js1, jwi (by omega) (by omega)]
  · rw [ja_jsk (by decide), ja_jsj (by omega), ja_fr p9 (by unfold jW_207; omega), V3]; exact (kTn b1.1).symm
  · rw [ja_jsk (by decide), ja_jsj (by omega), ja_fr p9 (by unfold jW_207; omega), V3']; exact (kTn b2.1).symm
  · rw [ja_jsk (by decide), ja_jsj (by omega), ja_fr p9 (by unfold jW_207; omega), V3'']; exact (kTn b3.1).symm
  · rw [ja_jsk (by decide), ja_js1, p8, jwi (by omega) (by omega)]; exact (kTn b4.1).symm
