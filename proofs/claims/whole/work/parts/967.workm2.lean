/-! WORK: the model reads trees. -/
theorem qMe_g {f : Nat → Int} {n o D : Nat} {c : kC} {L : List wE} {M : jm} {s : kFS} {e : wE} {g : wE → wT D} (H : qMr f n c o M (kSs f n 59 s) (wTl s L e)) (hτ : wM D L.length (g e) = [e]) : qMe f n c o L (wEnd (kSs f n 59 s) g e) M := by
  have := qMe_s (τ := g e) H hτ
  cases hz : kSs f n 59 s with
  | inl e' => rw [hz] at this; exact this
  | inr j => rw [hz] at this; exact this
theorem sl_223n {M : jm} {f : Nat → Int} {n o i D : Nat} {c : kC} {L : List wE} {g : wE → wT D} {rec : Nat → Int → Int → jm → Option jm} (hn : n ≤ 150) (hv : kV c) (H : qMr f n c o M (Sum.inr i) L) (h7 : kU3 f n i ≠ 7) (hg : ∀ e, wM D L.length (g e) = [e]) : jo (jf_223 rec M) (fun r => qMe f n c o L (if kU3 f n i = -1 then Sum.inl (1, kSkp f n i) else wEnd (kSs f n 59 (wS f n c (kU3 f n i) (kLe f n i)).1) g (wS f n c (kU3 f n i) (kLe f n i)).2) r) := by
  obtain ⟨⟨v0, v1, v2, v3⟩, -⟩ := id hv
  obtain ⟨p0, p1, p2, p3, p4, p5, p6, p7⟩ := kPwr
  have e21 : ∀ M, jf_202 21 M = some 656741 := fun M => by rw [← p0]; exact sp_202 (s := 21) (L := 4) rfl (by decide)
  have e22 : ∀ M, jf_202 22 M = some 239301 := fun M => by rw [← p1]; exact sp_202 (s := 22) (L := 4) rfl (by decide)
  have e23 : ∀ M, jf_202 23 M = some 239 := fun M => by rw [← p2]; exact sp_202 (s := 23) (L := 2) rfl (by decide)
  have e12 : ∀ M, jf_202 12 M = some 20317291 := fun M => by rw [← p3]; exact sp_202 (s := 12) (L := 5) rfl (by decide)
  have e18 : ∀ M, jf_202 18 M = some 19057966 := fun M => by rw [← p4]; exact sp_202 (s := 18) (L := 5) rfl (by decide)
  have e17 : ∀ M, jf_202 17 M = some 6631 := fun M => by rw [← p5]; exact sp_202 (s := 17) (L := 3) rfl (by decide)
  have e20 : ∀ M, jf_202 20 M = some 14982420 := fun M => by rw [← p6]; exact sp_202 (s := 20) (L := 5) rfl (by decide)
  have e24 : ∀ M, jf_202 24 M = some 1279278 := fun M => by rw [← p7]; exact sp_202 (s := 24) (L := 5) rfl (by decide)
  have hi := H.1.1.1.2.1
  have h6 := H.1.1.1.1
  have hsk := kSkp_ge (f := f) (n := n) (i := i)
  have hsl := kSkp_le (f := f) hi
  have hl := (H.2.2.2 i rfl).2
  unfold jf_223
  refine jo_c (qMr_word H) (fun q1 hq1 => ?_)
  obtain ⟨a1, a2⟩ := hq1
  rw [e17, jsb, a1]
  have fin : ∀ (w : Int) (T : Option jm), kU3 f n i = w → w ≠ -1 → jo T (fun r => qMr f n c o r (wS f n c w (kLe f n i)).1 (wTl (wS f n c w (kLe f n i)).1 L (wS f n c w (kLe f n i)).2)) → jo (Option.bind (α := jm) T fun t3 => Option.bind (α := jm) (jf_211 59 t3) fun p136 => some p136) (fun r => qMe f n c o L (if kU3 f n i = -1 then Sum.inl (1, kSkp f n i) else wEnd (kSs f n 59 (wS f n c (kU3 f n i) (kLe f n i)).1) g (wS f n c (kU3 f n i) (kLe f n i)).2) r) := fun w T hw h1 hT => by
    rw [hw, if_neg h1]
    refine jo_c hT (fun r hr => ?_)
    refine jo_c (qMr_sig hr (by decide)) (fun r2 hr2 => qMe_g hr2 (hg _))
  have plain : ∀ (w : Int) (M1 : jm), w = 5 ∨ w = 6 → 3 * L.length + 3 ≤ kLe f n i → qMr f n c o M1 (Sum.inr (kLe f n i)) L → jo (jf_224 w 0 0 M1) (fun r => qMr f n c o r (wS f n c w (kLe f n i)).1 (wTl (wS f n c w (kLe f n i)).1 L (wS f n c w (kLe f n i)).2)) := fun w M1 hw hl2 h1 => by
    have eS : wS f n c w (kLe f n i) = (Sum.inr (kLe f n i), (w, 0, 0)) := by unfold wS; rw [if_pos hw]
    rw [eS]
    exact sl_224 hn h1 (fun j hj => by cases hj; exact hl2) ⟨by omega, by omega⟩ (jg_c rfl) (jg_c rfl)
  have c24 : ∀ {M1 : jm} {s : kFS} {L1 : List wE}, qMr f n c o M1 s L1 → ja M1 67 24 = (c 11 0 : Int) ∧ ja M1 67 25 = (c 11 1 : Int) ∧ ja M1 67 26 = (c 11 2 : Int) ∧ ja M1 67 27 = (c 11 3 : Int) := fun {M1 s L1} h => ⟨h.2.2.1 0 (by decide), h.2.2.1 1 (by decide), h.2.2.1 2 (by decide), h.2.2.1 3 (by decide)⟩
  have jj : ∀ k, k < 4 → jw ((c 11 k : Int) - 1) = (c 11 k : Int) - 1 := fun k hk => by
    have : k = 0 ∨ k = 1 ∨ k = 2 ∨ k = 3 := by omega
    rcases this with rfl | rfl | rfl | rfl <;> exact jwi (by omega) (by omega)
  rcases kU3_cs (f := f) (n := n) (i := i) with ⟨u, n0, n1, n2, n3, n4, n5, n6, n7⟩ | ⟨u, v, l⟩ | ⟨u, v, l⟩ | ⟨u, v, l⟩ | ⟨u, v, l⟩ | ⟨u, v, l⟩ | ⟨u, v, l⟩ | ⟨u, v, l⟩ | ⟨u, v, l⟩
  · rw [if_neg n5, e20, jsb, if_neg n6, e21, jsb, if_neg n0, e22, jsb, if_neg n1, e23, jsb, if_neg n2, e12, jsb, if_neg n3, e18, jsb, if_neg n4, e24, jsb, if_neg n7, if_pos u]
    obtain ⟨s1, s2, s3⟩ := sl_203g (kd := 1) (p := kSkp f n i) a2.1 (by omega) (jg_c rfl)
    rw [a2.1.1.2.2.2, s1, jsb, jsb]
    exact jo_c (sl_211g s2 (by decide)) (fun r hr => hr.1)
  · refine fin 0 _ u (by decide) ?_
    rw [v, if_neg (by decide), e20, jsb, if_neg (by decide), e21, jsb, if_pos rfl]
    refine jo_c (qMr_pass hi a2) (fun q hq => ?_)
    obtain ⟨g0, g1, g2, g3⟩ := c24 hq
    rw [e21, jsb, if_pos rfl, jsb, g2, g3]
    exact jo_c (sl_225 hn hv hq (by omega) (by decide) (jj 2 (by decide)) (jj 3 (by decide))) (fun r hr => hr)
  · refine fin 1 _ u (by decide) ?_
    rw [v, if_neg (by decide), e20, jsb, if_neg (by decide), e21, jsb, if_neg (by decide), e22, jsb, if_pos rfl]
    refine jo_c (qMr_pass hi a2) (fun q hq => ?_)
    obtain ⟨g0, g1, g2, g3⟩ := c24 hq
    rw [e21, jsb, if_neg (by decide), jsb, g2, g3]
    exact jo_c (sl_225 hn hv hq (by omega) (by decide) (jj 2 (by decide)) (jj 3 (by decide))) (fun r hr => hr)
  · refine fin 2 _ u (by decide) ?_
    rw [v, if_neg (by decide), e20, jsb, if_neg (by decide), e21, jsb, if_neg (by decide), e22, jsb, if_neg (by decide), e23, jsb, if_pos rfl]
    refine jo_c (qMr_pass hi a2) (fun q hq => ?_)
    obtain ⟨g0, g1, g2, g3⟩ := c24 hq
    rw [g2, g0]
    exact jo_c (sl_225 hn hv hq (by omega) (by decide) (jj 2 (by decide)) (jj 0 (by decide))) (fun r hr => hr)
  · refine fin 3 _ u (by decide) ?_
    rw [v, if_neg (by decide), e20, jsb, if_neg (by decide), e21, jsb, if_neg (by decide), e22, jsb, if_neg (by decide), e23, jsb, if_neg (by decide), e12, jsb, if_pos rfl]
    refine jo_c (qMr_pass hi a2) (fun q hq => ?_)
    obtain ⟨g0, g1, g2, g3⟩ := c24 hq
    rw [g1]
    exact jo_c (sl_225 hn hv hq (by omega) (by decide) (jj 1 (by decide)) (by exact jwi (by decide) (by decide))) (fun r hr => hr)
  · refine fin 4 _ u (by decide) ?_
    rw [v, if_neg (by decide), e20, jsb, if_neg (by decide), e21, jsb, if_neg (by decide), e22, jsb, if_neg (by decide), e23, jsb, if_neg (by decide), e12, jsb, if_neg (by decide), e18, jsb, if_pos rfl]
    refine jo_c (qMr_pass hi a2) (fun q hq => ?_)
    obtain ⟨g0, g1, g2, g3⟩ := c24 hq
    have eS : wS f n c 4 (kLe f n i) = ((kNs f n 0 ((c 11 2 : Int) - 1) (Sum.inr (kLe f n i))).1, (4, (kNs f n 0 ((c 11 2 : Int) - 1) (Sum.inr (kLe f n i))).2, 0)) := rfl
    have b1 := kNs_b (f := f) (n := n) (s := Sum.inr (kLe f n i)) (lo := 0) (hi := (c 11 2 : Int) - 1) (by decide) (by omega)
    rw [g2, jj 2 (by decide), eS]
    refine jo_c (qMr_num hq (by omega)) (fun r hr => ?_)
    rw [hr.2]
    refine jo_c (sl_224 hn hr.1 (fun j hj => ?_) (jg_c rfl) ⟨by omega, by omega⟩ (jg_c rfl)) (fun r hr => hr)
    obtain ⟨k, d1, -, -, -, d5, -⟩ := kNs_in hj
    cases d1
    omega
  · refine fin 5 _ u (by decide) ?_
    rw [v, if_pos rfl]
    refine jo_c (qMr_pass hi a2) (fun q hq => ?_)
    rw [e17, jsb, if_pos rfl, jsb]
    exact jo_c (plain 5 q (Or.inl rfl) (by omega) hq) (fun r hr => hr)
  · refine fin 6 _ u (by decide) ?_
    rw [v, if_neg (by decide), e20, jsb, if_pos rfl]
    refine jo_c (qMr_pass hi a2) (fun q hq => ?_)
    rw [e17, jsb, if_neg (by decide), jsb]
    exact jo_c (plain 6 q (Or.inr rfl) (by omega) hq) (fun r hr => hr)
  · exact absurd u h7
theorem sl_217w {M : jm} {f : Nat → Int} {n o k x : Nat} {c : kC} {L : List wE} {full : Bool} (ho : o ≤ 6) (hf : full = decide (6 ≤ o)) (H : qMr f n c o M (Sum.inr k) L) (hx : k + x ≤ n) : jo (jf_217 (x : Int) M) (fun r => qMr f n c (o + 1) r (qOp full k x) L) := by
  have h6 := H.1.1.1.1
  have h4 := H.1.1.2.2.2
  obtain ⟨h7, hl⟩ := H.2.2.2 k rfl
  unfold jf_217 qOp
  rw [kMz_g H.1, kOkz_r, jsb, if_neg Int.one_ne_zero, h7]
  cases full with
  | true =>
    have ho6 : o = 6 := by have := of_decide_eq_true hf.symm; omega
    obtain ⟨s1, s2, s3⟩ := sl_203g (kd := 3) (p := k) H.1 (by omega) (jg_c rfl)
    rw [if_pos (show (o : Int) = 6 by omega), h4, s1, jsb, jsb, kMz_g s2, kOkz_l, jsb, if_pos rfl, jsb, jle_eq, if_pos rfl]
    have F : jfr true (fun a b => kW56 a b ∨ (a = 67 ∧ b = 7)) M (js (js (js M 67 5 k) 67 6 3) 67 7 (jw (ja (js (js M 67 5 k) 67 6 3) 67 7 + 1))) := jfr_js (jfr_t jfr_r s3 (fun e => e) (fun a b h => Or.inl h)) (Or.inr ⟨rfl, rfl⟩)
    exact ⟨kMz_js s2 (by omega), kCx_fr H.2.1 F (fun a b h => by unfold kW56 at h; omega), fun u hu => by rw [ja_fr F (by unfold kW56; omega)]; exact H.2.2.1 u hu, fun i hi => by cases hi⟩
  | false =>
    have ho6 : o < 6 := by have := of_decide_eq_false hf.symm; omega
    have e1 : jw (ja M 67 4 + (x : Int)) = ((k + x : Nat) : Int) := by rw [h4, jwi (by omega) (by omega)]; omega
    have g7 : ja (js M 67 4 ((k + x : Nat) : Int)) 67 7 = (o : Int) := by rw [ja_jsj (by decide)]; exact h7
    rw [if_neg (show ¬ (o : Int) = 6 by omega), jsb, kMz_g H.1, kOkz_r, jsb, if_neg Int.one_ne_zero, e1, jle_eq, jsb, g7, jle_eq, jwn (by omega), if_neg (by simp)]
    have F : jfr true (fun a b => a = 67 ∧ (b = 4 ∨ b = 7)) M (js (js M 67 4 ((k + x : Nat) : Int)) 67 7 ((o + 1 : Nat) : Int)) := jfr_js (jfr_js jfr_r ⟨rfl, Or.inl rfl⟩) ⟨rfl, Or.inr rfl⟩
    refine ⟨⟨kTm_js (kTm_mv H.1.1 hx) (by omega), by rw [ja_fr F (by omega)]; exact H.1.2⟩, kCx_fr H.2.1 F (fun a b h => by omega), fun u hu => by rw [ja_fr F (by omega)]; exact H.2.2.1 u hu, fun i hi => ⟨?_, ?_⟩⟩
    · rw [ja_js1, jwi (by omega) (by omega)]
    · cases hi; omega
theorem wRd_sk {f : Nat → Int} {n i : Nat} {c : kC} : ∀ D, wRd f n c D (kSkp f n i) = wRd f n c D i
  | 0 => by unfold wRd kU3; rw [kSkp_2, kLe_2]
  | D + 1 => by unfold wRd kU3; rw [kSkp_2, kLe_2]
