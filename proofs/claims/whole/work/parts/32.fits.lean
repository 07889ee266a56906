/-! FITS and LOOK. -/
def kSz (c : kC) (p : kP) (cl : List Int) (w e i : Nat) : Int := if kLn c p cl w e 0 (p 8 1) (((i % 9 + 1 : Nat) : Int), ((i / 9 : Nat) : Int), 1) < 0 then -kLn c p cl w e 0 (p 8 1) (((i % 9 + 1 : Nat) : Int), ((i / 9 : Nat) : Int), 1) else kLn c p cl w e 0 (p 8 1) (((i % 9 + 1 : Nat) : Int), ((i / 9 : Nat) : Int), 1)
theorem kSz_b {c : kC} {p : kP} {cl : List Int} {w e i : Nat} : 0 ≤ kSz c p cl w e i ∧ kSz c p cl w e i ≤ 99 := by
  have := kLean_b (cl := cl) (v := kV9 (p 0 e) (kRise c e 0) ((i % 9 + 1 : Nat) : Int) ((i / 9 : Nat) : Int) 1 (p 1 e) (p 8 1) (p 3 w) (p 8 0))
  unfold kSz kLn
  dsimp only
  split <;> omega
def kFt (c : kC) (p : kP) (cl : List Int) (bk : Nat → Int) (w i : Nat) : Nat → Bool
  | 0 => true
  | e + 1 => kFt c p cl bk w i e && decide (bk e = -1 ∨ kSz c p cl w e i = bk e)
theorem kFt_s {c : kC} {p : kP} {cl : List Int} {bk : Nat → Int} {w i e : Nat} : kFt c p cl bk w i (e + 1) = (kFt c p cl bk w i e && decide (bk e = -1 ∨ kSz c p cl w e i = bk e)) := rfl
theorem kFt_cut {c : kC} {p : kP} {cl : List Int} {bk : Nat → Int} {w i n : Nat} : ∀ k, (∀ e, n ≤ e → e < n + k → bk e = -1) → kFt c p cl bk w i (n + k) = kFt c p cl bk w i n
  | 0, _ => rfl
  | k + 1, h => by
    show kFt c p cl bk w i (n + k + 1) = _
    rw [kFt_s, kFt_cut k (fun e h1 h2 => h e h1 (by omega)), h (n + k) (by omega) (by omega)]; simp
def b2i (b : Bool) : Int := if b = true then 1 else 0
theorem b2i_w {b : Bool} : jw (b2i b) = b2i b := by cases b <;> rfl
theorem b2i_0 {b : Bool} : b2i b = 0 ↔ b = false := by cases b <;> decide
theorem sl_5 {m : jm} {c : kC} {p : kP} {cl : List Int} {w e i : Nat} (H : kK 0 m c p cl) (hw : w < c 11 2) (he : e < c 11 1) (hi : i < 54) : jo (jf_5 w e i m) (fun r => r.1 = kSz c p cl w e i ∧ jfr true jW_5 m r.2) := by
  refine jo_and ?_ jx_5
  unfold jf_5
  have e1 : jdiv (i : Int) 9 = ((i / 9 : Nat) : Int) := jdiv_n (b := 9) (by omega) (by omega)
  have e2 : jrem (i : Int) 9 = ((i % 9 : Nat) : Int) := jrem_n (b := 9) (by omega) (by omega)
  rw [e1, e2, jwn (by omega), jo_bind]
  refine jo_mono (sl_94 H hw he ⟨by omega, by omega⟩ ⟨by omega, by omega⟩) (fun r hr => ?_)
  show jabs r.1 = _
  rw [hr.1]; exact jabs_b kLean_b
theorem sl_282 {m : jm} {c : kC} {p : kP} {cl : List Int} {w e i : Nat} (H : kM m c p cl) (hw : w < c 11 2) (he : e < c 11 1) (hi : i < 54) : jo (jf_282 w e i m) (fun r => r.1 = kSz c p cl w e i ∧ jfr true jW_282 m r.2) := by
  refine jo_and ?_ jx_282
  unfold jf_282
  have e1 : jdiv (i : Int) 9 = ((i / 9 : Nat) : Int) := jdiv_n (b := 9) (by omega) (by omega)
  have e2 : jrem (i : Int) 9 = ((i % 9 : Nat) : Int) := jrem_n (b := 9) (by omega) (by omega)
  have e3 : jf_272 ((i / 9 : Nat) : Int) ((i % 9 + 1 : Nat) : Int) m = some (js (js (js m 67 47 ((i % 9 + 1 : Nat) : Int)) 67 48 ((i / 9 : Nat) : Int)) 67 49 1) := by
    unfold jf_272
    rw [jle_eq, jle_eq, if_pos (by omega)]; rfl
  rw [e1, e2, jwn (by omega), e3, jsb, if_pos (by decide)]
  have H' : kM (js (js (js m 67 47 ((i % 9 + 1 : Nat) : Int)) 67 48 ((i / 9 : Nat) : Int)) 67 49 1) c p cl := kM_js (kM_js (kM_js H (by unfold kQM; omega)) (by unfold kQM; omega)) (by unfold kQM; omega)
  have g8 : jg (p 8 1) := by rw [← kM_fg H]; exact jg_a
  rw [show ja (js (js (js m 67 47 ((i % 9 + 1 : Nat) : Int)) 67 48 ((i / 9 : Nat) : Int)) 67 49 1) 89 (67 : Int).toNat = p 8 1 from kM_fg H', jo_bind]
  refine jo_mono (sl_237 H' hw he g8) (fun r hr => ?_)
  have a1 : ja (js (js (js m 67 47 ((i % 9 + 1 : Nat) : Int)) 67 48 ((i / 9 : Nat) : Int)) 67 49 1) 67 47 = ((i % 9 + 1 : Nat) : Int) := by
    rw [ja_jsj (by decide), ja_jsj (by decide), ja_js1, jw_nat (by omega)]
  have a2 : ja (js (js (js m 67 47 ((i % 9 + 1 : Nat) : Int)) 67 48 ((i / 9 : Nat) : Int)) 67 49 1) 67 48 = ((i / 9 : Nat) : Int) := by
    rw [ja_jsj (by decide), ja_js1, jw_nat (by omega)]
  have a3 : ja (js (js (js m 67 47 ((i % 9 + 1 : Nat) : Int)) 67 48 ((i / 9 : Nat) : Int)) 67 49 1) 67 49 = 1 := by
    rw [ja_js1]; rfl
  rw [a1, a2, a3] at hr
  have hb : -99 ≤ r.1 ∧ r.1 ≤ 99 := by rw [hr.1]; exact kLean_b
  have e4 : jf_242 r.1 r.2 = some (if r.1 < 0 then -r.1 else r.1) := by
    unfold jf_242
    by_cases h : r.1 < 0
    · rw [if_pos h, if_pos h, jwi (by omega) (by omega)]; rfl
    · rw [if_neg h, if_neg h]; rfl
  rw [e4]
  show (if r.1 < 0 then -r.1 else r.1) = _
  rw [hr.1]; rfl
theorem ja_fr {b : Bool} {W : Nat → Nat → Prop} {m m' : jm} {k j : Nat} (h : jfr b W m m') (hn : ¬ W k j) : ja m' k j = ja m k j := by unfold ja; rw [h.1 k j hn]
theorem kCnt_le {S : Nat → Bool} : ∀ n, kCnt S n ≤ n
  | 0 => Nat.le_refl _
  | n + 1 => by
    have := kCnt_le (S := S) n
    rw [kCnt_s]; split <;> omega
/-- the class: fits found -/
theorem sl_4 {m : jm} {c : kC} {p : kP} {cl : List Int} {bk : Nat → Int} {w : Nat} (H : kK 0 m c p cl) (hw : w < c 11 2) (hbk : ∀ e, e < 12 → ja m 34 e = bk e ∧ (c 11 1 ≤ e → bk e = -1)) : jo (jf_4 w m) (fun r => (∀ i, i < 54 → ja r 35 i = b2i (kFt c p cl bk w i (c 11 1))) ∧ ja r 33 3 = ((kCnt (fun i => kFt c p cl bk w i (c 11 1)) 54 : Nat) : Int) ∧ jfr true jW_4 m r) := by
  have hn := H.1.1
  have hcut : ∀ i, kFt c p cl bk w i 12 = kFt c p cl bk w i (c 11 1) := fun i => by
    have := kFt_cut (c := c) (p := p) (cl := cl) (bk := bk) (w := w) (i := i) (n := c 11 1) (12 - c 11 1) (fun e h1 h2 => (hbk e (by omega)).2 h1)
    rw [show c 11 1 + (12 - c 11 1) = 12 by omega] at this; exact this
  suffices hh : jo (jf_4 w m) (fun r => (∀ i, i < 54 → ja r 35 i = b2i (kFt c p cl bk w i 12)) ∧ ja r 33 3 = ((kCnt (fun i => kFt c p cl bk w i 12) 54 : Nat) : Int) ∧ jfr true jW_4 m r) by
    refine jo_mono hh (fun r hr => ⟨fun i hi => by rw [← hcut]; exact hr.1 i hi, ?_, hr.2.2⟩)
    rw [hr.2.1, kCnt_ext 54 (fun i _ => hcut i)]
  unfold jf_4
  rw [jle_eq]
  refine jo_c (R := fun r => (∀ i, i < 54 → ja r 35 i = b2i (kFt c p cl bk w i 12)) ∧ ja r 33 3 = ((kCnt (fun i => kFt c p cl bk w i 12) 54 : Nat) : Int) ∧ jfr true jW_4 m r) ?_ (fun r hr => hr)
  refine jo_for 54 jfu (fun i (s : Int × jm) => s.1 = i ∧ (∀ k, k < i → ja s.2 35 k = b2i (kFt c p cl bk w k 12)) ∧ ja s.2 33 3 = ((kCnt (fun i => kFt c p cl bk w i 12) i : Nat) : Int) ∧ jfr true jW_4 m s.2) (jfu_lt (by decide)) ?_ ?_ _ ⟨rfl, fun k hk => absurd hk (Nat.not_lt_zero _), by show ja (js m 33 3 0) 33 3 = 0; rw [ja_js1]; rfl, jfr_js jfr_r (Or.inl ⟨rfl, rfl⟩)⟩
  · intro i hi s hs
    obtain ⟨x, m'⟩ := s
    obtain ⟨h1, h2, h3, h4⟩ := hs
    dsimp only at h1 h2 h3 h4 ⊢
    subst h1
    rw [if_pos (show (i : Int) < 54 by omega), if_pos (show 0 ≤ (i : Int) ∧ (i : Int) < 54 by omega), jle_eq, Int.toNat_natCast]
    refine jo_c (R := fun r => ja r 35 i = b2i (kFt c p cl bk w i 12) ∧ jfr true (fun k j => (k = 35 ∧ j = i) ∨ k = 49 ∨ k = 29) m' r) ?_ (fun r hr => ?_)
    · refine jo_for 12 jfu (fun e (s : Int × jm) => s.1 = e ∧ ja s.2 35 i = b2i (kFt c p cl bk w i e) ∧ jfr true (fun k j => (k = 35 ∧ j = i) ∨ k = 49 ∨ k = 29) m' s.2) (jfu_lt (by decide)) ?_ ?_ _ ⟨rfl, by show ja (js m' 35 i 1) 35 i = 1; rw [ja_js1]; rfl, jfr_js jfr_r (Or.inl ⟨rfl, rfl⟩)⟩
      · intro e he s hs
        obtain ⟨y, m2⟩ := s
        obtain ⟨g1, g2, g3⟩ := hs
        dsimp only at g1 g2 g3 ⊢
        subst g1
        have eb : ja m2 34 e = bk e := by rw [ja_fr g3 (by omega), ja_fr h4 (by unfold jW_4; omega)]; exact (hbk e he).1
        rw [if_pos (show (e : Int) < 12 by omega), if_pos (show 0 ≤ (e : Int) ∧ (e : Int) < 12 by omega), Int.toNat_natCast, eb, jwn (by omega)]
        by_cases hb : bk e = -1
        · rw [if_pos hb, jsb]
          refine ⟨rfl, ?_, g3⟩
          show ja m2 35 i = _
          rw [g2, kFt_s, hb]; simp
        · have he2 : e < c 11 1 := by
            by_cases h : e < c 11 1
            · exact h
            · exact absurd ((hbk e he).2 (by omega)) hb
          have H2 : kK 0 m2 c p cl := kK_fr (kK_fr H h4 (fun k j hk => by unfold jW_4 at hk; unfold kQK; omega)) g3 (fun k j hk => by unfold kQK; omega)
          rw [if_neg hb, if_pos (show 0 ≤ (e : Int) ∧ (e : Int) < 12 by omega), jo_bind, jo_bind]
          refine jo_mono (sl_5 H2 hw he2 hi) (fun r hr => ?_)
          obtain ⟨hr, hf⟩ := hr
          have hfr : jfr true (fun k j => (k = 35 ∧ j = i) ∨ k = 49 ∨ k = 29) m' r.2 := jfr_t g3 hf (fun e => e) (fun k j hk => Or.inr hk)
          rw [hr]
          by_cases hs : bk e = kSz c p cl w e i
          · rw [if_pos hs]
            refine ⟨rfl, ?_, hfr⟩
            show ja r.2 35 i = _
            rw [ja_fr hf (by unfold jW_5; omega), g2, kFt_s, hs]; simp
          · rw [if_neg hs, if_pos (show 0 ≤ (i : Int) ∧ (i : Int) < 54 by omega), jle_eq]
            refine ⟨rfl, ?_, jfr_js hfr (Or.inl ⟨rfl, rfl⟩)⟩
            show ja (js r.2 35 i 0) 35 i = _
            rw [ja_js1, kFt_s, decide_eq_false (fun e => e.elim hb (fun e => hs e.symm)), Bool.and_false]; rfl
      · intro s hs
        obtain ⟨y, m2⟩ := s
        obtain ⟨g1, g2, g3⟩ := hs
        dsimp only at g1 g2 g3 ⊢
        rw [if_neg (by omega)]
        exact ⟨g2, g3⟩
    · obtain ⟨g2, g3⟩ := hr
      have hf : jfr true jW_4 m r := jfr_t h4 g3 (fun e => e) (fun k j hk => by unfold jW_4; omega)
      have hc := kCnt_s (S := fun i => kFt c p cl bk w i 12) (n := i)
      have hle : kCnt (fun i => kFt c p cl bk w i 12) i ≤ i := kCnt_le _
      rw [if_pos (show 0 ≤ (i : Int) ∧ (i : Int) < 54 by omega), g2, ja_fr g3 (by omega), h3, jwn (by omega)]
      have er : (if b2i (kFt c p cl bk w i 12) = 0 then some (0 : Int) else some 1) = some (b2i (kFt c p cl bk w i 12)) := by
        cases kFt c p cl bk w i 12 <;> rfl
      rw [er, jsb, jle_eq]
      refine ⟨rfl, fun k hk => ?_, ?_, jfr_js hf (Or.inl ⟨rfl, rfl⟩)⟩
      · show ja (js r 33 3 _) 35 k = _
        rw [ja_jsk (by decide)]
        by_cases e : k = i
        · subst e; exact g2
        · rw [ja_fr g3 (by omega)]; exact h2 k (by omega)
      · show ja (js r 33 3 _) 33 3 = _
        rw [ja_js1, hc]
        cases hk : kFt c p cl bk w i 12
        · show jw (jw (_ + 0)) = _
          rw [Int.add_zero, jw_w, jw_nat (by omega)]; rfl
        · show jw (jw (_ + 1)) = _
          rw [jw_w, jwn (by omega)]; rfl
  · intro s hs
    obtain ⟨x, m'⟩ := s
    obtain ⟨h1, h2, h3, h4⟩ := hs
    dsimp only at h1 h2 h3 h4 ⊢
    rw [if_neg (by omega)]
    exact ⟨h2, h3, h4⟩
/-- the model: pairs found -/
theorem sl_281 {M : jm} {c : kC} {p : kP} {cl : List Int} {bk : Nat → Int} {w : Nat} (H : kM (kT0 M) c p cl) (hw : w < c 11 2) (hbk : ∀ e, e < 12 → ja M 92 e = bk e ∧ (c 11 1 ≤ e → bk e = -1)) : jo (jf_281 w M) (fun r => (∀ i, i < 54 → ja r 95 i = b2i (kFt c p cl bk w i (c 11 1))) ∧ jfr true jW_281 M r) := by
  refine jo_and ?_ jx_281
  have hn := H.1.1
  unfold jf_281
  rw [sp_226, jsb]
  refine jo_c (R := fun r => ∀ i, i < 54 → ja r 95 i = b2i (kFt c p cl bk w i (c 11 1))) ?_ (fun r hr => hr)
  refine jo_for 54 jfu (fun i (s : Int × jm) => s.1 = i ∧ (∀ k, k < i → ja s.2 95 k = b2i (kFt c p cl bk w k (c 11 1))) ∧ jfr true (fun k j => k = 95 ∨ jW_282 k j) (kT0 M) s.2) (jfu_lt (by decide)) ?_ ?_ _ ⟨rfl, fun k hk => absurd hk (Nat.not_lt_zero _), jfr_r⟩
  · intro i hi s hs
    obtain ⟨x, m'⟩ := s
    obtain ⟨h1, h2, h4⟩ := hs
    dsimp only at h1 h2 h4 ⊢
    subst h1
    rw [if_pos (show (i : Int) < 54 by omega), if_pos (show 0 ≤ (i : Int) ∧ (i : Int) < 54 by omega), jle_eq, Int.toNat_natCast]
    refine jo_c (R := fun r => ja r 95 i = b2i (kFt c p cl bk w i (c 11 1)) ∧ jfr true (fun k j => (k = 95 ∧ j = i) ∨ jW_282 k j) m' r) ?_ (fun r hr => ?_)
    · refine jo_for (c 11 1) jfu (fun e (s : Int × jm) => s.1 = e ∧ ja s.2 95 i = b2i (kFt c p cl bk w i e) ∧ jfr true (fun k j => (k = 95 ∧ j = i) ∨ jW_282 k j) m' s.2) (jfu_lt (by omega)) ?_ ?_ _ ⟨rfl, by show ja (js m' 95 i 1) 95 i = 1; rw [ja_js1]; rfl, jfr_js jfr_r (Or.inl ⟨rfl, rfl⟩)⟩
      · intro e he s hs
        obtain ⟨y, m2⟩ := s
        obtain ⟨g1, g2, g3⟩ := hs
        dsimp only at g1 g2 g3 ⊢
        subst g1
        have H2 : kM m2 c p cl := kM_fr (kM_fr H h4 (fun k j hk => by unfold jW_282 at hk; unfold kQM; omega)) g3 (fun k j hk => by unfold jW_282 at hk; unfold kQM; omega)
        have eb : ja m2 92 e = bk e := by rw [ja_fr g3 (by unfold jW_282; omega), ja_fr h4 (by unfold jW_282; omega), ja_T0 (by decide)]; exact (hbk e (by omega)).1
        have n1 : ja m2 67 25 = (c 11 1 : Int) := kM_n H2 (i := 1) (by decide)
        rw [n1, if_pos (show (e : Int) < (c 11 1 : Int) by omega), if_pos (show 0 ≤ (i : Int) ∧ (i : Int) < 54 by omega), Int.toNat_natCast, eb, g2, jwn (by omega)]
        have fin : ∀ (r : Int × jm), r.1 = b2i (kFt c p cl bk w i (e + 1)) → jfr true (fun k j => (k = 95 ∧ j = i) ∨ jW_282 k j) m' r.2 → jo (if 0 ≤ (i : Int) ∧ (i : Int) < 54 then jle (js r.2 95 i r.1) fun m32 => some (Sum.inl (((e + 1 : Nat) : Int), m32)) else none) (jcase (fun (s : Int × jm) => s.1 = ((e + 1 : Nat) : Int) ∧ ja s.2 95 i = b2i (kFt c p cl bk w i (e + 1)) ∧ jfr true (fun k j => (k = 95 ∧ j = i) ∨ jW_282 k j) m' s.2) (fun r => ja r 95 i = b2i (kFt c p cl bk w i (c 11 1)) ∧ jfr true (fun k j => (k = 95 ∧ j = i) ∨ jW_282 k j) m' r)) := fun r h1 h2 => by
          rw [if_pos (show 0 ≤ (i : Int) ∧ (i : Int) < 54 by omega), jle_eq]
          refine ⟨rfl, ?_, jfr_js h2 (Or.inl ⟨rfl, rfl⟩)⟩
          show ja (js r.2 95 i r.1) 95 i = _
          rw [ja_js1, h1, b2i_w]
        cases hk : kFt c p cl bk w i e
        · rw [if_pos (show b2i false = 0 from rfl), jsb]
          exact fin (0, m2) (by rw [kFt_s, hk]; rfl) g3
        · rw [if_neg (show ¬ b2i true = 0 by decide), if_pos (show 0 ≤ (e : Int) ∧ (e : Int) < 12 by omega)]
          by_cases hb : bk e = -1
          · rw [if_pos hb, jsb]
            exact fin (1, m2) (by rw [kFt_s, hk, hb]; simp [b2i]) g3
          · rw [if_neg hb, jo_bind, jo_bind]
            refine jo_mono (sl_282 H2 hw he hi) (fun r hr => ?_)
            obtain ⟨hr, hf⟩ := hr
            have hfr : jfr true (fun k j => (k = 95 ∧ j = i) ∨ jW_282 k j) m' r.2 := jfr_t g3 hf (fun e => e) (fun k j hk => Or.inr hk)
            have eb2 : ja r.2 92 e = bk e := by rw [ja_fr hf (by unfold jW_282; omega)]; exact eb
            rw [if_pos (show 0 ≤ (e : Int) ∧ (e : Int) < 12 by omega), hr, eb2]
            by_cases hs : kSz c p cl w e i = bk e
            · rw [if_pos hs]
              exact fin (1, r.2) (by rw [kFt_s, hk, hs]; simp [b2i]) hfr
            · rw [if_neg hs]
              exact fin (0, r.2) (by rw [kFt_s, decide_eq_false (fun e => e.elim hb hs), Bool.and_false]; rfl) hfr
      · intro s hs
        obtain ⟨y, m2⟩ := s
        obtain ⟨g1, g2, g3⟩ := hs
        dsimp only at g1 g2 g3 ⊢
        have n1 : ja m2 67 25 = (c 11 1 : Int) := by rw [ja_fr g3 (by unfold jW_282; omega), ja_fr h4 (by unfold jW_282; omega)]; exact kM_n H (i := 1) (by decide)
        rw [n1, if_neg (by omega)]
        exact ⟨g2, g3⟩
    · obtain ⟨g2, g3⟩ := hr
      rw [jwn (by omega)]
      refine ⟨rfl, fun k hk => ?_, jfr_t h4 g3 (fun e => e) (fun k j hk => hk.elim (fun h => Or.inl h.1) Or.inr)⟩
      show ja r 95 k = _
      by_cases e : k = i
      · subst e; exact g2
      · rw [ja_fr g3 (by unfold jW_282; omega)]; exact h2 k (by omega)
  · intro s hs
    obtain ⟨x, m'⟩ := s
    obtain ⟨h1, h2, h4⟩ := hs
    dsimp only at h1 h2 h4 ⊢
    rw [if_neg (by omega)]
    exact h2
