/-! FITS and LOOK, on. -/
def kCd (i : Nat) : Int := jw (jw (jw (10 * jdiv i 9) + jrem i 9) + 1)
theorem kCd_f : ∀ i : Fin 54, 0 < kCd i ∧ kCd i < 100 := by decide +kernel
theorem kCd_b {i : Nat} (h : i < 54) : 0 < kCd i ∧ kCd i < 100 := kCd_f ⟨i, h⟩
def kF1 (f : Nat → Bool) : Nat → Int
  | 0 => -1
  | i + 1 => if f i = true then (if kF1 f i = -1 then kCd i else kF1 f i) else kF1 f i
theorem kF1_s {f : Nat → Bool} {i : Nat} : kF1 f (i + 1) = if f i = true then (if kF1 f i = -1 then kCd i else kF1 f i) else kF1 f i := rfl
theorem kF1_no {f : Nat → Bool} : ∀ n, (∀ i, i < n → f i = false) → kF1 f n = -1
  | 0, _ => rfl
  | n + 1, h => by rw [kF1_s, h n (by omega), if_neg nft, kF1_no n (fun i hi => h i (by omega))]
theorem kF1_yes {f : Nat → Bool} {e : Nat} (h1 : f e = true) (h2 : ∀ i, i < e → f i = false) (he : e < 54) : ∀ n, e < n → kF1 f n = kCd e
  | 0, h => absurd h (Nat.not_lt_zero _)
  | n + 1, h => by
    have := kCd_b he
    rw [kF1_s]
    by_cases hn : e = n
    · subst hn
      rw [h1, if_pos (rfl : true = true), kF1_no e h2, if_pos rfl]
    · rw [kF1_yes h1 h2 he n (by omega)]
      split
      · rw [if_neg (by omega)]
      · rfl
theorem kF1_b {f : Nat → Bool} : ∀ n, n ≤ 54 → -1 ≤ kF1 f n ∧ kF1 f n < 100
  | 0, _ => ⟨Int.le_refl _, by show (-1 : Int) < 100; decide⟩
  | n + 1, h => by
    have := kF1_b (f := f) n (by omega)
    have := kCd_b (i := n) (by omega)
    rw [kF1_s]
    repeat' split
    all_goals omega
theorem kF1_lp {body : Int → Option (Int ⊕ Int)} {f : Nat → Bool} (hs : ∀ i : Nat, i < 54 → body (i : Int) = some (if f i = true then Sum.inr (kCd i) else Sum.inl ((i + 1 : Nat) : Int))) (he : body ((54 : Nat) : Int) = some (Sum.inr (-1))) : ∀ (k i F : Nat), i + k = 54 → k < F → (∀ j, j < i → f j = false) → jlp body F (i : Int) = some (kF1 f 54)
  | 0, i, F + 1, h, _, hf => by
    have : i = 54 := by omega
    subst this
    rw [jlp_dn he, kF1_no _ hf]
  | k + 1, i, F + 1, h, hF, hf => by
    have := hs i (by omega)
    cases hi : f i
    · rw [hi] at this
      rw [jlp_st this]
      exact kF1_lp hs he k (i + 1) F (by omega) (by omega) (fun j hj => by
        by_cases e : j = i
        · rw [e]; exact hi
        · exact hf j (by omega))
    · rw [hi] at this
      rw [jlp_dn this, kF1_yes hi hf (by omega) 54 (by omega)]
theorem sp_6 {m : jm} {f : Nat → Bool} (hf : ∀ i, i < 54 → ja m 35 i = b2i (f i)) : jf_6 m = some (kF1 f 54) := by
  unfold jf_6
  refine kF1_lp (f := f) (fun i hi => ?_) ?_ 54 0 jfu (by omega) (jfu_lt (by decide)) (fun j hj => absurd hj (Nat.not_lt_zero _))
  · rw [if_pos (show (i : Int) < 54 by omega), if_pos (show 0 ≤ (i : Int) ∧ (i : Int) < 54 by omega), Int.toNat_natCast, hf i hi, jwn (n := i) (by omega)]
    cases f i <;> rfl
  · rfl
/-- how many of each size, and the most of one -/
def kWs (f : Nat → Bool) (sz : Nat → Int) : Nat → Int × (Nat → Int)
  | 0 => (0, fun _ => 0)
  | i + 1 => if f i = true then ((if (kWs f sz i).1 < (kWs f sz i).2 (sz i).toNat + 1 then (kWs f sz i).2 (sz i).toNat + 1 else (kWs f sz i).1), fun j => if j = (sz i).toNat then (kWs f sz i).2 (sz i).toNat + 1 else (kWs f sz i).2 j) else kWs f sz i
theorem kWs_s {f : Nat → Bool} {sz : Nat → Int} {i : Nat} : kWs f sz (i + 1) = if f i = true then ((if (kWs f sz i).1 < (kWs f sz i).2 (sz i).toNat + 1 then (kWs f sz i).2 (sz i).toNat + 1 else (kWs f sz i).1), fun j => if j = (sz i).toNat then (kWs f sz i).2 (sz i).toNat + 1 else (kWs f sz i).2 j) else kWs f sz i := rfl
theorem kWs_b {f : Nat → Bool} {sz : Nat → Int} : ∀ i, (0 ≤ (kWs f sz i).1 ∧ (kWs f sz i).1 ≤ i) ∧ ∀ j, 0 ≤ (kWs f sz i).2 j ∧ (kWs f sz i).2 j ≤ i
  | 0 => ⟨⟨Int.le_refl _, Int.le_refl _⟩, fun _ => ⟨Int.le_refl _, Int.le_refl _⟩⟩
  | i + 1 => by
    obtain ⟨h1, h2⟩ := kWs_b (f := f) (sz := sz) i
    have h3 := h2 (sz i).toNat
    rw [kWs_s]
    split
    · refine ⟨?_, fun j => ?_⟩
      · dsimp only; split <;> omega
      · have := h2 j
        dsimp only; split <;> omega
    · exact ⟨by omega, fun j => by have := h2 j; omega⟩
theorem kWs_ext {f g : Nat → Bool} {sz : Nat → Int} : ∀ n, (∀ i, i < n → f i = g i) → kWs f sz n = kWs g sz n
  | 0, _ => rfl
  | n + 1, h => by rw [kWs_s, kWs_s, kWs_ext n (fun i hi => h i (by omega)), h n (by omega)]
theorem sl_8 {m : jm} {c : kC} {p : kP} {cl : List Int} {f : Nat → Bool} {w e : Nat} (H : kK 0 m c p cl) (hw : w < c 11 2) (he : e < c 11 1) (hf : ∀ i, i < 54 → ja m 35 i = b2i (f i)) : jo (jf_8 w e m) (fun r => r.1 = (kWs f (kSz c p cl w e) 54).1 ∧ jfr true jW_8 m r.2) := by
  refine jo_and ?_ jx_8
  unfold jf_8
  rw [sp_334, jsb]
  have hfl : jfr true jW_8 m (jfl m 36 0) := jfr_t jfr_r (jx_334 _ (sp_334 (a := 36) (x := 0) (m := m))) (fun e => e) (fun k j hk => Or.inl hk)
  refine jo_c (R := fun (r : Int × jm) => r.1 = (kWs f (kSz c p cl w e) 54).1) ?_ (fun r hr => hr)
  refine jo_for 54 jfu (fun i (s : Int × Int × jm) => s.2.1 = i ∧ s.1 = (kWs f (kSz c p cl w e) i).1 ∧ (∀ j, j < 100 → ja s.2.2 36 j = (kWs f (kSz c p cl w e) i).2 j) ∧ jfr true jW_8 m s.2.2) (jfu_lt (by decide)) ?_ ?_ _ ⟨rfl, rfl, fun j hj => ?_, hfl⟩
  · intro i hi s hs
    obtain ⟨wo, x, m'⟩ := s
    obtain ⟨h1, h2, h3, h4⟩ := hs
    dsimp only at h1 h2 h3 h4 ⊢
    subst h1 h2
    have e35 : ja m' 35 i = b2i (f i) := by rw [ja_fr h4 (by unfold jW_8; omega)]; exact hf i hi
    have H' := kK_fr H h4 (fun k j hk => by unfold jW_8 at hk; unfold kQK; omega)
    obtain ⟨b1, b2⟩ := kWs_b (f := f) (sz := kSz c p cl w e) i
    rw [if_pos (show (i : Int) < 54 by omega), if_pos (show 0 ≤ (i : Int) ∧ (i : Int) < 54 by omega), Int.toNat_natCast, e35, jwn (n := i) (by omega)]
    cases hfi : f i
    · rw [if_pos (show b2i false = 0 from rfl), jsb]
      refine ⟨rfl, ?_, ?_, h4⟩
      · rw [kWs_s, hfi, if_neg nft]
      · rw [kWs_s, hfi, if_neg nft]; exact h3
    · rw [if_neg (show ¬ b2i true = 0 by decide), jo_bind, jo_bind]
      refine jo_mono (sl_5 H' hw he hi) (fun r hr => ?_)
      obtain ⟨hr, hfr⟩ := hr
      have hsz := kSz_b (c := c) (p := p) (cl := cl) (w := w) (e := e) (i := i)
      have b3 := b2 (kSz c p cl w e i).toNat
      have e36 : ja r.2 36 (kSz c p cl w e i).toNat = (kWs f (kSz c p cl w e) i).2 (kSz c p cl w e i).toNat := by rw [ja_fr hfr (by unfold jW_5; omega)]; exact h3 _ (by omega)
      rw [hr, if_pos (show 0 ≤ kSz c p cl w e i ∧ kSz c p cl w e i < 100 by omega), if_pos (show 0 ≤ kSz c p cl w e i ∧ kSz c p cl w e i < 100 by omega), jle_eq, if_pos (show 0 ≤ kSz c p cl w e i ∧ kSz c p cl w e i < 100 by omega), e36, ja_js1, jwi (x := _ + 1) (by omega) (by omega), jwi (by omega) (by omega)]
      refine ⟨rfl, ?_, fun j hj => ?_, jfr_js (jfr_t h4 hfr (fun e => e) (fun k j hk => Or.inr hk)) (Or.inl rfl)⟩
      · rw [kWs_s, hfi, if_pos (rfl : true = true)]; rfl
      · show ja (js r.2 36 _ _) 36 j = _
        rw [ja_js, kWs_s, hfi, if_pos (rfl : true = true)]
        dsimp only
        by_cases hj2 : j = (kSz c p cl w e i).toNat
        · rw [if_pos ⟨rfl, hj2⟩, if_pos hj2, jwi (by omega) (by omega)]
        · rw [if_neg (fun e => hj2 e.2), if_neg hj2, ja_fr hfr (by unfold jW_5; omega)]; exact h3 j hj
  · intro s hs
    obtain ⟨wo, x, m'⟩ := s
    obtain ⟨h1, h2, h3, h4⟩ := hs
    dsimp only at h1 h2 h3 h4 ⊢
    rw [if_neg (by omega)]
    exact h2
  · show ja (jfl m 36 0) 36 j = 0
    unfold ja jfl
    dsimp only
    rw [if_pos ⟨rfl, hj⟩]; rfl
/-- the wire to look at, and how many are left at the worst -/
def kLk (bk : Nat → Int) (W : Nat → Int) : Nat → Int × Int
  | 0 => (-1, -1)
  | e + 1 => if bk e = -1 ∧ ((kLk bk W e).1 = -1 ∨ W e < (kLk bk W e).2) then ((e : Int), W e) else kLk bk W e
theorem kLk_s {bk W : Nat → Int} {e : Nat} : kLk bk W (e + 1) = if bk e = -1 ∧ ((kLk bk W e).1 = -1 ∨ W e < (kLk bk W e).2) then ((e : Int), W e) else kLk bk W e := rfl
theorem kLk_c {bk W : Nat → Int} : ∀ n, ((kLk bk W n).1 = -1 ∧ (kLk bk W n).2 = -1) ∨ ∃ e, e < n ∧ (kLk bk W n).1 = (e : Int) ∧ (kLk bk W n).2 = W e
  | 0 => Or.inl ⟨rfl, rfl⟩
  | n + 1 => by
    rw [kLk_s]
    by_cases h : bk n = -1 ∧ ((kLk bk W n).1 = -1 ∨ W n < (kLk bk W n).2)
    · rw [if_pos h]; exact Or.inr ⟨n, by omega, rfl, rfl⟩
    · rw [if_neg h]
      rcases kLk_c (bk := bk) (W := W) n with h | ⟨e, h1, h2⟩
      · exact Or.inl h
      · exact Or.inr ⟨e, by omega, h2⟩
theorem sl_7 {m : jm} {c : kC} {p : kP} {cl : List Int} {f : Nat → Bool} {bk : Nat → Int} {w : Nat} (H : kK 0 m c p cl) (hw : w < c 11 2) (hbk : ∀ e, e < c 11 1 → ja m 34 e = bk e) (hf : ∀ i, i < 54 → ja m 35 i = b2i (f i)) : jo (jf_7 w (c 11 1 : Nat) m) (fun r => r.1 = (kLk bk (fun e => (kWs f (kSz c p cl w e) 54).1) (c 11 1)).1 ∧ jfr true jW_7 m r.2) := by
  refine jo_and ?_ jx_7
  have hn := H.1.1
  unfold jf_7
  refine jo_c (R := fun (r : Int × jm) => r.1 = (kLk bk (fun e => (kWs f (kSz c p cl w e) 54).1) (c 11 1)).1) ?_ (fun r hr => hr)
  refine jo_for (c 11 1) jfu (fun e (s : Int × Int × Int × jm) => s.2.2.1 = e ∧ s.1 = (kLk bk (fun e => (kWs f (kSz c p cl w e) 54).1) e).1 ∧ s.2.1 = (if (kLk bk (fun e => (kWs f (kSz c p cl w e) 54).1) e).1 = -1 then 55 else (kLk bk (fun e => (kWs f (kSz c p cl w e) 54).1) e).2) ∧ jfr true jW_8 m s.2.2.2) (jfu_lt (by omega)) ?_ ?_ _ ⟨rfl, rfl, rfl, jfr_r⟩
  · intro e he s hs
    obtain ⟨best, bl, x, m'⟩ := s
    obtain ⟨h1, h2, h3, h4⟩ := hs
    dsimp only at h1 h2 h3 h4 ⊢
    subst h1 h2 h3
    have eb : ja m' 34 e = bk e := by rw [ja_fr h4 (by unfold jW_8; omega)]; exact hbk e he
    have H' := kK_fr H h4 (fun k j hk => by unfold jW_8 at hk; unfold kQK; omega)
    have hb := (kWs_b (f := f) (sz := kSz c p cl w e) 54).1
    rw [if_pos (show (e : Int) < (c 11 1 : Int) by omega), if_pos (show 0 ≤ (e : Int) ∧ (e : Int) < 12 by omega), Int.toNat_natCast, eb, jwn (n := e) (by omega)]
    by_cases hb1 : bk e = -1
    · rw [if_pos hb1, jo_bind, jo_bind]
      refine jo_mono (sl_8 (f := f) H' hw he (fun i hi => by rw [ja_fr h4 (by unfold jW_8; omega)]; exact hf i hi)) (fun r hr => ?_)
      obtain ⟨hr, hfr⟩ := hr
      have hfr2 := jfr_tr h4 hfr
      rw [hr]
      by_cases hk : (kLk bk (fun e => (kWs f (kSz c p cl w e) 54).1) e).1 = -1
      · rw [if_pos hk, if_pos (show (kWs f (kSz c p cl w e) 54).1 < 55 by omega)]
        have ek := kLk_s (bk := bk) (W := fun e => (kWs f (kSz c p cl w e) 54).1) (e := e)
        rw [if_pos ⟨hb1, Or.inl hk⟩] at ek
        rw [ek]
        exact ⟨rfl, rfl, by dsimp only; rw [if_neg (show ¬ (e : Int) = -1 by omega)], hfr2⟩
      · rw [if_neg hk]
        by_cases hl : (kWs f (kSz c p cl w e) 54).1 < (kLk bk (fun e => (kWs f (kSz c p cl w e) 54).1) e).2
        · rw [if_pos hl]
          have ek := kLk_s (bk := bk) (W := fun e => (kWs f (kSz c p cl w e) 54).1) (e := e)
          rw [if_pos ⟨hb1, Or.inr hl⟩] at ek
          rw [ek]
          exact ⟨rfl, rfl, by dsimp only; rw [if_neg (show ¬ (e : Int) = -1 by omega)], hfr2⟩
        · rw [if_neg hl]
          have ek := kLk_s (bk := bk) (W := fun e => (kWs f (kSz c p cl w e) 54).1) (e := e)
          rw [if_neg (fun h => h.2.elim hk hl)] at ek
          rw [ek]
          exact ⟨rfl, rfl, by dsimp only; rw [if_neg hk], hfr2⟩
    · rw [if_neg hb1, jsb]
      have ek := kLk_s (bk := bk) (W := fun e => (kWs f (kSz c p cl w e) 54).1) (e := e)
      rw [if_neg (fun h => hb1 h.1)] at ek
      rw [ek]
      exact ⟨rfl, rfl, rfl, h4⟩
  · intro s hs
    obtain ⟨best, bl, x, m'⟩ := s
    obtain ⟨h1, h2, h3, h4⟩ := hs
    dsimp only at h1 h2 h3 h4 ⊢
    rw [if_neg (by omega)]
    exact h2
