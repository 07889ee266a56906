/-! LAW: the operation. -/
noncomputable def kLz (f : Nat → Int) (n : Nat) : qLs := qSu f n (kUn f n 6) (Sum.inr 0, [])
noncomputable def kLres (f : Nat → Int) (n : Nat) : (Int × Nat) ⊕ List Int := match (kLz f n).1 with
  | Sum.inl e => Sum.inl e
  | Sum.inr j => if kSkp f n j < n then Sum.inl (1, kSkp f n j) else Sum.inr (kLz f n).2
theorem kLz_g {f : Nat → Int} {n : Nat} (hn : n ≤ 150) : qGr n 0 0 [] (kLz f n) := (qSu_gd (B := 0) (by omega) (kUn_gd (by omega) 6 0 rfl)).2 0 [] (by omega)
theorem kLres_w {f : Nat → Int} {n : Nat} {l : List Int} (hn : n ≤ 150) (h : kLres f n = Sum.inr l) : kWL l := by
  have g := kLz_g (f := f) hn
  unfold qGr at g
  unfold kLres at h
  cases hz : (kLz f n).1 with
  | inl e => rw [hz] at h; cases h
  | inr j =>
    rw [hz] at h g
    obtain ⟨a1, a2, a3, x, a4, a5⟩ := g
    dsimp only at h
    by_cases k : kSkp f n j < n
    · rw [if_pos k] at h; cases h
    · rw [if_neg k] at h
      cases h
      rw [List.nil_append] at a4
      have l0 : ([] : List Int).length = 0 := rfl
      refine ⟨by omega, fun s hs => ?_, ?_⟩
      · rw [a4] at hs; exact a5.1 s hs
      · have := a5.2 0 [] (Nat.le_refl _)
        rw [List.append_nil] at this
        rw [a4, this]; rfl
theorem sl_26 {m : jm} {f : Nat → Int} {n : Nat} (hn : n ≤ 150) (H : kTc m f n 0) : jo (jf_26 m) (fun r => (match kLres f n with
    | Sum.inl e => r.1 = 0 ∧ ja r.2 1 5 = e.1 ∧ ja r.2 1 6 = (e.2 : Int) ∧ e.2 ≤ 600
    | Sum.inr l => r.1 = 1 ∧ qCd r.2 l ∧ ja r.2 1 6 = ja m 1 6) ∧ jfr true jW_26 m r.2) := by
  refine jo_and ?_ jx_26
  unfold jf_26
  rw [jle_eq]
  have C0 : qCd (js m 30 1 0) [] := ⟨by rw [ja_js1]; exact wz0, fun t ht => absurd ht (Nat.not_lt_zero _)⟩
  have sp := sl_G (f := f) hn (js m 30 1 0) 0 [] (kTc_js H (by omega)) C0 (Nat.le_refl _)
  refine jo_c sp (fun p2 h2 => ?_)
  have h2' : kOl (js m 30 1 0) f n (kLz f n) p2 := h2
  unfold kOl at h2'
  unfold kLres
  cases hz : (kLz f n).1 with
  | inl e =>
    rw [hz] at h2'
    rw [h2'.1, if_pos rfl]
    exact ⟨rfl, h2'.2⟩
  | inr j =>
    rw [hz] at h2'
    obtain ⟨a1, a2, a3, a4⟩ := h2'
    have x4 : ja p2.2 1 6 = ja m 1 6 := by rw [a4, ja_jsk (by decide)]
    have h6 := a2.1.1
    rw [a1, if_neg Int.one_ne_zero]
    refine jo_c (sl_116 a2) (fun p3 h3 => ?_)
    obtain ⟨b1, b2, b3⟩ := h3
    have hs := b2.1.2.1
    dsimp only
    by_cases k : kSkp f n j < n
    · have hb := a2.1.2.2 _ k
      rw [b1, if_pos k, if_neg (by omega), b2.2.2.2, sp_120, jsb, if_pos rfl, jsb, if_pos k]
      refine ⟨rfl, ?_, ?_, by show kSkp f n j ≤ 600; omega⟩
      · show ja (js (js p3.2 1 5 1) 1 6 _) 1 5 = 1
        rw [ja_jsj (by decide), ja_js1]; exact jwi (by decide) (by decide)
      · show ja (js (js p3.2 1 5 1) 1 6 _) 1 6 = (kSkp f n j : Int)
        rw [ja_js1, jwi (by omega) (by omega)]
    · rw [b1, if_neg k, if_pos rfl, jsb, if_neg k]
      exact ⟨rfl, qCd_fr a3 b3 (fun a b h => by unfold jW_116 at h; omega), by show ja p3.2 1 6 = _; rw [ja_fr b3 (by unfold jW_116; omega)]; exact x4⟩
/-- where the model's reader of a law writes -/
def kWlm (k j : Nat) : Prop := (k = 67 ∧ (j ≤ 8 ∨ j = 33 ∨ j = 34)) ∨ (80 ≤ k ∧ k ≤ 83)
theorem sl_213 {m : jm} {f : Nat → Int} {X L : Nat} (hL : ja m 67 2 = (L : Int)) (hX : X ≤ L) (hX1 : X ≤ 150) (hf : ∀ j, j < X → ja m 69 j = f j ∧ 0 ≤ f j ∧ f j ≤ 255) : jo (jf_213 X m) (fun b => (match kLres f X with
    | Sum.inl e => b.1 = jw (e.1 - 10) ∧ ja b.2 67 8 = (e.2 : Int) ∧ (∀ k j, (k = 67 ∧ j = 34) ∨ k = 82 ∨ k = 83 → ja b.2 k j = ja m k j)
    | Sum.inr l => b.1 = 1 ∧ ja b.2 67 8 = -1 ∧ ja b.2 67 34 = (l.length : Int) ∧ ∀ t, t < l.length → 0 ≤ ja b.2 82 t ∧ ja b.2 82 t ≤ 7 ∧ (ja b.2 82 t = 0 → 0 ≤ ja b.2 83 t ∧ ja b.2 83 t ≤ 999) ∧ (ja b.2 82 t = 1 → 0 ≤ ja b.2 83 t ∧ ja b.2 83 t ≤ 8) ∧ kEn (ja b.2 82 t) (ja b.2 83 t) = l.getD t 0) ∧ ja b.2 67 2 = 0 ∧ ja b.2 67 0 = 0 ∧ jfr true kWlm m b.2) := by
  have hm : ∀ j, j < X → ja (js m 67 0 0) 69 j = f j ∧ 0 ≤ f j ∧ f j ≤ 255 := fun j hj => by rw [ja_jsk (by decide)]; exact hf j hj
  obtain ⟨T1, T2, T3, T4, -⟩ := kOm_T (m := js m 67 0 0) (f := f) (X := X) (by omega) hm
  have F1 : jfr true kWom (js m 67 0 0) (kOm (js m 67 0 0) X) := kOm_fr
  have FA : jfr true kWlm m (js (kOm (js m 67 0 0) X) 67 33 0) := jfr_js (jfr_t (jfr_js jfr_r (by unfold kWlm; omega)) F1 (fun e => e) (fun k j h => by unfold kWom at h; unfold kWlm; omega)) (by unfold kWlm; omega)
  have a2 : ja (js (kOm (js m 67 0 0) X) 67 33 0) 67 2 = 0 := by rw [ja_jsj (by decide)]; exact T2
  have a0 : ja (js (kOm (js m 67 0 0) X) 67 33 0) 67 0 = 0 := by rw [ja_jsj (by decide), ja_fr F1 (by unfold kWom; omega)]; exact th0
  have aC : ∀ k j, (k = 67 ∧ j = 34) ∨ k = 82 ∨ k = 83 → ja (js (kOm (js m 67 0 0) X) 67 33 0) k j = ja m k j := fun k j h => by rw [ja_js, if_neg (by omega), ja_fr F1 (by unfold kWom; omega), ja_js, if_neg (by omega)]
  have H0 : kMl (js (kOm (js m 67 0 0) X) 67 33 0) f X 0 (Sum.inr 0, []) := ⟨kMz_js ⟨T1, T3⟩ (by omega), ⟨by rw [ja_js1]; exact wz0, fun t ht => absurd ht (Nat.not_lt_zero _)⟩, fun i hi => ⟨by rw [ja_jsj (by decide)]; exact T4, Nat.zero_le _⟩⟩
  unfold jf_213
  rw [jle_eq, ja_jsj (show (2 : Nat) ≠ 0 by decide), hL, if_neg (show ¬ (X : Int) < 0 by omega), if_neg (show ¬ (L : Int) < (X : Int) by omega), if_neg (show ¬ 150 < (X : Int) by omega), jsb, mk_A th0 (jg_c rfl) (by decide) Int.one_ne_zero]
  dsimp only
  rw [sp_195, jsb, jle_eq]
  generalize js (kOm (js m 67 0 0) X) 67 33 0 = M0 at *
  refine jo_c (jo_and (sl_GB (f := f) hX1 M0 _ H0) jxG_B) (fun p17 h17 => ?_)
  obtain ⟨H17, F17⟩ := h17
  have F17' : jfr true kWlm m p17 := jfr_t FA F17 (fun e => e) (fun k j h => by unfold jWG_B at h; unfold kWlm; omega)
  have H17' : kMl p17 f X 0 (kLz f X) := H17
  have t19 : ∀ (P : Int × jm → Prop) (F : jm → Option (Int × jm)), (∀ t, (match kLres f X with
      | Sum.inl e => kMz t f X (Sum.inl e)
      | Sum.inr l => ja t 67 5 = -1 ∧ kCe t l) → jfr true (fun k j => kW56 k j ∨ jW_198 k j) p17 t → jo (F t) P) → jo ((Option.bind (α := Int) (jf_196 p17) fun p18 => Option.bind (α := jm) (if p18 = 0 then some (p17) else Option.bind (α := Int × jm) (jf_197 p17) fun p21 => if p21.1 = 0 then some (p21.2) else Option.bind (α := jm) (jf_203 (1 : Int) (ja p21.2 67 4) p21.2) fun p22 => some (p22)) F)) P := fun P F hF => by
    rw [kMz_g H17'.1, jsb]
    unfold kLres at hF
    cases hz : (kLz f X).1 with
    | inl e =>
      rw [hz] at hF
      have h1 := H17'.1
      rw [hz] at h1
      rw [kOkz_l, if_pos rfl, jsb]
      exact hF p17 h1 jfr_r
    | inr j =>
      rw [hz] at hF
      have h1 := H17'.1
      rw [hz] at h1
      dsimp only at hF
      have hs := kSkp_le (f := f) h1.1.1.2.1
      rw [kOkz_r, if_neg Int.one_ne_zero, jo_bind]
      refine jo_c (sl_197 h1.1) (fun p21 h21 => ?_)
      obtain ⟨b1, b2, b3⟩ := h21
      have F21 : jfr true (fun k j => kW56 k j ∨ jW_198 k j) p17 p21.2 := jfr_t jfr_r b3 (fun e => e) (fun k j h => Or.inr h)
      have g5 : ja p21.2 67 5 = -1 := by rw [ja_fr b3 (by unfold jW_198; omega)]; exact h1.2
      by_cases k : kSkp f X j < X
      · rw [if_pos k] at hF
        obtain ⟨s1, s2, s3⟩ := sl_203g (f := f) (n := X) (kd := 1) (p := kSkp f X j) (m := p21.2) ⟨b2, g5⟩ (by omega) (jg_c rfl)
        rw [b1, if_pos k, if_neg Int.one_ne_zero, b2.2.2.2, s1, jsb]
        exact hF _ s2 (jfr_t F21 s3 (fun e => e) (fun k j h => Or.inl h))
      · rw [if_neg k] at hF
        rw [b1, if_neg k, if_pos rfl]
        exact hF _ ⟨g5, kCe_fr H17'.2.1 b3 (fun k j h => by unfold jW_198 at h; omega)⟩ F21
  refine t19 _ _ (fun t ht Ft => ?_)
  have F19 : jfr true kWlm m t := jfr_t F17' Ft (fun e => e) (fun k j h => by unfold kW56 jW_198 at h; unfold kWlm; omega)
  have E19 : ∀ k j, ¬ jWG_B k j → ¬ (kW56 k j ∨ jW_198 k j) → ja t k j = ja M0 k j := fun k j h1 h2 => by rw [ja_fr Ft h2, ja_fr F17 h1]
  have t2 : ja t 67 2 = 0 := by rw [E19 _ _ (by unfold jWG_B; omega) (by unfold kW56 jW_198; omega)]; exact a2
  have t0 : ja t 67 0 = 0 := by rw [E19 _ _ (by unfold jWG_B; omega) (by unfold kW56 jW_198; omega)]; exact a0
  cases hr : kLres f X with
  | inl e =>
    rw [hr] at ht
    obtain ⟨-, h5, h7, h8⟩ := ht
    rw [sp_212n h5 h7 h8, jsb, show ja (js t 67 8 (e.2 : Int)) 67 5 = (e.2 : Int) by rw [ja_jsj (by decide)]; exact h5, if_neg (by omega)]
    refine ⟨⟨rfl, ?_, fun k j h => ?_⟩, ?_, ?_, jfr_js F19 (by unfold kWlm; omega)⟩
    · show ja (js t 67 8 (e.2 : Int)) 67 8 = _
      rw [ja_js1, jwi (by omega) (by omega)]
    · show ja (js t 67 8 (e.2 : Int)) k j = _
      rw [ja_js, if_neg (by omega), E19 k j (by unfold jWG_B; omega) (by unfold kW56 jW_198; omega)]; exact aC k j h
    · show ja (js t 67 8 (e.2 : Int)) 67 2 = 0
      rw [ja_jsj (by decide)]; exact t2
    · show ja (js t 67 8 (e.2 : Int)) 67 0 = 0
      rw [ja_jsj (by decide)]; exact t0
  | inr l =>
    rw [hr] at ht
    obtain ⟨h5, h7⟩ := ht
    have hl := (kLres_w hX1 hr).1
    have e5 : ja (js t 67 8 (-1)) 67 5 = -1 := by rw [ja_jsj (by decide)]; exact h5
    have e33 : ja (js t 67 8 (-1)) 67 33 = (l.length : Int) := by rw [ja_jsj (by decide)]; exact h7.1
    rw [sp_212y h5, jsb, e5, if_pos rfl, jle_eq, e33, ja_jsj (show (33 : Nat) ≠ 34 by decide), e33, sp_190 (by decide) (by show l.length ≤ 150; omega) (by show l.length ≤ 150; omega), jsb, ja_jcp, if_neg (by omega), ja_jsj (show (33 : Nat) ≠ 34 by decide), e33, sp_190 (by decide) (by show l.length ≤ 150; omega) (by show l.length ≤ 150; omega), jsb]
    have E : ∀ k j, k ≠ 82 → k ≠ 83 → ja (jcp (jcp (js (js t 67 8 (-1)) 67 34 (l.length : Int)) ((js (js t 67 8 (-1)) 67 34 (l.length : Int)).1 80) 82 0 0 l.length) ((jcp (js (js t 67 8 (-1)) 67 34 (l.length : Int)) ((js (js t 67 8 (-1)) 67 34 (l.length : Int)).1 80) 82 0 0 l.length).1 81) 83 0 0 l.length) k j = ja (js (js t 67 8 (-1)) 67 34 (l.length : Int)) k j := fun k j z1 z2 => by rw [ja_jcp, if_neg (by omega), ja_jcp, if_neg (by omega)]
    have c82 : ∀ j, j < l.length → ja (jcp (jcp (js (js t 67 8 (-1)) 67 34 (l.length : Int)) ((js (js t 67 8 (-1)) 67 34 (l.length : Int)).1 80) 82 0 0 l.length) ((jcp (js (js t 67 8 (-1)) 67 34 (l.length : Int)) ((js (js t 67 8 (-1)) 67 34 (l.length : Int)).1 80) 82 0 0 l.length).1 81) 83 0 0 l.length) 82 j = ja t 80 j := fun j hj => by
      rw [ja_jcp, if_neg (by omega), ja_jcp, if_pos (by omega)]
      show ja (js (js t 67 8 (-1)) 67 34 (l.length : Int)) 80 (0 + (j - 0)) = _
      rw [ja_jsk (by decide), ja_jsk (by decide), Nat.zero_add, Nat.sub_zero]
    have c83 : ∀ j, j < l.length → ja (jcp (jcp (js (js t 67 8 (-1)) 67 34 (l.length : Int)) ((js (js t 67 8 (-1)) 67 34 (l.length : Int)).1 80) 82 0 0 l.length) ((jcp (js (js t 67 8 (-1)) 67 34 (l.length : Int)) ((js (js t 67 8 (-1)) 67 34 (l.length : Int)).1 80) 82 0 0 l.length).1 81) 83 0 0 l.length) 83 j = ja t 81 j := fun j hj => by
      rw [ja_jcp, if_pos (by omega)]
      show ja (jcp (js (js t 67 8 (-1)) 67 34 (l.length : Int)) ((js (js t 67 8 (-1)) 67 34 (l.length : Int)).1 80) 82 0 0 l.length) 81 (0 + (j - 0)) = _
      rw [ja_jcp, if_neg (by omega), ja_jsk (by decide), ja_jsk (by decide), Nat.zero_add, Nat.sub_zero]
    have FZ : jfr true kWlm m (jcp (jcp (js (js t 67 8 (-1)) 67 34 (l.length : Int)) ((js (js t 67 8 (-1)) 67 34 (l.length : Int)).1 80) 82 0 0 l.length) ((jcp (js (js t 67 8 (-1)) 67 34 (l.length : Int)) ((js (js t 67 8 (-1)) 67 34 (l.length : Int)).1 80) 82 0 0 l.length).1 81) 83 0 0 l.length) := jfr_jcp (jfr_jcp (jfr_js (jfr_js F19 (by unfold kWlm; omega)) (by unfold kWlm; omega)) (fun j => by unfold kWlm; omega)) (fun j => by unfold kWlm; omega)
    generalize jcp (jcp (js (js t 67 8 (-1)) 67 34 (l.length : Int)) ((js (js t 67 8 (-1)) 67 34 (l.length : Int)).1 80) 82 0 0 l.length) ((jcp (js (js t 67 8 (-1)) 67 34 (l.length : Int)) ((js (js t 67 8 (-1)) 67 34 (l.length : Int)).1 80) 82 0 0 l.length).1 81) 83 0 0 l.length = Z at *
    refine ⟨⟨rfl, ?_, ?_, fun j hj => ?_⟩, ?_, ?_, FZ⟩
    · show ja Z 67 8 = -1
      rw [E _ _ (by decide) (by decide), ja_jsj (by decide), ja_js1]; exact wm1
    · show ja Z 67 34 = _
      rw [E _ _ (by decide) (by decide), ja_js1, jwi (by omega) (by omega)]
    · show 0 ≤ ja Z 82 j ∧ ja Z 82 j ≤ 7 ∧ (ja Z 82 j = 0 → 0 ≤ ja Z 83 j ∧ ja Z 83 j ≤ 999) ∧ (ja Z 82 j = 1 → 0 ≤ ja Z 83 j ∧ ja Z 83 j ≤ 8) ∧ kEn (ja Z 82 j) (ja Z 83 j) = l.getD j 0
      rw [c82 j hj, c83 j hj]; exact h7.2 j hj
    · show ja Z 67 2 = 0
      rw [E _ _ (by decide) (by decide), ja_jsj (by decide), ja_jsj (by decide)]; exact t2
    · show ja Z 67 0 = 0
      rw [E _ _ (by decide) (by decide), ja_jsj (by decide), ja_jsj (by decide)]; exact t0
