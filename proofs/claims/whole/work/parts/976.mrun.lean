/-! WORK: the model does all. -/
noncomputable def wGi (rec : Nat → Int → Int → jm → Option (jm)) (y : Nat) (A Z : Int) (s13 : Int × jm) : Option ((Int × jm) ⊕ jm) := if 0 ≤ (y : Int) ∧ (y : Int) < 150 then if s13.1 < (ja s13.2 87 y) then if (ja s13.2 67 41) < (200 : Int) then Option.bind (α := jm) (rec 0 A Z s13.2) fun p20 => some (Sum.inl (jw (s13.1 + 1), p20)) else some (Sum.inr (s13.2)) else some (Sum.inr (s13.2)) else none
noncomputable def wGb0 (rec : Nat → Int → Int → jm → Option (jm)) (x1 : Int) (s1 : Int × jm) : Option ((Int × jm) ⊕ jm) := if s1.1 < x1 then if (ja s1.2 67 41) < (200 : Int) then jle (js s1.2 67 41 (jw ((ja s1.2 67 41) + (1 : Int)))) fun m12 => if 0 ≤ s1.1 ∧ s1.1 < 150 then if (ja m12 87 s1.1.toNat) = (7 : Int) then if 0 ≤ (jw (s1.1 + (2 : Int))) ∧ (jw (s1.1 + (2 : Int))) < 150 then Option.bind (α := jm) (jlp (α := Int × jm) (β := jm) (fun s13 => if 0 ≤ (jw (s1.1 + (1 : Int))) ∧ (jw (s1.1 + (1 : Int))) < 150 then if s13.1 < (ja s13.2 87 (jw (s1.1 + (1 : Int))).toNat) then if (ja s13.2 67 41) < (200 : Int) then Option.bind (α := jm) (rec 0 (jw (s1.1 + (3 : Int))) (ja m12 87 (jw (s1.1 + (2 : Int))).toNat) s13.2) fun p20 => some (Sum.inl (jw (s13.1 + 1), p20)) else some (Sum.inr (s13.2)) else some (Sum.inr (s13.2)) else none) jfu ((0 : Int), m12)) fun t16 => some (Sum.inl (ja m12 87 (jw (s1.1 + (2 : Int))).toNat, t16)) else none else if 0 ≤ s1.1 ∧ s1.1 < 150 then if 0 ≤ (jw (s1.1 + (1 : Int))) ∧ (jw (s1.1 + (1 : Int))) < 150 then if 0 ≤ (jw (s1.1 + (2 : Int))) ∧ (jw (s1.1 + (2 : Int))) < 150 then Option.bind (α := Int × jm) (jf_228 (ja m12 87 s1.1.toNat) (ja m12 87 (jw (s1.1 + (1 : Int))).toNat) (ja m12 87 (jw (s1.1 + (2 : Int))).toNat) m12) fun p31 => Option.bind (α := jm) (if p31.1 = 0 then jle (js p31.2 67 43 (jw ((ja p31.2 67 43) + (1 : Int)))) fun m34 => some (m34) else jle (js p31.2 67 42 (jw ((ja p31.2 67 42) + (1 : Int)))) fun m35 => some (m35)) fun t32 => some (Sum.inl (jw (s1.1 + 3), t32)) else none else none else none else none else some (Sum.inr (s1.2)) else some (Sum.inr (s1.2))
noncomputable def wGb : (Nat → Int → Int → jm → Option (jm)) → Int → Int × jm → Option ((Int × jm) ⊕ jm) := Classical.choose (⟨wGb0, rfl⟩ : ∃ g, g = wGb0)
theorem wGb_e : wGb = wGb0 := Classical.choose_spec (⟨wGb0, rfl⟩ : ∃ g, g = wGb0)
theorem jf_227_e {rec : Nat → Int → Int → jm → Option (jm)} {x0 x1 : Int} {m : jm} : jf_227 rec x0 x1 m = Option.bind (jlp (wGb rec x1) jfu (x0, m)) fun t6 => some t6 := by rw [wGb_e]; rfl
def kC7 (m : jm) (L : List wE) : Prop := ∀ t, t < L.length → ja m 87 (3 * t) = (L.getD t (0, 0, 0)).1 ∧ ja m 87 (3 * t + 1) = (L.getD t (0, 0, 0)).2.1 ∧ ja m 87 (3 * t + 2) = (L.getD t (0, 0, 0)).2.2
theorem kC7_e {m m' : jm} {L : List wE} (h : ∀ j, ja m' 87 j = ja m 87 j) (H : kC7 m L) : kC7 m' L := fun t ht => by rw [h, h, h]; exact H t ht
def qRm (c : kC) (cl : List Int) (Cd : List wE) (M : jm) (s : wZ) : Prop := kM M c s.2.2.2 cl ∧ kC7 M Cd ∧ ja M 67 41 = (s.1 : Int) ∧ ja M 67 42 = (s.2.1 : Int) ∧ ja M 67 43 = (s.2.2.1 : Int)
theorem jw3 {a : Nat} (ha : 3 * a < 150) : jw (((3 * a : Nat) : Int) + 1) = ((3 * a + 1 : Nat) : Int) ∧ jw (((3 * a : Nat) : Int) + 2) = ((3 * a + 2 : Nat) : Int) ∧ jw (((3 * a : Nat) : Int) + 3) = ((3 * (a + 1) : Nat) : Int) := by
  rw [jwi (by omega) (by omega), jwi (by omega) (by omega), jwi (by omega) (by omega)]; omega
set_option maxRecDepth 20000 in
theorem wGb_1 {rec : Nat → Int → Int → jm → Option (jm)} {M : jm} {c : kC} {cl : List Int} {Cd : List wE} {s : wZ} {e : wE} {a : Nat} {x1 : Int} {P : (Int × jm) ⊕ jm → Prop} (hL : 3 * Cd.length ≤ 150) (H : qRm c cl Cd M s) (hI : wI c s) (hb : s.1 < 200) (hx : ((3 * a : Nat) : Int) < x1) (ha : a < Cd.length) (he : Cd.getD a (0, 0, 0) = e) (ho : wOk c e) (k : ∀ M', qRm c cl Cd M' (wS1 c cl e s) → P (Sum.inl (((3 * (a + 1) : Nat) : Int), M'))) : jo (wGb rec x1 (((3 * a : Nat) : Int), M)) P := by
  obtain ⟨h1, h2, h3, h4, h5⟩ := H
  obtain ⟨i1, i2, i3, i4⟩ := hI
  have g := h2 a ha
  rw [he] at g
  obtain ⟨⟨o1, o2⟩, -⟩ := id ho
  obtain ⟨w1, w2, w3⟩ := jw3 (a := a) (by omega)
  have H1 : kM (js M 67 41 ((s.1 + 1 : Nat) : Int)) c s.2.2.2 cl := kM_js h1 (by unfold kQM; omega)
  have f0 : ∀ j, ja (js M 67 41 ((s.1 + 1 : Nat) : Int)) 87 j = ja M 87 j := fun j => ja_jsk (by decide)
  have f1 : ja (js M 67 41 ((s.1 + 1 : Nat) : Int)) 67 41 = ((s.1 + 1 : Nat) : Int) := by rw [ja_js1, jwi (by omega) (by omega)]
  have f2 : ja (js M 67 41 ((s.1 + 1 : Nat) : Int)) 67 42 = (s.2.1 : Int) := by rw [ja_jsj (by decide)]; exact h4
  have f3 : ja (js M 67 41 ((s.1 + 1 : Nat) : Int)) 67 43 = (s.2.2.1 : Int) := by rw [ja_jsj (by decide)]; exact h5
  rw [wGb_e]
  unfold wGb0
  dsimp only
  rw [if_pos hx, h3, if_pos (show (s.1 : Int) < 200 by omega), jwn (n := s.1) (by omega), jle_eq]
  generalize js M 67 41 ((s.1 + 1 : Nat) : Int) = M1 at H1 f0 f1 f2 f3 ⊢
  rw [w1, w2, w3, if_pos (show 0 ≤ ((3 * a : Nat) : Int) ∧ ((3 * a : Nat) : Int) < 150 by omega), Int.toNat_natCast, Int.toNat_natCast, Int.toNat_natCast, f0, f0, f0, g.1, g.2.1, g.2.2, if_neg (show ¬ e.1 = 7 by omega), if_pos (show 0 ≤ ((3 * a : Nat) : Int) ∧ ((3 * a : Nat) : Int) < 150 by omega), if_pos (show 0 ≤ ((3 * a + 1 : Nat) : Int) ∧ ((3 * a + 1 : Nat) : Int) < 150 by omega), if_pos (show 0 ≤ ((3 * a + 2 : Nat) : Int) ∧ ((3 * a + 2 : Nat) : Int) < 150 by omega), jo_bind]
  refine jo_mono (sl_228 H1 ho i2) (fun r hr => ?_)
  obtain ⟨⟨r1, r2⟩, r3⟩ := hr
  have g0 : ∀ j, ja r.2 87 j = ja M 87 j := fun j => by rw [ja_fr r3 (by unfold jW_228; omega)]; exact f0 j
  have g1 : ja r.2 67 41 = ((s.1 + 1 : Nat) : Int) := by rw [ja_fr r3 (by unfold jW_228; omega)]; exact f1
  have g2 : ja r.2 67 42 = (s.2.1 : Int) := by rw [ja_fr r3 (by unfold jW_228; omega)]; exact f2
  have g3 : ja r.2 67 43 = (s.2.2.1 : Int) := by rw [ja_fr r3 (by unfold jW_228; omega)]; exact f3
  rw [r1]
  cases hd : (wDo c cl e s.2.2.2).1 with
  | true =>
    rw [show b2i true = 1 from rfl, if_neg Int.one_ne_zero, jle_eq, g2, jwn (by omega), jsb]
    refine k _ ⟨kM_js (by exact r2) (by unfold kQM; omega), kC7_e (fun j => by rw [ja_jsk (by decide)]; exact g0 j) h2, ?_, ?_, ?_⟩
    · show ja (js r.2 67 42 _) 67 41 = ((s.1 + 1 : Nat) : Int)
      rw [ja_jsj (by decide)]; exact g1
    · show ja (js r.2 67 42 _) 67 42 = ((s.2.1 + (if (wDo c cl e s.2.2.2).1 = true then 1 else 0) : Nat) : Int)
      rw [hd, if_pos rfl, ja_js1, jwi (by omega) (by omega)]
    · show ja (js r.2 67 42 _) 67 43 = ((s.2.2.1 + (if (wDo c cl e s.2.2.2).1 = true then 0 else 1) : Nat) : Int)
      rw [hd, if_pos rfl, ja_jsj (by decide), Nat.add_zero]; exact g3
  | false =>
    rw [show b2i false = 0 from rfl, if_pos rfl, jle_eq, g3, jwn (by omega), jsb]
    refine k _ ⟨kM_js (by exact r2) (by unfold kQM; omega), kC7_e (fun j => by rw [ja_jsk (by decide)]; exact g0 j) h2, ?_, ?_, ?_⟩
    · show ja (js r.2 67 43 _) 67 41 = ((s.1 + 1 : Nat) : Int)
      rw [ja_jsj (by decide)]; exact g1
    · show ja (js r.2 67 43 _) 67 42 = ((s.2.1 + (if (wDo c cl e s.2.2.2).1 = true then 1 else 0) : Nat) : Int)
      rw [hd, if_neg (by simp), ja_jsj (by decide), Nat.add_zero]; exact g2
    · show ja (js r.2 67 43 _) 67 43 = ((s.2.2.1 + (if (wDo c cl e s.2.2.2).1 = true then 0 else 1) : Nat) : Int)
      rw [hd, if_neg (by simp), ja_js1, jwi (by omega) (by omega)]
set_option maxRecDepth 20000 in
theorem wGi_l {rec : Nat → Int → Int → jm → Option (jm)} {c : kC} {cl : List Int} {Cd : List wE} {y : Nat} {A Z : Int} {g : wZ → wZ} {k : Nat} (hy : y < 150) (hk : k ≤ 30) (hg : ∀ s, wI c s → wI c (g s)) (hid : ∀ j s, 200 ≤ s.1 → wIt g j s = s) (h87 : ∀ M s, qRm c cl Cd M s → ja M 87 y = (k : Int)) (hrec : ∀ s M, qRm c cl Cd M s → wI c s → jo (rec 0 A Z M) (fun b => qRm c cl Cd b (g s))) : ∀ (j i : Nat) (s : wZ) (M : jm) (K : Nat), i + j = k → j < K → qRm c cl Cd M s → wI c s → jo (jlp (wGi rec y A Z) K ((i : Int), M)) (fun b => qRm c cl Cd b (wIt g j s))
  | 0, i, s, M, K, h, hK, H, hI => by
    obtain ⟨K', rfl⟩ : ∃ K', K = K' + 1 := ⟨K - 1, by omega⟩
    refine jo_stp ?_
    unfold wGi
    dsimp only
    rw [if_pos (show 0 ≤ (y : Int) ∧ (y : Int) < 150 by omega), h87 M s H, if_neg (show ¬ (i : Int) < (k : Int) by omega)]
    exact H
  | j + 1, i, s, M, K, h, hK, H, hI => by
    obtain ⟨K', rfl⟩ : ∃ K', K = K' + 1 := ⟨K - 1, by omega⟩
    have ih := fun s M => wGi_l (rec := rec) (A := A) (Z := Z) hy hk hg hid h87 hrec j (i + 1) s M K' (by omega) (by omega)
    refine jo_stp ?_
    have e41 := H.2.2.1
    unfold wGi
    dsimp only
    rw [if_pos (show 0 ≤ (y : Int) ∧ (y : Int) < 150 by omega), h87 M s H, if_pos (show (i : Int) < (k : Int) by omega), e41]
    by_cases hb : s.1 < 200
    · rw [if_pos (show (s.1 : Int) < 200 by omega)]
      refine jo_c (hrec s M H hI) (fun b hb => ?_)
      rw [jwn (by omega)]
      exact ih (g s) b hb (hg s hI)
    · rw [if_neg (show ¬ (s.1 : Int) < 200 by omega)]
      have e := hid (j + 1) s (by omega)
      show qRm c cl Cd M (wIt g (j + 1) s)
      rw [e]; exact H
set_option maxRecDepth 20000 in
theorem wGb_a {rec : Nat → Int → Int → jm → Option (jm)} {M : jm} {c : kC} {cl : List Int} {Cd : List wE} {s : wZ} {a k z : Nat} {x1 : Int} {g : wZ → wZ} {P : (Int × jm) ⊕ jm → Prop} (hL : 3 * Cd.length ≤ 150) (H : qRm c cl Cd M s) (hI : wI c s) (hb : s.1 < 200) (hx : ((3 * a : Nat) : Int) < x1) (ha : a < Cd.length) (he : Cd.getD a (0, 0, 0) = (7, (k : Int), (z : Int))) (hk : k ≤ 30) (hg : ∀ s, wI c s → wI c (g s)) (hid : ∀ j s, 200 ≤ s.1 → wIt g j s = s) (hrec : ∀ s M, qRm c cl Cd M s → wI c s → jo (rec 0 ((3 * (a + 1) : Nat) : Int) (z : Int) M) (fun b => qRm c cl Cd b (g s))) (kk : ∀ M', qRm c cl Cd M' (wIt g k (s.1 + 1, s.2)) → P (Sum.inl ((z : Int), M'))) : jo (wGb rec x1 (((3 * a : Nat) : Int), M)) P := by
  have h1 := H.1
  have h2 := H.2.1
  have h3 := H.2.2.1
  have h4 := H.2.2.2.1
  have h5 := H.2.2.2.2
  have hI1 : wI c (s.1 + 1, s.2) := by
    obtain ⟨i1, i2, i3, i4⟩ := hI
    exact ⟨i1, i2, by show s.1 + 1 ≤ 200; omega, by show s.2.1 + s.2.2.1 ≤ s.1 + 1; omega⟩
  have g' := h2 a ha
  rw [he] at g'
  have g1 : ja M 87 (3 * a) = 7 := g'.1
  have g2 : ja M 87 (3 * a + 1) = (k : Int) := g'.2.1
  have g3 : ja M 87 (3 * a + 2) = (z : Int) := g'.2.2
  obtain ⟨w1, w2, w3⟩ := jw3 (a := a) (by omega)
  have f0 : ∀ j, ja (js M 67 41 ((s.1 + 1 : Nat) : Int)) 87 j = ja M 87 j := fun j => ja_jsk (by decide)
  have H1 : qRm c cl Cd (js M 67 41 ((s.1 + 1 : Nat) : Int)) (s.1 + 1, s.2) := ⟨kM_js h1 (by unfold kQM; omega), kC7_e f0 h2, by rw [ja_js1, jwi (by omega) (by omega)], by rw [ja_jsj (by decide)]; exact h4, by rw [ja_jsj (by decide)]; exact h5⟩
  have h87 : ∀ M' s', qRm c cl Cd M' s' → ja M' 87 (3 * a + 1) = (k : Int) := fun M' s' H' => by
    have := (H'.2.1 a ha).2.1
    rw [he] at this
    exact this
  rw [wGb_e]
  unfold wGb0
  dsimp only
  rw [if_pos hx, h3, if_pos (show (s.1 : Int) < 200 by omega), jwn (n := s.1) (by omega), jle_eq]
  generalize js M 67 41 ((s.1 + 1 : Nat) : Int) = M1 at H1 f0 ⊢
  rw [w1, w2, w3, if_pos (show 0 ≤ ((3 * a : Nat) : Int) ∧ ((3 * a : Nat) : Int) < 150 by omega), Int.toNat_natCast, Int.toNat_natCast, Int.toNat_natCast, f0, f0 (3 * a + 2), g1, g3, if_pos rfl, if_pos (show 0 ≤ ((3 * a + 2 : Nat) : Int) ∧ ((3 * a + 2 : Nat) : Int) < 150 by omega), jo_bind]
  have K := wGi_l (rec := rec) (A := ((3 * (a + 1) : Nat) : Int)) (Z := (z : Int)) (y := 3 * a + 1) (by omega) hk hg hid h87 hrec k 0 (s.1 + 1, s.2) M1 jfu (Nat.zero_add k) (jfu_lt (by omega)) H1 hI1
  exact jo_mono K (fun b hb => kk b hb)
