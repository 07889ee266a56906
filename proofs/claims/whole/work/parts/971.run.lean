/-! WORK: the class does it. -/
set_option maxRecDepth 20000 in
theorem sl_107 {M : jm} {c : kC} {p : kP} {cl : List Int} {e : wE} {a : Nat} (H : kK 0 M c p cl) (ho : wOk c e) (h8 : 0 ≤ p 8 0 ∧ p 8 0 ≤ 700) (ha : a < 150) (e1 : ja M 42 a = e.1) (e2 : ja M 43 a = e.2.1) (e3 : ja M 44 a = e.2.2) : jo (jf_107 a M) (fun r => (r.1 = b2i (wDo c cl e p).1 ∧ kK 0 r.2 c (wDo c cl e p).2 cl) ∧ jfr true jW_107 M r.2) := by
  refine jo_and ?_ jx_107
  obtain ⟨op, x', y'⟩ := e
  obtain ⟨⟨o1, o2⟩, o3, o4, o5, o6, o7, o8⟩ := ho
  dsimp only at e1 e2 e3 o1 o2 o3 o4 o5 o6 o7 o8
  obtain ⟨x, rfl⟩ := Int.eq_ofNat_of_zero_le o3
  obtain ⟨y, rfl⟩ := Int.eq_ofNat_of_zero_le o4
  unfold wH1 at o7
  unfold wH2 at o8
  unfold jf_107 wDo
  dsimp only
  rw [if_pos (by omega), if_pos (by omega), if_pos (by omega), Int.toNat_natCast, e1, e2, e3, Int.toNat_natCast, Int.toNat_natCast]
  by_cases h0 : op = 0
  · have a := o7 (by omega); have b := o8 (by omega)
    rw [if_neg (by omega)] at a
    rw [if_neg (by omega), if_neg (by omega)] at b
    rw [if_pos h0, if_pos h0]
    exact jo_c (sl_75 H (by omega) (by omega)) (fun r hr => hr)
  rw [if_neg h0, if_neg h0]
  by_cases h1 : op = 1
  · have a := o7 (by omega); have b := o8 (by omega)
    rw [if_neg (by omega)] at a
    rw [if_neg (by omega), if_neg (by omega)] at b
    rw [if_pos h1, if_pos h1]
    exact jo_c (sl_76 H (by omega) (by omega)) (fun r hr => hr)
  rw [if_neg h1, if_neg h1]
  by_cases h2 : op = 2
  · have a := o7 (by omega); have b := o8 (by omega)
    rw [if_neg (by omega)] at a
    rw [if_pos h2] at b
    rw [if_pos h2, if_pos h2]
    exact jo_c (sl_77 H (by omega) (by omega)) (fun r hr => hr)
  rw [if_neg h2, if_neg h2]
  by_cases h3 : op = 3
  · have a := o7 (by omega); have b := o8 (by omega)
    rw [if_pos h3] at a
    rw [if_neg h2, if_pos h3] at b
    rw [if_pos h3, if_pos h3]
    exact jo_c (sl_80 H (by omega) (by omega)) (fun r hr => hr)
  rw [if_neg h3, if_neg h3]
  by_cases h4 : op = 4
  · have a := o7 (by omega)
    rw [if_neg h3] at a
    rw [if_pos h4, if_pos h4]
    exact jo_c (sl_81 H (by omega)) (fun r hr => hr)
  rw [if_neg h4, if_neg h4]
  by_cases h5 : op = 5
  · rw [if_pos h5, if_pos h5]
    exact jo_c (sl_82 H) (fun r hr => hr)
  rw [if_neg h5, if_neg h5]
  have d8 : ja M 48 0 = p 8 0 := H.2.2.2.2.1.1
  unfold jf_83
  rw [show jf_69 0 M = some (ja M 48 0) from rfl, jsb, d8, jo_bind]
  by_cases h7 : p 8 0 < 700
  · rw [if_pos h7, if_pos h7]
    exact jo_c (sl_84 H) (fun r hr => ⟨rfl, hr⟩)
  · rw [if_neg h7, if_neg h7]
    exact ⟨rfl, H⟩
noncomputable def wRb0 (s3 : Int × Int × Int × jm) : Option ((Int × Int × Int × jm) ⊕ jm) := if s3.2.2.1 < (1000000 : Int) then if s3.2.1 < (ja s3.2.2.2 41 5) then if 0 ≤ s3.2.1 ∧ s3.2.1 < 150 then if (ja s3.2.2.2 42 s3.2.1.toNat) = (8 : Int) then Option.bind (α := Int × jm) (jf_106 s3.2.1 s3.2.2.2) fun p6 => some (Sum.inl (s3.1, p6.1, jw (s3.2.2.1 + 1), p6.2)) else if s3.1 < (200 : Int) then if 0 ≤ s3.2.1 ∧ s3.2.1 < 150 then Option.bind (α := Int × jm) (if (ja s3.2.2.2 42 s3.2.1.toNat) = (7 : Int) then if 0 ≤ s3.2.1 ∧ s3.2.1 < 150 then if 0 ≤ s3.2.1 ∧ s3.2.1 < 150 then jle (js s3.2.2.2 45 s3.2.1.toNat (ja s3.2.2.2 43 s3.2.1.toNat)) fun m9 => if 0 ≤ s3.2.1 ∧ s3.2.1 < 150 then Option.bind (α := Int) (if 0 < (ja m9 43 s3.2.1.toNat) then some (jw (s3.2.1 + (1 : Int))) else if 0 ≤ s3.2.1 ∧ s3.2.1 < 150 then some (jw ((ja m9 44 s3.2.1.toNat) + (1 : Int))) else none) fun t10 => some (t10, m9) else none else none else none else Option.bind (α := Int × jm) (jf_107 s3.2.1 s3.2.2.2) fun p23 => Option.bind (α := jm) (if p23.1 = 0 then jle (js p23.2 41 8 (jw ((ja p23.2 41 8) + (1 : Int)))) fun m26 => some (m26) else jle (js p23.2 41 7 (jw ((ja p23.2 41 7) + (1 : Int)))) fun m27 => some (m27)) fun t24 => some (jw (s3.2.1 + 1), t24)) fun t7 => some (Sum.inl (jw (s3.1 + 1), t7.1, jw (s3.2.2.1 + 1), t7.2)) else none else some (Sum.inr s3.2.2.2) else none else some (Sum.inr s3.2.2.2) else some (Sum.inr s3.2.2.2)
noncomputable def wRb : Int × Int × Int × jm → Option ((Int × Int × Int × jm) ⊕ jm) := Classical.choose (⟨wRb0, rfl⟩ : ∃ g, g = wRb0)
theorem wRb_e : wRb = wRb0 := Classical.choose_spec (⟨wRb0, rfl⟩ : ∃ g, g = wRb0)
theorem jf_105_e {m : jm} : jf_105 m = jlp wRb jfu ((0 : Int), (0 : Int), (0 : Int), js (js m 41 7 0) 41 8 0) := by rw [wRb_e]; rfl
def wSeg (Cd : List wE) (a : Nat) (l : List wE) : Prop := ∀ u, u < l.length → a + u < Cd.length ∧ Cd.getD (a + u) (0, 0, 0) = l.getD u (0, 0, 0)
theorem wSeg_l {Cd x y : List wE} {a : Nat} (h : wSeg Cd a (x ++ y)) : wSeg Cd a x := fun u hu => by
  have := h u (by rw [List.length_append]; omega)
  rw [show (x ++ y).getD u (0, 0, 0) = x.getD u (0, 0, 0) by rw [List.getD_eq_getElem?_getD, List.getElem?_append_left hu, ← List.getD_eq_getElem?_getD]] at this
  exact this
theorem wSeg_r {Cd x y : List wE} {a : Nat} (h : wSeg Cd a (x ++ y)) : wSeg Cd (a + x.length) y := fun u hu => by
  have := h (x.length + u) (by rw [List.length_append]; omega)
  rw [show (x ++ y).getD (x.length + u) (0, 0, 0) = y.getD u (0, 0, 0) by rw [List.getD_eq_getElem?_getD, List.getElem?_append_right (by omega), List.getD_eq_getElem?_getD, Nat.add_sub_cancel_left], ← Nat.add_assoc] at this
  exact this
def qRc (c : kC) (cl : List Int) (Cd : List wE) (M : jm) (s : wZ) : Prop := kK 0 M c s.2.2.2 cl ∧ kCw M Cd ∧ ja M 41 7 = (s.2.1 : Int) ∧ ja M 41 8 = (s.2.2.1 : Int)
set_option maxRecDepth 20000 in
theorem wRb_1 {M : jm} {c : kC} {cl : List Int} {Cd : List wE} {s : wZ} {e : wE} {a bt : Nat} {P : (Int × Int × Int × jm) ⊕ jm → Prop} (hL : Cd.length ≤ 150) (H : qRc c cl Cd M s) (hI : wI c s) (hb : s.1 < 200) (hbt : (bt : Int) < 1000000) (ha : a < Cd.length) (he : Cd.getD a (0, 0, 0) = e) (ho : wOk c e) (k : ∀ M', qRc c cl Cd M' (wS1 c cl e s) → (∀ j, ja M' 45 j = ja M 45 j) → P (Sum.inl (((s.1 + 1 : Nat) : Int), ((a + 1 : Nat) : Int), ((bt + 1 : Nat) : Int), M'))) : jo (wRb ((s.1 : Int), (a : Int), (bt : Int), M)) P := by
  obtain ⟨h1, h2, h3, h4⟩ := H
  obtain ⟨i1, i2, i3, i4⟩ := hI
  have g := h2.2 a ha
  rw [he] at g
  obtain ⟨⟨o1, o2⟩, -⟩ := id ho
  rw [wRb_e]
  unfold wRb0
  dsimp only
  rw [if_pos (show (bt : Int) < 1000000 by omega), h2.1, if_pos (show (a : Int) < (Cd.length : Int) by omega), if_pos (show 0 ≤ (a : Int) ∧ (a : Int) < 150 by omega), Int.toNat_natCast, g.1, if_neg (show ¬ e.1 = 8 by omega), if_pos (show (s.1 : Int) < 200 by omega), if_pos (show 0 ≤ (a : Int) ∧ (a : Int) < 150 by omega), if_neg (show ¬ e.1 = 7 by omega), jwn (n := a) (by omega), jwn (n := s.1) (by omega), jwn (n := bt) (by omega)]
  rw [jo_bind, jo_bind]
  refine jo_mono (sl_107 h1 ho i2 (by omega) g.1 g.2.1 g.2.2) (fun r hr => ?_)
  obtain ⟨⟨r1, r2⟩, r3⟩ := hr
  have g7 : ja r.2 41 7 = (s.2.1 : Int) := by rw [ja_fr r3 (by unfold jW_107; omega)]; exact h3
  have g8 : ja r.2 41 8 = (s.2.2.1 : Int) := by rw [ja_fr r3 (by unfold jW_107; omega)]; exact h4
  have C2 : kCw r.2 Cd := kCw_fr h2 r3 (fun x y h => by unfold jW_107 at h; omega)
  rw [r1]
  cases hd : (wDo c cl e s.2.2.2).1 with
  | true =>
    rw [show b2i true = 1 from rfl, if_neg Int.one_ne_zero, jle_eq, g7, jwn (by omega), jsb]
    refine k _ ⟨kK_js (by exact r2) (by unfold kQK; omega), kCw_fr (W := fun x y => x = 41 ∧ y = 7) (b := true) C2 (jfr_js jfr_r ⟨rfl, rfl⟩) (fun x y h => by omega), ?_, ?_⟩ (fun j => ?_)
    · show ja (js r.2 41 7 _) 41 7 = ((s.2.1 + (if (wDo c cl e s.2.2.2).1 = true then 1 else 0) : Nat) : Int)
      rw [hd, if_pos rfl, ja_js1, jwi (by omega) (by omega)]
    · show ja (js r.2 41 7 _) 41 8 = ((s.2.2.1 + (if (wDo c cl e s.2.2.2).1 = true then 0 else 1) : Nat) : Int)
      rw [hd, if_pos rfl, ja_jsj (by decide), Nat.add_zero]; exact g8
    · rw [ja_jsk (by decide)]; exact ja_fr r3 (by unfold jW_107; omega)
  | false =>
    rw [show b2i false = 0 from rfl, if_pos rfl, jle_eq, g8, jwn (by omega), jsb]
    refine k _ ⟨kK_js (by exact r2) (by unfold kQK; omega), kCw_fr (W := fun x y => x = 41 ∧ y = 8) (b := true) C2 (jfr_js jfr_r ⟨rfl, rfl⟩) (fun x y h => by omega), ?_, ?_⟩ (fun j => ?_)
    · show ja (js r.2 41 8 _) 41 7 = ((s.2.1 + (if (wDo c cl e s.2.2.2).1 = true then 1 else 0) : Nat) : Int)
      rw [hd, if_neg (by simp), ja_jsj (by decide), Nat.add_zero]; exact g7
    · show ja (js r.2 41 8 _) 41 8 = ((s.2.2.1 + (if (wDo c cl e s.2.2.2).1 = true then 0 else 1) : Nat) : Int)
      rw [hd, if_neg (by simp), ja_js1, jwi (by omega) (by omega)]
    · rw [ja_jsk (by decide)]; exact ja_fr r3 (by unfold jW_107; omega)
