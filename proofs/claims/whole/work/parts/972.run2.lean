/-! WORK: the class's other turns. -/
set_option maxRecDepth 20000 in
theorem wRb_a {M : jm} {c : kC} {cl : List Int} {Cd : List wE} {s : wZ} {a bt k z : Nat} {P : (Int × Int × Int × jm) ⊕ jm → Prop} (hL : Cd.length ≤ 150) (H : qRc c cl Cd M s) (hb : s.1 < 200) (hbt : (bt : Int) < 1000000) (ha : a < Cd.length) (he : Cd.getD a (0, 0, 0) = (7, (k : Int), (z : Int))) (hk : k ≤ 30) (hz : z < 200) (kk : ∀ M', qRc c cl Cd M' (s.1 + 1, s.2) → ja M' 45 a = (k : Int) → (∀ j, j ≠ a → ja M' 45 j = ja M 45 j) → P (Sum.inl (((s.1 + 1 : Nat) : Int), ((if 0 < k then a + 1 else z + 1 : Nat) : Int), ((bt + 1 : Nat) : Int), M'))) : jo (wRb ((s.1 : Int), (a : Int), (bt : Int), M)) P := by
  have h1 := H.1
  have h2 := H.2.1
  have h3 := H.2.2.1
  have h4 := H.2.2.2
  have g := h2.2 a ha
  rw [he] at g
  have g1 : ja M 42 a = 7 := g.1
  have g2 : ja M 43 a = (k : Int) := g.2.1
  have g3 : ja M 44 a = (z : Int) := g.2.2
  have F : jfr true (fun x y => x = 45 ∧ y = a) M (js M 45 a (k : Int)) := jfr_js jfr_r ⟨rfl, rfl⟩
  have K := kk (js M 45 a (k : Int)) ⟨kK_js h1 (by unfold kQK; omega), kCw_fr h2 F (fun x y h => by omega), by rw [ja_jsk (by decide)]; exact h3, by rw [ja_jsk (by decide)]; exact h4⟩ (by rw [ja_js1, jwi (by omega) (by omega)]) (fun j hj => by rw [ja_jsj hj])
  have f2 : ja (js M 45 a (k : Int)) 43 a = (k : Int) := by rw [ja_jsk (by decide)]; exact g2
  have f3 : ja (js M 45 a (k : Int)) 44 a = (z : Int) := by rw [ja_jsk (by decide)]; exact g3
  rw [wRb_e]
  unfold wRb0
  dsimp only
  rw [if_pos (show (bt : Int) < 1000000 by omega), h2.1, if_pos (show (a : Int) < (Cd.length : Int) by omega), if_pos (show 0 ≤ (a : Int) ∧ (a : Int) < 150 by omega), Int.toNat_natCast, g1, if_neg (show ¬ (7 : Int) = 8 by decide), if_pos (show (s.1 : Int) < 200 by omega), if_pos (show 0 ≤ (a : Int) ∧ (a : Int) < 150 by omega), if_pos rfl, if_pos (show 0 ≤ (a : Int) ∧ (a : Int) < 150 by omega), if_pos (show 0 ≤ (a : Int) ∧ (a : Int) < 150 by omega), g2, jle_eq, if_pos (show 0 ≤ (a : Int) ∧ (a : Int) < 150 by omega), f2, jwn (n := s.1) (by omega), jwn (n := bt) (by omega)]
  by_cases hk0 : 0 < k
  · rw [if_pos hk0] at K
    rw [if_pos (show (0 : Int) < (k : Int) by omega), jsb, jsb, jwn (n := a) (by omega)]
    exact K
  · rw [if_neg hk0] at K
    rw [if_neg (show ¬ (0 : Int) < (k : Int) by omega), if_pos (show 0 ≤ (a : Int) ∧ (a : Int) < 150 by omega), f3, jsb, jsb, jwn (n := z) (by omega)]
    exact K
set_option maxRecDepth 20000 in
theorem wRb_c {M : jm} {c : kC} {cl : List Int} {Cd : List wE} {s : wZ} {a x bt k : Nat} {P : (Int × Int × Int × jm) ⊕ jm → Prop} (hL : Cd.length ≤ 150) (H : qRc c cl Cd M s) (hb : s.1 ≤ 200) (hbt : (bt : Int) < 1000000) (hx : x < Cd.length) (ha : a < Cd.length) (he : Cd.getD x (0, 0, 0) = (8, (a : Int), 0)) (hk : ja M 45 a = ((k + 1 : Nat) : Int)) (hk3 : k ≤ 30) (kk : ∀ M', qRc c cl Cd M' s → ja M' 45 a = (k : Int) → (∀ j, j ≠ a → ja M' 45 j = ja M 45 j) → P (Sum.inl ((s.1 : Int), ((if 0 < k then a + 1 else x + 1 : Nat) : Int), ((bt + 1 : Nat) : Int), M'))) : jo (wRb ((s.1 : Int), (x : Int), (bt : Int), M)) P := by
  have h1 := H.1
  have h2 := H.2.1
  have h3 := H.2.2.1
  have h4 := H.2.2.2
  have g := h2.2 x hx
  rw [he] at g
  have g1 : ja M 42 x = 8 := g.1
  have g2 : ja M 43 x = (a : Int) := g.2.1
  have F : jfr true (fun x y => x = 45 ∧ y = a) M (js M 45 a (k : Int)) := jfr_js jfr_r ⟨rfl, rfl⟩
  have fk : ja (js M 45 a (k : Int)) 45 a = (k : Int) := by rw [ja_js1, jwi (by omega) (by omega)]
  have K := kk (js M 45 a (k : Int)) ⟨kK_js h1 (by unfold kQK; omega), kCw_fr h2 F (fun x y h => by omega), by rw [ja_jsk (by decide)]; exact h3, by rw [ja_jsk (by decide)]; exact h4⟩ fk (fun j hj => by rw [ja_jsj hj])
  have e1 : jw (((k + 1 : Nat) : Int) - 1) = (k : Int) := by rw [jwi (by omega) (by omega)]; omega
  rw [wRb_e]
  unfold wRb0 jf_106
  dsimp only
  rw [if_pos (show (bt : Int) < 1000000 by omega), h2.1, if_pos (show (x : Int) < (Cd.length : Int) by omega), if_pos (show 0 ≤ (x : Int) ∧ (x : Int) < 150 by omega), Int.toNat_natCast, g1, if_pos rfl, if_pos (show 0 ≤ (x : Int) ∧ (x : Int) < 150 by omega), g2, if_pos (show 0 ≤ (a : Int) ∧ (a : Int) < 150 by omega), if_pos (show 0 ≤ (a : Int) ∧ (a : Int) < 150 by omega), Int.toNat_natCast, hk, e1, jle_eq, if_pos (show 0 ≤ (a : Int) ∧ (a : Int) < 150 by omega), fk, jwn (n := bt) (by omega)]
  by_cases hk0 : 0 < k
  · rw [if_pos hk0] at K
    rw [if_pos (show (0 : Int) < (k : Int) by omega), jsb, jsb, jwn (n := a) (by omega)]
    exact K
  · rw [if_neg hk0] at K
    rw [if_neg (show ¬ (0 : Int) < (k : Int) by omega), jsb, jsb, jwn (n := x) (by omega)]
    exact K
set_option maxRecDepth 20000 in
theorem wRb_s {M : jm} {c : kC} {cl : List Int} {Cd : List wE} {s : wZ} {a bt : Nat} {P : (Int × Int × Int × jm) ⊕ jm → Prop} (hL : Cd.length ≤ 150) (H : qRc c cl Cd M s) (hb : 200 ≤ s.1) (hbt : (bt : Int) < 1000000) (ha : a < Cd.length) (he : (Cd.getD a (0, 0, 0)).1 ≠ 8) (kk : P (Sum.inr M)) : jo (wRb ((s.1 : Int), (a : Int), (bt : Int), M)) P := by
  have h2 := H.2.1
  have g := (h2.2 a ha).1
  rw [wRb_e]
  unfold wRb0
  dsimp only
  rw [if_pos (show (bt : Int) < 1000000 by omega), h2.1, if_pos (show (a : Int) < (Cd.length : Int) by omega), if_pos (show 0 ≤ (a : Int) ∧ (a : Int) < 150 by omega), Int.toNat_natCast, g, if_neg he, if_neg (show ¬ (s.1 : Int) < 200 by omega)]
  exact kk
set_option maxRecDepth 20000 in
theorem wRb_z {M : jm} {c : kC} {cl : List Int} {Cd : List wE} {s : wZ} {bt : Nat} {P : (Int × Int × Int × jm) ⊕ jm → Prop} (H : qRc c cl Cd M s) (hbt : (bt : Int) < 1000000) (kk : P (Sum.inr M)) : jo (wRb ((s.1 : Int), (Cd.length : Int), (bt : Int), M)) P := by
  have h2 := H.2.1
  rw [wRb_e]
  unfold wRb0
  dsimp only
  rw [if_pos (show (bt : Int) < 1000000 by omega), h2.1, if_neg (show ¬ (Cd.length : Int) < (Cd.length : Int) by omega)]
  exact kk
