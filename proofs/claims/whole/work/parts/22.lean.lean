/-! LEAN: what the law says, in the class and in the model. -/
def kAp (s x y : Int) : Int := if s = 2000 then jw (x + y) else if s = 2001 then jw (x - y) else if s = 2002 then jw (x * y) else if s = 2003 then (if y = 0 then 0 else jdiv x y) else if s = 2004 then jmin x y else jmax x y
def kSt (v : Nat → Int) (s : Int) (t : Nat × (Nat → Int)) : Nat × (Nat → Int) :=
  if s < 2000 then (t.1 + 1, fun j => if j = t.1 then (if s < 1000 then s else v (s - 1000).toNat) else t.2 j)
  else (t.1 - 1, fun j => if j = t.1 - 2 then kAp s (t.2 (t.1 - 2)) (t.2 (t.1 - 1)) else t.2 j)
/-- height and stack behind i steps -/
def kEv (v : Nat → Int) (cl : List Int) : Nat → Nat × (Nat → Int)
  | 0 => (0, fun _ => 0)
  | i + 1 => kSt v (cl.getD i 0) (kEv v cl i)
def kClamp (x : Int) : Int := if x < -99 then -99 else if 99 < x then 99 else x
def kLean (cl : List Int) (v : Nat → Int) : Int := kClamp ((kEv v cl cl.length).2 0)
theorem kHt_at {v : Nat → Int} {cl : List Int} (h : kHt cl 0 = some 1) : ∀ i, i ≤ cl.length → kHt (cl.drop i) (kEv v cl i).1 = some 1
  | 0, _ => by rw [List.drop_zero]; exact h
  | i + 1, hi => by
    have ih := kHt_at (v := v) h i (by omega)
    have hd : cl.drop i = cl.getD i 0 :: cl.drop (i + 1) := by
      rw [List.drop_eq_getElem_cons (by omega), List.getD_eq_getElem?_getD, List.getElem?_eq_getElem (by omega)]; rfl
    rw [hd] at ih
    show kHt (cl.drop (i + 1)) (kSt v (cl.getD i 0) (kEv v cl i)).1 = some 1
    unfold kHt at ih
    unfold kSt
    by_cases h2 : cl.getD i 0 < 2000
    · rw [if_pos h2] at ih ⊢
      by_cases h3 : (kEv v cl i).1 < 21
      · rw [if_pos h3] at ih; exact ih
      · rw [if_neg h3] at ih; cases ih
    · rw [if_neg h2] at ih ⊢
      by_cases h3 : 2 ≤ (kEv v cl i).1
      · rw [if_pos h3] at ih; exact ih
      · rw [if_neg h3] at ih; cases ih
theorem kHt_st {v : Nat → Int} {cl : List Int} (h : kHt cl 0 = some 1) {i : Nat} (hi : i < cl.length) : (cl.getD i 0 < 2000 → (kEv v cl i).1 < 21) ∧ (¬ cl.getD i 0 < 2000 → 2 ≤ (kEv v cl i).1) := by
  have ih := kHt_at (v := v) h i (by omega)
  have hd : cl.drop i = cl.getD i 0 :: cl.drop (i + 1) := by
    rw [List.drop_eq_getElem_cons (by omega), List.getD_eq_getElem?_getD, List.getElem?_eq_getElem (by omega)]; rfl
  rw [hd] at ih
  unfold kHt at ih
  refine ⟨fun h2 => ?_, fun h2 => ?_⟩
  · rw [if_pos h2] at ih
    by_cases h3 : (kEv v cl i).1 < 21
    · exact h3
    · rw [if_neg h3] at ih; cases ih
  · rw [if_neg h2] at ih
    by_cases h3 : 2 ≤ (kEv v cl i).1
    · exact h3
    · rw [if_neg h3] at ih; cases ih
theorem kHt_en {v : Nat → Int} {cl : List Int} (h : kHt cl 0 = some 1) : (kEv v cl cl.length).1 = 1 := by
  have ih := kHt_at (v := v) h cl.length (Nat.le_refl _)
  rw [List.drop_length] at ih
  exact Option.some.inj ih
theorem kHt_le {v : Nat → Int} {cl : List Int} (h : kHt cl 0 = some 1) : ∀ i, i ≤ cl.length → (kEv v cl i).1 ≤ 21
  | 0, _ => Nat.zero_le _
  | i + 1, hi => by
    have ih := kHt_le (v := v) h i (by omega)
    have h2 := kHt_st (v := v) h (i := i) (by omega)
    show (kSt v (cl.getD i 0) (kEv v cl i)).1 ≤ 21
    unfold kSt
    by_cases h3 : cl.getD i 0 < 2000
    · rw [if_pos h3]; have := h2.1 h3; show _ + 1 ≤ 21; omega
    · rw [if_neg h3]; show _ - 1 ≤ 21; omega
theorem getD_mem' {cl : List Int} {i : Nat} (hi : i < cl.length) : cl.getD i 0 ∈ cl := by
  rw [List.getD_eq_getElem?_getD, List.getElem?_eq_getElem hi]; exact List.getElem_mem hi
theorem kAp_g {s x y : Int} (hx : jg x) (hy : jg y) : jg (kAp s x y) := by
  unfold kAp
  repeat' split
  all_goals first | exact jg_w | exact jg_0 | exact jg_div | exact jg_min hx hy | exact jg_max hx hy
theorem sp_24 {s x y : Int} {m : jm} : jf_24 s x y m = some (kAp s x y) := by
  unfold jf_24 kAp
  by_cases h0 : s = 2000
  · rw [if_pos h0, if_pos h0]
  rw [if_neg h0, if_neg h0]
  by_cases h1 : s = 2001
  · rw [if_pos h1, if_pos h1]
  rw [if_neg h1, if_neg h1]
  by_cases h2 : s = 2002
  · rw [if_pos h2, if_pos h2]
  rw [if_neg h2, if_neg h2]
  by_cases h3 : s = 2003
  · rw [if_pos h3, if_pos h3]
    by_cases h : y = 0
    · rw [if_pos h, if_pos h]; rfl
    · rw [if_neg h, if_neg h, if_pos h]; rfl
  rw [if_neg h3, if_neg h3]
  by_cases h4 : s = 2004
  · rw [if_pos h4, if_pos h4]
  · rw [if_neg h4, if_neg h4]
theorem kEv_g {v : Nat → Int} {cl : List Int} (hv : ∀ j, jg (v j)) (hc : ∀ s ∈ cl, (0 ≤ s ∧ s ≤ 999) ∨ (1000 ≤ s ∧ s ≤ 1008) ∨ (2000 ≤ s ∧ s ≤ 2005)) : ∀ i, i ≤ cl.length → ∀ j, jg ((kEv v cl i).2 j)
  | 0, _, _ => jg_0
  | i + 1, hi, j => by
    have ih := kEv_g hv hc i (by omega)
    have hm := hc _ (getD_mem' (i := i) (cl := cl) (by omega))
    show jg ((kSt v (cl.getD i 0) (kEv v cl i)).2 j)
    unfold kSt
    by_cases h2 : cl.getD i 0 < 2000
    · rw [if_pos h2]
      show jg (if j = (kEv v cl i).1 then _ else _)
      split
      · split
        · unfold jg; omega
        · exact hv _
      · exact ih j
    · rw [if_neg h2]
      show jg (if j = (kEv v cl i).1 - 2 then _ else _)
      split
      · exact kAp_g (ih _) (ih _)
      · exact ih j
theorem kClamp_c {x : Int} : jmax (-99) (jmin 99 x) = kClamp x := by
  unfold jmax jmin kClamp
  repeat' split
  all_goals omega
/-- the class's leanBy -/
theorem sl_23 {q : Nat} {m : jm} {cl : List Int} (hL : kLc m 27 cl) (hW : kWL cl) : jo (jf_23 q m) (fun r => r.1 = kLean cl (fun i => ja m (49 + q) i)) := by
  obtain ⟨hl, hc, ht⟩ := hW
  have hg : ∀ j, jg (ja m (49 + q) j) := fun j => jg_a
  unfold jf_23
  refine jo_c (R := fun r => r.1 = 1 ∧ ja r.2 29 0 = (kEv (fun i => ja m (49 + q) i) cl cl.length).2 0) ?_ ?_
  · refine jo_for cl.length jfu (fun i (s : Int × Int × jm) => s.2.1 = i ∧ s.1 = ((kEv (fun i => ja m (49 + q) i) cl i).1 : Nat) ∧ (∀ j, j < (kEv (fun i => ja m (49 + q) i) cl i).1 → ja s.2.2 29 j = (kEv (fun i => ja m (49 + q) i) cl i).2 j) ∧ (∀ k j, k ≠ 29 → ja s.2.2 k j = ja m k j)) (jfu_lt (by omega)) ?_ ?_ _ ⟨rfl, rfl, fun j hj => absurd hj (Nat.not_lt_zero j), fun _ _ _ => rfl⟩
    · intro i hi s hs
      obtain ⟨top, at_, m'⟩ := s
      obtain ⟨h1, h2, h3, h4⟩ := hs
      dsimp only at h1 h2 h3 h4 ⊢
      subst h1 h2
      have hst := kHt_st (v := fun i => ja m (49 + q) i) ht hi
      have hle := kHt_le (v := fun i => ja m (49 + q) i) ht i (by omega)
      have hgi := kEv_g hg hc i (by omega)
      have hm := hc _ (getD_mem' hi)
      have e27 : ja m' 27 1 = cl.length := by rw [h4 _ _ (by decide)]; exact hL.1
      have e28 : ja m' 28 i = cl.getD i 0 := by rw [h4 _ _ (by decide)]; exact hL.2 i hi
      have eS : kEv (fun i => ja m (49 + q) i) cl (i + 1) = kSt (fun i => ja m (49 + q) i) (cl.getD i 0) (kEv (fun i => ja m (49 + q) i) cl i) := rfl
      rw [e27, Int.toNat_natCast, e28]
      rw [if_pos (show (i : Int) < (cl.length : Int) by omega), if_pos (show 0 ≤ (i : Int) ∧ (i : Int) < 150 by omega)]
      rw [jwn (n := i) (by omega)]
      by_cases hlt : cl.getD i 0 < 2000
      · have h21 := hst.1 hlt
        rw [if_pos hlt, if_pos (by omega)]
        have eV : (if cl.getD i 0 < 1000 then some (cl.getD i 0) else if 0 ≤ jw (cl.getD i 0 - 1000) ∧ jw (cl.getD i 0 - 1000) < 9 then some (ja m' (49 + q) (jw (cl.getD i 0 - 1000)).toNat) else none) = some (if cl.getD i 0 < 1000 then cl.getD i 0 else ja m (49 + q) (cl.getD i 0 - 1000).toNat) := by
          by_cases h : cl.getD i 0 < 1000
          · rw [if_pos h, if_pos h]
          · rw [if_neg h, if_neg h, jwi (by omega) (by omega), if_pos (by omega), h4 _ _ (by omega)]
        rw [eV, jsb, if_pos (by omega), jle_eq, jsb, jwn (by omega), Int.toNat_natCast]
        rw [jo_some, jcase_l, eS]
        unfold kSt
        rw [if_pos hlt]
        refine ⟨rfl, rfl, fun j hj => ?_, fun k j hk => ?_⟩
        · dsimp only at hj ⊢
          rw [ja_js]
          by_cases hj2 : j = (kEv (fun i => ja m (49 + q) i) cl i).1
          · rw [if_pos ⟨rfl, hj2⟩, if_pos hj2]
            refine jw_id ?_
            split
            · unfold jg; omega
            · exact jg_a
          · rw [if_neg (fun e => hj2 e.2), if_neg hj2]; exact h3 j (by omega)
        · dsimp only
          rw [ja_jsk hk]; exact h4 k j hk
      · have h2 := hst.2 hlt
        rw [if_neg hlt, if_neg (by omega)]
        have e1 : jw ((((kEv (fun i => ja m (49 + q) i) cl i).1 : Nat) : Int) + -1) = (((kEv (fun i => ja m (49 + q) i) cl i).1 - 1 : Nat) : Int) := by rw [jwi (by omega) (by omega)]; omega
        have e2 : jw ((((kEv (fun i => ja m (49 + q) i) cl i).1 - 1 : Nat) : Int) - 1) = (((kEv (fun i => ja m (49 + q) i) cl i).1 - 2 : Nat) : Int) := by rw [jwi (by omega) (by omega)]; omega
        rw [e1, e2, Int.toNat_natCast, Int.toNat_natCast, if_pos (by omega), if_pos (by omega), sp_24, jsb, if_pos (by omega), jle_eq, jsb, h3 _ (by omega), h3 _ (by omega)]
        rw [jo_some, jcase_l, eS]
        unfold kSt
        rw [if_neg hlt]
        refine ⟨rfl, rfl, fun j hj => ?_, fun k j hk => ?_⟩
        · dsimp only at hj ⊢
          rw [ja_js]
          by_cases hj2 : j = (kEv (fun i => ja m (49 + q) i) cl i).1 - 2
          · rw [if_pos ⟨rfl, hj2⟩, if_pos hj2]
            exact jw_id (kAp_g (hgi _) (hgi _))
          · rw [if_neg (fun e => hj2 e.2), if_neg hj2]; exact h3 j (by omega)
        · dsimp only
          rw [ja_jsk hk]; exact h4 k j hk
    · intro s hs
      obtain ⟨top, at_, m'⟩ := s
      obtain ⟨h1, h2, h3, h4⟩ := hs
      dsimp only at h1 h2 h3 h4 ⊢
      have hen := kHt_en (v := fun i => ja m (49 + q) i) ht
      have e27 : ja m' 27 1 = cl.length := by rw [h4 _ _ (by decide)]; exact hL.1
      refine jo_q (by omega) ?_
      exact ⟨by show top = 1; omega, h3 0 (by omega)⟩
  · intro r hr
    obtain ⟨t, m'⟩ := r
    obtain ⟨h1, h2⟩ := hr
    dsimp only at h1 h2 ⊢
    subst h1
    rw [if_pos (by decide), if_pos (by decide), jsb]
    show jmax (-99) (jmin 99 (ja m' 29 0)) = _
    rw [h2, kClamp_c]; rfl
