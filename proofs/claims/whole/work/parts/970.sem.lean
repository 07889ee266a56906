/-! WORK: what is done. -/
def wDo (c : kC) (cl : List Int) (e : wE) (p : kP) : Bool × kP := if e.1 = 0 then kTa c p e.2.1.toNat e.2.2.toNat else if e.1 = 1 then kGv c p e.2.1.toNat e.2.2.toNat else if e.1 = 2 then kGo c p cl e.2.1.toNat e.2.2 else if e.1 = 3 then kPs p e.2.1.toNat e.2.2 else if e.1 = 4 then kPr p e.2.1.toNat else if e.1 = 5 then (true, kFo p) else if p 8 0 < 700 then (true, kNi c p) else (false, p)
/-- begun, done, refused, the post -/
abbrev wZ : Type := Nat × Nat × Nat × kP
def wS1 (c : kC) (cl : List Int) (e : wE) (s : wZ) : wZ := (s.1 + 1, s.2.1 + (if (wDo c cl e s.2.2.2).1 = true then 1 else 0), s.2.2.1 + (if (wDo c cl e s.2.2.2).1 = true then 0 else 1), (wDo c cl e s.2.2.2).2)
def wSL {α : Type} (g : α → wZ → wZ) : List α → wZ → wZ
  | [], s => s
  | t :: r, s => if s.1 < 200 then wSL g r (g t s) else s
def wIt (g : wZ → wZ) : Nat → wZ → wZ
  | 0, s => s
  | k + 1, s => wIt g k (g s)
def wSe (c : kC) (cl : List Int) : (D : Nat) → wT D → wZ → wZ
  | 0, t, s => wS1 c cl t s
  | D + 1, t, s => match t with
    | Sum.inl e => wS1 c cl e s
    | Sum.inr k => wIt (wSL (wSe c cl D) k.2) k.1.toNat (s.1 + 1, s.2)
theorem wSL_id {α : Type} {g : α → wZ → wZ} {s : wZ} (h : 200 ≤ s.1) : ∀ l, wSL g l s = s
  | [] => rfl
  | t :: r => by
    show (if s.1 < 200 then _ else s) = s
    rw [if_neg (by omega)]
theorem wIt_id {α : Type} {g : α → wZ → wZ} {l : List α} {s : wZ} (h : 200 ≤ s.1) : ∀ k, wIt (wSL g l) k s = s
  | 0 => rfl
  | k + 1 => by
    show wIt (wSL g l) k (wSL g l s) = s
    rw [wSL_id h, wIt_id h k]
/-- what holds of a post all along -/
def wI (c : kC) (s : wZ) : Prop := kVp c s.2.2.2 ∧ (0 ≤ s.2.2.2 8 0 ∧ s.2.2.2 8 0 ≤ 700) ∧ s.1 ≤ 200 ∧ s.2.1 + s.2.2.1 ≤ s.1
theorem kNh_8 {p : kP} {j : Nat} : ∀ n, kNh p n 8 j = p 8 j
  | 0 => rfl
  | n + 1 => by
    show kU (kNh p n) 1 n 0 8 j = p 8 j
    rw [kU_a (by decide)]; exact kNh_8 n
theorem kNw_8 {c : kC} {p : kP} {j : Nat} : ∀ n, kNw c p n 8 j = p 8 j
  | 0 => rfl
  | n + 1 => by
    unfold kNw
    split
    · rw [kU_a (by decide), kU_a (by decide)]; exact kNw_8 n
    · rw [kU_a (by decide)]; exact kNw_8 n
theorem wDo_8 {c : kC} {cl : List Int} {e : wE} {p : kP} (h : 0 ≤ p 8 0 ∧ p 8 0 ≤ 700) : 0 ≤ (wDo c cl e p).2 8 0 ∧ (wDo c cl e p).2 8 0 ≤ 700 := by
  unfold wDo
  by_cases h0 : e.1 = 0
  · rw [if_pos h0]
    unfold kTa
    split
    · dsimp only; rw [kU_a (by decide), kU_a (by decide)]; exact h
    · exact h
  rw [if_neg h0]
  by_cases h1 : e.1 = 1
  · rw [if_pos h1, kGv_2 (by decide)]; exact h
  rw [if_neg h1]
  by_cases h2 : e.1 = 2
  · rw [if_pos h2]
    unfold kGo
    split
    · exact h
    · split
      · exact h
      · split
        · dsimp only; rw [kU_a (by decide), kU_a (by decide)]; exact h
        · dsimp only
          unfold kFall
          rw [kU_a (by decide), kU_a (by decide), kAg_2 (by decide), kU_a (by decide)]; exact h
  rw [if_neg h2]
  by_cases h3 : e.1 = 3
  · rw [if_pos h3]
    unfold kPs
    split
    · exact h
    · dsimp only; rw [kU_a (by decide)]; exact h
  rw [if_neg h3]
  by_cases h4 : e.1 = 4
  · rw [if_pos h4]
    unfold kPr
    split
    · exact h
    · dsimp only; rw [kU_a (by decide)]; exact h
  rw [if_neg h4]
  by_cases h5 : e.1 = 5
  · rw [if_pos h5]
    dsimp only
    unfold kFo
    rw [kU_j (by decide)]; exact h
  rw [if_neg h5]
  split
  · dsimp only
    unfold kNi
    rw [kNw_8, kNh_8]
    unfold kN0
    rw [kU_j (by decide), kU_e, jwi (by omega) (by omega)]; omega
  · exact h
theorem wDo_v {c : kC} {cl : List Int} {e : wE} {p : kP} (hv : kV c) (hq : kVp c p) (ho : wOk c e) : kVp c (wDo c cl e p).2 := by
  obtain ⟨⟨o1, o2⟩, o3, o4, o5, o6, o7, o8⟩ := ho
  unfold wH1 at o7
  unfold wH2 at o8
  unfold wDo
  by_cases h0 : e.1 = 0
  · rw [if_pos h0]
    have a := o7 (by omega); have b := o8 (by omega)
    rw [if_neg (by omega)] at a
    rw [if_neg (by omega), if_neg (by omega)] at b
    exact kVp_ta hq (by omega) (by omega)
  rw [if_neg h0]
  by_cases h1 : e.1 = 1
  · rw [if_pos h1]
    have a := o7 (by omega); have b := o8 (by omega)
    rw [if_neg (by omega)] at a
    rw [if_neg (by omega), if_neg (by omega)] at b
    exact kVp_gv hq (by omega) (by omega)
  rw [if_neg h1]
  by_cases h2 : e.1 = 2
  · rw [if_pos h2]
    have a := o7 (by omega); have b := o8 (by omega)
    rw [if_neg (by omega)] at a
    rw [if_pos h2] at b
    obtain ⟨t, ht⟩ := Int.eq_ofNat_of_zero_le o4
    rw [ht]
    exact kVp_go hq (by omega) (by omega)
  rw [if_neg h2]
  by_cases h3 : e.1 = 3
  · rw [if_pos h3]
    have b := o8 (by omega)
    rw [if_neg h2, if_pos h3] at b
    unfold kPs
    split
    · exact hq
    · exact kVp_ux hq (Or.inl ⟨rfl, o4, b⟩)
  rw [if_neg h3]
  by_cases h4 : e.1 = 4
  · rw [if_pos h4]
    have a := o7 (by omega)
    rw [if_neg h3] at a
    have hw : e.2.1.toNat < c 11 2 := by omega
    have := (hq.2.2.1 _ hw).2.2
    unfold kPr
    by_cases z : p 2 e.2.1.toNat = -1 ∨ p 3 e.2.1.toNat = 9
    · rw [if_pos z]; exact hq
    · rw [if_neg z]; exact kVp_ux hq (Or.inr (Or.inl ⟨rfl, by omega, by omega⟩))
  rw [if_neg h4]
  by_cases h5 : e.1 = 5
  · rw [if_pos h5]; exact kVp_fo hq
  rw [if_neg h5]
  split
  · exact kVp_ni hv hq
  · exact hq
theorem wI_1 {c : kC} {cl : List Int} {e : wE} {s : wZ} (hv : kV c) (ho : wOk c e) (hs : wI c s) (hb : s.1 < 200) : wI c (wS1 c cl e s) := by
  obtain ⟨a, b, d, g⟩ := hs
  refine ⟨wDo_v hv a ho, wDo_8 b, by show s.1 + 1 ≤ 200; omega, ?_⟩
  show s.2.1 + (if (wDo c cl e s.2.2.2).1 = true then 1 else 0) + (s.2.2.1 + (if (wDo c cl e s.2.2.2).1 = true then 0 else 1)) ≤ s.1 + 1
  split <;> omega
theorem wI_L {α : Type} {c : kC} {g : α → wZ → wZ} {P : α → Prop} (hg : ∀ t s, P t → wI c s → s.1 < 200 → wI c (g t s)) : ∀ (l : List α) (s : wZ), wAll P l → wI c s → wI c (wSL g l s)
  | [], s, _, h => h
  | t :: r, s, hp, h => by
    show wI c (if s.1 < 200 then wSL g r (g t s) else s)
    by_cases z : s.1 < 200
    · rw [if_pos z]; exact wI_L hg r _ hp.2 (hg t s hp.1 h z)
    · rw [if_neg z]; exact h
theorem wI_it {c : kC} {g : wZ → wZ} (hg : ∀ s, wI c s → wI c (g s)) : ∀ (k : Nat) (s : wZ), wI c s → wI c (wIt g k s)
  | 0, _, h => h
  | k + 1, s, h => wI_it hg k _ (hg s h)
theorem wI_e {c : kC} {cl : List Int} (hv : kV c) : ∀ (D : Nat) (t : wT D) (s : wZ), wV c D t → wI c s → s.1 < 200 → wI c (wSe c cl D t s)
  | 0, t, s, ht, hs, hb => wI_1 hv ht hs hb
  | D + 1, t, s, ht, hs, hb => by
    cases t with
    | inl e => exact wI_1 hv ht hs hb
    | inr k =>
      show wI c (wIt (wSL (wSe c cl D) k.2) k.1.toNat (s.1 + 1, s.2))
      refine wI_it (fun s hs => wI_L (P := wV c D) (fun t s h1 h2 h3 => wI_e hv D t s h1 h2 h3) k.2 s ht.2 hs) _ _ ?_
      obtain ⟨a, b, d, g⟩ := hs
      exact ⟨a, b, by show s.1 + 1 ≤ 200; omega, by show s.2.1 + s.2.2.1 ≤ s.1 + 1; omega⟩
