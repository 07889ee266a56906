/-! WORK: words, trees of steps, the pure reader. -/
def qRw : List (Nat × Nat) := [(0, 4), (5, 9), (10, 12), (13, 18), (19, 24), (25, 28), (29, 34), (35, 40)]
def kU3 (f : Nat → Int) (n i : Nat) : Int := kWi f 3 (kSkp f n i) (kLe f n i) qRw 0
theorem kU3_r {f : Nat → Int} {n i : Nat} : kRun (kWst f 3 40 (kSkp f n i) (kLe f n i)) jfu ((0 : Nat), (0 : Nat)) = some (kU3 f n i) := kWi_r qRw jfu 0 0 (jfu_lt (by decide)) (by decide +kernel)
theorem sl_117v {m : jm} {f : Nat → Int} {n i : Nat} (H : kTc m f n (kSkp f n i)) : jo (jf_117 3 m) (fun b => (b.1 = kU3 f n i ∧ kTc b.2 f n (kLe f n i) ∧ ja b.2 1 4 = (kSkp f n i : Int) ∧ (kU3 f n i = -1 → ja b.2 1 5 = 1 ∧ ja b.2 1 6 = (kSkp f n i : Int)) ∧ (kU3 f n i ≠ -1 → ja b.2 1 5 = ja m 1 5 ∧ ja b.2 1 6 = ja m 1 6)) ∧ jfr true jW_117 m b.2) := by
  refine jo_and ?_ jx_117
  obtain ⟨r, r1, r2⟩ := sl_117 (s := 3) (L := 40) H rfl (by decide)
  rw [kSkp_2, kLe_2] at r1 r2
  rw [kU3_r] at r1
  cases r1
  exact r2
theorem kPwr : kPw 21 4 = 656741 ∧ kPw 22 4 = 239301 ∧ kPw 23 2 = 239 ∧ kPw 12 5 = 20317291 ∧ kPw 18 5 = 19057966 ∧ kPw 17 3 = 6631 ∧ kPw 20 5 = 14982420 ∧ kPw 24 5 = 1279278 := by decide +kernel
theorem kU3_x {f : Nat → Int} {n i : Nat} : kU3 f n i = if kWv f n i = 656741 then 0 else if kWv f n i = 239301 then 1 else if kWv f n i = 239 then 2 else if kWv f n i = 20317291 then 3 else if kWv f n i = 19057966 then 4 else if kWv f n i = 6631 then 5 else if kWv f n i = 14982420 then 6 else if kWv f n i = 1279278 then 7 else -1 := by
  obtain ⟨p0, p1, p2, p3, p4, p5, p6, p7⟩ := kPwr
  unfold kPw at p0 p1 p2 p3 p4 p5 p6 p7
  have q0 : kWq f 3 0 4 (kSkp f n i) (kLe f n i) = true ↔ kWv f n i = 656741 := by rw [← p0]; exact kWqv rfl (by decide) (by decide) (by decide +kernel) (by decide +kernel)
  have q1 : kWq f 3 5 9 (kSkp f n i) (kLe f n i) = true ↔ kWv f n i = 239301 := by rw [← p1]; exact kWqv rfl (by decide) (by decide) (by decide +kernel) (by decide +kernel)
  have q2 : kWq f 3 10 12 (kSkp f n i) (kLe f n i) = true ↔ kWv f n i = 239 := by rw [← p2]; exact kWqv rfl (by decide) (by decide) (by decide +kernel) (by decide +kernel)
  have q3 : kWq f 3 13 18 (kSkp f n i) (kLe f n i) = true ↔ kWv f n i = 20317291 := by rw [← p3]; exact kWqv rfl (by decide) (by decide) (by decide +kernel) (by decide +kernel)
  have q4 : kWq f 3 19 24 (kSkp f n i) (kLe f n i) = true ↔ kWv f n i = 19057966 := by rw [← p4]; exact kWqv rfl (by decide) (by decide) (by decide +kernel) (by decide +kernel)
  have q5 : kWq f 3 25 28 (kSkp f n i) (kLe f n i) = true ↔ kWv f n i = 6631 := by rw [← p5]; exact kWqv rfl (by decide) (by decide) (by decide +kernel) (by decide +kernel)
  have q6 : kWq f 3 29 34 (kSkp f n i) (kLe f n i) = true ↔ kWv f n i = 14982420 := by rw [← p6]; exact kWqv rfl (by decide) (by decide) (by decide +kernel) (by decide +kernel)
  have q7 : kWq f 3 35 40 (kSkp f n i) (kLe f n i) = true ↔ kWv f n i = 1279278 := by rw [← p7]; exact kWqv rfl (by decide) (by decide) (by decide +kernel) (by decide +kernel)
  show (if kWq f 3 0 4 (kSkp f n i) (kLe f n i) = true then (0 : Int) else if kWq f 3 5 9 (kSkp f n i) (kLe f n i) = true then 1 else if kWq f 3 10 12 (kSkp f n i) (kLe f n i) = true then 2 else if kWq f 3 13 18 (kSkp f n i) (kLe f n i) = true then 3 else if kWq f 3 19 24 (kSkp f n i) (kLe f n i) = true then 4 else if kWq f 3 25 28 (kSkp f n i) (kLe f n i) = true then 5 else if kWq f 3 29 34 (kSkp f n i) (kLe f n i) = true then 6 else if kWq f 3 35 40 (kSkp f n i) (kLe f n i) = true then 7 else -1) = _
  simp only [q0, q1, q2, q3, q4, q5, q6, q7]
theorem kWv_l {f : Nat → Int} {n i s L : Nat} {v : Int} (h6 : L ≤ 6) (h1 : 1 ≤ L) (hs : ∀ t, t < L → 97 ≤ jsc s ((t : Nat) : Int) ∧ jsc s ((t : Nat) : Int) ≤ 122) (hp : kPw s L = v) (h : kWv f n i = v) : kLe f n i = kSkp f n i + L := by
  have := ((kWv_i (f := f) (n := n) (i := i) h6 h1 hs).1 (by rw [h]; exact hp.symm)).1
  have := kLe_ge (f := f) (n := n) (i := i)
  omega
theorem kU3_cs {f : Nat → Int} {n i : Nat} : (kU3 f n i = -1 ∧ kWv f n i ≠ 656741 ∧ kWv f n i ≠ 239301 ∧ kWv f n i ≠ 239 ∧ kWv f n i ≠ 20317291 ∧ kWv f n i ≠ 19057966 ∧ kWv f n i ≠ 6631 ∧ kWv f n i ≠ 14982420 ∧ kWv f n i ≠ 1279278) ∨ (kU3 f n i = 0 ∧ kWv f n i = 656741 ∧ kLe f n i = kSkp f n i + 4) ∨ (kU3 f n i = 1 ∧ kWv f n i = 239301 ∧ kLe f n i = kSkp f n i + 4) ∨ (kU3 f n i = 2 ∧ kWv f n i = 239 ∧ kLe f n i = kSkp f n i + 2) ∨ (kU3 f n i = 3 ∧ kWv f n i = 20317291 ∧ kLe f n i = kSkp f n i + 5) ∨ (kU3 f n i = 4 ∧ kWv f n i = 19057966 ∧ kLe f n i = kSkp f n i + 5) ∨ (kU3 f n i = 5 ∧ kWv f n i = 6631 ∧ kLe f n i = kSkp f n i + 3) ∨ (kU3 f n i = 6 ∧ kWv f n i = 14982420 ∧ kLe f n i = kSkp f n i + 5) ∨ (kU3 f n i = 7 ∧ kWv f n i = 1279278 ∧ kLe f n i = kSkp f n i + 5) := by
  obtain ⟨p0, p1, p2, p3, p4, p5, p6, p7⟩ := kPwr
  have l0 := fun h => kWv_l (f := f) (n := n) (i := i) (s := 21) (L := 4) (by decide) (by decide) (by decide +kernel) p0 h
  have l1 := fun h => kWv_l (f := f) (n := n) (i := i) (s := 22) (L := 4) (by decide) (by decide) (by decide +kernel) p1 h
  have l2 := fun h => kWv_l (f := f) (n := n) (i := i) (s := 23) (L := 2) (by decide) (by decide) (by decide +kernel) p2 h
  have l3 := fun h => kWv_l (f := f) (n := n) (i := i) (s := 12) (L := 5) (by decide) (by decide) (by decide +kernel) p3 h
  have l4 := fun h => kWv_l (f := f) (n := n) (i := i) (s := 18) (L := 5) (by decide) (by decide) (by decide +kernel) p4 h
  have l5 := fun h => kWv_l (f := f) (n := n) (i := i) (s := 17) (L := 3) (by decide) (by decide) (by decide +kernel) p5 h
  have l6 := fun h => kWv_l (f := f) (n := n) (i := i) (s := 20) (L := 5) (by decide) (by decide) (by decide +kernel) p6 h
  have l7 := fun h => kWv_l (f := f) (n := n) (i := i) (s := 24) (L := 5) (by decide) (by decide) (by decide +kernel) p7 h
  rw [kU3_x]
  by_cases h0 : kWv f n i = 656741
  · rw [if_pos h0]; exact Or.inr (Or.inl ⟨rfl, h0, l0 h0⟩)
  rw [if_neg h0]
  by_cases h1 : kWv f n i = 239301
  · rw [if_pos h1]; exact Or.inr (Or.inr (Or.inl ⟨rfl, h1, l1 h1⟩))
  rw [if_neg h1]
  by_cases h2 : kWv f n i = 239
  · rw [if_pos h2]; exact Or.inr (Or.inr (Or.inr (Or.inl ⟨rfl, h2, l2 h2⟩)))
  rw [if_neg h2]
  by_cases h3 : kWv f n i = 20317291
  · rw [if_pos h3]; exact Or.inr (Or.inr (Or.inr (Or.inr (Or.inl ⟨rfl, h3, l3 h3⟩))))
  rw [if_neg h3]
  by_cases h4 : kWv f n i = 19057966
  · rw [if_pos h4]; exact Or.inr (Or.inr (Or.inr (Or.inr (Or.inr (Or.inl ⟨rfl, h4, l4 h4⟩)))))
  rw [if_neg h4]
  by_cases h5 : kWv f n i = 6631
  · rw [if_pos h5]; exact Or.inr (Or.inr (Or.inr (Or.inr (Or.inr (Or.inr (Or.inl ⟨rfl, h5, l5 h5⟩))))))
  rw [if_neg h5]
  by_cases h6 : kWv f n i = 14982420
  · rw [if_pos h6]; exact Or.inr (Or.inr (Or.inr (Or.inr (Or.inr (Or.inr (Or.inr (Or.inl ⟨rfl, h6, l6 h6⟩)))))))
  rw [if_neg h6]
  by_cases h7 : kWv f n i = 1279278
  · rw [if_pos h7]; exact Or.inr (Or.inr (Or.inr (Or.inr (Or.inr (Or.inr (Or.inr (Or.inr ⟨rfl, h7, l7 h7⟩)))))))
  rw [if_neg h7]
  exact Or.inl ⟨rfl, h0, h1, h2, h3, h4, h5, h6, h7⟩
/-! trees of steps: a step (what, x, y), or again: how often, and what -/
abbrev wE : Type := Int × Int × Int
def wT : Nat → Type
  | 0 => wE
  | D + 1 => wE ⊕ (Int × List (wT D))
def wSm {α : Type} (g : α → Nat) : List α → Nat
  | [] => 0
  | t :: r => g t + wSm g r
/-- how long it is in the class, how many steps it has in the model, and how much text it takes at least -/
def wSz : (D : Nat) → wT D → Nat
  | 0, _ => 1
  | D + 1, t => match t with
    | Sum.inl _ => 1
    | Sum.inr k => wSm (wSz D) k.2 + 2
def wCn : (D : Nat) → wT D → Nat
  | 0, _ => 1
  | D + 1, t => match t with
    | Sum.inl _ => 1
    | Sum.inr k => wSm (wCn D) k.2 + 1
def wWt : (D : Nat) → wT D → Nat
  | 0, _ => 3
  | D + 1, t => match t with
    | Sum.inl _ => 3
    | Sum.inr k => wSm (wWt D) k.2 + 4
def wFl {α : Type} (g : Nat → α → List wE) (z : α → Nat) : Nat → List α → List wE
  | _, [] => []
  | b, t :: r => g b t ++ wFl g z (b + z t) r
/-- as the class has it, from place b on -/
def wC : (D : Nat) → Nat → wT D → List wE
  | 0, _, t => [t]
  | D + 1, b, t => match t with
    | Sum.inl e => [e]
    | Sum.inr k => (7, k.1, ((b + 1 + wSm (wSz D) k.2 : Nat) : Int)) :: (wFl (wC D) (wSz D) (b + 1) k.2 ++ [(8, (b : Int), 0)])
/-- as the model has it, from step b on -/
def wM : (D : Nat) → Nat → wT D → List wE
  | 0, _, t => [t]
  | D + 1, b, t => match t with
    | Sum.inl e => [e]
    | Sum.inr k => (7, k.1, ((3 * (b + 1 + wSm (wCn D) k.2) : Nat) : Int)) :: wFl (wM D) (wCn D) (b + 1) k.2
theorem wFl_len {α : Type} {g : Nat → α → List wE} {z : α → Nat} (h : ∀ b t, (g b t).length = z t) : ∀ (l : List α) (b : Nat), (wFl g z b l).length = wSm z l
  | [], _ => rfl
  | t :: r, b => by
    show (g b t ++ wFl g z (b + z t) r).length = z t + wSm z r
    rw [List.length_append, h, wFl_len h r]
theorem wC_len : ∀ (D b : Nat) (t : wT D), (wC D b t).length = wSz D t
  | 0, _, _ => rfl
  | D + 1, b, t => by
    cases t with
    | inl e => rfl
    | inr k =>
      show (wFl (wC D) (wSz D) (b + 1) k.2 ++ [((8 : Int), (b : Int), (0 : Int))]).length + 1 = wSm (wSz D) k.2 + 2
      rw [List.length_append, wFl_len (wC_len D)]; rfl
theorem wM_len : ∀ (D b : Nat) (t : wT D), (wM D b t).length = wCn D t
  | 0, _, _ => rfl
  | D + 1, b, t => by
    cases t with
    | inl e => rfl
    | inr k =>
      show (wFl (wM D) (wCn D) (b + 1) k.2).length + 1 = wSm (wCn D) k.2 + 1
      rw [wFl_len (wM_len D)]
theorem wSm_le {α : Type} {g h : α → Nat} (H : ∀ t, g t ≤ h t) : ∀ l, wSm g l ≤ wSm h l
  | [] => Nat.le_refl _
  | t :: r => by
    have := H t
    have := wSm_le H r
    show g t + wSm g r ≤ h t + wSm h r
    omega
theorem wSm_3 {α : Type} {g h : α → Nat} (H : ∀ t, 3 * g t ≤ h t) : ∀ l, 3 * wSm g l ≤ wSm h l
  | [] => Nat.le_refl _
  | t :: r => by
    have := H t
    have := wSm_3 H r
    show 3 * (g t + wSm g r) ≤ h t + wSm h r
    omega
theorem wSz_le : ∀ (D : Nat) (t : wT D), wSz D t ≤ wWt D t
  | 0, _ => by show 1 ≤ 3; decide
  | D + 1, t => by
    cases t with
    | inl e => show 1 ≤ 3; decide
    | inr k =>
      have := wSm_le (wSz_le D) k.2
      show wSm (wSz D) k.2 + 2 ≤ wSm (wWt D) k.2 + 4
      omega
theorem wCn_le : ∀ (D : Nat) (t : wT D), 3 * wCn D t ≤ wWt D t
  | 0, _ => by show 3 * 1 ≤ 3; decide
  | D + 1, t => by
    cases t with
    | inl e => show 3 * 1 ≤ 3; decide
    | inr k =>
      have := wSm_3 (wCn_le D) k.2
      show 3 * (wSm (wCn D) k.2 + 1) ≤ wSm (wWt D) k.2 + 4
      omega
theorem wSm_a {α : Type} {g : α → Nat} {t : α} : ∀ l : List α, wSm g (l ++ [t]) = wSm g l + g t
  | [] => by show g t + 0 = 0 + g t; omega
  | u :: r => by
    show g u + wSm g (r ++ [t]) = g u + wSm g r + g t
    rw [wSm_a r]; omega
theorem wFl_a {α : Type} {g : Nat → α → List wE} {z : α → Nat} {t : α} : ∀ (l : List α) (b : Nat), wFl g z b (l ++ [t]) = wFl g z b l ++ g (b + wSm z l) t
  | [], b => by
    show g b t ++ [] = [] ++ g (b + 0) t
    rw [List.append_nil, List.nil_append, Nat.add_zero]
  | u :: r, b => by
    show g b u ++ wFl g z (b + z u) (r ++ [t]) = g b u ++ wFl g z (b + z u) r ++ g (b + (z u + wSm z r)) t
    rw [wFl_a r, List.append_assoc, Nat.add_assoc]
/-! the pure reader -/
def wH1 (c : kC) (w : Int) : Int := if w = 3 then (c 11 1 : Int) - 1 else (c 11 2 : Int) - 1
def wH2 (c : kC) (w : Int) : Int := if w = 2 then (c 11 0 : Int) - 1 else if w = 3 then 9 else (c 11 3 : Int) - 1
def wN1 (f : Nat → Int) (n : Nat) (c : kC) (w : Int) (s : kFS) : kFS × Int := kNs f n 0 (wH1 c w) s
def wN2 (f : Nat → Int) (n : Nat) (c : kC) (w : Int) (s : kFS) : kFS × Int := if w = 4 then ((wN1 f n c w s).1, 0) else kNs f n 0 (wH2 c w) (wN1 f n c w s).1
/-- a step that isn't again -/
def wS (f : Nat → Int) (n : Nat) (c : kC) (w : Int) (i : Nat) : kFS × wE := if w = 5 ∨ w = 6 then (Sum.inr i, (w, 0, 0)) else ((wN2 f n c w (Sum.inr i)).1, (w, (wN1 f n c w (Sum.inr i)).2, (wN2 f n c w (Sum.inr i)).2))
abbrev wR (D : Nat) : Type := (Int × Nat) ⊕ (Nat × wT D)
abbrev wRL (D : Nat) : Type := (Int × Nat) ⊕ (Nat × List (wT D))
def wEnd {α β : Type} (s : kFS) (g : α → β) (a : α) : (Int × Nat) ⊕ (Nat × β) := match s with
  | Sum.inl e => Sum.inl e
  | Sum.inr j => Sum.inr (j, g a)
def wBst {D : Nat} (f : Nat → Int) (n : Nat) (R : Nat → wR D) (s : Nat × List (wT D)) : wRL D ⊕ (Nat × List (wT D)) := if kGb f n s.1 93 = true then Sum.inl (Sum.inr (kSkp f n s.1, s.2)) else match R s.1 with
  | Sum.inl e => Sum.inl (Sum.inl e)
  | Sum.inr r => Sum.inr (r.1, s.2 ++ [r.2])
noncomputable def wB {D : Nat} (f : Nat → Int) (n : Nat) (R : Nat → wR D) (s : kFS) : wRL D := match s with
  | Sum.inl e => Sum.inl e
  | Sum.inr i => (kRun (wBst f n R) jfu (i, [])).getD (Sum.inl (0, 0))
noncomputable def wAg {D : Nat} (f : Nat → Int) (n : Nat) (R : Nat → wR D) (i : Nat) : wR (D + 1) := match wB f n R (kSs f n 91 (kNs f n 0 30 (Sum.inr i)).1) with
  | Sum.inl e => Sum.inl e
  | Sum.inr r => wEnd (α := List (wT D)) (β := wT (D + 1)) (kSs f n 59 (kSs f n 93 (Sum.inr r.1))) (fun l => Sum.inr ((kNs f n 0 30 (Sum.inr i)).2, l)) r.2
noncomputable def wRd (f : Nat → Int) (n : Nat) (c : kC) : (D : Nat) → Nat → wR D
  | 0, i => if kU3 f n i = -1 then Sum.inl (1, kSkp f n i) else if kU3 f n i = 7 then Sum.inl (3, kSkp f n i) else wEnd (kSs f n 59 (wS f n c (kU3 f n i) (kLe f n i)).1) (fun e => e) (wS f n c (kU3 f n i) (kLe f n i)).2
  | D + 1, i => if kU3 f n i = -1 then Sum.inl (1, kSkp f n i) else if kU3 f n i = 7 then wAg f n (wRd f n c D) (kLe f n i) else wEnd (β := wT (D + 1)) (kSs f n 59 (wS f n c (kU3 f n i) (kLe f n i)).1) (fun e => Sum.inl e) (wS f n c (kU3 f n i) (kLe f n i)).2
/-! what is read may be done -/
def wOk (c : kC) (e : wE) : Prop := (0 ≤ e.1 ∧ e.1 ≤ 6) ∧ 0 ≤ e.2.1 ∧ 0 ≤ e.2.2 ∧ e.2.1 ≤ 9999 ∧ e.2.2 ≤ 9999 ∧ (e.1 < 5 → e.2.1 ≤ wH1 c e.1) ∧ (e.1 < 4 → e.2.2 ≤ wH2 c e.1)
def wAll {α : Type} (P : α → Prop) : List α → Prop
  | [] => True
  | t :: r => P t ∧ wAll P r
def wV (c : kC) : (D : Nat) → wT D → Prop
  | 0, t => wOk c t
  | D + 1, t => match t with
    | Sum.inl e => wOk c e
    | Sum.inr k => (0 ≤ k.1 ∧ k.1 ≤ 30) ∧ wAll (wV c D) k.2
theorem wAll_a {α : Type} {P : α → Prop} {t : α} : ∀ l : List α, wAll P l → P t → wAll P (l ++ [t])
  | [], _, h => ⟨h, trivial⟩
  | u :: r, h, k => ⟨h.1, wAll_a r h.2 k⟩
def wG (n : Nat) (c : kC) (D i : Nat) (r : wR D) : Prop := match r with
  | Sum.inl e => e.2 ≤ n
  | Sum.inr z => i + wWt D z.2 + 1 ≤ z.1 ∧ z.1 ≤ n ∧ wV c D z.2
