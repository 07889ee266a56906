/-! LAW: the pure reader. -/
/-- which word of a list, by the class -/
def kWi (f : Nat → Int) (s i j : Nat) : List (Nat × Nat) → Nat → Int
  | [], _ => -1
  | w :: r, k => if kWq f s w.1 w.2 i j = true then (k : Int) else kWi f s i j r (k + 1)
def qCh (s L : Nat) : Nat → List (Nat × Nat) → Bool
  | a, [] => decide (L ≤ a)
  | a, w :: r => decide (w.1 = a ∧ a < L ∧ kWen s L a = w.2) && qCh s L (w.2 + 1) r
theorem kWi_r {f : Nat → Int} {s L i j : Nat} : ∀ (w : List (Nat × Nat)) (N k a : Nat), w.length < N → qCh s L a w = true → kRun (kWst f s L i j) N (k, a) = some (kWi f s i j w k)
  | [], N, k, a, hN, h => by
    obtain ⟨N', rfl⟩ : ∃ N', N = N' + 1 := ⟨N - 1, by have : 0 < N := hN; omega⟩
    have h' : L ≤ a := of_decide_eq_true h
    rw [kRun_s, kWst_e (by omega)]; rfl
  | w :: r, N, k, a, hN, h => by
    obtain ⟨N', rfl⟩ : ∃ N', N = N' + 1 := ⟨N - 1, by omega⟩
    have h' : (decide (w.1 = a ∧ a < L ∧ kWen s L a = w.2) && qCh s L (w.2 + 1) r) = true := h
    rw [Bool.and_eq_true, decide_eq_true_eq] at h'
    obtain ⟨⟨h1, h2, h3⟩, h4⟩ := h'
    have hN' : r.length < N' := by have : r.length + 1 < N' + 1 := hN; omega
    show _ = some (if kWq f s w.1 w.2 i j = true then (k : Int) else kWi f s i j r (k + 1))
    rw [h1, kRun_s]
    by_cases q : kWq f s a w.2 i j = true
    · rw [kWst_y h2 h3 q, if_pos q]
    · rw [kWst_n h2 h3 q, if_neg q]
      exact kWi_r r N' (k + 1) (w.2 + 1) hN' h4
def kLw : List (Nat × Nat) := [(0, 5), (6, 10), (11, 15), (16, 20), (21, 28), (29, 32), (33, 36), (37, 42), (43, 46), (47, 52), (53, 57)]
def kU2 (f : Nat → Int) (n i : Nat) : Int := kWi f 2 (kSkp f n i) (kLe f n i) kLw 0
theorem kU2_r {f : Nat → Int} {n i : Nat} : kRun (kWst f 2 57 (kSkp f n i) (kLe f n i)) jfu ((0 : Nat), (0 : Nat)) = some (kU2 f n i) := kWi_r kLw jfu 0 0 (jfu_lt (by decide)) (by decide +kernel)
/-! the reader: where it stands, and what it has told so far -/
abbrev qLs : Type := kFS × List Int
def kEm (x : Int) (z : qLs) : qLs := match z.1 with
  | Sum.inl _ => z
  | Sum.inr _ => (z.1, z.2 ++ [x])
def kSx (f : Nat → Int) (n : Nat) (x : Int) (z : qLs) : qLs := (kSs f n x z.1, z.2)
def kLf (c : Int) (z : qLs) : qLs ⊕ (Nat × List Int) := match z.1 with
  | Sum.inl _ => Sum.inl z
  | Sum.inr j => Sum.inr (j, z.2 ++ [c])
def kLt2 (f : Nat → Int) (n : Nat) (x1 x2 c1 c2 : Int) (U : qLs → qLs) (s : Nat × List Int) : qLs ⊕ (Nat × List Int) :=
  if kGb f n s.1 x1 = true then kLf c1 (U (Sum.inr (kSkp f n s.1 + 1), s.2))
  else if kGb f n s.1 x2 = true then kLf c2 (U (Sum.inr (kSkp f n s.1 + 1), s.2))
  else Sum.inl (Sum.inr (kSkp f n s.1), s.2)
noncomputable def qLo (f : Nat → Int) (n : Nat) (x1 x2 c1 c2 : Int) (U : qLs → qLs) (z : qLs) : qLs := match (U z).1 with
  | Sum.inl _ => U z
  | Sum.inr i => (kRun (kLt2 f n x1 x2 c1 c2 U) jfu (i, (U z).2)).getD z
noncomputable def qSu (f : Nat → Int) (n : Nat) (U : qLs → qLs) : qLs → qLs := qLo f n 43 45 2000 2001 (qLo f n 42 47 2002 2003 U)
def kDb (f : Nat → Int) (n i : Nat) : Bool := decide (kSkp f n i < n ∧ kId f (kSkp f n i) = true)
def kCho (f : Nat → Int) (n : Nat) (S : qLs → qLs) (c : Int) (z : qLs) : qLs := kEm c (kSx f n 93 (S (kSx f n 44 (S (kSx f n 91 z)))))
def kUni (f : Nat → Int) (n : Nat) (full : Bool) (S : qLs → qLs) (z : qLs) : qLs := match z.1 with
  | Sum.inl _ => z
  | Sum.inr i => if kDb f n i = true then kEm (kNs f n 0 999 (Sum.inr i)).2 ((kNs f n 0 999 (Sum.inr i)).1, z.2)
    else if kGb f n i 40 = true then (if full = true then (Sum.inl (3, kSkp f n i), z.2) else kSx f n 41 (S (Sum.inr (kSkp f n i + 1), z.2)))
    else if kU2 f n i = -1 then (Sum.inl (1, kSkp f n i), z.2)
    else if kU2 f n i < 9 then (Sum.inr (kLe f n i), z.2 ++ [1000 + kU2 f n i])
    else if full = true then (Sum.inl (3, kSkp f n i), z.2)
    else kCho f n S (if kU2 f n i = 9 then 2004 else 2005) (Sum.inr (kLe f n i), z.2)
noncomputable def kUn (f : Nat → Int) (n : Nat) : Nat → qLs → qLs
  | 0 => kUni f n true (fun z => z)
  | D + 1 => kUni f n false (qSu f n (kUn f n D))
/-! what is read is a law -/
def kLeg (s : Int) : Prop := (0 ≤ s ∧ s ≤ 999) ∨ (1000 ≤ s ∧ s ≤ 1008) ∨ (2000 ≤ s ∧ s ≤ 2005)
def kLg (B : Nat) (x : List Int) : Prop := (∀ s ∈ x, kLeg s) ∧ ∀ h r, h ≤ B → kHt (x ++ r) h = kHt r (h + 1)
def qGr (n B i : Nat) (l : List Int) (z : qLs) : Prop := match z.1 with
  | Sum.inl e => e.2 ≤ n
  | Sum.inr j => i < j ∧ j ≤ n ∧ z.2.length + i ≤ l.length + j ∧ ∃ x, z.2 = l ++ x ∧ kLg B x
def qGd (n B : Nat) (P : qLs → qLs) : Prop := (∀ e l, P (Sum.inl e, l) = (Sum.inl e, l)) ∧ ∀ i l, i ≤ n → qGr n B i l (P (Sum.inr i, l))
theorem kLg_v {B : Nat} {v : Int} (hB : B ≤ 20) (h : (0 ≤ v ∧ v ≤ 999) ∨ (1000 ≤ v ∧ v ≤ 1008)) : kLg B [v] := by
  refine ⟨fun s hs => ?_, fun h' r hh => ?_⟩
  · rw [List.mem_singleton] at hs; subst hs
    rcases h with h | h
    · exact Or.inl h
    · exact Or.inr (Or.inl h)
  · show (if v < 2000 then (if h' < 21 then kHt r (h' + 1) else none) else _) = _
    rw [if_pos (by omega), if_pos (by omega)]
theorem kLg_op {B : Nat} {x y : List Int} {c : Int} (hx : kLg B x) (hy : kLg (B + 1) y) (hc : 2000 ≤ c ∧ c ≤ 2005) : kLg B (x ++ y ++ [c]) := by
  refine ⟨fun s hs => ?_, fun h r hh => ?_⟩
  · rw [List.mem_append, List.mem_append, List.mem_singleton] at hs
    rcases hs with (hs | hs) | hs
    · exact hx.1 s hs
    · exact hy.1 s hs
    · rw [hs]; exact Or.inr (Or.inr hc)
  · rw [List.append_assoc, List.append_assoc, hx.2 h _ hh, hy.2 (h + 1) _ (by omega)]
    show (if c < 2000 then _ else (if 2 ≤ h + 1 + 1 then kHt r (h + 1 + 1 - 1) else none)) = _
    rw [if_neg (by omega), if_pos (by omega)]
    congr 1
theorem kLg_m {B B' : Nat} {x : List Int} (h : kLg B x) (hb : B' ≤ B) : kLg B' x := ⟨h.1, fun a r ha => h.2 a r (by omega)⟩
theorem qGd_m {n B B' : Nat} {P : qLs → qLs} (h : qGd n B P) (hb : B' ≤ B) : qGd n B' P := by
  refine ⟨h.1, fun i l hi => ?_⟩
  have := h.2 i l hi
  unfold qGr at this ⊢
  cases hz : (P (Sum.inr i, l)).1 with
  | inl e => rw [hz] at this; exact this
  | inr j =>
    rw [hz] at this
    obtain ⟨a, b, c, x, d, e⟩ := this
    exact ⟨a, b, c, x, d, kLg_m e hb⟩
/-- a run that goes down ends -/
theorem kRun_ex {σ ρ : Type} {step : σ → ρ ⊕ σ} (I : σ → Prop) (μ : σ → Nat) (Q : ρ → Prop) (hs : ∀ s, I s → (∃ r, step s = Sum.inl r ∧ Q r) ∨ (∃ s', step s = Sum.inr s' ∧ μ s' < μ s ∧ I s')) : ∀ (N : Nat) (s : σ), μ s < N → I s → ∃ r, kRun step N s = some r ∧ Q r
  | 0, _, h, _ => by omega
  | N + 1, s, h, hi => by
    rw [kRun_s]
    rcases hs s hi with ⟨r, h1, h2⟩ | ⟨s', h1, h2, h3⟩
    · exact ⟨r, by rw [h1], h2⟩
    · obtain ⟨r, r1, r2⟩ := kRun_ex I μ Q hs N s' (by omega) h3
      exact ⟨r, by rw [h1]; exact r1, r2⟩
theorem kGb_l {f : Nat → Int} {n i : Nat} {x : Int} (h : kGb f n i x = true) : i ≤ kSkp f n i ∧ kSkp f n i < n := ⟨kSkp_ge, (kGb_t h).1⟩
/-- one turn of the loop -/
theorem kLt2_in {f : Nat → Int} {n B : Nat} {x1 x2 c1 c2 : Int} {U : qLs → qLs} (hU : qGd n (B + 1) U) (hc1 : 2000 ≤ c1 ∧ c1 ≤ 2005) (hc2 : 2000 ≤ c2 ∧ c2 ≤ 2005) {i : Nat} {l : List Int} (hi : i ≤ n) : (∃ r : qLs, kLt2 f n x1 x2 c1 c2 U (i, l) = Sum.inl r ∧ ((∃ e, r.1 = Sum.inl e ∧ e.2 ≤ n) ∨ r = (Sum.inr (kSkp f n i), l))) ∨ (∃ (j : Nat) (y : List Int) (c : Int), kLt2 f n x1 x2 c1 c2 U (i, l) = Sum.inr (j, l ++ y ++ [c]) ∧ i < j ∧ j ≤ n ∧ (l ++ y ++ [c]).length + i ≤ l.length + j ∧ kLg (B + 1) y ∧ 2000 ≤ c ∧ c ≤ 2005) := by
  have go : ∀ (x c : Int), (2000 ≤ c ∧ c ≤ 2005) → kGb f n i x = true → (∃ r : qLs, kLf c (U (Sum.inr (kSkp f n i + 1), l)) = Sum.inl r ∧ ((∃ e, r.1 = Sum.inl e ∧ e.2 ≤ n) ∨ r = (Sum.inr (kSkp f n i), l))) ∨ (∃ (j : Nat) (y : List Int) (c' : Int), kLf c (U (Sum.inr (kSkp f n i + 1), l)) = Sum.inr (j, l ++ y ++ [c']) ∧ i < j ∧ j ≤ n ∧ (l ++ y ++ [c']).length + i ≤ l.length + j ∧ kLg (B + 1) y ∧ 2000 ≤ c' ∧ c' ≤ 2005) := fun x c hc hg => by
    have hl := kGb_l hg
    have h := hU.2 (kSkp f n i + 1) l (by omega)
    unfold qGr at h
    unfold kLf
    cases hz : (U (Sum.inr (kSkp f n i + 1), l)).1 with
    | inl e => rw [hz] at h; exact Or.inl ⟨_, rfl, Or.inl ⟨e, hz, h⟩⟩
    | inr j =>
      rw [hz] at h
      obtain ⟨a1, a2, a3, y, a4, a5⟩ := h
      refine Or.inr ⟨j, y, c, ?_, by omega, a2, ?_, a5, hc⟩
      · dsimp only; rw [a4]
      · rw [a4] at a3
        simp only [List.length_append, List.length_singleton] at a3 ⊢
        omega
  unfold kLt2
  dsimp only
  by_cases h1 : kGb f n i x1 = true
  · rw [if_pos h1]; exact go x1 c1 hc1 h1
  · rw [if_neg h1]
    by_cases h2 : kGb f n i x2 = true
    · rw [if_pos h2]; exact go x2 c2 hc2 h2
    · rw [if_neg h2]; exact Or.inl ⟨_, rfl, Or.inr rfl⟩
theorem qLo_gd {f : Nat → Int} {n B : Nat} {x1 x2 c1 c2 : Int} {U : qLs → qLs} (hn : n ≤ 600) (hU : qGd n (B + 1) U) (hc1 : 2000 ≤ c1 ∧ c1 ≤ 2005) (hc2 : 2000 ≤ c2 ∧ c2 ≤ 2005) : qGd n B (qLo f n x1 x2 c1 c2 U) := by
  refine ⟨fun e l => by unfold qLo; rw [hU.1 e l], fun i l hi => ?_⟩
  have h := hU.2 i l hi
  unfold qGr at h
  unfold qLo
  cases hz : (U (Sum.inr i, l)).1 with
  | inl e =>
    rw [hz] at h
    dsimp only
    unfold qGr
    rw [hz]; exact h
  | inr j =>
    rw [hz] at h
    obtain ⟨a1, a2, a3, x, a4, a5⟩ := h
    dsimp only
    obtain ⟨r, r1, r2⟩ := kRun_ex (step := kLt2 f n x1 x2 c1 c2 U) (fun s => i < s.1 ∧ s.1 ≤ n ∧ s.2.length + i ≤ l.length + s.1 ∧ ∃ x, s.2 = l ++ x ∧ kLg B x) (fun s => n - s.1) (fun r => qGr n B i l r) (fun s hs => by
      obtain ⟨k, q⟩ := s
      obtain ⟨b1, b2, b3, x, b4, b5⟩ := hs
      dsimp only at b1 b2 b3 b4
      rcases kLt2_in (f := f) (x1 := x1) (x2 := x2) (B := B) hU hc1 hc2 (i := k) (l := q) b2 with ⟨r, r1, r2⟩ | ⟨j, y, c, r1, r2, r3, r4, r5, r6⟩
      · refine Or.inl ⟨r, r1, ?_⟩
        rcases r2 with ⟨e, e1, e2⟩ | r2
        · unfold qGr; rw [e1]; exact e2
        · rw [r2]
          have := kSkp_ge (f := f) (n := n) (i := k)
          have := kSkp_le (f := f) b2
          exact ⟨by omega, by omega, by show q.length + i ≤ l.length + kSkp f n k; omega, x, b4, b5⟩
      · refine Or.inr ⟨_, r1, by show n - j < n - k; omega, by show i < j; omega, r3, by show (q ++ y ++ [c]).length + i ≤ l.length + j; omega, x ++ y ++ [c], ?_, kLg_op b5 r5 r6⟩
        show q ++ y ++ [c] = l ++ (x ++ y ++ [c])
        rw [b4]; simp only [List.append_assoc]) jfu (j, (U (Sum.inr i, l)).2) (jfu_lt (by show n - j < 4000000; omega)) ⟨a1, a2, a3, x, a4, kLg_m a5 (by omega)⟩
    rw [r1]
    exact r2
theorem qSu_gd {f : Nat → Int} {n B : Nat} {U : qLs → qLs} (hn : n ≤ 600) (hU : qGd n (B + 2) U) : qGd n B (qSu f n U) := qLo_gd hn (qLo_gd hn hU (by decide) (by decide)) (by decide) (by decide)
