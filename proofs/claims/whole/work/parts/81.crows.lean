/-! ROWS of a city: the pure steps, and the class. -/
def kWk (k : Nat) : Nat := if k = 0 then 0 else if k ≤ 3 then 1 else if k ≤ 6 then 2 else 3
theorem kWk_cs {k : Nat} : (k = 0 ∧ kWk k = 0) ∨ (1 ≤ k ∧ k ≤ 3 ∧ kWk k = 1) ∨ (4 ≤ k ∧ k ≤ 6 ∧ kWk k = 2) ∨ (7 ≤ k ∧ kWk k = 3) := by
  unfold kWk
  by_cases h0 : k = 0
  · rw [if_pos h0]; omega
  · rw [if_neg h0]
    by_cases h1 : k ≤ 3
    · rw [if_pos h1]; omega
    · rw [if_neg h1]
      by_cases h2 : k ≤ 6
      · rw [if_pos h2]; omega
      · rw [if_neg h2]; omega
theorem kN_wk {c : kC} {k : Nat} : kN c k = c 11 (kWk k) := by
  unfold kN kWk
  by_cases h0 : k = 0
  · rw [if_pos h0, if_pos h0]
  · rw [if_neg h0, if_neg h0]
    by_cases h1 : k ≤ 3
    · rw [if_pos h1, if_pos h1]
    · rw [if_neg h1, if_neg h1]
      by_cases h2 : k ≤ 6
      · rw [if_pos h2, if_pos h2]
      · rw [if_neg h2, if_neg h2]
def kApp (c : kC) (t : Nat) (v : Nat → Nat) : kC := fun a b => if a = 11 then (if b = t then c 11 t + 1 else c 11 b) else if kWk a = t ∧ b = c 11 t then v a else c a b
theorem kApp_n {c : kC} {t : Nat} {v : Nat → Nat} : kApp c t v 11 t = c 11 t + 1 := by unfold kApp; rw [if_pos rfl, if_pos rfl]
theorem kApp_o {c : kC} {t b : Nat} {v : Nat → Nat} (h : b ≠ t) : kApp c t v 11 b = c 11 b := by unfold kApp; rw [if_pos rfl, if_neg h]
theorem kApp_v {c : kC} {t a : Nat} {v : Nat → Nat} (ha : a < 11) (h : kWk a = t) : kApp c t v a (c 11 t) = v a := by unfold kApp; rw [if_neg (by omega), if_pos ⟨h, rfl⟩]
theorem kApp_w (a t : Nat) {c : kC} {v : Nat → Nat} (h : decide (a < 11 ∧ kWk a = t) = true) : kApp c t v a (c 11 t) = v a := kApp_v (of_decide_eq_true h).1 (of_decide_eq_true h).2
theorem kApp_r {c : kC} {t a b : Nat} {v : Nat → Nat} (ha : a < 11) (h : ¬ (kWk a = t ∧ b = c 11 t)) : kApp c t v a b = c a b := by unfold kApp; rw [if_neg (by omega), if_neg h]
theorem kCc_app {m m' : jm} {q : Nat} {c : kC} {t : Nat} {v : Nat → Nat} (H : kCc m q c) (hn : ja m' q t = ((c 11 t + 1 : Nat) : Int)) (ho : ∀ i, i < 4 → i ≠ t → ja m' q i = ja m q i) (hv : ∀ k, k < 11 → kWk k = t → ja m' (q + 1 + k) (c 11 t) = (v k : Int)) (hr : ∀ k j, k < 11 → ¬ (kWk k = t ∧ j = c 11 t) → ja m' (q + 1 + k) j = ja m (q + 1 + k) j) : kCc m' q (kApp c t v) := by
  refine ⟨fun i hi => ?_, fun k i hk hi => ?_⟩
  · by_cases e : i = t
    · rw [e, kApp_n]; exact hn
    · rw [kApp_o e, ho i hi e]; exact H.1 i hi
  · rw [kN_wk] at hi
    by_cases e : kWk k = t ∧ i = c 11 t
    · obtain ⟨e1, e2⟩ := e
      rw [e2, kApp_v hk e1]; exact hv k hk e1
    · rw [kApp_r hk e, hr k i hk e]
      refine H.2 k i hk ?_
      rw [kN_wk]
      by_cases e1 : kWk k = t
      · rw [e1, kApp_n] at hi
        rw [e1]
        have : i ≠ c 11 t := fun z => e ⟨e1, z⟩
        omega
      · rw [kApp_o e1] at hi; exact hi
/-! the steps -/
def kTw (c : kC) : Int := (c 11 0 : Int) - 1
def kR0 (f : Nat → Int) (n : Nat) (s : kFS) (c : kC) : kFS × kC := ((kNs f n 0 40 s).1, kApp c 0 (fun _ => (kNs f n 0 40 s).2.toNat))
def kWz (f : Nat → Int) (n : Nat) (c : kC) (p q : kFS × Int) : kFS := match p.1 with
  | Sum.inl e => Sum.inl e
  | Sum.inr i => match q.1 with
    | Sum.inl e => Sum.inl e
    | Sum.inr j => if p.2 = q.2 ∨ kJo c p.2 q.2 ≠ -1 then Sum.inl (2, kSkp f n i) else Sum.inr j
def kV3 (a b d : Nat) (x y z w : Int) (k : Nat) : Nat := if k = a then x.toNat else if k = b then y.toNat else if k = d then z.toNat else w.toNat
def kRa (f : Nat → Int) (n : Nat) (s : kFS) (c : kC) : kFS × Int := kNs f n 0 (kTw c) s
def kRb (f : Nat → Int) (n : Nat) (s : kFS) (c : kC) : kFS × Int := kNs f n 0 (kTw c) (kRa f n s c).1
def kR1d (f : Nat → Int) (n : Nat) (s : kFS) (c : kC) : kFS × Int := kNs f n 0 9 (kWz f n c (kRa f n s c) (kRb f n s c))
def kR1 (f : Nat → Int) (n : Nat) (s : kFS) (c : kC) : kFS × kC := ((kR1d f n s c).1, kApp c 1 (kV3 1 2 3 (kRa f n s c).2 (kRb f n s c).2 (kR1d f n s c).2 0))
def kR2b (f : Nat → Int) (n : Nat) (s : kFS) (c : kC) : kFS × Int := kNs f n 0 40 (kRa f n s c).1
def kR2d (f : Nat → Int) (n : Nat) (s : kFS) (c : kC) : kFS × Int := kNs f n 0 6 (kR2b f n s c).1
def kR2 (f : Nat → Int) (n : Nat) (s : kFS) (c : kC) : kFS × kC := ((kR2d f n s c).1, kApp c 2 (kV3 4 5 6 (kRa f n s c).2 (kR2b f n s c).2 (kR2d f n s c).2 0))
def kR3d (f : Nat → Int) (n : Nat) (s : kFS) (c : kC) : kFS × Int := kNs f n 0 5 (kRb f n s c).1
def kR3e (f : Nat → Int) (n : Nat) (s : kFS) (c : kC) : kFS × Int := kNs f n 1 9 (kR3d f n s c).1
def kR3 (f : Nat → Int) (n : Nat) (s : kFS) (c : kC) : kFS × kC := ((kR3e f n s c).1, kApp c 3 (kV3 7 8 9 (kRa f n s c).2 (kRb f n s c).2 (kR3d f n s c).2 (kR3e f n s c).2))
def kRow (f : Nat → Int) (n : Nat) (w : Int) (s : kFS) (c : kC) : kFS × kC := if w = 0 then kR0 f n s c else if w = 1 then kR1 f n s c else if w = 2 then kR2 f n s c else kR3 f n s c
/-! a city that was good stays good -/
theorem kWz_in {f : Nat → Int} {n j : Nat} {c : kC} {p q : kFS × Int} (h : kWz f n c p q = Sum.inr j) : (∃ i, p.1 = Sum.inr i) ∧ q.1 = Sum.inr j ∧ p.2 ≠ q.2 ∧ kJo c p.2 q.2 = -1 := by
  obtain ⟨p1, p2⟩ := p
  obtain ⟨q1, q2⟩ := q
  cases p1 with
  | inl e => cases h
  | inr i => cases q1 with
    | inl e => cases h
    | inr k =>
      have h' : (if p2 = q2 ∨ kJo c p2 q2 ≠ -1 then (Sum.inl (2, kSkp f n i) : kFS) else Sum.inr k) = Sum.inr j := h
      by_cases z : p2 = q2 ∨ kJo c p2 q2 ≠ -1
      · rw [if_pos z] at h'; cases h'
      · rw [if_neg z] at h'; cases h'
        exact ⟨⟨i, rfl⟩, rfl, fun e => z (Or.inl e), Classical.byContradiction (fun e => z (Or.inr e))⟩
theorem kV_R0 {f : Nat → Int} {n j : Nat} {s : kFS} {c : kC} (hv : kV c) (hn : c 11 0 < 8) (h : (kR0 f n s c).1 = Sum.inr j) : kV (kR0 f n s c).2 ∧ ∃ i, s = Sum.inr i ∧ i < j ∧ (i ≤ n → j ≤ n) := by
  obtain ⟨⟨v1, v2, v3, v4⟩, w0, w1, w2, w3, w4⟩ := hv
  obtain ⟨i, rfl, -, b1, b2, b3, b4⟩ := kNs_in (show (kNs f n 0 40 s).1 = Sum.inr j from h)
  refine ⟨?_, i, rfl, b3, b4⟩
  show kV (kApp c 0 _)
  have e0 : ∀ a b, a < 11 → ¬ a = 0 → kApp c 0 (fun _ => (kNs f n 0 40 (Sum.inr i)).2.toNat) a b = c a b := fun a b ha hb => kApp_r ha (fun z => by have := z.1; have := kWk_cs (k := a); omega)
  unfold kV
  rw [kApp_n, kApp_o (show 1 ≠ 0 by decide), kApp_o (show 2 ≠ 0 by decide), kApp_o (show 3 ≠ 0 by decide)]
  refine ⟨⟨by omega, v2, v3, v4⟩, fun t ht => ?_, fun e he => ?_, fun e g he hg => ?_, fun w hw => ?_, fun l hl => ?_⟩
  · by_cases z : t = c 11 0
    · rw [z, kApp_w 0 0 rfl]; omega
    · rw [kApp_r (by decide) (fun y => z y.2)]; exact w0 t (by omega)
  · rw [e0 1 e (by decide) (by decide), e0 2 e (by decide) (by decide), e0 3 e (by decide) (by decide)]
    have := w1 e he; exact ⟨by omega, by omega, this.2.2⟩
  · rw [e0 1 e (by decide) (by decide), e0 2 e (by decide) (by decide), e0 1 g (by decide) (by decide), e0 2 g (by decide) (by decide)]; exact w2 e g he hg
  · rw [e0 4 w (by decide) (by decide), e0 5 w (by decide) (by decide), e0 6 w (by decide) (by decide)]
    have := w3 w hw; exact ⟨by omega, this.2⟩
  · rw [e0 7 l (by decide) (by decide), e0 8 l (by decide) (by decide), e0 9 l (by decide) (by decide), e0 10 l (by decide) (by decide)]
    have := w4 l hl; exact ⟨by omega, by omega, this.2.2⟩
theorem kWk_n {t : Nat} (a : Nat) (h : decide (kWk a = t) = false) (b : Nat) {c : kC} : ¬ (kWk a = t ∧ b = c 11 t) := fun z => of_decide_eq_false h z.1
theorem kV_R1 {f : Nat → Int} {n j : Nat} {s : kFS} {c : kC} (hv : kV c) (hn : c 11 1 < 12) (h : (kR1 f n s c).1 = Sum.inr j) : kV (kR1 f n s c).2 ∧ ∃ i, s = Sum.inr i ∧ i < j ∧ (i ≤ n → j ≤ n) := by
  obtain ⟨⟨v1, v2, v3, v4⟩, w0, w1, w2, w3, w4⟩ := hv
  obtain ⟨i3, a3, -, b31, b32, b33, b34⟩ := kNs_in (show (kNs f n 0 9 (kWz f n c (kRa f n s c) (kRb f n s c))).1 = Sum.inr j from h)
  obtain ⟨-, y2, y3, y4⟩ := kWz_in a3
  obtain ⟨i2, a2, -, b21, b22, b23, b24⟩ := kNs_in (show (kNs f n 0 (kTw c) (kRa f n s c).1).1 = Sum.inr i3 from y2)
  obtain ⟨i1, a1, -, b11, b12, b13, b14⟩ := kNs_in (show (kNs f n 0 (kTw c) s).1 = Sum.inr i2 from a2)
  refine ⟨?_, i1, a1, by omega, fun z => b34 (b24 (b14 z))⟩
  have A1 : 0 ≤ (kRa f n s c).2 := b11
  have A2 : (kRa f n s c).2 ≤ kTw c := b12
  have B1 : 0 ≤ (kRb f n s c).2 := b21
  have B2 : (kRb f n s c).2 ≤ kTw c := b22
  have D1 : 0 ≤ (kR1d f n s c).2 := b31
  have D2 : (kR1d f n s c).2 ≤ 9 := b32
  show kV (kApp c 1 (kV3 1 2 3 (kRa f n s c).2 (kRb f n s c).2 (kR1d f n s c).2 0))
  generalize (kRa f n s c).2 = a at *
  generalize (kRb f n s c).2 = b at *
  generalize (kR1d f n s c).2 = d at *
  unfold kTw at A2 B2
  obtain ⟨x, rfl⟩ := Int.eq_ofNat_of_zero_le A1
  obtain ⟨y, rfl⟩ := Int.eq_ofNat_of_zero_le B1
  have nj : ∀ e, e < c 11 1 → ¬ ((c 1 e = x ∧ c 2 e = y) ∨ (c 1 e = y ∧ c 2 e = x)) := by
    rcases kJo_cs (c := c) (u := x) (v := y) with z | ⟨e, -, z, -⟩
    · exact z.2
    · rw [z] at y4; omega
  have q1 : kV3 1 2 3 (x : Int) (y : Int) d 0 1 = x := by show (x : Int).toNat = x; omega
  have q2 : kV3 1 2 3 (x : Int) (y : Int) d 0 2 = y := by show (y : Int).toNat = y; omega
  have q3 : kV3 1 2 3 (x : Int) (y : Int) d 0 3 = d.toNat := rfl
  generalize kV3 1 2 3 (x : Int) (y : Int) d 0 = V at *
  unfold kV
  rw [kApp_n, kApp_o (show 0 ≠ 1 by decide), kApp_o (show 2 ≠ 1 by decide), kApp_o (show 3 ≠ 1 by decide)]
  refine ⟨⟨v1, by omega, v3, v4⟩, fun t ht => ?_, fun e he => ?_, fun e g he hg => ?_, fun w hw => ?_, fun l hl => ?_⟩
  · rw [kApp_r (by decide) (kWk_n 0 rfl t)]; exact w0 t ht
  · by_cases z : e = c 11 1
    · rw [z, kApp_w 1 1 rfl, kApp_w 2 1 rfl, kApp_w 3 1 rfl, q1, q2, q3]; omega
    · rw [kApp_r (by decide) (fun y => z y.2), kApp_r (by decide) (fun y => z y.2), kApp_r (by decide) (fun y => z y.2)]; exact w1 e (by omega)
  · by_cases z : e = c 11 1
    · by_cases z' : g = c 11 1
      · omega
      · rw [z, kApp_w 1 1 rfl, kApp_w 2 1 rfl, q1, q2, kApp_r (by decide) (fun y => z' y.2), kApp_r (by decide) (fun y => z' y.2)]
        intro k
        have := nj g (by omega)
        omega
    · by_cases z' : g = c 11 1
      · rw [z', kApp_w 1 1 rfl, kApp_w 2 1 rfl, q1, q2, kApp_r (by decide) (fun y => z y.2), kApp_r (by decide) (fun y => z y.2)]
        intro k
        have := nj e (by omega)
        omega
      · rw [kApp_r (by decide) (fun y => z y.2), kApp_r (by decide) (fun y => z y.2), kApp_r (by decide) (fun y => z' y.2), kApp_r (by decide) (fun y => z' y.2)]
        exact w2 e g (by omega) (by omega)
  · rw [kApp_r (by decide) (kWk_n 4 rfl w), kApp_r (by decide) (kWk_n 5 rfl w), kApp_r (by decide) (kWk_n 6 rfl w)]; exact w3 w hw
  · rw [kApp_r (by decide) (kWk_n 7 rfl l), kApp_r (by decide) (kWk_n 8 rfl l), kApp_r (by decide) (kWk_n 9 rfl l), kApp_r (by decide) (kWk_n 10 rfl l)]; exact w4 l hl
theorem kV_R2 {f : Nat → Int} {n j : Nat} {s : kFS} {c : kC} (hv : kV c) (hn : c 11 2 < 6) (h : (kR2 f n s c).1 = Sum.inr j) : kV (kR2 f n s c).2 ∧ ∃ i, s = Sum.inr i ∧ i < j ∧ (i ≤ n → j ≤ n) := by
  obtain ⟨⟨v1, v2, v3, v4⟩, w0, w1, w2, w3, w4⟩ := hv
  obtain ⟨i3, a3, -, b31, b32, b33, b34⟩ := kNs_in (show (kNs f n 0 6 (kR2b f n s c).1).1 = Sum.inr j from h)
  obtain ⟨i2, a2, -, b21, b22, b23, b24⟩ := kNs_in (show (kNs f n 0 40 (kRa f n s c).1).1 = Sum.inr i3 from a3)
  obtain ⟨i1, a1, -, b11, b12, b13, b14⟩ := kNs_in (show (kNs f n 0 (kTw c) s).1 = Sum.inr i2 from a2)
  refine ⟨?_, i1, a1, by omega, fun z => b34 (b24 (b14 z))⟩
  have A1 : 0 ≤ (kRa f n s c).2 := b11
  have A2 : (kRa f n s c).2 ≤ kTw c := b12
  have B1 : 0 ≤ (kR2b f n s c).2 := b21
  have B2 : (kR2b f n s c).2 ≤ 40 := b22
  have D1 : 0 ≤ (kR2d f n s c).2 := b31
  have D2 : (kR2d f n s c).2 ≤ 6 := b32
  show kV (kApp c 2 (kV3 4 5 6 (kRa f n s c).2 (kR2b f n s c).2 (kR2d f n s c).2 0))
  generalize (kRa f n s c).2 = a at *
  generalize (kR2b f n s c).2 = b at *
  generalize (kR2d f n s c).2 = d at *
  unfold kTw at A2
  have q1 : kV3 4 5 6 a b d 0 4 = a.toNat := rfl
  have q2 : kV3 4 5 6 a b d 0 5 = b.toNat := rfl
  have q3 : kV3 4 5 6 a b d 0 6 = d.toNat := rfl
  generalize kV3 4 5 6 a b d 0 = V at *
  unfold kV
  rw [kApp_n, kApp_o (show 0 ≠ 2 by decide), kApp_o (show 1 ≠ 2 by decide), kApp_o (show 3 ≠ 2 by decide)]
  refine ⟨⟨v1, v2, by omega, v4⟩, fun t ht => ?_, fun e he => ?_, fun e g he hg => ?_, fun w hw => ?_, fun l hl => ?_⟩
  · rw [kApp_r (by decide) (kWk_n 0 rfl t)]; exact w0 t ht
  · rw [kApp_r (by decide) (kWk_n 1 rfl e), kApp_r (by decide) (kWk_n 2 rfl e), kApp_r (by decide) (kWk_n 3 rfl e)]; exact w1 e he
  · rw [kApp_r (by decide) (kWk_n 1 rfl e), kApp_r (by decide) (kWk_n 2 rfl e), kApp_r (by decide) (kWk_n 1 rfl g), kApp_r (by decide) (kWk_n 2 rfl g)]; exact w2 e g he hg
  · by_cases z : w = c 11 2
    · rw [z, kApp_w 4 2 rfl, kApp_w 5 2 rfl, kApp_w 6 2 rfl, q1, q2, q3]; omega
    · rw [kApp_r (by decide) (fun y => z y.2), kApp_r (by decide) (fun y => z y.2), kApp_r (by decide) (fun y => z y.2)]; exact w3 w (by omega)
  · rw [kApp_r (by decide) (kWk_n 7 rfl l), kApp_r (by decide) (kWk_n 8 rfl l), kApp_r (by decide) (kWk_n 9 rfl l), kApp_r (by decide) (kWk_n 10 rfl l)]; exact w4 l hl
theorem kV_R3 {f : Nat → Int} {n j : Nat} {s : kFS} {c : kC} (hv : kV c) (hn : c 11 3 < 8) (h : (kR3 f n s c).1 = Sum.inr j) : kV (kR3 f n s c).2 ∧ ∃ i, s = Sum.inr i ∧ i < j ∧ (i ≤ n → j ≤ n) := by
  obtain ⟨⟨v1, v2, v3, v4⟩, w0, w1, w2, w3, w4⟩ := hv
  obtain ⟨i4, a4, -, b41, b42, b43, b44⟩ := kNs_in (show (kNs f n 1 9 (kR3d f n s c).1).1 = Sum.inr j from h)
  obtain ⟨i3, a3, -, b31, b32, b33, b34⟩ := kNs_in (show (kNs f n 0 5 (kRb f n s c).1).1 = Sum.inr i4 from a4)
  obtain ⟨i2, a2, -, b21, b22, b23, b24⟩ := kNs_in (show (kNs f n 0 (kTw c) (kRa f n s c).1).1 = Sum.inr i3 from a3)
  obtain ⟨i1, a1, -, b11, b12, b13, b14⟩ := kNs_in (show (kNs f n 0 (kTw c) s).1 = Sum.inr i2 from a2)
  refine ⟨?_, i1, a1, by omega, fun z => b44 (b34 (b24 (b14 z)))⟩
  have A1 : 0 ≤ (kRa f n s c).2 := b11
  have A2 : (kRa f n s c).2 ≤ kTw c := b12
  have B1 : 0 ≤ (kRb f n s c).2 := b21
  have B2 : (kRb f n s c).2 ≤ kTw c := b22
  have D1 : 0 ≤ (kR3d f n s c).2 := b31
  have D2 : (kR3d f n s c).2 ≤ 5 := b32
  have E1 : 1 ≤ (kR3e f n s c).2 := b41
  have E2 : (kR3e f n s c).2 ≤ 9 := b42
  show kV (kApp c 3 (kV3 7 8 9 (kRa f n s c).2 (kRb f n s c).2 (kR3d f n s c).2 (kR3e f n s c).2))
  generalize (kRa f n s c).2 = a at *
  generalize (kRb f n s c).2 = b at *
  generalize (kR3d f n s c).2 = d at *
  generalize (kR3e f n s c).2 = g at *
  unfold kTw at A2 B2
  have q1 : kV3 7 8 9 a b d g 7 = a.toNat := rfl
  have q2 : kV3 7 8 9 a b d g 8 = b.toNat := rfl
  have q3 : kV3 7 8 9 a b d g 9 = d.toNat := rfl
  have q4 : kV3 7 8 9 a b d g 10 = g.toNat := rfl
  generalize kV3 7 8 9 a b d g = V at *
  unfold kV
  rw [kApp_n, kApp_o (show 0 ≠ 3 by decide), kApp_o (show 1 ≠ 3 by decide), kApp_o (show 2 ≠ 3 by decide)]
  refine ⟨⟨v1, v2, v3, by omega⟩, fun t ht => ?_, fun e he => ?_, fun e g he hg => ?_, fun w hw => ?_, fun l hl => ?_⟩
  · rw [kApp_r (by decide) (kWk_n 0 rfl t)]; exact w0 t ht
  · rw [kApp_r (by decide) (kWk_n 1 rfl e), kApp_r (by decide) (kWk_n 2 rfl e), kApp_r (by decide) (kWk_n 3 rfl e)]; exact w1 e he
  · rw [kApp_r (by decide) (kWk_n 1 rfl e), kApp_r (by decide) (kWk_n 2 rfl e), kApp_r (by decide) (kWk_n 1 rfl g), kApp_r (by decide) (kWk_n 2 rfl g)]; exact w2 e g he hg
  · rw [kApp_r (by decide) (kWk_n 4 rfl w), kApp_r (by decide) (kWk_n 5 rfl w), kApp_r (by decide) (kWk_n 6 rfl w)]; exact w3 w hw
  · by_cases z : l = c 11 3
    · rw [z, kApp_w 7 3 rfl, kApp_w 8 3 rfl, kApp_w 9 3 rfl, kApp_w 10 3 rfl, q1, q2, q3, q4]; omega
    · rw [kApp_r (by decide) (fun y => z y.2), kApp_r (by decide) (fun y => z y.2), kApp_r (by decide) (fun y => z y.2), kApp_r (by decide) (fun y => z y.2)]; exact w4 l (by omega)
/-- full of what word w tells -/
def kFl (c : kC) (w : Int) : Bool := if w = 0 then decide (8 ≤ c 11 0) else if w = 1 then decide (12 ≤ c 11 1) else if w = 2 then decide (6 ≤ c 11 2) else decide (8 ≤ c 11 3)
theorem kV_row {f : Nat → Int} {n j : Nat} {s : kFS} {c : kC} {w : Int} (hv : kV c) (hn : kFl c w = false) (h : (kRow f n w s c).1 = Sum.inr j) : kV (kRow f n w s c).2 ∧ ∃ i, s = Sum.inr i ∧ i < j ∧ (i ≤ n → j ≤ n) := by
  unfold kRow at h ⊢
  unfold kFl at hn
  by_cases w0 : w = 0
  · rw [if_pos w0] at h hn ⊢; exact kV_R0 hv (by have := of_decide_eq_false hn; omega) h
  · rw [if_neg w0] at h hn ⊢
    by_cases w1 : w = 1
    · rw [if_pos w1] at h hn ⊢; exact kV_R1 hv (by have := of_decide_eq_false hn; omega) h
    · rw [if_neg w1] at h hn ⊢
      by_cases w2 : w = 2
      · rw [if_pos w2] at h hn ⊢; exact kV_R2 hv (by have := of_decide_eq_false hn; omega) h
      · rw [if_neg w2] at h hn ⊢; exact kV_R3 hv (by have := of_decide_eq_false hn; omega) h
