/-! THE PICTURE that class and model share. A city is c : Nat → Nat → Nat: c 0 t height; c 1 e, c 2 e ends; c 3 e slack told; c 4 w home, c 5 w nerve, c 6 w takes; c 7 l source, c 8 l target, c 9 l kind, c 10 l weight; c 11 0..3 how many towers, wires, walkers, letters. A post is p : Nat → Nat → Int: p 0 e slack, p 1 e hum; p 2 w place, p 3 w resin, p 4 w falls; p 5 l where, p 6 l who holds, p 7 l there; p 8 0 day, p 8 1 fog. -/
abbrev kC : Type := Nat → Nat → Nat
abbrev kP : Type := Nat → Nat → Int
def kV (c : kC) : Prop := (c 11 0 ≤ 8 ∧ c 11 1 ≤ 12 ∧ c 11 2 ≤ 6 ∧ c 11 3 ≤ 8)
  ∧ (∀ t, t < c 11 0 → c 0 t ≤ 40)
  ∧ (∀ e, e < c 11 1 → c 1 e < c 11 0 ∧ c 2 e < c 11 0 ∧ c 1 e ≠ c 2 e ∧ c 3 e ≤ 9)
  ∧ (∀ e f, e < c 11 1 → f < c 11 1 → ((c 1 e = c 1 f ∧ c 2 e = c 2 f) ∨ (c 1 e = c 2 f ∧ c 2 e = c 1 f)) → e = f)
  ∧ (∀ w, w < c 11 2 → c 4 w < c 11 0 ∧ c 5 w ≤ 40 ∧ c 6 w ≤ 6)
  ∧ (∀ l, l < c 11 3 → c 7 l < c 11 0 ∧ c 8 l < c 11 0 ∧ c 9 l ≤ 5 ∧ 1 ≤ c 10 l ∧ c 10 l ≤ 9)
/-- how many there are of what field k tells of -/
def kN (c : kC) (k : Nat) : Nat := if k = 0 then c 11 0 else if k ≤ 3 then c 11 1 else if k ≤ 6 then c 11 2 else c 11 3
/-- the class's city at cell b -/
def kCc (m : jm) (b : Nat) (c : kC) : Prop := (∀ i, i < 4 → ja m b i = c 11 i) ∧ (∀ k i, k < 11 → i < kN c k → ja m (b + 1 + k) i = c k i)
/-- the model's city: counts at field f, rows from cell a on -/
def kCm (m : jm) (f a : Nat) (c : kC) : Prop := (∀ i, i < 4 → ja m 67 (f + i) = c 11 i)
  ∧ (∀ t, t < c 11 0 → ja m a t = c 0 t)
  ∧ (∀ e, e < c 11 1 → ja m (a + 1) (2 * e) = c 1 e ∧ ja m (a + 1) (2 * e + 1) = c 2 e ∧ ja m (a + 2) e = c 3 e)
  ∧ (∀ w, w < c 11 2 → ja m (a + 3) (3 * w) = c 4 w ∧ ja m (a + 3) (3 * w + 1) = c 5 w ∧ ja m (a + 3) (3 * w + 2) = c 6 w)
  ∧ (∀ l, l < c 11 3 → ja m (a + 4) (4 * l) = c 7 l ∧ ja m (a + 4) (4 * l + 1) = c 8 l ∧ ja m (a + 4) (4 * l + 2) = c 9 l ∧ ja m (a + 4) (4 * l + 3) = c 10 l)
/-- a letter's cell in the class -/
def kLt (p : kP) (l : Nat) : Int := if p 7 l = 1 then 14 else if p 6 l = -1 then p 5 l else 8 + p 6 l
def kPc (f : Nat → Int) (c : kC) (p : kP) : Prop := f 0 = p 8 0 ∧ f 1 = p 8 1
  ∧ (∀ e, e < c 11 1 → f (2 + e) = p 0 e ∧ f (14 + e) = p 1 e)
  ∧ (∀ w, w < c 11 2 → f (26 + w) = p 2 w ∧ f (32 + w) = p 3 w ∧ f (38 + w) = p 4 w)
  ∧ (∀ l, l < c 11 3 → f (44 + l) = kLt p l)
def kPm (f : Nat → Int) (c : kC) (p : kP) : Prop := f 66 = p 8 0 ∧ f 67 = p 8 1
  ∧ (∀ e, e < c 11 1 → f e = p 0 e ∧ f (12 + e) = p 1 e)
  ∧ (∀ w, w < c 11 2 → f (24 + w) = p 2 w ∧ f (30 + w) = p 3 w ∧ f (36 + w) = p 4 w)
  ∧ (∀ l, l < c 11 3 → f (42 + l) = p 5 l ∧ f (50 + l) = p 6 l ∧ f (58 + l) = p 7 l)
/-- how many of the first n letters walker w holds -/
def kHeld (p : kP) (w : Int) : Nat → Nat
  | 0 => 0
  | n + 1 => kHeld p w n + (if p 6 n = w then 1 else 0)
def kVp (c : kC) (p : kP) : Prop := (p 8 1 = 0 ∨ p 8 1 = 1)
  ∧ (∀ e, e < c 11 1 → 0 ≤ p 0 e ∧ p 0 e ≤ 9)
  ∧ (∀ w, w < c 11 2 → -1 ≤ p 2 w ∧ p 2 w < c 11 0 ∧ 0 ≤ p 3 w ∧ p 3 w ≤ 9)
  ∧ (∀ l, l < c 11 3 → (p 7 l = 0 ∨ p 7 l = 1) ∧ -1 ≤ p 6 l ∧ p 6 l < c 11 2 ∧ (p 7 l = 1 → p 6 l = -1 ∧ p 5 l = c 8 l) ∧ (p 6 l ≠ -1 → p 5 l = -1 ∧ p 7 l = 0 ∧ p 2 (p 6 l).toNat ≠ -1) ∧ (p 6 l = -1 → 0 ≤ p 5 l ∧ p 5 l < c 11 0))
  ∧ (∀ w : Nat, w < c 11 2 → kHeld p w (c 11 3) ≤ 2)
/-- two rows, the class's f and the model's g, tell the same post, on a day that may be -/
def kPost (f g : Nat → Int) (c : kC) : Prop := ∃ p : kP, kPc f c p ∧ kPm g c p ∧ kVp c p ∧ 0 ≤ p 8 0 ∧ p 8 0 ≤ 700
/-- a law's steps: a number below 1000, 1000 + i a fact, 2000 .. 2005 what is done with two; h the height of the stack -/
def kHt : List Int → Nat → Option Nat
  | [], h => some h
  | s :: r, h => if s < 2000 then (if h < 21 then kHt r (h + 1) else none) else (if 2 ≤ h then kHt r (h - 1) else none)
def kWL (cl : List Int) : Prop := cl.length ≤ 150 ∧ (∀ s ∈ cl, (0 ≤ s ∧ s ≤ 999) ∨ (1000 ≤ s ∧ s ≤ 1008) ∨ (2000 ≤ s ∧ s ≤ 2005)) ∧ kHt cl 0 = some 1
def kWo : List Int := [1000, 2, 2002, 1002, 2000, 1003, 2000]
def kLc (m : jm) (b : Nat) (cl : List Int) : Prop := ja m b 1 = cl.length ∧ ∀ i, i < cl.length → ja m (b + 1) i = cl.getD i 0
def kEn (w o : Int) : Int := if w = 0 then o else if w = 1 then 1000 + o else 1998 + w
def kLm (m : jm) (cl : List Int) : Prop := (ja m 67 34 = 0 ∧ cl = kWo) ∨ (ja m 67 34 = cl.length ∧ 0 < cl.length ∧ ∀ i, i < cl.length → 0 ≤ ja m 82 i ∧ ja m 82 i ≤ 7 ∧ (ja m 82 i = 0 → 0 ≤ ja m 83 i ∧ ja m 83 i ≤ 999) ∧ (ja m 82 i = 1 → 0 ≤ ja m 83 i ∧ ja m 83 i ≤ 8) ∧ kEn (ja m 82 i) (ja m 83 i) = cl.getD i 0)
/-- what was seen on the wires -/
def kBk (m : jm) (c : kC) : Prop := ja m 33 1 = ja m 67 52 ∧ ∀ e, e < 12 → ja m 34 e = ja m 92 e ∧ -1 ≤ ja m 92 e ∧ ja m 92 e ≤ 99 ∧ (c 11 1 ≤ e → ja m 92 e = -1)
def kPast (m : jm) (c : kC) : Prop := ∃ n : Nat, n ≤ 16 ∧ ja m 50 1 = n ∧ ja m 67 39 = n ∧ ∀ i, i < n → kPost (fun j => ja m 51 (52 * i + j)) (fun j => ja m 90 (68 * i + j)) c
def kImg (m : jm) (c : kC) : Prop := ∃ n : Nat, n ≤ 3 ∧ ja m 50 5 = n ∧ ja m 67 66 = n ∧ ∀ i, i < n → kPost (fun j => ja m 53 (52 * i + j)) (fun j => ja m 101 (1157 * i + j)) c ∧ ∃ w : Nat, w ≤ 16 ∧ ja m 54 i = w ∧ ja m 101 (1157 * i + 1156) = w ∧ ∀ r, r < w → kPost (fun j => ja m 52 (832 * i + 52 * r + j)) (fun j => ja m 101 (1157 * i + 68 + 68 * r + j)) c
/-- all that lasts, but the tape and the counters of refusals -/
def kS (m : jm) : Prop := ∃ (c : kC) (cl : List Int), kV c ∧ kCc m 3 c ∧ kCm m 24 75 c ∧ kPost (fun j => ja m 48 j) (fun j => ja m 88 j) c ∧ kWL cl ∧ kLc m 27 cl ∧ kLm m cl ∧ kBk m c ∧ kPast m c ∧ kImg m c ∧ ja m 0 14 = ja m 67 40
def kT (m : jm) : Prop := ∃ n : Nat, n ≤ 600 ∧ ja m 1 1 = n ∧ ja m 67 2 = n ∧ (∀ i, i < n → ja m 2 i = ja m 69 i ∧ 0 ≤ ja m 69 i ∧ ja m 69 i ≤ 255) ∧ ja m 1 6 = ja m 67 8
def kR (m : jm) : Prop := ja m 0 15 = ja m 68 0 ∧ ja m 0 16 = ja m 68 1
def Inv (m : jm) : Prop := kS m ∧ kT m ∧ kR m
/-- the places that kS, kT, kR look at -/
def kQS (k j : Nat) : Prop := (k = 0 ∧ j = 14) ∨ (k = 3 ∧ j < 4) ∨ (4 ≤ k ∧ k ≤ 14) ∨ (k = 27 ∧ j = 1) ∨ k = 28 ∨ (k = 33 ∧ j = 1) ∨ k = 34 ∨ k = 48 ∨ (k = 50 ∧ (j = 1 ∨ j = 5)) ∨ (51 ≤ k ∧ k ≤ 54) ∨ (k = 67 ∧ ((24 ≤ j ∧ j ≤ 27) ∨ j = 34 ∨ j = 39 ∨ j = 40 ∨ j = 52 ∨ j = 66)) ∨ (75 ≤ k ∧ k ≤ 79) ∨ k = 82 ∨ k = 83 ∨ k = 88 ∨ k = 90 ∨ k = 92 ∨ k = 101
def kQT (k j : Nat) : Prop := (k = 1 ∧ (j = 1 ∨ j = 6)) ∨ k = 2 ∨ k = 69 ∨ (k = 67 ∧ (j = 2 ∨ j = 8))
def kQR (k j : Nat) : Prop := (k = 0 ∧ (j = 15 ∨ j = 16)) ∨ k = 68
def kEq (Z : Nat → Nat → Prop) (m m' : jm) : Prop := ∀ k j, Z k j → ja m' k j = ja m k j
theorem kS_congr {m m' : jm} (h : kEq kQS m m') (hs : kS m) : kS m' := by
  obtain ⟨c, cl, h1, h2, h3, h4, h5, h6, h7, h8, h9, h10, h11⟩ := hs
  have e48 : (fun j => ja m' 48 j) = fun j => ja m 48 j := funext fun j => h 48 j (by unfold kQS; omega)
  have e88 : (fun j => ja m' 88 j) = fun j => ja m 88 j := funext fun j => h 88 j (by unfold kQS; omega)
  refine ⟨c, cl, h1, ⟨fun i hi => ?_, fun k i hk hi => ?_⟩, ⟨fun i hi => ?_, fun t ht => ?_, fun e he => ?_, fun w hw => ?_, fun l hl => ?_⟩, ?_, h5, ⟨?_, fun i hi => ?_⟩, ?_, ⟨?_, fun e he => ?_⟩, ?_, ?_, ?_⟩
  · rw [h 3 i (by unfold kQS; omega)]; exact h2.1 i hi
  · rw [h (3 + 1 + k) i (by unfold kQS; omega)]; exact h2.2 k i hk hi
  · rw [h 67 (24 + i) (by unfold kQS; omega)]; exact h3.1 i hi
  · rw [h 75 t (by unfold kQS; omega)]; exact h3.2.1 t ht
  · rw [h (75 + 1) _ (by unfold kQS; omega), h (75 + 1) _ (by unfold kQS; omega), h (75 + 2) _ (by unfold kQS; omega)]; exact h3.2.2.1 e he
  · rw [h (75 + 3) _ (by unfold kQS; omega), h (75 + 3) _ (by unfold kQS; omega), h (75 + 3) _ (by unfold kQS; omega)]; exact h3.2.2.2.1 w hw
  · rw [h (75 + 4) _ (by unfold kQS; omega), h (75 + 4) _ (by unfold kQS; omega), h (75 + 4) _ (by unfold kQS; omega), h (75 + 4) _ (by unfold kQS; omega)]; exact h3.2.2.2.2 l hl
  · rw [e48, e88]; exact h4
  · rw [h 27 1 (by unfold kQS; omega)]; exact h6.1
  · rw [h (27 + 1) i (by unfold kQS; omega)]; exact h6.2 i hi
  · unfold kLm at *
    rw [h 67 34 (by unfold kQS; omega)]
    rcases h7 with h7 | h7
    · exact Or.inl h7
    · refine Or.inr ⟨h7.1, h7.2.1, fun i hi => ?_⟩
      rw [h 82 i (by unfold kQS; omega), h 83 i (by unfold kQS; omega)]; exact h7.2.2 i hi
  · rw [h 33 1 (by unfold kQS; omega), h 67 52 (by unfold kQS; omega)]; exact h8.1
  · rw [h 34 e (by unfold kQS; omega), h 92 e (by unfold kQS; omega)]; exact h8.2 e he
  · obtain ⟨n, a1, a2, a3, a4⟩ := h9
    refine ⟨n, a1, by rw [h 50 1 (by unfold kQS; omega)]; exact a2, by rw [h 67 39 (by unfold kQS; omega)]; exact a3, fun i hi => ?_⟩
    have e1 : (fun j => ja m' 51 (52 * i + j)) = fun j => ja m 51 (52 * i + j) := funext fun j => h 51 _ (by unfold kQS; omega)
    have e2 : (fun j => ja m' 90 (68 * i + j)) = fun j => ja m 90 (68 * i + j) := funext fun j => h 90 _ (by unfold kQS; omega)
    rw [e1, e2]; exact a4 i hi
  · obtain ⟨n, a1, a2, a3, a4⟩ := h10
    refine ⟨n, a1, by rw [h 50 5 (by unfold kQS; omega)]; exact a2, by rw [h 67 66 (by unfold kQS; omega)]; exact a3, fun i hi => ?_⟩
    obtain ⟨b1, w, b2, b3, b4, b5⟩ := a4 i hi
    have e1 : (fun j => ja m' 53 (52 * i + j)) = fun j => ja m 53 (52 * i + j) := funext fun j => h 53 _ (by unfold kQS; omega)
    have e2 : (fun j => ja m' 101 (1157 * i + j)) = fun j => ja m 101 (1157 * i + j) := funext fun j => h 101 _ (by unfold kQS; omega)
    refine ⟨by rw [e1, e2]; exact b1, w, b2, by rw [h 54 i (by unfold kQS; omega)]; exact b3, by rw [h 101 _ (by unfold kQS; omega)]; exact b4, fun r hr => ?_⟩
    have e3 : (fun j => ja m' 52 (832 * i + 52 * r + j)) = fun j => ja m 52 (832 * i + 52 * r + j) := funext fun j => h 52 _ (by unfold kQS; omega)
    have e4 : (fun j => ja m' 101 (1157 * i + 68 + 68 * r + j)) = fun j => ja m 101 (1157 * i + 68 + 68 * r + j) := funext fun j => h 101 _ (by unfold kQS; omega)
    rw [e3, e4]; exact b5 r hr
  · rw [h 0 14 (by unfold kQS; omega), h 67 40 (by unfold kQS; omega)]; exact h11
theorem kT_congr {m m' : jm} (h : kEq kQT m m') (hs : kT m) : kT m' := by
  obtain ⟨n, h1, h2, h3, h4, h5⟩ := hs
  refine ⟨n, h1, ?_, ?_, fun i hi => ?_, ?_⟩
  · rw [h 1 1 (by unfold kQT; omega)]; exact h2
  · rw [h 67 2 (by unfold kQT; omega)]; exact h3
  · rw [h 2 i (by unfold kQT; omega), h 69 i (by unfold kQT; omega)]; exact h4 i hi
  · rw [h 1 6 (by unfold kQT; omega), h 67 8 (by unfold kQT; omega)]; exact h5
theorem kR_congr {m m' : jm} (h : kEq kQR m m') (hs : kR m) : kR m' := by
  unfold kR at *
  rw [h 0 15 (by unfold kQR; omega), h 0 16 (by unfold kQR; omega), h 68 0 (by unfold kQR; omega), h 68 1 (by unfold kQR; omega)]; exact hs
theorem kEq_fr {Z W : Nat → Nat → Prop} {b : Bool} {m m' : jm} (h : jfr b W m m') (hz : ∀ k j, Z k j → ¬ W k j) : kEq Z m m' := fun k j hk => by
  unfold ja; rw [h.1 k j (hz k j hk)]
theorem kEq_js {Z : Nat → Nat → Prop} {m m' : jm} {k j : Nat} {x : Int} (h : kEq Z m m') (hz : ¬ Z k j) : kEq Z m (js m' k j x) := fun a b hab => by
  rw [ja_js, if_neg (fun e => hz (by rw [← e.1, ← e.2]; exact hab))]; exact h a b hab
theorem kEq_jsl {Z : Nat → Nat → Prop} {m m' : jm} {k j : Nat} {x : Int} (h : kEq Z m m') : kEq Z m (jsl m' k j x) := h
theorem kEq_r {Z : Nat → Nat → Prop} {m : jm} : kEq Z m m := fun _ _ _ => rfl
theorem kEq_t {Z : Nat → Nat → Prop} {m m' m'' : jm} (h : kEq Z m m') (h2 : kEq Z m' m'') : kEq Z m m'' := fun k j hk => (h2 k j hk).trans (h k j hk)
/-- one case of the law's switch holds -/
def kOp (f : (Nat × (Nat → Int32)) → Int × jm → Option ((Int × jm) ⊕ (Int × jm))) (X : Nat × (Nat → Int32)) (s : Int × jm) : Prop := jo (f X s) (jcase (fun b => b.1 = s.1 + 10 ∧ Inv b.2) (fun _ => False))
/-- class and model answer alike: A the law's wrapper of the class's method, B the model's method -/
def kSy (A B : jm → Option (Int × jm)) (m : jm) : Prop := jo (A m) (fun p => jo (B p.2) (fun p' => ja p'.2 67 0 = p.1 ∧ (p.1 = 0 → jal p'.2 102 0 = p'.1) ∧ jgl p'.1 ∧ Inv p'.2))
def kSb (A B : jm → Option (Int × jm)) (m : jm) : Prop := jo (A m) (fun p => jo (B p.2) (fun p' => ja p'.2 67 0 = p.1 ∧ (p.1 = 0 → jal p'.2 102 0 = p'.1) ∧ jb p'.1 ∧ Inv p'.2))
def kSe (A B : jm → Option (Int × jm)) (m : jm) : Prop := jo (A m) (fun p => jo (B p.2) (fun p' => p.1 = p'.1 ∧ Inv p'.2))
def kSp (A : jm → Option Int) (B : jm → Option (Int × jm)) (m : jm) : Prop := jo (A m) (fun p => jo (B m) (fun p' => p = p'.1 ∧ Inv p'.2))
