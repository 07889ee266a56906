/-! LAYER 3, SPECS: how to reason of the functions. -/
theorem jo_some {α : Type} {a : α} {P : α → Prop} : jo (some a) P = P a := rfl
theorem jo_none {α : Type} {P : α → Prop} : jo (none : Option α) P = False := rfl
theorem jo_bind {α β : Type} {x : Option α} {f : α → Option β} {P : β → Prop} : jo (x.bind f) P = jo x (fun a => jo (f a) P) := by
  cases x <;> rfl
theorem jo_ite {α : Type} {c : Prop} [Decidable c] {A B : Option α} {P : α → Prop} : jo (if c then A else B) P = if c then jo A P else jo B P := by
  split <;> rfl
theorem jo_le {α β : Type} {v : α} {f : α → Option β} {P : β → Prop} : jo (jle v f) P = jo (f v) P := rfl
theorem jcase_l {α β : Type} {R : α → Prop} {P : β → Prop} {a : α} : jcase R P (Sum.inl a) = R a := rfl
theorem jcase_r {α β : Type} {R : α → Prop} {P : β → Prop} {b : β} : jcase R P (Sum.inr b) = P b := rfl
theorem jle_eq {α β : Type} {v : α} {f : α → Option β} : jle v f = f v := rfl
theorem jsb {α β : Type} {a : α} {f : α → Option β} : (some a).bind f = f a := rfl
theorem jite_some {α : Type} {c : Prop} [Decidable c] {a b : α} : (if c then some a else some b) = some (if c then a else b) := by
  split <;> rfl
theorem jif {α : Type} {c : Prop} [Decidable c] {A B : α} (h : c) : (if c then A else B) = A := if_pos h
theorem jifn {α : Type} {c : Prop} [Decidable c] {A B : α} (h : ¬ c) : (if c then A else B) = B := if_neg h
theorem jo_sp {α : Type} {x : Option α} {P P' : α → Prop} (k : ∀ a, P a → P' a) (h : jo x P) : jo x P' := jo_mono h k
theorem jo_ex {α : Type} {x : Option α} {P : α → Prop} : jo x P ↔ ∃ a, x = some a ∧ P a := ⟨jo_eq, fun ⟨_, h, hp⟩ => jo_of h hp⟩
/-! loops -/
theorem jlp_st {α β : Type} {body : α → Option (α ⊕ β)} {n : Nat} {a b : α} (h : body a = some (Sum.inl b)) : jlp body (n + 1) a = jlp body n b := by
  show (body a).bind _ = _
  rw [h]; rfl
theorem jlp_dn {α β : Type} {body : α → Option (α ⊕ β)} {n : Nat} {a : α} {c : β} (h : body a = some (Sum.inr c)) : jlp body (n + 1) a = some c := by
  show (body a).bind _ = _
  rw [h]; rfl
theorem jlp_for {α β : Type} {body : α → Option (α ⊕ β)} {c : β} : ∀ (k n : Nat) (I : Nat → α), k < n → (∀ i, i < k → body (I i) = some (Sum.inl (I (i + 1)))) → body (I k) = some (Sum.inr c) → jlp body n (I 0) = some c
  | 0, n + 1, I, _, _, he => jlp_dn he
  | k + 1, n + 1, I, hn, hs, he => by
    rw [jlp_st (hs 0 (Nat.succ_pos k))]
    exact jlp_for k n (fun i => I (i + 1)) (by omega) (fun i hi => hs (i + 1) (by omega)) he
theorem jfu_lt {k : Nat} (h : k < 4000000) : k < jfu := Nat.lt_of_lt_of_le h jfu_ge
theorem jo_for {α β : Type} {body : α → Option (α ⊕ β)} {Q : β → Prop} : ∀ (k n : Nat) (I : Nat → α → Prop), k < n → (∀ i, i < k → ∀ a, I i a → jo (body a) (jcase (I (i + 1)) Q)) → (∀ a, I k a → jo (body a) (jcase (fun _ => False) Q)) → ∀ a, I 0 a → jo (jlp body n a) Q
  | 0, n + 1, I, _, _, he, a, h0 => by
    show jo ((body a).bind _) Q
    rw [jo_bind]
    refine jo_mono (he a h0) (fun x hx => ?_)
    cases x with
    | inl b => exact hx.elim
    | inr c => exact hx
  | k + 1, n + 1, I, hn, hs, he, a, h0 => by
    show jo ((body a).bind _) Q
    rw [jo_bind]
    refine jo_mono (hs 0 (Nat.succ_pos k) a h0) (fun x hx => ?_)
    cases x with
    | inl b => exact jo_for k n (fun i => I (i + 1)) (by omega) (fun i hi => hs (i + 1) (by omega)) he b hx
    | inr c => exact hx
theorem jo_wh {α β : Type} {body : α → Option (α ⊕ β)} {Q : β → Prop} (I : α → Prop) (μ : α → Nat) (hs : ∀ a, I a → jo (body a) (jcase (fun b => I b ∧ μ b < μ a) Q)) : ∀ (n : Nat) (a : α), μ a < n → I a → jo (jlp body n a) Q
  | 0, _, h, _ => by omega
  | n + 1, a, h, ha => by
    show jo ((body a).bind _) Q
    rw [jo_bind]
    refine jo_mono (hs a ha) (fun x hx => ?_)
    cases x with
    | inl b => exact jo_wh I μ hs n b (by have := hx.2; omega) hx.1
    | inr c => exact hx
/-! numbers in range -/
theorem jwi {x : Int} (h1 : -2147483648 ≤ x) (h2 : x ≤ 2147483647) : jw x = x := jw_id ⟨h1, h2⟩
theorem jwli {x : Int} (h1 : -9223372036854775808 ≤ x) (h2 : x ≤ 9223372036854775807) : jwl x = x := jt_gl ⟨h1, h2⟩
theorem jw_w {x : Int} : jw (jw x) = jw x := jw_id jg_w
theorem jw_a {m : jm} {k j : Nat} : jw (ja m k j) = ja m k j := jw_id jg_a
theorem jw_bmod {x : Int} : jw x = x.bmod 4294967296 := by
  unfold jw; rw [Int32.toInt_ofInt]
/-! memory -/
theorem ja_js {m : jm} {k j a b : Nat} {x : Int} : ja (js m k j x) a b = if a = k ∧ b = j then jw x else ja m a b := by
  unfold ja js jw
  show (if a = k ∧ b = j then Int32.ofInt x else m.1 a b).toInt = _
  split <;> rfl
theorem ja_js1 {m : jm} {k j : Nat} {x : Int} : ja (js m k j x) k j = jw x := by rw [ja_js, if_pos ⟨rfl, rfl⟩]
theorem ja_jsk {m : jm} {k j a b : Nat} {x : Int} (h : a ≠ k) : ja (js m k j x) a b = ja m a b := by rw [ja_js, if_neg (fun e => h e.1)]
theorem ja_jsj {m : jm} {k j b : Nat} {x : Int} (h : b ≠ j) : ja (js m k j x) k b = ja m k b := by rw [ja_js, if_neg (fun e => h e.2)]
theorem ja_jsl {m : jm} {k j a b : Nat} {x : Int} : ja (jsl m k j x) a b = ja m a b := rfl
theorem jal_js {m : jm} {k j a b : Nat} {x : Int} : jal (js m k j x) a b = jal m a b := rfl
theorem jal_jsl {m : jm} {k j a b : Nat} {x : Int} : jal (jsl m k j x) a b = if a = k ∧ b = j then jwl x else jal m a b := by
  unfold jal jsl jwl
  show (if a = k ∧ b = j then Int64.ofInt x else m.2 a b).toInt = _
  split <;> rfl
theorem ja_jcp {m : jm} {f : Nat → Int32} {d sp dp n a b : Nat} : ja (jcp m f d sp dp n) a b = if a = d ∧ dp ≤ b ∧ b < dp + n then (f (sp + (b - dp))).toInt else ja m a b := by
  unfold ja jcp
  show (if a = d ∧ dp ≤ b ∧ b < dp + n then f (sp + (b - dp)) else m.1 a b).toInt = _
  split <;> rfl
theorem jal_jcp {m : jm} {f : Nat → Int32} {d sp dp n a b : Nat} : jal (jcp m f d sp dp n) a b = jal m a b := rfl
/-- memory read as numbers says all of it -/
theorem jext1 {m m' : jm} {k : Nat} (h : ∀ j, ja m' k j = ja m k j) : m'.1 k = m.1 k := by
  funext j; exact Int32.toInt_inj.1 (h j)
theorem jext {m m' : jm} (h : ∀ k j, ja m' k j = ja m k j) (hl : m'.2 = m.2) : m' = m := by
  have : m'.1 = m.1 := by funext k; exact jext1 (h k)
  exact Prod.ext this hl
