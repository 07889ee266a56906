/-! DEV HEAD (written by wip/whole/gen/dev.py): what the pure layer needs of the machine parts -/
def px_wo : List Int32 := [1000, 2, 2002, 1002, 2000, 1003, 2000]
def px_str : List (List Nat) := [[97, 110, 32, 97, 114, 103, 117, 109, 101, 110, 116, 32, 111, 117, 116, 32, 111, 102, 32, 105, 116, 115, 32, 114, 97, 110, 103, 101], [116, 111, 119, 101, 114, 32, 119, 105, 114, 101, 32, 119, 97, 108, 107, 101, 114, 32, 108, 101, 116, 116, 101, 114], [115, 108, 97, 99, 107, 32, 114, 105, 115, 101, 32, 108, 111, 97, 100, 32, 107, 105, 110, 100, 32, 108, 101, 116, 116, 101, 114, 115, 32, 104, 117, 109, 32, 102, 111, 103, 32, 114, 101, 115, 105, 110, 32, 100, 97, 121, 32, 108, 101, 97, 115, 116, 32, 109, 111, 115, 116], [116, 97, 107, 101, 32, 103, 105, 118, 101, 32, 103, 111, 32, 115, 108, 97, 99, 107, 32, 114, 101, 115, 105, 110, 32, 102, 111, 103, 32, 110, 105, 103, 104, 116, 32, 97, 103, 97, 105, 110], [110, 111, 32, 115, 117, 99, 104, 32, 116, 111, 119, 101, 114, 44, 32, 119, 105, 114, 101, 44, 32, 119, 97, 108, 107, 101, 114, 32, 111, 114, 32, 108, 101, 116, 116, 101, 114], [116, 111, 119, 101, 114], [119, 105, 114, 101], [119, 97, 108, 107, 101, 114], [108, 101, 116, 116, 101, 114], [108, 101, 97, 115, 116], [109, 111, 115, 116], [108, 101, 116, 116, 101, 114, 115], [115, 108, 97, 99, 107], [114, 105, 115, 101], [108, 111, 97, 100], [107, 105, 110, 100], [104, 117, 109], [102, 111, 103], [114, 101, 115, 105, 110], [100, 97, 121], [110, 105, 103, 104, 116], [116, 97, 107, 101], [103, 105, 118, 101], [103, 111], [97, 103, 97, 105, 110]]
def px_lnL : List Nat := [0, 0, 600, 0, 8, 12, 12, 12, 6, 6, 6, 8, 8, 8, 8, 0, 8, 12, 12, 12, 6, 6, 6, 8, 8, 8, 8, 0, 150, 21, 0, 150, 21, 0, 12, 54, 100, 0, 12, 54, 100, 0, 150, 150, 150, 150, 6, 0, 52, 9, 0, 832, 2496, 156, 3, 0, 0, 8, 8, 0, 8, 576, 8, 0, 0, 52, 9, 0, 2, 600, 8, 24, 12, 18, 32, 8, 24, 12, 18, 32, 150, 150, 150, 150, 150, 9, 150, 150, 68, 68, 1088, 12, 12, 8, 8, 54, 100, 48, 576, 8, 8, 3471, 1]
def px_ln (k : Nat) : Nat := px_lnL.getD k 0
abbrev jm : Type := (Nat → Nat → Int32) × (Nat → Nat → Int64)
def jg (x : Int) : Prop := -2147483648 ≤ x ∧ x ≤ 2147483647
def jb (x : Int) : Prop := x = 0 ∨ x = 1
def jgl (x : Int) : Prop := -9223372036854775808 ≤ x ∧ x ≤ 9223372036854775807
def jw (x : Int) : Int := (Int32.ofInt x).toInt
def jwl (x : Int) : Int := (Int64.ofInt x).toInt
def ja (m : jm) (k j : Nat) : Int := (m.1 k j).toInt
def jal (m : jm) (k j : Nat) : Int := (m.2 k j).toInt
def js (m : jm) (k j : Nat) (x : Int) : jm := (fun a b => if a = k ∧ b = j then Int32.ofInt x else m.1 a b, m.2)
def jsl (m : jm) (k j : Nat) (x : Int) : jm := (m.1, fun a b => if a = k ∧ b = j then Int64.ofInt x else m.2 a b)
def jcp (m : jm) (f : Nat → Int32) (d sp dp n : Nat) : jm := (fun a b => if a = d ∧ dp ≤ b ∧ b < dp + n then f (sp + (b - dp)) else m.1 a b, m.2)
def jband (x y : Int) : Int := (Int32.ofInt x &&& Int32.ofInt y).toInt
def jbor (x y : Int) : Int := (Int32.ofInt x ||| Int32.ofInt y).toInt
def jbxor (x y : Int) : Int := (Int32.ofInt x ^^^ Int32.ofInt y).toInt
def jshl (x y : Int) : Int := (Int32.ofInt x <<< (Int32.ofInt y &&& 31)).toInt
def jshr (x y : Int) : Int := (Int32.ofInt x >>> (Int32.ofInt y &&& 31)).toInt
def jushr (x y : Int) : Int := ((Int32.ofInt x).toUInt32 >>> ((Int32.ofInt y).toUInt32 &&& Int32.toUInt32 31)).toInt32.toInt
def jdiv (x y : Int) : Int := (Int32.ofInt x / Int32.ofInt y).toInt
def jrem (x y : Int) : Int := (Int32.ofInt x - Int32.ofInt x / Int32.ofInt y * Int32.ofInt y).toInt
def jdivl (x y : Int) : Int := (Int64.ofInt x / Int64.ofInt y).toInt
def jreml (x y : Int) : Int := (Int64.ofInt x - Int64.ofInt x / Int64.ofInt y * Int64.ofInt y).toInt
def jcmp (x y : Int) : Int := if y < x then 1 else if x = y then 0 else -1
def jmax (x y : Int) : Int := if x < y then y else x
def jmin (x y : Int) : Int := if y < x then y else x
def jabs (x : Int) : Int := if 0 ≤ x then x else jw (0 - x)
def jsl_ (s : Nat) : Int := ((px_str.getD s []).length : Nat)
def jsc (s : Nat) (j : Int) : Int := (((px_str.getD s []).getD j.toNat 0 : Nat) : Int)
def jwo (j : Nat) : Int32 := px_wo.getD j 0
/-- what a partial answer is good for -/
def jo {α : Type} (x : Option α) (P : α → Prop) : Prop := match x with
  | some a => P a
  | none => False
noncomputable def jfu : Nat := Classical.choose (⟨4000000, Nat.le_refl _⟩ : ∃ n : Nat, 4000000 ≤ n)
theorem jfu_ge : 4000000 ≤ jfu := Classical.choose_spec (⟨4000000, Nat.le_refl _⟩ : ∃ n : Nat, 4000000 ≤ n)
def jlp {α β : Type} (body : α → Option (α ⊕ β)) : Nat → α → Option β
  | 0, _ => none
  | n + 1, a => (body a).bind fun x => match x with
    | .inl b => jlp body n b
    | .inr c => some c
def jcase {α β : Type} (R : α → Prop) (P : β → Prop) (x : α ⊕ β) : Prop := match x with
  | .inl a => R a
  | .inr b => P b
theorem jo_b {α β : Type} {x : Option α} {f : α → Option β} {P : β → Prop} (h : jo (x.bind f) P) : jo x (fun a => jo (f a) P) := by
  cases x with
  | none => exact h
  | some a => exact h
theorem jo_bi {α β : Type} {x : Option α} {f : α → Option β} {P : β → Prop} (h : jo x (fun a => jo (f a) P)) : jo (x.bind f) P := by
  cases x with
  | none => exact h
  | some a => exact h
theorem jo_eq {α : Type} {x : Option α} {P : α → Prop} (h : jo x P) : ∃ a, x = some a ∧ P a := by
  cases x with
  | none => exact h.elim
  | some a => exact ⟨a, rfl, h⟩
theorem jo_of {α : Type} {x : Option α} {P : α → Prop} {a : α} (h : x = some a) (hp : P a) : jo x P := by subst h; exact hp
theorem jo_mono {α : Type} {x : Option α} {P P' : α → Prop} (h : jo x P) (k : ∀ a, P a → P' a) : jo x P' := by
  cases x with
  | none => exact h
  | some a => exact k a h
theorem jo_g {α : Type} {c : Prop} [Decidable c] {D : Option α} {P : α → Prop} (h : jo (if c then D else none) P) : c ∧ jo D P := by
  by_cases hc : c
  · rw [if_pos hc] at h; exact ⟨hc, h⟩
  · rw [if_neg hc] at h; exact h.elim
theorem jo_i {α : Type} {c : Prop} [Decidable c] {A B : Option α} {P : α → Prop} {G : Prop} (h : jo (if c then A else B) P) (ka : c → jo A P → G) (kb : ¬ c → jo B P → G) : G := by
  by_cases hc : c
  · rw [if_pos hc] at h; exact ka hc h
  · rw [if_neg hc] at h; exact kb hc h
theorem jr_lp0 {α β : Type} {body : α → Option (α ⊕ β)} {P : β → Prop} {K T : α → Prop} (step : ∀ a, T a → ∀ R : α → Prop, (∀ b, T b → R b → K b) → jo (body a) (jcase R P) → K a) : ∀ n a, T a → jo (jlp body n a) P → K a
  | 0, _, _, h => h.elim
  | n + 1, a, ha, h => step a ha (fun b => jo (jlp body n b) P) (fun b hb hr => jr_lp0 step n b hb hr) (jo_mono (jo_b h) (fun x hx => by
      cases x with
      | inl b => exact hx
      | inr c => exact hx))
theorem jr_lp {α β : Type} {body : α → Option (α ⊕ β)} {P : β → Prop} (T K : α → Prop) {n : Nat} {a : α} (h : jo (jlp body n a) P) (ha : T a) (step : ∀ a, T a → ∀ R : α → Prop, (∀ b, T b → R b → K b) → jo (body a) (jcase R P) → K a) : K a := jr_lp0 step n a ha h
/-- a branching part that comes together again: K at its end -/
theorem jr_reg {α β : Type} {D : Option α} {f : α → Option β} {P : β → Prop} {G : Prop} (T K : α → Prop) (h : jo (D.bind f) P) (kJ : ∀ t, T t → jo (f t) P → K t) (d : ∀ R : α → Prop, (∀ t, T t → R t → K t) → jo D R → G) : G := d (fun t => jo (f t) P) kJ (jo_b h)
def jle {α β : Type} (v : α) (f : α → Option β) : Option β := f v
theorem jl {a b : Nat} (h : Nat.ble a b = true) : a ≤ b := Nat.le_of_ble_eq_true h
theorem jo_w0 {α : Type} {y : Int} {A : Option α} {P : α → Prop} {G : Prop} (h : jo (if ¬ y = 0 then A else none) P) (k : ¬ y = 0 → jo A P → G) : G := k (jo_g h).1 (jo_g h).2
theorem jg_i {x : Int32} : jg x.toInt := ⟨by have := Int32.le_toInt x; simpa using this, by have := Int32.toInt_lt x; omega⟩
theorem jgl_i {x : Int64} : jgl x.toInt := ⟨by have := Int64.le_toInt x; simpa using this, by have := Int64.toInt_lt x; omega⟩
theorem jg_w {x : Int} : jg (jw x) := jg_i
theorem jgl_w {x : Int} : jgl (jwl x) := jgl_i
theorem jg_a {m : jm} {k j : Nat} : jg (ja m k j) := jg_i
theorem jgl_a {m : jm} {k j : Nat} : jgl (jal m k j) := jgl_i
theorem jg_band {x y : Int} : jg (jband x y) := jg_i
theorem jg_bor {x y : Int} : jg (jbor x y) := jg_i
theorem jg_bxor {x y : Int} : jg (jbxor x y) := jg_i
theorem jg_shl {x y : Int} : jg (jshl x y) := jg_i
theorem jg_shr {x y : Int} : jg (jshr x y) := jg_i
theorem jg_ushr {x y : Int} : jg (jushr x y) := jg_i
theorem jg_div {x y : Int} : jg (jdiv x y) := jg_i
theorem jg_rem {x y : Int} : jg (jrem x y) := jg_i
theorem jgl_div {x y : Int} : jgl (jdivl x y) := jgl_i
theorem jgl_rem {x y : Int} : jgl (jreml x y) := jgl_i
theorem jg_b {x : Int} (h : jb x) : jg x := by
  rcases h with rfl | rfl
  · exact ⟨by decide, by decide⟩
  · exact ⟨by decide, by decide⟩
theorem jg_c {x : Int} (h : (decide (-2147483648 ≤ x) && decide (x ≤ 2147483647)) = true) : jg x := by
  rw [Bool.and_eq_true, decide_eq_true_eq, decide_eq_true_eq] at h; exact h
theorem jgl_c {x : Int} (h : (decide (-9223372036854775808 ≤ x) && decide (x ≤ 9223372036854775807)) = true) : jgl x := by
  rw [Bool.and_eq_true, decide_eq_true_eq, decide_eq_true_eq] at h; exact h
theorem jgl_g {x : Int} (h : jg x) : jgl x := by unfold jg at h; unfold jgl; omega
theorem jb_0 : jb 0 := Or.inl rfl
theorem jb_1 : jb 1 := Or.inr rfl
theorem jg_max {x y : Int} (hx : jg x) (hy : jg y) : jg (jmax x y) := by unfold jmax; split <;> assumption
theorem jg_min {x y : Int} (hx : jg x) (hy : jg y) : jg (jmin x y) := by unfold jmin; split <;> assumption
theorem jg_abs {x : Int} (hx : jg x) : jg (jabs x) := by
  unfold jabs; split
  · exact hx
  · exact jg_w
theorem jg_cmp {x y : Int} : jg (jcmp x y) := by
  unfold jcmp; split
  · exact ⟨by decide, by decide⟩
  · split
    · exact ⟨by decide, by decide⟩
    · exact ⟨by decide, by decide⟩
theorem jt_g {x : Int} (h : jg x) : (Int32.ofInt x).toInt = x := Int32.toInt_ofInt_of_le (by have := h.1; simpa using this) (by have := h.2; omega)
theorem jt_gl {x : Int} (h : jgl x) : (Int64.ofInt x).toInt = x := Int64.toInt_ofInt_of_le (by have := h.1; simpa using this) (by have := h.2; omega)
theorem jw_id {x : Int} (h : jg x) : jw x = x := jt_g h
theorem jo_w {x : Int} : Int32.ofInt (jw x) = Int32.ofInt x := Int32.ofInt_toInt _
theorem jo_wl {x : Int} : Int64.ofInt (jwl x) = Int64.ofInt x := Int64.ofInt_toInt _
theorem je_lt {x y : Int} (hx : jg x) (hy : jg y) : (Int32.ofInt x < Int32.ofInt y) = (x < y) := by rw [Int32.lt_iff_toInt_lt, jt_g hx, jt_g hy]
theorem je_le {x y : Int} (hx : jg x) (hy : jg y) : (Int32.ofInt x ≤ Int32.ofInt y) = (x ≤ y) := by rw [Int32.le_iff_toInt_le, jt_g hx, jt_g hy]
theorem je_eq {x y : Int} (hx : jg x) (hy : jg y) : (Int32.ofInt x = Int32.ofInt y) = (x = y) := propext ⟨fun h => by have := congrArg Int32.toInt h; rwa [jt_g hx, jt_g hy] at this, fun h => by rw [h]⟩
theorem jel_eq {x y : Int} (hx : jgl x) (hy : jgl y) : (Int64.ofInt x = Int64.ofInt y) = (x = y) := propext ⟨fun h => by have := congrArg Int64.toInt h; rwa [jt_gl hx, jt_gl hy] at this, fun h => by rw [h]⟩
theorem jel_lt {x y : Int} (hx : jgl x) (hy : jgl y) : (Int64.ofInt x < Int64.ofInt y) = (x < y) := by rw [Int64.lt_iff_toInt_lt, jt_gl hx, jt_gl hy]
theorem jg_0 : jg 0 := ⟨by decide, by decide⟩
theorem j32_0 : (0 : Int32) = Int32.ofInt 0 := rfl
theorem je_lt0 {x : Int} (hx : jg x) : (Int32.ofInt x < 0) = (x < 0) := je_lt hx jg_0
theorem je_gt0 {x : Int} (hx : jg x) : ((0 : Int32) < Int32.ofInt x) = (0 < x) := je_lt jg_0 hx
theorem je_eq0 {x : Int} (hx : jg x) : (Int32.ofInt x = 0) = (x = 0) := je_eq hx jg_0
theorem jn_c {x : Int} (hx : jg x) : (Int32.ofInt x).toNatClampNeg = x.toNat := Int32.toNatClampNeg_ofInt_of_le (by have := hx.1; simpa using this) (by have := hx.2; omega)
theorem jln_all : ∀ n ∈ px_lnL, n ≤ 4096 := by decide +kernel
theorem jg_ln {a : Nat} (h : a < 102) : jg (px_ln a : Nat) := by
  have : px_ln a ≤ 4096 := by
    unfold px_ln
    rw [List.getD_eq_getElem?_getD]
    cases e : px_lnL[a]? with
    | none => exact Nat.zero_le _
    | some n => exact jln_all n (List.mem_of_getElem? e)
  unfold jg; omega
theorem jstr_all : ∀ s ∈ px_str, s.length ≤ 4096 ∧ ∀ c ∈ s, c ≤ 4096 := by decide +kernel
theorem jstr_le {s : Nat} : (px_str.getD s []).length ≤ 4096 ∧ ∀ c ∈ px_str.getD s [], c ≤ 4096 := by
  rw [List.getD_eq_getElem?_getD]
  cases e : px_str[s]? with
  | none => exact ⟨Nat.zero_le _, fun c hc => by cases hc⟩
  | some n => exact jstr_all n (List.mem_of_getElem? e)
theorem jg_sl {s : Nat} (h : s < 25) : jg (jsl_ s) := by
  have := (jstr_le (s := s)).1
  unfold jg jsl_; omega
theorem jg_sc {s : Nat} {j : Int} (h : s < 25) : jg (jsc s j) := by
  have : (px_str.getD s []).getD j.toNat 0 ≤ 4096 := by
    rw [List.getD_eq_getElem?_getD (l := px_str.getD s [])]
    cases e : (px_str.getD s [])[j.toNat]? with
    | none => exact Nat.zero_le _
    | some n => exact (jstr_le (s := s)).2 n (List.mem_of_getElem? e)
  unfold jg jsc; omega
