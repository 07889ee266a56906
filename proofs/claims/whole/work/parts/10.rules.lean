/-! LAYER 3. The memory as numbers; partial functions; rules of the pure machine over them. -/
abbrev jm : Type := (Nat → Nat → Int32) × (Nat → Nat → Int64)
def jg (x : Int) : Prop := -2147483648 ≤ x ∧ x ≤ 2147483647
def jb (x : Int) : Prop := x = 0 ∨ x = 1
def jgl (x : Int) : Prop := -9223372036854775808 ≤ x ∧ x ≤ 9223372036854775807
def jw (x : Int) : Int := (Int32.ofInt x).toInt
def jwl (x : Int) : Int := (Int64.ofInt x).toInt
abbrev jv (x : Int) : Value := .int (Int32.ofInt x)
abbrev jvl (x : Int) : Value := .long (Int64.ofInt x)
def ja (m : jm) (k j : Nat) : Int := (m.1 k j).toInt
def jal (m : jm) (k j : Nat) : Int := (m.2 k j).toInt
def js (m : jm) (k j : Nat) (x : Int) : jm := (fun a b => if a = k ∧ b = j then Int32.ofInt x else m.1 a b, m.2)
def jsl (m : jm) (k j : Nat) (x : Int) : jm := (m.1, fun a b => if a = k ∧ b = j then Int64.ofInt x else m.2 a b)
def jcp (m : jm) (f : Nat → Int32) (d sp dp n : Nat) : jm := (fun a b => if a = d ∧ dp ≤ b ∧ b < dp + n then f (sp + (b - dp)) else m.1 a b, m.2)
def jband (x y : Int) : Int := (Int32.ofInt x &&& Int32.ofInt y).toInt
def jbor (x y : Int) : Int := (Int32.ofInt x ||| Int32.ofInt y).toInt
def jbxor (x y : Int) : Int := (Int32.ofInt x ^^^ Int32.ofInt y).toInt
def jshl (x y : Int) : Int := (Int32.ofInt x <<< (Int32.ofInt y &&& 31)).toInt
def jshr (x y : Int) : Int := (Int32.ofInt x >>> (Int32.ofInt y &&& 31)).toInt
def jushr (x y : Int) : Int := ((Int32.ofInt x).toUInt32 >>> ((Int32.ofInt y).toUInt32 &&& Int32.toUInt32 31)).toInt32.toInt
def jdiv (x y : Int) : Int := (Int32.ofInt x / Int32.ofInt y).toInt
def jrem (x y : Int) : Int := (Int32.ofInt x - Int32.ofInt x / Int32.ofInt y * Int32.ofInt y).toInt
def jdivl (x y : Int) : Int := (Int64.ofInt x / Int64.ofInt y).toInt
def jreml (x y : Int) : Int := (Int64.ofInt x - Int64.ofInt x / Int64.ofInt y * Int64.ofInt y).toInt
def jcmp (x y : Int) : Int := if y < x then 1 else if x = y then 0 else -1
def jmax (x y : Int) : Int := if x < y then y else x
def jmin (x y : Int) : Int := if y < x then y else x
def jabs (x : Int) : Int := if 0 ≤ x then x else jw (0 - x)
def jsl_ (s : Nat) : Int := ((px_str.getD s []).length : Nat)
def jsc (s : Nat) (j : Int) : Int := (((px_str.getD s []).getD j.toNat 0 : Nat) : Int)
def jwo (j : Nat) : Int32 := px_wo.getD j 0
def jtk (k j : Nat) : Nat := if px_kd k < 13 then px_fty (px_kd k) j % 10 else if px_kd k = 22 then 1 else 0
def jrfL : List (List Nat) := [[1, 3, 15, 27, 30, 33, 37, 41, 47, 50, 55, 56, 59, 63, 0, 0, 0], [2, 0, 0, 0, 0, 0, 0], [], [0, 0, 0, 0, 4, 5, 6, 7, 8, 9, 10, 11, 12, 13, 14], [], [], [], [], [], [], [], [], [], [], [], [0, 0, 0, 0, 16, 17, 18, 19, 20, 21, 22, 23, 24, 25, 26], [], [], [], [], [], [], [], [], [], [], [], [28, 0, 29], [], [], [31, 0, 32], [], [], [34, 0, 35, 0, 36], [], [], [], [38, 0, 39, 0, 40], [], [], [], [42, 43, 44, 45, 46, 0, 0, 0, 0], [], [], [], [], [], [3, 27, 48, 49], [], [], [51, 0, 52, 53, 54, 0], [], [], [], [], [3, 47], [3, 47, 57, 58, 0, 0], [], [], [3, 56, 60, 61, 62], [], [], [], [3, 64, 0, 0, 0, 0], [3, 27, 65, 66], [], [], [0, 68, 0, 0, 0, 0, 0, 0, 0, 69, 70, 71, 72, 73, 74, 75, 76, 77, 78, 79, 0, 0, 0, 0, 0, 0, 0, 0, 80, 81, 82, 83, 84, 0, 0, 85, 86, 87, 0, 0, 0, 0, 0, 0, 88, 89, 90, 0, 0, 0, 91, 92, 0, 93, 94, 95, 96, 97, 98, 99, 100, 0, 0, 0, 0, 101, 0], [], [], [], [], [], [], [], [], [], [], [], [], [], [], [], [], [], [], [], [], [], [], [], [], [], [], [], [], [], [], [], [], [], [], []]
def jrf (k j : Nat) : Nat := (jrfL.getD k []).getD j 0
def jmem (N : Nat) (m : jm) : px_V := fun k j => if k = 2000 then (if j = 0 then .ref N else .ref 0) else if N ≤ k then .int 0 else match jtk k j with
  | 0 => .int (m.1 k j)
  | 1 => .long (m.2 k j)
  | 2 => .ref (jrf k j)
  | _ => .null
/-- what a partial answer is good for -/
def jo {α : Type} (x : Option α) (P : α → Prop) : Prop := match x with
  | some a => P a
  | none => False
noncomputable def jfu : Nat := Classical.choose (⟨4000000, Nat.le_refl _⟩ : ∃ n : Nat, 4000000 ≤ n)
theorem jfu_ge : 4000000 ≤ jfu := Classical.choose_spec (⟨4000000, Nat.le_refl _⟩ : ∃ n : Nat, 4000000 ≤ n)
def jlp {α β : Type} (body : α → Option (α ⊕ β)) : Nat → α → Option β
  | 0, _ => none
  | n + 1, a => (body a).bind fun x => match x with
    | .inl b => jlp body n b
    | .inr c => some c
def jcase {α β : Type} (R : α → Prop) (P : β → Prop) (x : α ⊕ β) : Prop := match x with
  | .inl a => R a
  | .inr b => P b
theorem jo_b {α β : Type} {x : Option α} {f : α → Option β} {P : β → Prop} (h : jo (x.bind f) P) : jo x (fun a => jo (f a) P) := by
  cases x with
  | none => exact h
  | some a => exact h
theorem jo_bi {α β : Type} {x : Option α} {f : α → Option β} {P : β → Prop} (h : jo x (fun a => jo (f a) P)) : jo (x.bind f) P := by
  cases x with
  | none => exact h
  | some a => exact h
theorem jo_eq {α : Type} {x : Option α} {P : α → Prop} (h : jo x P) : ∃ a, x = some a ∧ P a := by
  cases x with
  | none => exact h.elim
  | some a => exact ⟨a, rfl, h⟩
theorem jo_of {α : Type} {x : Option α} {P : α → Prop} {a : α} (h : x = some a) (hp : P a) : jo x P := by subst h; exact hp
theorem jo_mono {α : Type} {x : Option α} {P P' : α → Prop} (h : jo x P) (k : ∀ a, P a → P' a) : jo x P' := by
  cases x with
  | none => exact h
  | some a => exact k a h
theorem jo_g {α : Type} {c : Prop} [Decidable c] {D : Option α} {P : α → Prop} (h : jo (if c then D else none) P) : c ∧ jo D P := by
  by_cases hc : c
  · rw [if_pos hc] at h; exact ⟨hc, h⟩
  · rw [if_neg hc] at h; exact h.elim
theorem jo_i {α : Type} {c : Prop} [Decidable c] {A B : Option α} {P : α → Prop} {G : Prop} (h : jo (if c then A else B) P) (ka : c → jo A P → G) (kb : ¬ c → jo B P → G) : G := by
  by_cases hc : c
  · rw [if_pos hc] at h; exact ka hc h
  · rw [if_neg hc] at h; exact kb hc h
theorem jr_lp0 {α β : Type} {body : α → Option (α ⊕ β)} {P : β → Prop} {K T : α → Prop} (step : ∀ a, T a → ∀ R : α → Prop, (∀ b, T b → R b → K b) → jo (body a) (jcase R P) → K a) : ∀ n a, T a → jo (jlp body n a) P → K a
  | 0, _, _, h => h.elim
  | n + 1, a, ha, h => step a ha (fun b => jo (jlp body n b) P) (fun b hb hr => jr_lp0 step n b hb hr) (jo_mono (jo_b h) (fun x hx => by
      cases x with
      | inl b => exact hx
      | inr c => exact hx))
theorem jr_lp {α β : Type} {body : α → Option (α ⊕ β)} {P : β → Prop} (T K : α → Prop) {n : Nat} {a : α} (h : jo (jlp body n a) P) (ha : T a) (step : ∀ a, T a → ∀ R : α → Prop, (∀ b, T b → R b → K b) → jo (body a) (jcase R P) → K a) : K a := jr_lp0 step n a ha h
/-- a branching part that comes together again: K at its end -/
theorem jr_reg {α β : Type} {D : Option α} {f : α → Option β} {P : β → Prop} {G : Prop} (T K : α → Prop) (h : jo (D.bind f) P) (kJ : ∀ t, T t → jo (f t) P → K t) (d : ∀ R : α → Prop, (∀ t, T t → R t → K t) → jo D R → G) : G := d (fun t => jo (f t) P) kJ (jo_b h)
def jle {α β : Type} (v : α) (f : α → Option β) : Option β := f v
theorem jl {a b : Nat} (h : Nat.ble a b = true) : a ≤ b := Nat.le_of_ble_eq_true h
theorem jo_w0 {α : Type} {y : Int} {A : Option α} {P : α → Prop} {G : Prop} (h : jo (if ¬ y = 0 then A else none) P) (k : ¬ y = 0 → jo A P → G) : G := k (jo_g h).1 (jo_g h).2
/-! numbers -/
theorem jg_i {x : Int32} : jg x.toInt := ⟨by have := Int32.le_toInt x; simpa using this, by have := Int32.toInt_lt x; omega⟩
theorem jgl_i {x : Int64} : jgl x.toInt := ⟨by have := Int64.le_toInt x; simpa using this, by have := Int64.toInt_lt x; omega⟩
theorem jg_w {x : Int} : jg (jw x) := jg_i
theorem jgl_w {x : Int} : jgl (jwl x) := jgl_i
theorem jg_a {m : jm} {k j : Nat} : jg (ja m k j) := jg_i
theorem jgl_a {m : jm} {k j : Nat} : jgl (jal m k j) := jgl_i
theorem jg_band {x y : Int} : jg (jband x y) := jg_i
theorem jg_bor {x y : Int} : jg (jbor x y) := jg_i
theorem jg_bxor {x y : Int} : jg (jbxor x y) := jg_i
theorem jg_shl {x y : Int} : jg (jshl x y) := jg_i
theorem jg_shr {x y : Int} : jg (jshr x y) := jg_i
theorem jg_ushr {x y : Int} : jg (jushr x y) := jg_i
theorem jg_div {x y : Int} : jg (jdiv x y) := jg_i
theorem jg_rem {x y : Int} : jg (jrem x y) := jg_i
theorem jgl_div {x y : Int} : jgl (jdivl x y) := jgl_i
theorem jgl_rem {x y : Int} : jgl (jreml x y) := jgl_i
theorem jg_b {x : Int} (h : jb x) : jg x := by
  rcases h with rfl | rfl
  · exact ⟨by decide, by decide⟩
  · exact ⟨by decide, by decide⟩
theorem jg_c {x : Int} (h : (decide (-2147483648 ≤ x) && decide (x ≤ 2147483647)) = true) : jg x := by
  rw [Bool.and_eq_true, decide_eq_true_eq, decide_eq_true_eq] at h; exact h
theorem jgl_c {x : Int} (h : (decide (-9223372036854775808 ≤ x) && decide (x ≤ 9223372036854775807)) = true) : jgl x := by
  rw [Bool.and_eq_true, decide_eq_true_eq, decide_eq_true_eq] at h; exact h
theorem jgl_g {x : Int} (h : jg x) : jgl x := by unfold jg at h; unfold jgl; omega
theorem jb_0 : jb 0 := Or.inl rfl
theorem jb_1 : jb 1 := Or.inr rfl
theorem jg_max {x y : Int} (hx : jg x) (hy : jg y) : jg (jmax x y) := by unfold jmax; split <;> assumption
theorem jg_min {x y : Int} (hx : jg x) (hy : jg y) : jg (jmin x y) := by unfold jmin; split <;> assumption
theorem jg_abs {x : Int} (hx : jg x) : jg (jabs x) := by
  unfold jabs; split
  · exact hx
  · exact jg_w
theorem jg_cmp {x y : Int} : jg (jcmp x y) := by
  unfold jcmp; split
  · exact ⟨by decide, by decide⟩
  · split
    · exact ⟨by decide, by decide⟩
    · exact ⟨by decide, by decide⟩
theorem jt_g {x : Int} (h : jg x) : (Int32.ofInt x).toInt = x := Int32.toInt_ofInt_of_le (by have := h.1; simpa using this) (by have := h.2; omega)
theorem jt_gl {x : Int} (h : jgl x) : (Int64.ofInt x).toInt = x := Int64.toInt_ofInt_of_le (by have := h.1; simpa using this) (by have := h.2; omega)
theorem jw_id {x : Int} (h : jg x) : jw x = x := jt_g h
theorem jo_w {x : Int} : Int32.ofInt (jw x) = Int32.ofInt x := Int32.ofInt_toInt _
theorem jo_wl {x : Int} : Int64.ofInt (jwl x) = Int64.ofInt x := Int64.ofInt_toInt _
theorem jv_a {m : jm} {k j : Nat} : Value.int (m.1 k j) = jv (ja m k j) := congrArg Value.int (Int32.ofInt_toInt _).symm
theorem jvl_a {m : jm} {k j : Nat} : Value.long (m.2 k j) = jvl (jal m k j) := congrArg Value.long (Int64.ofInt_toInt _).symm
theorem je_lt {x y : Int} (hx : jg x) (hy : jg y) : (Int32.ofInt x < Int32.ofInt y) = (x < y) := by rw [Int32.lt_iff_toInt_lt, jt_g hx, jt_g hy]
theorem je_le {x y : Int} (hx : jg x) (hy : jg y) : (Int32.ofInt x ≤ Int32.ofInt y) = (x ≤ y) := by rw [Int32.le_iff_toInt_le, jt_g hx, jt_g hy]
theorem je_eq {x y : Int} (hx : jg x) (hy : jg y) : (Int32.ofInt x = Int32.ofInt y) = (x = y) := propext ⟨fun h => by have := congrArg Int32.toInt h; rwa [jt_g hx, jt_g hy] at this, fun h => by rw [h]⟩
theorem jel_eq {x y : Int} (hx : jgl x) (hy : jgl y) : (Int64.ofInt x = Int64.ofInt y) = (x = y) := propext ⟨fun h => by have := congrArg Int64.toInt h; rwa [jt_gl hx, jt_gl hy] at this, fun h => by rw [h]⟩
theorem jel_lt {x y : Int} (hx : jgl x) (hy : jgl y) : (Int64.ofInt x < Int64.ofInt y) = (x < y) := by rw [Int64.lt_iff_toInt_lt, jt_gl hx, jt_gl hy]
theorem jg_0 : jg 0 := ⟨by decide, by decide⟩
theorem j32_0 : (0 : Int32) = Int32.ofInt 0 := rfl
theorem je_lt0 {x : Int} (hx : jg x) : (Int32.ofInt x < 0) = (x < 0) := je_lt hx jg_0
theorem je_gt0 {x : Int} (hx : jg x) : ((0 : Int32) < Int32.ofInt x) = (0 < x) := je_lt jg_0 hx
theorem je_eq0 {x : Int} (hx : jg x) : (Int32.ofInt x = 0) = (x = 0) := je_eq hx jg_0
theorem jn_c {x : Int} (hx : jg x) : (Int32.ofInt x).toNatClampNeg = x.toNat := Int32.toNatClampNeg_ofInt_of_le (by have := hx.1; simpa using this) (by have := hx.2; omega)
theorem jin {x : Int} {n : Nat} (hx : jg x) (h : 0 ≤ x ∧ x < (n : Int)) : vp_in (Int32.ofInt x) n := by
  unfold vp_in
  rw [je_lt0 hx, jn_c hx]
  omega
theorem jnar {x : Int} (h : jb x) : vp_nar .boolean (Int32.ofInt x) = Int32.ofInt x := by
  rcases h with rfl | rfl <;> decide
/-! the machine over numbers -/
def jp (X : Nat × (Nat → Int32)) (C : Nat → List Value → px_V → px_Q → Prop) (M : px_M) (Q : px_Q) (N pc : Nat) (L : px_L) (st : List Value) (m : jm) (u : Nat × Nat) : Prop := px_W X C M Q (pc, L, st, jmem N m, u)
def ju (M : px_M) (u : Nat × Nat) : Prop := u.1 ≤ (px_bud M.1).1 ∧ u.2 ≤ (px_bud M.1).2
def jn (o : Option Value) : Prop := ∀ v, o = some v → v.category = 1
theorem jn_n : jn none := fun _ h => by cases h
theorem jn_i {x : Int32} : jn (some (.int x)) := fun v h => by cases h; rfl
theorem jn_r {x : Nat} : jn (some (.ref x)) := fun v h => by cases h; rfl
theorem ju_l {M : px_M} {u : Nat × Nat} (h1 : Nat.ble u.1 (px_bud M.1).1 = true) (h2 : Nat.ble u.2 (px_bud M.1).2 = true) : ju M u := ⟨jl h1, jl h2⟩
theorem jkill {L : px_L} {j : Nat} {o : Option Value} (h : L[j]? = some o) (ho : jn o) : px_kill L (j + 1) = L := by
  show (match L[j]? with
    | some (some v) => if v.category = 2 then L.set j none else L
    | _ => L) = L
  rw [h]
  cases o with
  | none => rfl
  | some v =>
    have := ho v rfl
    show (if v.category = 2 then L.set j none else L) = L
    rw [if_neg (by omega)]
theorem jln_all : ∀ n ∈ px_lnL, n ≤ 4096 := by decide +kernel
theorem jg_ln {a : Nat} (h : a < 102) : jg (px_ln a : Nat) := by
  have : px_ln a ≤ 4096 := by
    unfold px_ln
    rw [List.getD_eq_getElem?_getD]
    cases e : px_lnL[a]? with
    | none => exact Nat.zero_le _
    | some n => exact jln_all n (List.mem_of_getElem? e)
  unfold jg; omega
theorem jstr_all : ∀ s ∈ px_str, s.length ≤ 4096 ∧ ∀ c ∈ s, c ≤ 4096 := by decide +kernel
theorem jstr_le {s : Nat} : (px_str.getD s []).length ≤ 4096 ∧ ∀ c ∈ px_str.getD s [], c ≤ 4096 := by
  rw [List.getD_eq_getElem?_getD]
  cases e : px_str[s]? with
  | none => exact ⟨Nat.zero_le _, fun c hc => by cases hc⟩
  | some n => exact jstr_all n (List.mem_of_getElem? e)
theorem jg_sl {s : Nat} (h : s < 25) : jg (jsl_ s) := by
  have := (jstr_le (s := s)).1
  unfold jg jsl_; omega
theorem jg_sc {s : Nat} {j : Int} (h : s < 25) : jg (jsc s j) := by
  have : (px_str.getD s []).getD j.toNat 0 ≤ 4096 := by
    rw [List.getD_eq_getElem?_getD (l := px_str.getD s [])]
    cases e : (px_str.getD s [])[j.toNat]? with
    | none => exact Nat.zero_le _
    | some n => exact (jstr_le (s := s)).2 n (List.mem_of_getElem? e)
  unfold jg jsc; omega
theorem ju_0 {M : px_M} : ju M (0, 0) := ⟨Nat.zero_le _, Nat.zero_le _⟩
theorem jk {k N : Nat} (h : Nat.blt k 102 = true) (hN : 102 ≤ N) : k < N := Nat.lt_of_lt_of_le (by simpa using h) hN
theorem jN {N : Nat} {m : jm} : px_n (jmem N m) = N := rfl
theorem jne {k N : Nat} (h : k < N) (hN : N ≤ 103) : k ≠ 2000 := by omega
theorem jmemI {N k j : Nat} {m : jm} (hk : k < 103) (hkN : k < N) (ht : jtk k j = 0) : jmem N m k j = jv (ja m k j) := by
  unfold jmem
  rw [if_neg (by omega), if_neg (by omega), ht]
  exact jv_a
theorem jmemL {N k j : Nat} {m : jm} (hk : k < 103) (hkN : k < N) (ht : jtk k j = 1) : jmem N m k j = jvl (jal m k j) := by
  unfold jmem
  rw [if_neg (by omega), if_neg (by omega), ht]
  exact jvl_a
theorem jmemR {N k j : Nat} {m : jm} (hk : k < 103) (hkN : k < N) (ht : jtk k j = 2) : jmem N m k j = .ref (jrf k j) := by
  unfold jmem
  rw [if_neg (by omega), if_neg (by omega), ht]
  rfl
theorem jtk_f {k c j : Nat} (hk : px_kd k = c) (hc : c < 13) : jtk k j = px_fty c j % 10 := by
  unfold jtk; rw [hk, if_pos hc]
theorem jtk_a {k j : Nat} (hk : px_kd k = 20 ∨ px_kd k = 21) : jtk k j = 0 := by
  unfold jtk
  rcases hk with h | h <;> rw [h] <;> rfl
theorem jtk_l {k j : Nat} (hk : px_kd k = 22) : jtk k j = 1 := by
  unfold jtk
  rw [hk]; rfl
theorem jset {N k j : Nat} {m : jm} {x : Int} (hk : k < 103) (hkN : k < N) (ht : jtk k j = 0) : px_set (jmem N m) k j (jv x) = jmem N (js m k j x) := by
  funext a b
  unfold px_set
  by_cases h : a = k ∧ b = j
  · rw [if_pos h, h.1, h.2]
    unfold jmem js
    rw [if_neg (by omega), if_neg (by omega), ht]
    show jv x = Value.int (if k = k ∧ j = j then Int32.ofInt x else m.1 k j)
    rw [if_pos ⟨rfl, rfl⟩]
  · rw [if_neg h]
    unfold jmem js
    show _ = if a = 2000 then _ else if N ≤ a then _ else match jtk a b with
      | 0 => Value.int (if a = k ∧ b = j then Int32.ofInt x else m.1 a b)
      | 1 => _
      | 2 => _
      | _ => _
    rw [if_neg h]
theorem jsetl {N k j : Nat} {m : jm} {x : Int} (hk : k < 103) (hkN : k < N) (ht : jtk k j = 1) : px_set (jmem N m) k j (jvl x) = jmem N (jsl m k j x) := by
  funext a b
  unfold px_set
  by_cases h : a = k ∧ b = j
  · rw [if_pos h, h.1, h.2]
    unfold jmem jsl
    rw [if_neg (by omega), if_neg (by omega), ht]
    show jvl x = Value.long (if k = k ∧ j = j then Int64.ofInt x else m.2 k j)
    rw [if_pos ⟨rfl, rfl⟩]
  · rw [if_neg h]
    unfold jmem jsl
    show _ = if a = 2000 then _ else if N ≤ a then _ else match jtk a b with
      | 0 => _
      | 1 => Value.long (if a = k ∧ b = j then Int64.ofInt x else m.2 a b)
      | 2 => _
      | _ => _
    rw [if_neg h]
theorem jcpy {N d sp dp n : Nat} {m : jm} {f : Nat → Int32} {g : Nat → Value} (hg : ∀ i, g i = .int (f i)) (hk : d < 103) (hkN : d < N) (ht : px_kd d = 20) : px_cpy (jmem N m) g d sp dp n = jmem N (jcp m f d sp dp n) := by
  funext a b
  unfold px_cpy
  by_cases h : a = d ∧ dp ≤ b ∧ b < dp + n
  · rw [if_pos h, hg, h.1]
    unfold jmem jcp
    rw [if_neg (by omega), if_neg (by omega), jtk_a (Or.inl ht)]
    show _ = Value.int (if d = d ∧ dp ≤ b ∧ b < dp + n then f (sp + (b - dp)) else m.1 d b)
    rw [if_pos ⟨rfl, h.2⟩]
  · rw [if_neg h]
    unfold jmem jcp
    show _ = if a = 2000 then _ else if N ≤ a then _ else match jtk a b with
      | 0 => Value.int (if a = d ∧ dp ≤ b ∧ b < dp + n then f (sp + (b - dp)) else m.1 a b)
      | 1 => _
      | 2 => _
      | _ => _
    rw [if_neg h]
theorem jarr {X : Nat × (Nat → Int32)} {N k : Nat} {m : jm} (hk : k < 102) (hN : 102 ≤ N) (hd : px_kd k = 20) : px_arr X (jmem N m) k = some (px_ln k, jmem N m k) := by
  unfold px_arr
  rw [if_neg (by omega), if_neg (by omega), jN, if_pos ⟨by omega, hd⟩]
section
variable {X : Nat × (Nat → Int32)} {C : Nat → List Value → px_V → px_Q → Prop} {M : px_M} {Q : px_Q} {N pc pc' l : Nat} {L L' : px_L} {st : List Value} {m : jm} {u : Nat × Nat} {x y : Int}
theorem jr {i : Instr} (hi : px_ins M pc = some (i, l)) (h : px_do X C M i (pc, L, st, jmem N m, u) (px_W X C M Q) Q) : jp X C M Q N pc L st m u := by
  intro P hP
  refine hP _ ⟨px_W X C M Q, fun b hb => hb P hP, ?_⟩
  unfold px_act
  rw [show px_ins M (pc, L, st, jmem N m, u).1 = some (i, l) from hi]
  exact h
theorem jr_ic {n : Int} (hi : px_ins M pc = some (.iconst n, l)) (hp : pc + 1 = pc') (k : jp X C M Q N pc' L (jv n :: st) m u) : jp X C M Q N pc L st m u := by
  subst hp; exact jr hi k
theorem jr_bi {n : Int} (hi : px_ins M pc = some (.bipush n, l)) (hp : pc + 2 = pc') (hx : (Int8.ofInt n).toInt32 = Int32.ofInt n) (k : jp X C M Q N pc' L (jv n :: st) m u) : jp X C M Q N pc L st m u := by
  subst hp; refine jr hi ?_
  show px_W X C M Q (pc + 2, L, .int (Int8.ofInt n).toInt32 :: st, jmem N m, u)
  rw [hx]; exact k
theorem jr_si {n : Int} (hi : px_ins M pc = some (.sipush n, l)) (hp : pc + 3 = pc') (hx : (Int16.ofInt n).toInt32 = Int32.ofInt n) (k : jp X C M Q N pc' L (jv n :: st) m u) : jp X C M Q N pc L st m u := by
  subst hp; refine jr hi ?_
  show px_W X C M Q (pc + 3, L, .int (Int16.ofInt n).toInt32 :: st, jmem N m, u)
  rw [hx]; exact k
theorem jr_ld {n a b : Nat} (hi : px_ins M pc = some (.ldc n, l)) (hp : pc + 2 = pc') (hl : px_lk M.2.1 n = some (6, a, b)) (hx : Int32.ofNat a = Int32.ofInt x) (k : jp X C M Q N pc' L (jv x :: st) m u) : jp X C M Q N pc L st m u := by
  subst hp; refine jr hi ?_
  show (match px_lk M.2.1 n with
    | some (6, a, _) => px_W X C M Q (pc + 2, L, .int (Int32.ofNat a) :: st, jmem N m, u)
    | some (7, a, _) => px_W X C M Q (pc + 2, L, .ref (1000 + a) :: st, jmem N m, u)
    | _ => False)
  rw [hl]
  show px_W X C M Q (pc + 2, L, .int (Int32.ofNat a) :: st, jmem N m, u)
  rw [hx]; exact k
theorem jr_lds {n a b : Nat} (hi : px_ins M pc = some (.ldc n, l)) (hp : pc + 2 = pc') (hl : px_lk M.2.1 n = some (7, a, b)) (k : jp X C M Q N pc' L (.ref (1000 + a) :: st) m u) : jp X C M Q N pc L st m u := by
  subst hp; refine jr hi ?_
  show (match px_lk M.2.1 n with
    | some (6, a, _) => px_W X C M Q (pc + 2, L, .int (Int32.ofNat a) :: st, jmem N m, u)
    | some (7, a, _) => px_W X C M Q (pc + 2, L, .ref (1000 + a) :: st, jmem N m, u)
    | _ => False)
  rw [hl]; exact k
theorem jr_ldw {n a b : Nat} (hi : px_ins M pc = some (.ldc_w n, l)) (hp : pc + 3 = pc') (hl : px_lk M.2.1 n = some (6, a, b)) (hx : Int32.ofNat a = Int32.ofInt x) (k : jp X C M Q N pc' L (jv x :: st) m u) : jp X C M Q N pc L st m u := by
  subst hp; refine jr hi ?_
  show (match px_lk M.2.1 n with
    | some (6, a, _) => px_W X C M Q (pc + 3, L, .int (Int32.ofNat a) :: st, jmem N m, u)
    | some (7, a, _) => px_W X C M Q (pc + 3, L, .ref (1000 + a) :: st, jmem N m, u)
    | _ => False)
  rw [hl]
  show px_W X C M Q (pc + 3, L, .int (Int32.ofNat a) :: st, jmem N m, u)
  rw [hx]; exact k
theorem jr_ldws {n a b : Nat} (hi : px_ins M pc = some (.ldc_w n, l)) (hp : pc + 3 = pc') (hl : px_lk M.2.1 n = some (7, a, b)) (k : jp X C M Q N pc' L (.ref (1000 + a) :: st) m u) : jp X C M Q N pc L st m u := by
  subst hp; refine jr hi ?_
  show (match px_lk M.2.1 n with
    | some (6, a, _) => px_W X C M Q (pc + 3, L, .int (Int32.ofNat a) :: st, jmem N m, u)
    | some (7, a, _) => px_W X C M Q (pc + 3, L, .ref (1000 + a) :: st, jmem N m, u)
    | _ => False)
  rw [hl]; exact k
theorem jr_ldl {n a b : Nat} (hi : px_ins M pc = some (.ldc2_w n, l)) (hp : pc + 3 = pc') (hl : px_lk M.2.1 n = some (13, a, b)) (hx : Int64.ofNat a = Int64.ofInt x) (k : jp X C M Q N pc' L (jvl x :: st) m u) : jp X C M Q N pc L st m u := by
  subst hp; refine jr hi ?_
  show (match px_lk M.2.1 n with
    | some (13, a, _) => px_W X C M Q (pc + 3, L, .long (Int64.ofNat a) :: st, jmem N m, u)
    | _ => False)
  rw [hl]
  show px_W X C M Q (pc + 3, L, .long (Int64.ofNat a) :: st, jmem N m, u)
  rw [hx]; exact k
theorem jr_il_n {n : Fin 4} (hi : px_ins M pc = some (.iload_n n, l)) (hp : pc + 1 = pc') (hl : px_ld L n = some (jv x)) (k : jp X C M Q N pc' L (jv x :: st) m u) : jp X C M Q N pc L st m u := by
  subst hp; refine jr hi ?_
  show (match px_ld L n with
    | some (.int x) => px_W X C M Q (pc + 1, L, .int x :: st, jmem N m, u)
    | _ => False)
  rw [hl]; exact k
theorem jr_il {n : Nat} (hi : px_ins M pc = some (.iload n, l)) (hp : pc + 2 = pc') (hl : px_ld L n = some (jv x)) (k : jp X C M Q N pc' L (jv x :: st) m u) : jp X C M Q N pc L st m u := by
  subst hp; refine jr hi ?_
  show (match px_ld L n with
    | some (.int x) => px_W X C M Q (pc + 2, L, .int x :: st, jmem N m, u)
    | _ => False)
  rw [hl]; exact k
theorem jr_ll_n {n : Fin 4} (hi : px_ins M pc = some (.lload_n n, l)) (hp : pc + 1 = pc') (hl : px_ld L n = some (jvl x)) (k : jp X C M Q N pc' L (jvl x :: st) m u) : jp X C M Q N pc L st m u := by
  subst hp; refine jr hi ?_
  show (match px_ld L n with
    | some (.long x) => px_W X C M Q (pc + 1, L, .long x :: st, jmem N m, u)
    | _ => False)
  rw [hl]; exact k
theorem jr_ll {n : Nat} (hi : px_ins M pc = some (.lload n, l)) (hp : pc + 2 = pc') (hl : px_ld L n = some (jvl x)) (k : jp X C M Q N pc' L (jvl x :: st) m u) : jp X C M Q N pc L st m u := by
  subst hp; refine jr hi ?_
  show (match px_ld L n with
    | some (.long x) => px_W X C M Q (pc + 2, L, .long x :: st, jmem N m, u)
    | _ => False)
  rw [hl]; exact k
theorem jr_al_n {n : Fin 4} {r : Nat} (hi : px_ins M pc = some (.aload_n n, l)) (hp : pc + 1 = pc') (hl : px_ld L n = some (.ref r)) (k : jp X C M Q N pc' L (.ref r :: st) m u) : jp X C M Q N pc L st m u := by
  subst hp; refine jr hi ?_
  show (match px_ld L n with
    | some (.ref x) => px_W X C M Q (pc + 1, L, .ref x :: st, jmem N m, u)
    | _ => False)
  rw [hl]; exact k
theorem jr_al {n r : Nat} (hi : px_ins M pc = some (.aload n, l)) (hp : pc + 2 = pc') (hl : px_ld L n = some (.ref r)) (k : jp X C M Q N pc' L (.ref r :: st) m u) : jp X C M Q N pc L st m u := by
  subst hp; refine jr hi ?_
  show (match px_ld L n with
    | some (.ref x) => px_W X C M Q (pc + 2, L, .ref x :: st, jmem N m, u)
    | _ => False)
  rw [hl]; exact k
theorem jr_is_n {n : Fin 4} (hi : px_ins M pc = some (.istore_n n, l)) (hp : pc + 1 = pc') (hn : (n : Nat) < L.length) (hk : px_kill L n = L) (hL : L.set n (some (jv x)) = L') (k : jp X C M Q N pc' L' st m u) : jp X C M Q N pc L (jv x :: st) m u := by
  subst hp; subst hL; refine jr hi ?_
  refine ⟨hn, ?_⟩
  show px_W X C M Q (pc + 1, (px_kill L n).set n (some (jv x)), st, jmem N m, u)
  rw [hk]; exact k
theorem jr_is {n : Nat} (hi : px_ins M pc = some (.istore n, l)) (hp : pc + 2 = pc') (hn : n < L.length) (hk : px_kill L n = L) (hL : L.set n (some (jv x)) = L') (k : jp X C M Q N pc' L' st m u) : jp X C M Q N pc L (jv x :: st) m u := by
  subst hp; subst hL; refine jr hi ?_
  refine ⟨hn, ?_⟩
  show px_W X C M Q (pc + 2, (px_kill L n).set n (some (jv x)), st, jmem N m, u)
  rw [hk]; exact k
theorem jr_as_n {n : Fin 4} {r : Nat} (hi : px_ins M pc = some (.astore_n n, l)) (hp : pc + 1 = pc') (hn : (n : Nat) < L.length) (hk : px_kill L n = L) (hL : L.set n (some (.ref r)) = L') (k : jp X C M Q N pc' L' st m u) : jp X C M Q N pc L (.ref r :: st) m u := by
  subst hp; subst hL; refine jr hi ?_
  refine ⟨hn, ?_⟩
  show px_W X C M Q (pc + 1, (px_kill L n).set n (some (.ref r)), st, jmem N m, u)
  rw [hk]; exact k
theorem jr_as {n r : Nat} (hi : px_ins M pc = some (.astore n, l)) (hp : pc + 2 = pc') (hn : n < L.length) (hk : px_kill L n = L) (hL : L.set n (some (.ref r)) = L') (k : jp X C M Q N pc' L' st m u) : jp X C M Q N pc L (.ref r :: st) m u := by
  subst hp; subst hL; refine jr hi ?_
  refine ⟨hn, ?_⟩
  show px_W X C M Q (pc + 2, (px_kill L n).set n (some (.ref r)), st, jmem N m, u)
  rw [hk]; exact k
theorem jr_ls {n : Nat} (hi : px_ins M pc = some (.lstore n, l)) (hp : pc + 2 = pc') (hn : n + 1 < L.length) (hL : px_st2 L n (jvl x) = L') (k : jp X C M Q N pc' L' st m u) : jp X C M Q N pc L (jvl x :: st) m u := by
  subst hp; subst hL; exact jr hi ⟨hn, k⟩
theorem jr_inc {n : Nat} {d : Int} (hi : px_ins M pc = some (.iinc n d, l)) (hp : pc + 3 = pc') (hl : px_ld L n = some (jv x)) (hn : n < L.length) (hk : px_kill L n = L) (hL : L.set n (some (jv (jw (x + d)))) = L') (k : jp X C M Q N pc' L' st m u) : jp X C M Q N pc L st m u := by
  subst hp; subst hL; refine jr hi ?_
  show (match px_ld L n with
    | some (.int x) => n < L.length ∧ px_W X C M Q (pc + 3, px_st1 L n (some (.int (x + Int32.ofInt d))), st, jmem N m, u)
    | _ => False)
  rw [hl]
  refine ⟨hn, ?_⟩
  show px_W X C M Q (pc + 3, (px_kill L n).set n (some (.int (Int32.ofInt x + Int32.ofInt d))), st, jmem N m, u)
  rw [hk, ← Int32.ofInt_add, ← jo_w]; exact k
theorem jr_add (hi : px_ins M pc = some (.iadd, l)) (hp : pc + 1 = pc') (k : jp X C M Q N pc' L (jv (jw (x + y)) :: st) m u) : jp X C M Q N pc L (jv y :: jv x :: st) m u := by
  subst hp; refine jr hi ?_
  show px_W X C M Q (pc + 1, L, .int (Int32.ofInt x + Int32.ofInt y) :: st, jmem N m, u)
  rw [← Int32.ofInt_add, ← jo_w]; exact k
theorem jr_sub (hi : px_ins M pc = some (.isub, l)) (hp : pc + 1 = pc') (k : jp X C M Q N pc' L (jv (jw (x - y)) :: st) m u) : jp X C M Q N pc L (jv y :: jv x :: st) m u := by
  subst hp; refine jr hi ?_
  show px_W X C M Q (pc + 1, L, .int (Int32.ofInt x - Int32.ofInt y) :: st, jmem N m, u)
  rw [← Int32.ofInt_sub, ← jo_w]; exact k
theorem jr_mul (hi : px_ins M pc = some (.imul, l)) (hp : pc + 1 = pc') (k : jp X C M Q N pc' L (jv (jw (x * y)) :: st) m u) : jp X C M Q N pc L (jv y :: jv x :: st) m u := by
  subst hp; refine jr hi ?_
  show px_W X C M Q (pc + 1, L, .int (Int32.ofInt x * Int32.ofInt y) :: st, jmem N m, u)
  rw [← Int32.ofInt_mul, ← jo_w]; exact k
theorem jr_neg (hi : px_ins M pc = some (.ineg, l)) (hp : pc + 1 = pc') (k : jp X C M Q N pc' L (jv (jw (-x)) :: st) m u) : jp X C M Q N pc L (jv x :: st) m u := by
  subst hp; refine jr hi ?_
  show px_W X C M Q (pc + 1, L, .int (-Int32.ofInt x) :: st, jmem N m, u)
  rw [← Int32.ofInt_neg, ← jo_w]; exact k
theorem jr_div (hi : px_ins M pc = some (.idiv, l)) (hp : pc + 1 = pc') (hy : jg y) (h0 : ¬ y = 0) (k : jp X C M Q N pc' L (jv (jdiv x y) :: st) m u) : jp X C M Q N pc L (jv y :: jv x :: st) m u := by
  subst hp; refine jr hi ?_
  refine ⟨by rw [je_eq0 hy]; exact h0, ?_⟩
  show px_W X C M Q (pc + 1, L, .int (Int32.ofInt x / Int32.ofInt y) :: st, jmem N m, u)
  rw [← Int32.ofInt_toInt (Int32.ofInt x / Int32.ofInt y)]; exact k
theorem jr_rem (hi : px_ins M pc = some (.irem, l)) (hp : pc + 1 = pc') (hy : jg y) (h0 : ¬ y = 0) (k : jp X C M Q N pc' L (jv (jrem x y) :: st) m u) : jp X C M Q N pc L (jv y :: jv x :: st) m u := by
  subst hp; refine jr hi ?_
  refine ⟨by rw [je_eq0 hy]; exact h0, ?_⟩
  show px_W X C M Q (pc + 1, L, .int (Int32.ofInt x - Int32.ofInt x / Int32.ofInt y * Int32.ofInt y) :: st, jmem N m, u)
  rw [← Int32.ofInt_toInt (Int32.ofInt x - Int32.ofInt x / Int32.ofInt y * Int32.ofInt y)]; exact k
theorem jr_and (hi : px_ins M pc = some (.iand, l)) (hp : pc + 1 = pc') (k : jp X C M Q N pc' L (jv (jband x y) :: st) m u) : jp X C M Q N pc L (jv y :: jv x :: st) m u := by
  subst hp; refine jr hi ?_
  show px_W X C M Q (pc + 1, L, .int (Int32.ofInt x &&& Int32.ofInt y) :: st, jmem N m, u)
  rw [← Int32.ofInt_toInt (Int32.ofInt x &&& Int32.ofInt y)]; exact k
theorem jr_or (hi : px_ins M pc = some (.ior, l)) (hp : pc + 1 = pc') (k : jp X C M Q N pc' L (jv (jbor x y) :: st) m u) : jp X C M Q N pc L (jv y :: jv x :: st) m u := by
  subst hp; refine jr hi ?_
  show px_W X C M Q (pc + 1, L, .int (Int32.ofInt x ||| Int32.ofInt y) :: st, jmem N m, u)
  rw [← Int32.ofInt_toInt (Int32.ofInt x ||| Int32.ofInt y)]; exact k
theorem jr_xor (hi : px_ins M pc = some (.ixor, l)) (hp : pc + 1 = pc') (k : jp X C M Q N pc' L (jv (jbxor x y) :: st) m u) : jp X C M Q N pc L (jv y :: jv x :: st) m u := by
  subst hp; refine jr hi ?_
  show px_W X C M Q (pc + 1, L, .int (Int32.ofInt x ^^^ Int32.ofInt y) :: st, jmem N m, u)
  rw [← Int32.ofInt_toInt (Int32.ofInt x ^^^ Int32.ofInt y)]; exact k
theorem jr_shl (hi : px_ins M pc = some (.ishl, l)) (hp : pc + 1 = pc') (k : jp X C M Q N pc' L (jv (jshl x y) :: st) m u) : jp X C M Q N pc L (jv y :: jv x :: st) m u := by
  subst hp; refine jr hi ?_
  show px_W X C M Q (pc + 1, L, .int (Int32.ofInt x <<< (Int32.ofInt y &&& 31)) :: st, jmem N m, u)
  rw [← Int32.ofInt_toInt (Int32.ofInt x <<< (Int32.ofInt y &&& 31))]; exact k
theorem jr_shr (hi : px_ins M pc = some (.ishr, l)) (hp : pc + 1 = pc') (k : jp X C M Q N pc' L (jv (jshr x y) :: st) m u) : jp X C M Q N pc L (jv y :: jv x :: st) m u := by
  subst hp; refine jr hi ?_
  show px_W X C M Q (pc + 1, L, .int (Int32.ofInt x >>> (Int32.ofInt y &&& 31)) :: st, jmem N m, u)
  rw [← Int32.ofInt_toInt (Int32.ofInt x >>> (Int32.ofInt y &&& 31))]; exact k
theorem jr_ushr (hi : px_ins M pc = some (.iushr, l)) (hp : pc + 1 = pc') (k : jp X C M Q N pc' L (jv (jushr x y) :: st) m u) : jp X C M Q N pc L (jv y :: jv x :: st) m u := by
  subst hp; refine jr hi ?_
  show px_W X C M Q (pc + 1, L, .int ((Int32.ofInt x).toUInt32 >>> ((Int32.ofInt y).toUInt32 &&& Int32.toUInt32 31)).toInt32 :: st, jmem N m, u)
  rw [← Int32.ofInt_toInt ((Int32.ofInt x).toUInt32 >>> ((Int32.ofInt y).toUInt32 &&& Int32.toUInt32 31)).toInt32]; exact k
theorem jr_i2l (hi : px_ins M pc = some (.i2l, l)) (hp : pc + 1 = pc') (hx : jg x) (k : jp X C M Q N pc' L (jvl x :: st) m u) : jp X C M Q N pc L (jv x :: st) m u := by
  subst hp; refine jr hi ?_
  show px_W X C M Q (pc + 1, L, .long (Int32.ofInt x).toInt64 :: st, jmem N m, u)
  have e : (Int32.ofInt x).toInt64 = Int64.ofInt x := by
    apply Int64.toInt_inj.1
    rw [jt_gl (jgl_g hx), Int32.toInt_toInt64, jt_g hx]
  rw [e]; exact k
theorem jr_lc {n : Fin 2} (hi : px_ins M pc = some (.lconst n, l)) (hp : pc + 1 = pc') (hx : Int64.ofNat (n : Nat) = Int64.ofInt x) (k : jp X C M Q N pc' L (jvl x :: st) m u) : jp X C M Q N pc L st m u := by
  subst hp; refine jr hi ?_
  show px_W X C M Q (pc + 1, L, .long (Int64.ofNat (n : Nat)) :: st, jmem N m, u)
  rw [hx]; exact k
theorem jr_lmul (hi : px_ins M pc = some (.lmul, l)) (hp : pc + 1 = pc') (k : jp X C M Q N pc' L (jvl (jwl (x * y)) :: st) m u) : jp X C M Q N pc L (jvl y :: jvl x :: st) m u := by
  subst hp; refine jr hi ?_
  show px_W X C M Q (pc + 1, L, .long (Int64.ofInt x * Int64.ofInt y) :: st, jmem N m, u)
  rw [← Int64.ofInt_mul, ← jo_wl]; exact k
theorem jr_ldiv (hi : px_ins M pc = some (.ldiv, l)) (hp : pc + 1 = pc') (hy : jgl y) (h0 : ¬ y = 0) (k : jp X C M Q N pc' L (jvl (jdivl x y) :: st) m u) : jp X C M Q N pc L (jvl y :: jvl x :: st) m u := by
  subst hp; refine jr hi ?_
  refine ⟨fun h => h0 ((jel_eq hy (jgl_c rfl)).mp h), ?_⟩
  show px_W X C M Q (pc + 1, L, .long (Int64.ofInt x / Int64.ofInt y) :: st, jmem N m, u)
  rw [← Int64.ofInt_toInt (Int64.ofInt x / Int64.ofInt y)]; exact k
theorem jr_lrem (hi : px_ins M pc = some (.lrem, l)) (hp : pc + 1 = pc') (hy : jgl y) (h0 : ¬ y = 0) (k : jp X C M Q N pc' L (jvl (jreml x y) :: st) m u) : jp X C M Q N pc L (jvl y :: jvl x :: st) m u := by
  subst hp; refine jr hi ?_
  refine ⟨fun h => h0 ((jel_eq hy (jgl_c rfl)).mp h), ?_⟩
  show px_W X C M Q (pc + 1, L, .long (Int64.ofInt x - Int64.ofInt x / Int64.ofInt y * Int64.ofInt y) :: st, jmem N m, u)
  rw [← Int64.ofInt_toInt (Int64.ofInt x - Int64.ofInt x / Int64.ofInt y * Int64.ofInt y)]; exact k
theorem jr_lcmp (hi : px_ins M pc = some (.lcmp, l)) (hp : pc + 1 = pc') (hx : jgl x) (hy : jgl y) (k : jp X C M Q N pc' L (jv (jcmp x y) :: st) m u) : jp X C M Q N pc L (jvl y :: jvl x :: st) m u := by
  subst hp; refine jr hi ?_
  show px_W X C M Q (pc + 1, L, .int (lg_cmp (Int64.ofInt x) (Int64.ofInt y)) :: st, jmem N m, u)
  have e : lg_cmp (Int64.ofInt x) (Int64.ofInt y) = Int32.ofInt (jcmp x y) := by
    unfold lg_cmp jcmp
    by_cases h1 : y < x
    · rw [if_pos h1, if_pos (show Int64.ofInt x > Int64.ofInt y from (jel_lt hy hx).mpr h1)]; rfl
    · rw [if_neg h1, if_neg (show ¬ Int64.ofInt x > Int64.ofInt y from fun h => h1 ((jel_lt hy hx).mp h))]
      by_cases h2 : x = y
      · rw [if_pos h2, if_pos (by rw [h2])]; rfl
      · rw [if_neg h2, if_neg (fun h => h2 ((jel_eq hx hy).mp h))]; rfl
  rw [e]; exact k
theorem jr_dup {v : Value} (hi : px_ins M pc = some (.dup, l)) (hp : pc + 1 = pc') (hv : v.category = 1) (k : jp X C M Q N pc' L (v :: v :: st) m u) : jp X C M Q N pc L (v :: st) m u := by
  subst hp; exact jr hi ⟨hv, k⟩
theorem jr_dup2 {v w : Value} (hi : px_ins M pc = some (.dup2, l)) (hp : pc + 1 = pc') (hv : v.category = 1) (hw : w.category = 1) (k : jp X C M Q N pc' L (v :: w :: v :: w :: st) m u) : jp X C M Q N pc L (v :: w :: st) m u := by
  subst hp; exact jr hi ⟨hv, hw, k⟩
theorem jr_pop {v : Value} (hi : px_ins M pc = some (.pop, l)) (hp : pc + 1 = pc') (hv : v.category = 1) (k : jp X C M Q N pc' L st m u) : jp X C M Q N pc L (v :: st) m u := by
  subst hp; exact jr hi ⟨hv, k⟩
theorem jr_goto {o : Int} (hi : px_ins M pc = some (.goto o, l)) (hp : px_tg pc o = pc') (k : jp X C M Q N pc' L st m u) : jp X C M Q N pc L st m u := by
  subst hp; exact jr hi k
end
section
variable {X : Nat × (Nat → Int32)} {C : Nat → List Value → px_V → px_Q → Prop} {M : px_M} {Q : px_Q} {N pc pc' pa pb l : Nat} {L L' : px_L} {st : List Value} {m : jm} {u : Nat × Nat} {x y : Int} {α : Type} {A B : Option α} {P : α → Prop}
theorem jr_zeq {o : Int} (hi : px_ins M pc = some (.ifCond .eq o, l)) (hpa : px_tg pc o = pa) (hpb : pc + 3 = pb) (hx : jg x) (h : jo (if x = 0 then A else B) P) (ka : x = 0 → jo A P → jp X C M Q N pa L st m u) (kb : ¬ x = 0 → jo B P → jp X C M Q N pb L st m u) : jp X C M Q N pc L (jv x :: st) m u := by
  subst hpa; subst hpb; refine jr hi ?_
  show if Int32.ofInt x = 0 then px_W X C M Q (px_tg pc o, L, st, jmem N m, u) else px_W X C M Q (pc + 3, L, st, jmem N m, u)
  simp only [je_eq0 hx]
  refine jo_i h (fun hc h => ?_) (fun hc h => ?_)
  · rw [if_pos hc]; exact ka hc h
  · rw [if_neg hc]; exact kb hc h
theorem jr_zne {o : Int} (hi : px_ins M pc = some (.ifCond .ne o, l)) (hpa : pc + 3 = pa) (hpb : px_tg pc o = pb) (hx : jg x) (h : jo (if x = 0 then A else B) P) (ka : x = 0 → jo A P → jp X C M Q N pa L st m u) (kb : ¬ x = 0 → jo B P → jp X C M Q N pb L st m u) : jp X C M Q N pc L (jv x :: st) m u := by
  subst hpa; subst hpb; refine jr hi ?_
  show if Int32.ofInt x = 0 then px_W X C M Q (pc + 3, L, st, jmem N m, u) else px_W X C M Q (px_tg pc o, L, st, jmem N m, u)
  simp only [je_eq0 hx]
  refine jo_i h (fun hc h => ?_) (fun hc h => ?_)
  · rw [if_pos hc]; exact ka hc h
  · rw [if_neg hc]; exact kb hc h
theorem jr_zlt {o : Int} (hi : px_ins M pc = some (.ifCond .lt o, l)) (hpa : px_tg pc o = pa) (hpb : pc + 3 = pb) (hx : jg x) (h : jo (if x < 0 then A else B) P) (ka : x < 0 → jo A P → jp X C M Q N pa L st m u) (kb : ¬ x < 0 → jo B P → jp X C M Q N pb L st m u) : jp X C M Q N pc L (jv x :: st) m u := by
  subst hpa; subst hpb; refine jr hi ?_
  show if Int32.ofInt x < 0 then px_W X C M Q (px_tg pc o, L, st, jmem N m, u) else px_W X C M Q (pc + 3, L, st, jmem N m, u)
  simp only [je_lt0 hx]
  refine jo_i h (fun hc h => ?_) (fun hc h => ?_)
  · rw [if_pos hc]; exact ka hc h
  · rw [if_neg hc]; exact kb hc h
theorem jr_zge {o : Int} (hi : px_ins M pc = some (.ifCond .ge o, l)) (hpa : pc + 3 = pa) (hpb : px_tg pc o = pb) (hx : jg x) (h : jo (if x < 0 then A else B) P) (ka : x < 0 → jo A P → jp X C M Q N pa L st m u) (kb : ¬ x < 0 → jo B P → jp X C M Q N pb L st m u) : jp X C M Q N pc L (jv x :: st) m u := by
  subst hpa; subst hpb; refine jr hi ?_
  show if Int32.ofInt x < 0 then px_W X C M Q (pc + 3, L, st, jmem N m, u) else px_W X C M Q (px_tg pc o, L, st, jmem N m, u)
  simp only [je_lt0 hx]
  refine jo_i h (fun hc h => ?_) (fun hc h => ?_)
  · rw [if_pos hc]; exact ka hc h
  · rw [if_neg hc]; exact kb hc h
theorem jr_zgt {o : Int} (hi : px_ins M pc = some (.ifCond .gt o, l)) (hpa : px_tg pc o = pa) (hpb : pc + 3 = pb) (hx : jg x) (h : jo (if 0 < x then A else B) P) (ka : 0 < x → jo A P → jp X C M Q N pa L st m u) (kb : ¬ 0 < x → jo B P → jp X C M Q N pb L st m u) : jp X C M Q N pc L (jv x :: st) m u := by
  subst hpa; subst hpb; refine jr hi ?_
  show if 0 < Int32.ofInt x then px_W X C M Q (px_tg pc o, L, st, jmem N m, u) else px_W X C M Q (pc + 3, L, st, jmem N m, u)
  simp only [je_gt0 hx]
  refine jo_i h (fun hc h => ?_) (fun hc h => ?_)
  · rw [if_pos hc]; exact ka hc h
  · rw [if_neg hc]; exact kb hc h
theorem jr_zle {o : Int} (hi : px_ins M pc = some (.ifCond .le o, l)) (hpa : pc + 3 = pa) (hpb : px_tg pc o = pb) (hx : jg x) (h : jo (if 0 < x then A else B) P) (ka : 0 < x → jo A P → jp X C M Q N pa L st m u) (kb : ¬ 0 < x → jo B P → jp X C M Q N pb L st m u) : jp X C M Q N pc L (jv x :: st) m u := by
  subst hpa; subst hpb; refine jr hi ?_
  show if 0 < Int32.ofInt x then px_W X C M Q (pc + 3, L, st, jmem N m, u) else px_W X C M Q (px_tg pc o, L, st, jmem N m, u)
  simp only [je_gt0 hx]
  refine jo_i h (fun hc h => ?_) (fun hc h => ?_)
  · rw [if_pos hc]; exact ka hc h
  · rw [if_neg hc]; exact kb hc h
theorem jr_ceq {o : Int} (hi : px_ins M pc = some (.if_icmp .eq o, l)) (hpa : px_tg pc o = pa) (hpb : pc + 3 = pb) (hx : jg x) (hy : jg y) (h : jo (if x = y then A else B) P) (ka : x = y → jo A P → jp X C M Q N pa L st m u) (kb : ¬ x = y → jo B P → jp X C M Q N pb L st m u) : jp X C M Q N pc L (jv y :: jv x :: st) m u := by
  subst hpa; subst hpb; refine jr hi ?_
  show if Int32.ofInt x = Int32.ofInt y then px_W X C M Q (px_tg pc o, L, st, jmem N m, u) else px_W X C M Q (pc + 3, L, st, jmem N m, u)
  simp only [je_eq hx hy]
  refine jo_i h (fun hc h => ?_) (fun hc h => ?_)
  · rw [if_pos hc]; exact ka hc h
  · rw [if_neg hc]; exact kb hc h
theorem jr_cne {o : Int} (hi : px_ins M pc = some (.if_icmp .ne o, l)) (hpa : pc + 3 = pa) (hpb : px_tg pc o = pb) (hx : jg x) (hy : jg y) (h : jo (if x = y then A else B) P) (ka : x = y → jo A P → jp X C M Q N pa L st m u) (kb : ¬ x = y → jo B P → jp X C M Q N pb L st m u) : jp X C M Q N pc L (jv y :: jv x :: st) m u := by
  subst hpa; subst hpb; refine jr hi ?_
  show if Int32.ofInt x = Int32.ofInt y then px_W X C M Q (pc + 3, L, st, jmem N m, u) else px_W X C M Q (px_tg pc o, L, st, jmem N m, u)
  simp only [je_eq hx hy]
  refine jo_i h (fun hc h => ?_) (fun hc h => ?_)
  · rw [if_pos hc]; exact ka hc h
  · rw [if_neg hc]; exact kb hc h
theorem jr_clt {o : Int} (hi : px_ins M pc = some (.if_icmp .lt o, l)) (hpa : px_tg pc o = pa) (hpb : pc + 3 = pb) (hx : jg x) (hy : jg y) (h : jo (if x < y then A else B) P) (ka : x < y → jo A P → jp X C M Q N pa L st m u) (kb : ¬ x < y → jo B P → jp X C M Q N pb L st m u) : jp X C M Q N pc L (jv y :: jv x :: st) m u := by
  subst hpa; subst hpb; refine jr hi ?_
  show if Int32.ofInt x < Int32.ofInt y then px_W X C M Q (px_tg pc o, L, st, jmem N m, u) else px_W X C M Q (pc + 3, L, st, jmem N m, u)
  simp only [je_lt hx hy]
  refine jo_i h (fun hc h => ?_) (fun hc h => ?_)
  · rw [if_pos hc]; exact ka hc h
  · rw [if_neg hc]; exact kb hc h
theorem jr_cge {o : Int} (hi : px_ins M pc = some (.if_icmp .ge o, l)) (hpa : pc + 3 = pa) (hpb : px_tg pc o = pb) (hx : jg x) (hy : jg y) (h : jo (if x < y then A else B) P) (ka : x < y → jo A P → jp X C M Q N pa L st m u) (kb : ¬ x < y → jo B P → jp X C M Q N pb L st m u) : jp X C M Q N pc L (jv y :: jv x :: st) m u := by
  subst hpa; subst hpb; refine jr hi ?_
  show if Int32.ofInt x < Int32.ofInt y then px_W X C M Q (pc + 3, L, st, jmem N m, u) else px_W X C M Q (px_tg pc o, L, st, jmem N m, u)
  simp only [je_lt hx hy]
  refine jo_i h (fun hc h => ?_) (fun hc h => ?_)
  · rw [if_pos hc]; exact ka hc h
  · rw [if_neg hc]; exact kb hc h
theorem jr_cgt {o : Int} (hi : px_ins M pc = some (.if_icmp .gt o, l)) (hpa : px_tg pc o = pa) (hpb : pc + 3 = pb) (hx : jg x) (hy : jg y) (h : jo (if y < x then A else B) P) (ka : y < x → jo A P → jp X C M Q N pa L st m u) (kb : ¬ y < x → jo B P → jp X C M Q N pb L st m u) : jp X C M Q N pc L (jv y :: jv x :: st) m u := by
  subst hpa; subst hpb; refine jr hi ?_
  show if Int32.ofInt y < Int32.ofInt x then px_W X C M Q (px_tg pc o, L, st, jmem N m, u) else px_W X C M Q (pc + 3, L, st, jmem N m, u)
  simp only [je_lt hy hx]
  refine jo_i h (fun hc h => ?_) (fun hc h => ?_)
  · rw [if_pos hc]; exact ka hc h
  · rw [if_neg hc]; exact kb hc h
theorem jr_cle {o : Int} (hi : px_ins M pc = some (.if_icmp .le o, l)) (hpa : pc + 3 = pa) (hpb : px_tg pc o = pb) (hx : jg x) (hy : jg y) (h : jo (if y < x then A else B) P) (ka : y < x → jo A P → jp X C M Q N pa L st m u) (kb : ¬ y < x → jo B P → jp X C M Q N pb L st m u) : jp X C M Q N pc L (jv y :: jv x :: st) m u := by
  subst hpa; subst hpb; refine jr hi ?_
  show if Int32.ofInt y < Int32.ofInt x then px_W X C M Q (pc + 3, L, st, jmem N m, u) else px_W X C M Q (px_tg pc o, L, st, jmem N m, u)
  simp only [je_lt hy hx]
  refine jo_i h (fun hc h => ?_) (fun hc h => ?_)
  · rw [if_pos hc]; exact ka hc h
  · rw [if_neg hc]; exact kb hc h
theorem jts_len {d lo tp : Int} {os : List Int} (hx : jg x) (hl : tp < lo + os.length) (h : ¬ (x < lo ∨ tp < x)) : (x - lo).toNat < os.length := by omega
theorem jr_tsc {d lo tp o : Int} {offs : Array Int} (c : Int) (hi : px_ins M pc = some (.tableswitch d lo tp offs, l)) (hx : jg x) (hxc : x = c) (hr : ¬ (c < lo ∨ tp < c)) (ho : offs.toList[(c - lo).toNat]? = some o) (hp : px_tg pc o = pc') (k : jp X C M Q N pc' L st m u) : jp X C M Q N pc L (jv x :: st) m u := by
  subst hp; subst hxc; refine jr hi ?_
  show if (Int32.ofInt x).toInt < lo ∨ tp < (Int32.ofInt x).toInt then px_W X C M Q (px_tg pc d, L, st, jmem N m, u) else match offs.toList[((Int32.ofInt x).toInt - lo).toNat]? with
    | some o => px_W X C M Q (px_tg pc o, L, st, jmem N m, u)
    | none => False
  rw [jt_g hx, if_neg hr, ho]; exact k
theorem jr_tsd {d lo tp : Int} {offs : Array Int} (hi : px_ins M pc = some (.tableswitch d lo tp offs, l)) (hx : jg x) (hr : x < lo ∨ tp < x) (hp : px_tg pc d = pc') (k : jp X C M Q N pc' L st m u) : jp X C M Q N pc L (jv x :: st) m u := by
  subst hp; refine jr hi ?_
  show if (Int32.ofInt x).toInt < lo ∨ tp < (Int32.ofInt x).toInt then px_W X C M Q (px_tg pc d, L, st, jmem N m, u) else match offs.toList[((Int32.ofInt x).toInt - lo).toNat]? with
    | some o => px_W X C M Q (px_tg pc o, L, st, jmem N m, u)
    | none => False
  rw [jt_g hx, if_pos hr]; exact k
theorem jr_ls_ {d o : Int} {ps : Array (Int × Int)} (hi : px_ins M pc = some (.lookupswitch d ps, l)) (hx : jg x) (ho : px_look ps.toList d x = o) (hp : px_tg pc o = pc') (k : jp X C M Q N pc' L st m u) : jp X C M Q N pc L (jv x :: st) m u := by
  subst hp; refine jr hi ?_
  show px_W X C M Q (px_tg pc (px_look ps.toList d (Int32.ofInt x).toInt), L, st, jmem N m, u)
  rw [jt_g hx, ho]; exact k
theorem jr_gi {n k c j t : Nat} (hi : px_ins M pc = some (.getfield n, l)) (hp : pc + 3 = pc') (hlk : px_lk M.2.1 n = some (t, c, j)) (ht : t = 0 ∨ t = 1) (hk : Nat.blt k 102 = true) (hN : 102 ≤ N) (hd : px_kd k = c) (hc : Nat.blt c 13 = true) (hf : px_fty c j % 10 = 0) (kk : jp X C M Q N pc' L (jv (ja m k j) :: st) m u) : jp X C M Q N pc L (.ref k :: st) m u := by
  subst hp; refine jr hi ?_
  show (match px_lk M.2.1 n with
    | some (0, c, j) => px_live (jmem N m) k c ∧ px_W X C M Q (pc + 3, L, jmem N m k j :: st, jmem N m, u)
    | some (1, c, j) => px_live (jmem N m) k c ∧ px_W X C M Q (pc + 3, L, jmem N m k j :: st, jmem N m, u)
    | _ => False)
  have hk' : k < 102 := by simpa using hk
  have hc' : c < 13 := by simpa using hc
  have e : jmem N m k j = jv (ja m k j) := by rw [jmemI (by omega) (by omega) (by rw [jtk_f hd hc', hf])]
  rcases ht with rfl | rfl
  · rw [hlk]; refine ⟨⟨by rw [jN]; omega, hd⟩, ?_⟩; show px_W X C M Q (pc + 3, L, jmem N m k j :: st, jmem N m, u); rw [e]; exact kk
  · rw [hlk]; refine ⟨⟨by rw [jN]; omega, hd⟩, ?_⟩; show px_W X C M Q (pc + 3, L, jmem N m k j :: st, jmem N m, u); rw [e]; exact kk
theorem jr_gl {n k c j t : Nat} (hi : px_ins M pc = some (.getfield n, l)) (hp : pc + 3 = pc') (hlk : px_lk M.2.1 n = some (t, c, j)) (ht : t = 0 ∨ t = 1) (hk : Nat.blt k 102 = true) (hN : 102 ≤ N) (hd : px_kd k = c) (hc : Nat.blt c 13 = true) (hf : px_fty c j % 10 = 1) (kk : jp X C M Q N pc' L (jvl (jal m k j) :: st) m u) : jp X C M Q N pc L (.ref k :: st) m u := by
  subst hp; refine jr hi ?_
  show (match px_lk M.2.1 n with
    | some (0, c, j) => px_live (jmem N m) k c ∧ px_W X C M Q (pc + 3, L, jmem N m k j :: st, jmem N m, u)
    | some (1, c, j) => px_live (jmem N m) k c ∧ px_W X C M Q (pc + 3, L, jmem N m k j :: st, jmem N m, u)
    | _ => False)
  have hk' : k < 102 := by simpa using hk
  have hc' : c < 13 := by simpa using hc
  have e : jmem N m k j = jvl (jal m k j) := by rw [jmemL (by omega) (by omega) (by rw [jtk_f hd hc', hf])]
  rcases ht with rfl | rfl
  · rw [hlk]; refine ⟨⟨by rw [jN]; omega, hd⟩, ?_⟩; show px_W X C M Q (pc + 3, L, jmem N m k j :: st, jmem N m, u); rw [e]; exact kk
  · rw [hlk]; refine ⟨⟨by rw [jN]; omega, hd⟩, ?_⟩; show px_W X C M Q (pc + 3, L, jmem N m k j :: st, jmem N m, u); rw [e]; exact kk
theorem jr_gr {n k c j t r : Nat} (hi : px_ins M pc = some (.getfield n, l)) (hp : pc + 3 = pc') (hlk : px_lk M.2.1 n = some (t, c, j)) (ht : t = 0 ∨ t = 1) (hk : Nat.blt k 102 = true) (hN : 102 ≤ N) (hd : px_kd k = c) (hc : Nat.blt c 13 = true) (hf : px_fty c j % 10 = 2) (hr : jrf k j = r) (kk : jp X C M Q N pc' L (.ref r :: st) m u) : jp X C M Q N pc L (.ref k :: st) m u := by
  subst hp; refine jr hi ?_
  show (match px_lk M.2.1 n with
    | some (0, c, j) => px_live (jmem N m) k c ∧ px_W X C M Q (pc + 3, L, jmem N m k j :: st, jmem N m, u)
    | some (1, c, j) => px_live (jmem N m) k c ∧ px_W X C M Q (pc + 3, L, jmem N m k j :: st, jmem N m, u)
    | _ => False)
  have hk' : k < 102 := by simpa using hk
  have hc' : c < 13 := by simpa using hc
  have e : jmem N m k j = .ref r := by rw [jmemR (by omega) (by omega) (by rw [jtk_f hd hc', hf]), hr]
  rcases ht with rfl | rfl
  · rw [hlk]; refine ⟨⟨by rw [jN]; omega, hd⟩, ?_⟩; show px_W X C M Q (pc + 3, L, jmem N m k j :: st, jmem N m, u); rw [e]; exact kk
  · rw [hlk]; refine ⟨⟨by rw [jN]; omega, hd⟩, ?_⟩; show px_W X C M Q (pc + 3, L, jmem N m k j :: st, jmem N m, u); rw [e]; exact kk
theorem jr_pi {n k c j t : Nat} (hi : px_ins M pc = some (.putfield n, l)) (hp : pc + 3 = pc') (hlk : px_lk M.2.1 n = some (t, c, j)) (ht : t = 0 ∨ t = 1) (hk : Nat.blt k 102 = true) (hN : 102 ≤ N) (hd : px_kd k = c) (hc : Nat.blt c 13 = true) (hf : px_fty c j = 0) (kk : jp X C M Q N pc' L st (js m k j x) u) : jp X C M Q N pc L (jv x :: .ref k :: st) m u := by
  subst hp; refine jr hi ?_
  show (match px_lk M.2.1 n with
    | some (0, c, j) => px_live (jmem N m) k c ∧ px_fit (px_fty c j) (jv x) ∧ (px_fty c j < 10 ∨ (M.2.2.1 = 1 ∧ M.2.1 = c)) ∧ px_W X C M Q (pc + 3, L, st, px_set (jmem N m) k j (jv x), u)
    | some (1, c, j) => px_live (jmem N m) k c ∧ px_fit (px_fty c j) (jv x) ∧ px_fty c j < 10 ∧ px_W X C M Q (pc + 3, L, st, px_set (jmem N m) k j (jv x), u)
    | _ => False)
  have hk' : k < 102 := by simpa using hk
  have hc' : c < 13 := by simpa using hc
  have e : px_set (jmem N m) k j (jv x) = jmem N (js m k j x) := jset (by omega) (by omega) (by rw [jtk_f hd hc', hf])
  have hfit : px_fit (px_fty c j) (jv x) := by rw [hf]; exact (rfl : 0 % 10 = 0)
  rcases ht with rfl | rfl
  · rw [hlk]; refine ⟨⟨by rw [jN]; omega, hd⟩, hfit, Or.inl (by omega), ?_⟩; show px_W X C M Q (pc + 3, L, st, px_set (jmem N m) k j (jv x), u); rw [e]; exact kk
  · rw [hlk]; refine ⟨⟨by rw [jN]; omega, hd⟩, hfit, by omega, ?_⟩; show px_W X C M Q (pc + 3, L, st, px_set (jmem N m) k j (jv x), u); rw [e]; exact kk
theorem jr_pl {n k c j t : Nat} (hi : px_ins M pc = some (.putfield n, l)) (hp : pc + 3 = pc') (hlk : px_lk M.2.1 n = some (t, c, j)) (ht : t = 0 ∨ t = 1) (hk : Nat.blt k 102 = true) (hN : 102 ≤ N) (hd : px_kd k = c) (hc : Nat.blt c 13 = true) (hf : px_fty c j = 1) (kk : jp X C M Q N pc' L st (jsl m k j x) u) : jp X C M Q N pc L (jvl x :: .ref k :: st) m u := by
  subst hp; refine jr hi ?_
  show (match px_lk M.2.1 n with
    | some (0, c, j) => px_live (jmem N m) k c ∧ px_fit (px_fty c j) (jvl x) ∧ (px_fty c j < 10 ∨ (M.2.2.1 = 1 ∧ M.2.1 = c)) ∧ px_W X C M Q (pc + 3, L, st, px_set (jmem N m) k j (jvl x), u)
    | some (1, c, j) => px_live (jmem N m) k c ∧ px_fit (px_fty c j) (jvl x) ∧ px_fty c j < 10 ∧ px_W X C M Q (pc + 3, L, st, px_set (jmem N m) k j (jvl x), u)
    | _ => False)
  have hk' : k < 102 := by simpa using hk
  have hc' : c < 13 := by simpa using hc
  have e : px_set (jmem N m) k j (jvl x) = jmem N (jsl m k j x) := jsetl (by omega) (by omega) (by rw [jtk_f hd hc', hf])
  have hfit : px_fit (px_fty c j) (jvl x) := by rw [hf]; exact (rfl : 1 % 10 = 1)
  rcases ht with rfl | rfl
  · rw [hlk]; refine ⟨⟨by rw [jN]; omega, hd⟩, hfit, Or.inl (by omega), ?_⟩; show px_W X C M Q (pc + 3, L, st, px_set (jmem N m) k j (jvl x), u); rw [e]; exact kk
  · rw [hlk]; refine ⟨⟨by rw [jN]; omega, hd⟩, hfit, by omega, ?_⟩; show px_W X C M Q (pc + 3, L, st, px_set (jmem N m) k j (jvl x), u); rw [e]; exact kk
theorem jr_gs {n a b : Nat} (hi : px_ins M pc = some (.getstatic n, l)) (hp : pc + 3 = pc') (hlk : px_lk M.2.1 n = some (8, a, b)) (kk : jp X C M Q N pc' L (.ref 1100 :: st) m u) : jp X C M Q N pc L st m u := by
  subst hp; refine jr hi ?_
  show (match px_lk M.2.1 n with
    | some (8, _, _) => px_W X C M Q (pc + 3, L, .ref 1100 :: st, jmem N m, u)
    | _ => False)
  rw [hlk]; exact kk
theorem jr_len {k : Nat} {b : Int} (hi : px_ins M pc = some (.arraylength, l)) (hp : pc + 1 = pc') (hk : k < 102) (hN : 102 ≤ N) (hd : px_kd k = 20) (hb : ((px_ln k : Nat) : Int) = b) (kk : jp X C M Q N pc' L (jv b :: st) m u) : jp X C M Q N pc L (.ref k :: st) m u := by
  subst hp; refine jr hi ?_
  show (match px_arr X (jmem N m) k with
    | some (n, _) => px_W X C M Q (pc + 1, L, .int (Int32.ofNat n) :: st, jmem N m, u)
    | none => False)
  rw [jarr hk hN hd]
  show px_W X C M Q (pc + 1, L, .int (Int32.ofNat (px_ln k)) :: st, jmem N m, u)
  rw [← Int32.ofInt_eq_ofNat, hb]; exact kk
theorem jr_lenW (hi : px_ins M pc = some (.arraylength, l)) (hp : pc + 1 = pc') (kk : jp X C M Q N pc' L (jv 7 :: st) m u) : jp X C M Q N pc L (.ref 1100 :: st) m u := by
  subst hp; exact jr hi kk
theorem jr_lenX (hi : px_ins M pc = some (.arraylength, l)) (hp : pc + 1 = pc') (kk : jp X C M Q N pc' L (jv (X.1 : Int) :: st) m u) : jp X C M Q N pc L (.ref 1200 :: st) m u := by
  subst hp; refine jr hi ?_
  show px_W X C M Q (pc + 1, L, .int (Int32.ofNat X.1) :: st, jmem N m, u)
  rw [← Int32.ofInt_eq_ofNat]; exact kk
theorem jr_xa (hi : px_ins M pc = some (.iaload, l)) (hp : pc + 1 = pc') (hx : jg x) (h : jo (if 0 ≤ x ∧ x < (X.1 : Int) then A else none) P) (kk : 0 ≤ x ∧ x < (X.1 : Int) → jo A P → jp X C M Q N pc' L (jv (X.2 x.toNat).toInt :: st) m u) : jp X C M Q N pc L (jv x :: .ref 1200 :: st) m u := by
  subst hp; refine jr hi ?_
  obtain ⟨hc, h⟩ := jo_g h
  refine ⟨jin hx hc, ?_⟩
  show px_W X C M Q (pc + 1, L, .int (X.2 (Int32.ofInt x).toNatClampNeg) :: st, jmem N m, u)
  rw [jn_c hx, ← Int32.ofInt_toInt (X.2 x.toNat)]; exact kk hc h
theorem jr_ia {k : Nat} {b : Int} (hi : px_ins M pc = some (.iaload, l)) (hp : pc + 1 = pc') (hk : k < 102) (hN : 102 ≤ N) (hd : px_kd k = 20) (hb : ((px_ln k : Nat) : Int) = b) (hx : jg x) (h : jo (if 0 ≤ x ∧ x < b then A else none) P) (kk : 0 ≤ x ∧ x < b → jo A P → jp X C M Q N pc' L (jv (ja m k x.toNat) :: st) m u) : jp X C M Q N pc L (jv x :: .ref k :: st) m u := by
  subst hp; refine jr hi ?_
  obtain ⟨hc, h⟩ := jo_g h
  show (match px_arr X (jmem N m) k with
    | some (n, f) => vp_in (Int32.ofInt x) n ∧ px_W X C M Q (pc + 1, L, .int (px_i (f (Int32.ofInt x).toNatClampNeg)) :: st, jmem N m, u)
    | none => False)
  rw [jarr hk hN hd]
  refine ⟨jin hx (by rw [hb]; exact hc), ?_⟩
  show px_W X C M Q (pc + 1, L, .int (px_i (jmem N m k (Int32.ofInt x).toNatClampNeg)) :: st, jmem N m, u)
  rw [jn_c hx, jmemI (by omega) (by omega) (jtk_a (Or.inl hd))]; exact kk hc h
theorem jr_ba {k : Nat} {b : Int} (hi : px_ins M pc = some (.baload, l)) (hp : pc + 1 = pc') (hk : k < 102) (hN : 102 ≤ N) (hd : px_kd k = 21) (hb : ((px_ln k : Nat) : Int) = b) (hx : jg x) (h : jo (if 0 ≤ x ∧ x < b then A else none) P) (kk : 0 ≤ x ∧ x < b → jo A P → jp X C M Q N pc' L (jv (ja m k x.toNat) :: st) m u) : jp X C M Q N pc L (jv x :: .ref k :: st) m u := by
  subst hp; refine jr hi ?_
  obtain ⟨hc, h⟩ := jo_g h
  refine ⟨⟨by rw [jN]; omega, hd⟩, jin hx (by rw [hb]; exact hc), ?_⟩
  show px_W X C M Q (pc + 1, L, .int (px_i (jmem N m k (Int32.ofInt x).toNatClampNeg)) :: st, jmem N m, u)
  rw [jn_c hx, jmemI (by omega) (by omega) (jtk_a (Or.inr hd))]; exact kk hc h
theorem jr_ist {k : Nat} {b : Int} (hi : px_ins M pc = some (.iastore, l)) (hp : pc + 1 = pc') (hk : k < 102) (hN : 102 ≤ N) (hd : px_kd k = 20) (hb : ((px_ln k : Nat) : Int) = b) (hx : jg x) (h : jo (if 0 ≤ x ∧ x < b then A else none) P) (kk : 0 ≤ x ∧ x < b → jo A P → jp X C M Q N pc' L st (js m k x.toNat y) u) : jp X C M Q N pc L (jv y :: jv x :: .ref k :: st) m u := by
  subst hp; refine jr hi ?_
  obtain ⟨hc, h⟩ := jo_g h
  refine ⟨⟨by rw [jN]; omega, hd⟩, jin hx (by rw [hb]; exact hc), ?_⟩
  show px_W X C M Q (pc + 1, L, st, px_set (jmem N m) k (Int32.ofInt x).toNatClampNeg (jv y), u)
  rw [jn_c hx, jset (by omega) (by omega) (jtk_a (Or.inl hd))]; exact kk hc h
theorem jr_bst {k : Nat} {b : Int} (hi : px_ins M pc = some (.bastore, l)) (hp : pc + 1 = pc') (hk : k < 102) (hN : 102 ≤ N) (hd : px_kd k = 21) (hb : ((px_ln k : Nat) : Int) = b) (hx : jg x) (hy : jb y) (h : jo (if 0 ≤ x ∧ x < b then A else none) P) (kk : 0 ≤ x ∧ x < b → jo A P → jp X C M Q N pc' L st (js m k x.toNat y) u) : jp X C M Q N pc L (jv y :: jv x :: .ref k :: st) m u := by
  subst hp; refine jr hi ?_
  obtain ⟨hc, h⟩ := jo_g h
  refine ⟨⟨by rw [jN]; omega, hd⟩, jin hx (by rw [hb]; exact hc), ?_⟩
  show px_W X C M Q (pc + 1, L, st, px_set (jmem N m) k (Int32.ofInt x).toNatClampNeg (.int (vp_nar .boolean (Int32.ofInt y))), u)
  rw [jn_c hx, jnar hy, jset (by omega) (by omega) (jtk_a (Or.inr hd))]; exact kk hc h
theorem jr_la (hi : px_ins M pc = some (.laload, l)) (hp : pc + 1 = pc') (hN : 103 ≤ N) (kk : jp X C M Q N pc' L (jvl (jal m 102 0) :: st) m u) : jp X C M Q N pc L (jv 0 :: .ref 102 :: st) m u := by
  subst hp; refine jr hi ?_
  refine ⟨⟨by rw [jN]; omega, rfl⟩, jin jg_0 (by decide), ?_⟩
  show px_W X C M Q (pc + 1, L, .long (px_l (jmem N m 102 (Int32.ofInt 0).toNatClampNeg)) :: st, jmem N m, u)
  rw [jn_c jg_0, jmemL (by omega) (by omega) (jtk_l rfl)]; exact kk
theorem jr_lst (hi : px_ins M pc = some (.lastore, l)) (hp : pc + 1 = pc') (hN : 103 ≤ N) (kk : jp X C M Q N pc' L st (jsl m 102 0 y) u) : jp X C M Q N pc L (jvl y :: jv 0 :: .ref 102 :: st) m u := by
  subst hp; refine jr hi ?_
  refine ⟨⟨by rw [jN]; omega, rfl⟩, jin jg_0 (by decide), ?_⟩
  show px_W X C M Q (pc + 1, L, st, px_set (jmem N m) 102 (Int32.ofInt 0).toNatClampNeg (jvl y), u)
  rw [jn_c jg_0, jsetl (by omega) (by omega) (jtk_l rfl)]; exact kk
theorem jr_ret (hi : px_ins M pc = some (.ireturn, l)) (hu : ju M u) (ht : M.2.2.2.1 = 1) (hq : Q (.inl (some (jv x))) (jmem N m)) : jp X C M Q N pc L [jv x] m u := jr hi ⟨hu.1, hu.2, Or.inl ht, hq⟩
theorem jr_retb (hi : px_ins M pc = some (.ireturn, l)) (hu : ju M u) (ht : M.2.2.2.1 = 2) (hb : jb x) (hq : Q (.inl (some (jv x))) (jmem N m)) : jp X C M Q N pc L [jv x] m u := jr hi ⟨hu.1, hu.2, Or.inr ⟨ht, by
  rcases hb with rfl | rfl
  · exact Or.inl rfl
  · exact Or.inr rfl⟩, hq⟩
theorem jr_retl (hi : px_ins M pc = some (.lreturn, l)) (hu : ju M u) (ht : M.2.2.2.1 = 3) (hq : Q (.inl (some (jvl x))) (jmem N m)) : jp X C M Q N pc L [jvl x] m u := jr hi ⟨hu.1, hu.2, ht, hq⟩
theorem jr_rv (hi : px_ins M pc = some (.return_, l)) (hu : ju M u) (ht : M.2.2.2.1 = 0) (hq : Q (.inl none) (jmem N m)) : jp X C M Q N pc L [] m u := jr hi ⟨hu.1, hu.2, ht, hq⟩
theorem jr_thr {n e b : Nat} (hi : px_ins M pc = some (.new n, l)) (hlk : px_lk M.2.1 n = some (5, e, b)) (ht : (M.1, pc) = px_thr e) (hst : px_cat st ≤ 8) (hu1 : u.1 + 1 ≤ (px_bud M.1).1) (hu2 : u.2 + 6 ≤ (px_bud M.1).2) (hq : Q (.inr e) (jmem N m)) : jp X C M Q N pc L st m u := by
  refine jr hi ?_
  unfold px_do px_act3
  show (match px_lk M.2.1 n with
    | some (4, c, _) => px_n (jmem N m) < 103 ∧ px_kd (px_n (jmem N m)) = c ∧ c < 13 ∧ u.1 + 1 ≤ (px_bud M.1).1 ∧ u.2 + px_nf c ≤ (px_bud M.1).2 ∧ px_W X C M Q (pc + 3, L, .ref (px_n (jmem N m)) :: st, px_new (jmem N m) (px_n (jmem N m)) (fun j => px_dft (px_fty c j)), (u.1 + 1, u.2 + px_nf c))
    | some (5, e, _) => (M.1, pc) = px_thr e ∧ px_cat st ≤ 8 ∧ u.1 + 1 ≤ (px_bud M.1).1 ∧ u.2 + 6 ≤ (px_bud M.1).2 ∧ Q (.inr e) (jmem N m)
    | _ => False)
  rw [hlk]; exact ⟨ht, hst, hu1, hu2, hq⟩
theorem jr_max {n a : Nat} (hi : px_ins M pc = some (.invokestatic n, l)) (hp : pc + 3 = pc') (hlk : px_lk M.2.1 n = some (2, 335, a)) (hc : px_cat st ≤ 8) (hu : ju M u) (hx : jg x) (hy : jg y) (kk : jp X C M Q N pc' L (jv (jmax x y) :: st) m u) : jp X C M Q N pc L (jv y :: jv x :: st) m u := by
  subst hp; refine jr hi ?_
  unfold px_do px_act4
  simp only [px_sort, hlk]
  refine ⟨hc, hu.1, hu.2, ?_⟩
  have e : (if Int32.ofInt x < Int32.ofInt y then Int32.ofInt y else Int32.ofInt x) = Int32.ofInt (jmax x y) := by
    unfold jmax; simp only [je_lt hx hy, je_lt hy hx]; split <;> rfl
  rw [e]; exact kk
theorem jr_min {n a : Nat} (hi : px_ins M pc = some (.invokestatic n, l)) (hp : pc + 3 = pc') (hlk : px_lk M.2.1 n = some (2, 336, a)) (hc : px_cat st ≤ 8) (hu : ju M u) (hx : jg x) (hy : jg y) (kk : jp X C M Q N pc' L (jv (jmin x y) :: st) m u) : jp X C M Q N pc L (jv y :: jv x :: st) m u := by
  subst hp; refine jr hi ?_
  unfold px_do px_act4
  simp only [px_sort, hlk]
  refine ⟨hc, hu.1, hu.2, ?_⟩
  have e : (if Int32.ofInt y < Int32.ofInt x then Int32.ofInt y else Int32.ofInt x) = Int32.ofInt (jmin x y) := by
    unfold jmin; simp only [je_lt hx hy, je_lt hy hx]; split <;> rfl
  rw [e]; exact kk
theorem jr_abs {n a : Nat} (hi : px_ins M pc = some (.invokestatic n, l)) (hp : pc + 3 = pc') (hlk : px_lk M.2.1 n = some (2, 337, a)) (hc : px_cat st ≤ 8) (hu : ju M u) (hx : jg x) (kk : jp X C M Q N pc' L (jv (jabs x) :: st) m u) : jp X C M Q N pc L (jv x :: st) m u := by
  subst hp; refine jr hi ?_
  unfold px_do px_act4
  simp only [px_sort, hlk]
  refine ⟨hc, hu.1, hu.2, ?_⟩
  have e : (if 0 ≤ Int32.ofInt x then Int32.ofInt x else 0 - Int32.ofInt x) = Int32.ofInt (jabs x) := by
    unfold jabs
    have e0 : ((0 : Int32) ≤ Int32.ofInt x) = (0 ≤ x) := je_le jg_0 hx
    simp only [e0]
    split
    · rfl
    · rw [jo_w, Int32.ofInt_sub]; rfl
  rw [e]; exact kk
theorem jr_slen {n s a b : Nat} (hi : px_ins M pc = some (.invokevirtual n, l)) (hp : pc + 3 = pc') (hlk : px_lk M.2.1 n = some (11, a, b)) (hs : s < 25) (hc : px_cat st ≤ 8) (hu : ju M u) (kk : jp X C M Q N pc' L (jv (jsl_ s) :: st) m u) : jp X C M Q N pc L (.ref (1000 + s) :: st) m u := by
  subst hp; refine jr hi ?_
  unfold px_do px_act4
  simp only [px_sort, hlk]
  refine ⟨⟨by omega, Nat.add_lt_add_left hs 1000⟩, hc, hu.1, hu.2, ?_⟩
  rw [← Int32.ofInt_eq_ofNat, Nat.add_sub_cancel_left]; exact kk
theorem jr_schr {n s a b : Nat} (hi : px_ins M pc = some (.invokevirtual n, l)) (hp : pc + 3 = pc') (hlk : px_lk M.2.1 n = some (12, a, b)) (hs : s < 25) (hc : px_cat st ≤ 8) (hu : ju M u) (hx : jg x) (h : jo (if 0 ≤ x ∧ x < jsl_ s then A else none) P) (kk : 0 ≤ x ∧ x < jsl_ s → jo A P → jp X C M Q N pc' L (jv (jsc s x) :: st) m u) : jp X C M Q N pc L (jv x :: .ref (1000 + s) :: st) m u := by
  subst hp; refine jr hi ?_
  obtain ⟨hcc, h⟩ := jo_g h
  unfold px_do px_act4
  simp only [px_sort, hlk]
  refine ⟨⟨by omega, Nat.add_lt_add_left hs 1000⟩, hc, hu.1, hu.2, jin hx (by rw [Nat.add_sub_cancel_left]; exact hcc), ?_⟩
  rw [← Int32.ofInt_eq_ofNat, Nat.add_sub_cancel_left, jn_c hx]; exact kk hcc h
theorem jr_cp {n s d a b : Nat} {bs bd sp dp cn : Int} (hi : px_ins M pc = some (.invokestatic n, l)) (hp : pc + 3 = pc') (hlk : px_lk M.2.1 n = some (10, a, b)) (hs : s < 102) (hd : d < 102) (hN : 102 ≤ N) (hks : px_kd s = 20) (hkd : px_kd d = 20) (hbs : ((px_ln s : Nat) : Int) = bs) (hbd : ((px_ln d : Nat) : Int) = bd) (hc : px_cat st ≤ 8) (h1 : jg sp) (h2 : jg dp) (h3 : jg cn) (h : jo (if 0 ≤ sp ∧ 0 ≤ dp ∧ 0 ≤ cn ∧ sp + cn ≤ bs ∧ dp + cn ≤ bd then A else none) P) (kk : jo A P → jp X C M Q N pc' L st (jcp m (m.1 s) d sp.toNat dp.toNat cn.toNat) u) : jp X C M Q N pc L (jv cn :: jv dp :: .ref d :: jv sp :: .ref s :: st) m u := by
  subst hp; refine jr hi ?_
  obtain ⟨⟨g1, g2, g3, g4, g5⟩, h⟩ := jo_g h
  unfold px_do px_act4
  simp only [px_sort, hlk, jarr hs hN hks]
  refine ⟨hc, by unfold px_nS; omega, ⟨by rw [jN]; omega, hkd⟩, by rw [je_lt0 h1]; omega, by rw [je_lt0 h2]; omega, by rw [je_lt0 h3]; omega, by rw [jn_c h1, jn_c h3]; omega, by rw [jn_c h2, jn_c h3]; omega, ?_⟩
  rw [jcpy (f := m.1 s) (fun i => by rw [jmemI (by omega) (by omega) (jtk_a (Or.inl hks)), ← jv_a]) (by omega) (by omega) hkd, jn_c h1, jn_c h2, jn_c h3]
  exact kk h
theorem jr_cpW {n d a b : Nat} {bd sp dp cn : Int} (hi : px_ins M pc = some (.invokestatic n, l)) (hp : pc + 3 = pc') (hlk : px_lk M.2.1 n = some (10, a, b)) (hd : d < 102) (hN : 102 ≤ N) (hkd : px_kd d = 20) (hbd : ((px_ln d : Nat) : Int) = bd) (hc : px_cat st ≤ 8) (h1 : jg sp) (h2 : jg dp) (h3 : jg cn) (h : jo (if 0 ≤ sp ∧ 0 ≤ dp ∧ 0 ≤ cn ∧ sp + cn ≤ 7 ∧ dp + cn ≤ bd then A else none) P) (kk : jo A P → jp X C M Q N pc' L st (jcp m jwo d sp.toNat dp.toNat cn.toNat) u) : jp X C M Q N pc L (jv cn :: jv dp :: .ref d :: jv sp :: .ref 1100 :: st) m u := by
  subst hp; refine jr hi ?_
  obtain ⟨⟨g1, g2, g3, g4, g5⟩, h⟩ := jo_g h
  unfold px_do px_act4
  simp only [px_sort, hlk, px_arr, if_true]
  refine ⟨hc, by unfold px_nS; omega, ⟨by rw [jN]; omega, hkd⟩, by rw [je_lt0 h1]; omega, by rw [je_lt0 h2]; omega, by rw [je_lt0 h3]; omega, by rw [jn_c h1, jn_c h3]; omega, by rw [jn_c h2, jn_c h3]; omega, ?_⟩
  rw [jcpy (f := jwo) (g := fun i => .int (px_wo.getD i 0)) (fun i => rfl) (by omega) (by omega) hkd, jn_c h1, jn_c h2, jn_c h3]
  exact kk h
/-- what a plain method is, for its callers -/
def jq (mi s : Nat) : Prop := px_stc mi = s ∧ mi < 335 ∧ mi ≠ 332 ∧ (px_prog mi).2.2.2.2.2.2 = [] ∧ (s = 0 → px_own mi < 13)
theorem jr_call {β : Type} {mi n : Nat} {rest : List Value} {F R : β → Prop} {val : β → Option Value} {me : β → jm} (hb : px_bud mi = (0, 0)) (hl : n ≤ st.length) (hr : st.drop n = rest) (hc : px_cat rest ≤ 8) (hu : ju M u) (hcc : ∀ Q' : px_Q, (∀ p, F p → R p → Q' (.inl (val p)) (jmem N (me p))) → C mi (st.take n).reverse (jmem N m) Q') (kk : ∀ p, F p → R p → jp X C M Q N (pc + 3) L ((val p).toList ++ rest) (me p) u) : px_call C M mi n pc L st (jmem N m) u (px_W X C M Q) Q := by
  subst hr
  unfold px_call
  rw [hb]
  exact ⟨hl, hc, hu.1, hu.2, hcc _ (fun p hp hr => kk p hp hr)⟩
theorem jr_callN {β : Type} {mi n : Nat} {rest : List Value} {F R : β → Prop} {val : β → Option Value} {me : β → jm} (hb : px_bud mi = (0, 0)) (hl : n ≤ st.length) (hr : st.drop n = rest) (hc : px_cat rest ≤ 8) (hu : ju M u) (hcc : ∀ Q' : px_Q, (∀ p, F p → R p → Q' (.inl (val p)) (jmem N (me p))) → C mi (st.take n).reverse (jmem N m) Q') (kk : ∀ p, F p → R p → jp X C M Q N (pc + 3) L ((val p).toList ++ rest) (me p) u) : px_callN C M mi n pc L st (jmem N m) u (px_W X C M Q) := by
  subst hr
  unfold px_callN
  rw [hb]
  exact ⟨hl, hc, hu.1, hu.2, hcc _ (fun p hp hr => kk p hp hr)⟩
theorem jact_v {n mi a : Nat} (hlk : px_lk M.2.1 n = some (2, mi, a)) : px_act4 X C M (.invokevirtual n) pc L st (jmem N m) u (px_W X C M Q) Q = (px_stc mi = 0 ∧ mi < 335 ∧ mi ≠ 332 ∧ (px_prog mi).2.2.2.2.2.2 = [] ∧ px_own mi < 13 ∧ (∃ k, (st.drop a).head? = some (.ref k) ∧ px_live (jmem N m) k (px_own mi)) ∧ px_call C M mi (a + 1) pc L st (jmem N m) u (px_W X C M Q) Q) := by
  unfold px_act4
  simp only [hlk]
theorem jact_s {n mi a : Nat} (hlk : px_lk M.2.1 n = some (2, mi, a)) (hm : mi < 335) : px_act4 X C M (.invokestatic n) pc L st (jmem N m) u (px_W X C M Q) Q = (px_stc mi = 1 ∧ mi < 335 ∧ mi ≠ 332 ∧ px_call C M mi a pc L st (jmem N m) u (px_W X C M Q) Q) := by
  unfold px_act4
  simp only [hlk]
  split
  · rename_i h; cases h; omega
  · rename_i h; cases h; omega
  · rename_i h; cases h; omega
  · rename_i h; cases h; rfl
  · rename_i h; cases h
  · rename_i h; cases h
  · rename_i h1 h2 h3 h4 h5 h6; exact absurd rfl (h4 mi a)
theorem jact_n {n mi a : Nat} (hlk : px_lk M.2.1 n = some (3, mi, a)) : px_act4 X C M (.invokestatic n) pc L st (jmem N m) u (px_W X C M Q) Q = (px_stc mi = 1 ∧ mi < 335 ∧ mi ≠ 332 ∧ (px_prog mi).2.2.2.2.2.2 = [] ∧ px_callN C M mi a pc L st (jmem N m) u (px_W X C M Q)) := by
  unfold px_act4
  simp only [hlk]
theorem jr_cv_i {n mi a k : Nat} {F R : Int × jm → Prop} (rest : List Value) (hi : px_ins M pc = some (.invokevirtual n, l)) (hp : pc + 3 = pc') (hlk : px_lk M.2.1 n = some (2, mi, a)) (hq : jq mi 0) (hb : px_bud mi = (0, 0)) (hl : a + 1 ≤ st.length) (hr : st.drop (a + 1) = rest) (hc : px_cat rest ≤ 8) (hu : ju M u) (hk : (st.drop a).head? = some (.ref k)) (hkN : k < N) (hkd : px_kd k = px_own mi) (hcc : ∀ Q' : px_Q, (∀ p : Int × jm, F p → R p → Q' (.inl ((fun p => some (jv p.1)) p)) (jmem N p.2)) → C mi (st.take (a + 1)).reverse (jmem N m) Q') (kk : ∀ p : Int × jm, F p → R p → jp X C M Q N pc' L (jv p.1 :: rest) p.2 u) : jp X C M Q N pc L st m u := by
  subst hp; refine jr hi ?_
  show px_act4 X C M (.invokevirtual n) pc L st (jmem N m) u (px_W X C M Q) Q
  rw [jact_v hlk]
  obtain ⟨q1, q2, q3, q4, q5⟩ := hq
  exact ⟨q1, q2, q3, q4, q5 rfl, ⟨k, hk, by rw [jN]; exact hkN, hkd⟩, jr_call hb hl hr hc hu hcc kk⟩
theorem jr_cs_i {n mi a : Nat} {F R : Int × jm → Prop} (rest : List Value) (hi : px_ins M pc = some (.invokestatic n, l)) (hp : pc + 3 = pc') (hlk : px_lk M.2.1 n = some (2, mi, a)) (hq : jq mi 1) (hb : px_bud mi = (0, 0)) (hl : a ≤ st.length) (hr : st.drop a = rest) (hc : px_cat rest ≤ 8) (hu : ju M u) (hcc : ∀ Q' : px_Q, (∀ p : Int × jm, F p → R p → Q' (.inl ((fun p => some (jv p.1)) p)) (jmem N p.2)) → C mi (st.take a).reverse (jmem N m) Q') (kk : ∀ p : Int × jm, F p → R p → jp X C M Q N pc' L (jv p.1 :: rest) p.2 u) : jp X C M Q N pc L st m u := by
  subst hp; refine jr hi ?_
  show px_act4 X C M (.invokestatic n) pc L st (jmem N m) u (px_W X C M Q) Q
  obtain ⟨q1, q2, q3, q4, q5⟩ := hq
  rw [jact_s hlk q2]
  exact ⟨q1, q2, q3, jr_call hb hl hr hc hu hcc kk⟩
theorem jr_cn_i {n mi a : Nat} {F R : Int × jm → Prop} (rest : List Value) (hi : px_ins M pc = some (.invokestatic n, l)) (hp : pc + 3 = pc') (hlk : px_lk M.2.1 n = some (3, mi, a)) (hq : jq mi 1) (hb : px_bud mi = (0, 0)) (hl : a ≤ st.length) (hr : st.drop a = rest) (hc : px_cat rest ≤ 8) (hu : ju M u) (hcc : ∀ Q' : px_Q, (∀ p : Int × jm, F p → R p → Q' (.inl ((fun p => some (jv p.1)) p)) (jmem N p.2)) → C mi (st.take a).reverse (jmem N m) Q') (kk : ∀ p : Int × jm, F p → R p → jp X C M Q N pc' L (jv p.1 :: rest) p.2 u) : jp X C M Q N pc L st m u := by
  subst hp; refine jr hi ?_
  show px_act4 X C M (.invokestatic n) pc L st (jmem N m) u (px_W X C M Q) Q
  obtain ⟨q1, q2, q3, q4, q5⟩ := hq
  rw [jact_n hlk]
  exact ⟨q1, q2, q3, q4, jr_callN hb hl hr hc hu hcc kk⟩
theorem jr_cv_p {n mi a k : Nat} {F R : Int → Prop} (rest : List Value) (hi : px_ins M pc = some (.invokevirtual n, l)) (hp : pc + 3 = pc') (hlk : px_lk M.2.1 n = some (2, mi, a)) (hq : jq mi 0) (hb : px_bud mi = (0, 0)) (hl : a + 1 ≤ st.length) (hr : st.drop (a + 1) = rest) (hc : px_cat rest ≤ 8) (hu : ju M u) (hk : (st.drop a).head? = some (.ref k)) (hkN : k < N) (hkd : px_kd k = px_own mi) (hcc : ∀ Q' : px_Q, (∀ p : Int, F p → R p → Q' (.inl ((fun p => some (jv p)) p)) (jmem N m)) → C mi (st.take (a + 1)).reverse (jmem N m) Q') (kk : ∀ p : Int, F p → R p → jp X C M Q N pc' L (jv p :: rest) m u) : jp X C M Q N pc L st m u := by
  subst hp; refine jr hi ?_
  show px_act4 X C M (.invokevirtual n) pc L st (jmem N m) u (px_W X C M Q) Q
  rw [jact_v hlk]
  obtain ⟨q1, q2, q3, q4, q5⟩ := hq
  exact ⟨q1, q2, q3, q4, q5 rfl, ⟨k, hk, by rw [jN]; exact hkN, hkd⟩, jr_call hb hl hr hc hu hcc kk⟩
theorem jr_cs_p {n mi a : Nat} {F R : Int → Prop} (rest : List Value) (hi : px_ins M pc = some (.invokestatic n, l)) (hp : pc + 3 = pc') (hlk : px_lk M.2.1 n = some (2, mi, a)) (hq : jq mi 1) (hb : px_bud mi = (0, 0)) (hl : a ≤ st.length) (hr : st.drop a = rest) (hc : px_cat rest ≤ 8) (hu : ju M u) (hcc : ∀ Q' : px_Q, (∀ p : Int, F p → R p → Q' (.inl ((fun p => some (jv p)) p)) (jmem N m)) → C mi (st.take a).reverse (jmem N m) Q') (kk : ∀ p : Int, F p → R p → jp X C M Q N pc' L (jv p :: rest) m u) : jp X C M Q N pc L st m u := by
  subst hp; refine jr hi ?_
  show px_act4 X C M (.invokestatic n) pc L st (jmem N m) u (px_W X C M Q) Q
  obtain ⟨q1, q2, q3, q4, q5⟩ := hq
  rw [jact_s hlk q2]
  exact ⟨q1, q2, q3, jr_call hb hl hr hc hu hcc kk⟩
theorem jr_cn_p {n mi a : Nat} {F R : Int → Prop} (rest : List Value) (hi : px_ins M pc = some (.invokestatic n, l)) (hp : pc + 3 = pc') (hlk : px_lk M.2.1 n = some (3, mi, a)) (hq : jq mi 1) (hb : px_bud mi = (0, 0)) (hl : a ≤ st.length) (hr : st.drop a = rest) (hc : px_cat rest ≤ 8) (hu : ju M u) (hcc : ∀ Q' : px_Q, (∀ p : Int, F p → R p → Q' (.inl ((fun p => some (jv p)) p)) (jmem N m)) → C mi (st.take a).reverse (jmem N m) Q') (kk : ∀ p : Int, F p → R p → jp X C M Q N pc' L (jv p :: rest) m u) : jp X C M Q N pc L st m u := by
  subst hp; refine jr hi ?_
  show px_act4 X C M (.invokestatic n) pc L st (jmem N m) u (px_W X C M Q) Q
  obtain ⟨q1, q2, q3, q4, q5⟩ := hq
  rw [jact_n hlk]
  exact ⟨q1, q2, q3, q4, jr_callN hb hl hr hc hu hcc kk⟩
theorem jr_cv_pl {n mi a k : Nat} {F R : Int → Prop} (rest : List Value) (hi : px_ins M pc = some (.invokevirtual n, l)) (hp : pc + 3 = pc') (hlk : px_lk M.2.1 n = some (2, mi, a)) (hq : jq mi 0) (hb : px_bud mi = (0, 0)) (hl : a + 1 ≤ st.length) (hr : st.drop (a + 1) = rest) (hc : px_cat rest ≤ 8) (hu : ju M u) (hk : (st.drop a).head? = some (.ref k)) (hkN : k < N) (hkd : px_kd k = px_own mi) (hcc : ∀ Q' : px_Q, (∀ p : Int, F p → R p → Q' (.inl ((fun p => some (jvl p)) p)) (jmem N m)) → C mi (st.take (a + 1)).reverse (jmem N m) Q') (kk : ∀ p : Int, F p → R p → jp X C M Q N pc' L (jvl p :: rest) m u) : jp X C M Q N pc L st m u := by
  subst hp; refine jr hi ?_
  show px_act4 X C M (.invokevirtual n) pc L st (jmem N m) u (px_W X C M Q) Q
  rw [jact_v hlk]
  obtain ⟨q1, q2, q3, q4, q5⟩ := hq
  exact ⟨q1, q2, q3, q4, q5 rfl, ⟨k, hk, by rw [jN]; exact hkN, hkd⟩, jr_call hb hl hr hc hu hcc kk⟩
theorem jr_cs_pl {n mi a : Nat} {F R : Int → Prop} (rest : List Value) (hi : px_ins M pc = some (.invokestatic n, l)) (hp : pc + 3 = pc') (hlk : px_lk M.2.1 n = some (2, mi, a)) (hq : jq mi 1) (hb : px_bud mi = (0, 0)) (hl : a ≤ st.length) (hr : st.drop a = rest) (hc : px_cat rest ≤ 8) (hu : ju M u) (hcc : ∀ Q' : px_Q, (∀ p : Int, F p → R p → Q' (.inl ((fun p => some (jvl p)) p)) (jmem N m)) → C mi (st.take a).reverse (jmem N m) Q') (kk : ∀ p : Int, F p → R p → jp X C M Q N pc' L (jvl p :: rest) m u) : jp X C M Q N pc L st m u := by
  subst hp; refine jr hi ?_
  show px_act4 X C M (.invokestatic n) pc L st (jmem N m) u (px_W X C M Q) Q
  obtain ⟨q1, q2, q3, q4, q5⟩ := hq
  rw [jact_s hlk q2]
  exact ⟨q1, q2, q3, jr_call hb hl hr hc hu hcc kk⟩
theorem jr_cn_pl {n mi a : Nat} {F R : Int → Prop} (rest : List Value) (hi : px_ins M pc = some (.invokestatic n, l)) (hp : pc + 3 = pc') (hlk : px_lk M.2.1 n = some (3, mi, a)) (hq : jq mi 1) (hb : px_bud mi = (0, 0)) (hl : a ≤ st.length) (hr : st.drop a = rest) (hc : px_cat rest ≤ 8) (hu : ju M u) (hcc : ∀ Q' : px_Q, (∀ p : Int, F p → R p → Q' (.inl ((fun p => some (jvl p)) p)) (jmem N m)) → C mi (st.take a).reverse (jmem N m) Q') (kk : ∀ p : Int, F p → R p → jp X C M Q N pc' L (jvl p :: rest) m u) : jp X C M Q N pc L st m u := by
  subst hp; refine jr hi ?_
  show px_act4 X C M (.invokestatic n) pc L st (jmem N m) u (px_W X C M Q) Q
  obtain ⟨q1, q2, q3, q4, q5⟩ := hq
  rw [jact_n hlk]
  exact ⟨q1, q2, q3, q4, jr_callN hb hl hr hc hu hcc kk⟩
theorem jr_cv_v {n mi a k : Nat} {F R : jm → Prop} (rest : List Value) (hi : px_ins M pc = some (.invokevirtual n, l)) (hp : pc + 3 = pc') (hlk : px_lk M.2.1 n = some (2, mi, a)) (hq : jq mi 0) (hb : px_bud mi = (0, 0)) (hl : a + 1 ≤ st.length) (hr : st.drop (a + 1) = rest) (hc : px_cat rest ≤ 8) (hu : ju M u) (hk : (st.drop a).head? = some (.ref k)) (hkN : k < N) (hkd : px_kd k = px_own mi) (hcc : ∀ Q' : px_Q, (∀ p : jm, F p → R p → Q' (.inl ((fun _ => none) p)) (jmem N p)) → C mi (st.take (a + 1)).reverse (jmem N m) Q') (kk : ∀ p : jm, F p → R p → jp X C M Q N pc' L (rest) p u) : jp X C M Q N pc L st m u := by
  subst hp; refine jr hi ?_
  show px_act4 X C M (.invokevirtual n) pc L st (jmem N m) u (px_W X C M Q) Q
  rw [jact_v hlk]
  obtain ⟨q1, q2, q3, q4, q5⟩ := hq
  exact ⟨q1, q2, q3, q4, q5 rfl, ⟨k, hk, by rw [jN]; exact hkN, hkd⟩, jr_call hb hl hr hc hu hcc kk⟩
theorem jr_cs_v {n mi a : Nat} {F R : jm → Prop} (rest : List Value) (hi : px_ins M pc = some (.invokestatic n, l)) (hp : pc + 3 = pc') (hlk : px_lk M.2.1 n = some (2, mi, a)) (hq : jq mi 1) (hb : px_bud mi = (0, 0)) (hl : a ≤ st.length) (hr : st.drop a = rest) (hc : px_cat rest ≤ 8) (hu : ju M u) (hcc : ∀ Q' : px_Q, (∀ p : jm, F p → R p → Q' (.inl ((fun _ => none) p)) (jmem N p)) → C mi (st.take a).reverse (jmem N m) Q') (kk : ∀ p : jm, F p → R p → jp X C M Q N pc' L (rest) p u) : jp X C M Q N pc L st m u := by
  subst hp; refine jr hi ?_
  show px_act4 X C M (.invokestatic n) pc L st (jmem N m) u (px_W X C M Q) Q
  obtain ⟨q1, q2, q3, q4, q5⟩ := hq
  rw [jact_s hlk q2]
  exact ⟨q1, q2, q3, jr_call hb hl hr hc hu hcc kk⟩
theorem jr_cn_v {n mi a : Nat} {F R : jm → Prop} (rest : List Value) (hi : px_ins M pc = some (.invokestatic n, l)) (hp : pc + 3 = pc') (hlk : px_lk M.2.1 n = some (3, mi, a)) (hq : jq mi 1) (hb : px_bud mi = (0, 0)) (hl : a ≤ st.length) (hr : st.drop a = rest) (hc : px_cat rest ≤ 8) (hu : ju M u) (hcc : ∀ Q' : px_Q, (∀ p : jm, F p → R p → Q' (.inl ((fun _ => none) p)) (jmem N p)) → C mi (st.take a).reverse (jmem N m) Q') (kk : ∀ p : jm, F p → R p → jp X C M Q N pc' L (rest) p u) : jp X C M Q N pc L st m u := by
  subst hp; refine jr hi ?_
  show px_act4 X C M (.invokestatic n) pc L st (jmem N m) u (px_W X C M Q) Q
  obtain ⟨q1, q2, q3, q4, q5⟩ := hq
  rw [jact_n hlk]
  exact ⟨q1, q2, q3, q4, jr_callN hb hl hr hc hu hcc kk⟩
theorem jr_ct_i {n mi a k : Nat} {u' : Nat × Nat} {F R : Int × Nat × jm → Prop} (rest : List Value) (hi : px_ins M pc = some (.invokevirtual n, l)) (hp : pc + 3 = pc') (hlk : px_lk M.2.1 n = some (2, mi, a)) (hq : jq mi 0) (hb : (u.1 + (px_bud mi).1, u.2 + (px_bud mi).2) = u') (hu : ju M u') (hl : a + 1 ≤ st.length) (hr : st.drop (a + 1) = rest) (hc : px_cat rest ≤ 8) (hk : (st.drop a).head? = some (.ref k)) (hkN : k < N) (hkd : px_kd k = px_own mi) (hcc : ∀ Q' : px_Q, (∀ p : Int × Nat × jm, p.2.1 = 0 → F p → R p → Q' (.inl (some (jv p.1))) (jmem N p.2.2)) → (∀ (p : Int × Nat × jm) e, p.2.1 = e + 1 → R p → Q' (.inr e) (jmem N p.2.2)) → C mi (st.take (a + 1)).reverse (jmem N m) Q') (kk : ∀ p : Int × Nat × jm, p.2.1 = 0 → F p → R p → jp X C M Q N pc' L (jv p.1 :: rest) p.2.2 u') (ke : ∀ (p : Int × Nat × jm) e, p.2.1 = e + 1 → R p → px_hand M pc e L (jmem N p.2.2) u' (px_W X C M Q) Q) : jp X C M Q N pc L st m u := by
  subst hp; subst hr; subst hb; refine jr hi ?_
  show px_act4 X C M (.invokevirtual n) pc L st (jmem N m) u (px_W X C M Q) Q
  rw [jact_v hlk]
  obtain ⟨q1, q2, q3, q4, q5⟩ := hq
  refine ⟨q1, q2, q3, q4, q5 rfl, ⟨k, hk, by rw [jN]; exact hkN, hkd⟩, ?_⟩
  unfold px_call
  exact ⟨hl, hc, hu.1, hu.2, hcc _ (fun p h0 hf h => kk p h0 hf h) (fun p e h0 h => ke p e h0 h)⟩
theorem jr_ct_l {n mi a k : Nat} {u' : Nat × Nat} {F R : Int × Nat × jm → Prop} (rest : List Value) (hi : px_ins M pc = some (.invokevirtual n, l)) (hp : pc + 3 = pc') (hlk : px_lk M.2.1 n = some (2, mi, a)) (hq : jq mi 0) (hb : (u.1 + (px_bud mi).1, u.2 + (px_bud mi).2) = u') (hu : ju M u') (hl : a + 1 ≤ st.length) (hr : st.drop (a + 1) = rest) (hc : px_cat rest ≤ 8) (hk : (st.drop a).head? = some (.ref k)) (hkN : k < N) (hkd : px_kd k = px_own mi) (hcc : ∀ Q' : px_Q, (∀ p : Int × Nat × jm, p.2.1 = 0 → F p → R p → Q' (.inl (some (jvl p.1))) (jmem N p.2.2)) → (∀ (p : Int × Nat × jm) e, p.2.1 = e + 1 → R p → Q' (.inr e) (jmem N p.2.2)) → C mi (st.take (a + 1)).reverse (jmem N m) Q') (kk : ∀ p : Int × Nat × jm, p.2.1 = 0 → F p → R p → jp X C M Q N pc' L (jvl p.1 :: rest) p.2.2 u') (ke : ∀ (p : Int × Nat × jm) e, p.2.1 = e + 1 → R p → px_hand M pc e L (jmem N p.2.2) u' (px_W X C M Q) Q) : jp X C M Q N pc L st m u := by
  subst hp; subst hr; subst hb; refine jr hi ?_
  show px_act4 X C M (.invokevirtual n) pc L st (jmem N m) u (px_W X C M Q) Q
  rw [jact_v hlk]
  obtain ⟨q1, q2, q3, q4, q5⟩ := hq
  refine ⟨q1, q2, q3, q4, q5 rfl, ⟨k, hk, by rw [jN]; exact hkN, hkd⟩, ?_⟩
  unfold px_call
  exact ⟨hl, hc, hu.1, hu.2, hcc _ (fun p h0 hf h => kk p h0 hf h) (fun p e h0 h => ke p e h0 h)⟩
theorem jr_ct_v {n mi a k : Nat} {u' : Nat × Nat} {F R : Nat × jm → Prop} (rest : List Value) (hi : px_ins M pc = some (.invokevirtual n, l)) (hp : pc + 3 = pc') (hlk : px_lk M.2.1 n = some (2, mi, a)) (hq : jq mi 0) (hb : (u.1 + (px_bud mi).1, u.2 + (px_bud mi).2) = u') (hu : ju M u') (hl : a + 1 ≤ st.length) (hr : st.drop (a + 1) = rest) (hc : px_cat rest ≤ 8) (hk : (st.drop a).head? = some (.ref k)) (hkN : k < N) (hkd : px_kd k = px_own mi) (hcc : ∀ Q' : px_Q, (∀ p : Nat × jm, p.1 = 0 → F p → R p → Q' (.inl (none)) (jmem N p.2)) → (∀ (p : Nat × jm) e, p.1 = e + 1 → R p → Q' (.inr e) (jmem N p.2)) → C mi (st.take (a + 1)).reverse (jmem N m) Q') (kk : ∀ p : Nat × jm, p.1 = 0 → F p → R p → jp X C M Q N pc' L (rest) p.2 u') (ke : ∀ (p : Nat × jm) e, p.1 = e + 1 → R p → px_hand M pc e L (jmem N p.2) u' (px_W X C M Q) Q) : jp X C M Q N pc L st m u := by
  subst hp; subst hr; subst hb; refine jr hi ?_
  show px_act4 X C M (.invokevirtual n) pc L st (jmem N m) u (px_W X C M Q) Q
  rw [jact_v hlk]
  obtain ⟨q1, q2, q3, q4, q5⟩ := hq
  refine ⟨q1, q2, q3, q4, q5 rfl, ⟨k, hk, by rw [jN]; exact hkN, hkd⟩, ?_⟩
  unfold px_call
  exact ⟨hl, hc, hu.1, hu.2, hcc _ (fun p h0 hf h => kk p h0 hf h) (fun p e h0 h => ke p e h0 h)⟩
theorem jr_le {v : jm} {f : jm → Option α} (h : jo (jle v f) P) (k : ∀ m', jo (f m') P → jp X C M Q N pc L st m' u) : jp X C M Q N pc L st v u := k v h
theorem jhe {e e' : Nat} (h : e = e') (k : px_hand M pc e' L (jmem N m) u (px_W X C M Q) Q) : px_hand M pc e L (jmem N m) u (px_W X C M Q) Q := h ▸ k
theorem jh_0 {e : Nat} (hM : M.2.2.2.2.2.2 = []) (hu : ju M u) (hq : Q (.inr e) (jmem N m)) : px_hand M pc e L (jmem N m) u (px_W X C M Q) Q := by
  unfold px_hand; rw [hM]; exact ⟨hu.1, hu.2, hq⟩
theorem jh_n {e h : Nat} {n : Fin 4} {r : Nat × Nat × Nat × Nat} {rs : List (Nat × Nat × Nat × Nat)} (hM : M.2.2.2.2.2.2 = r :: rs) (hf : px_find M.2.1 pc e (r :: rs) = some h) (hi : px_ins M h = some (.astore_n n, 1)) (hp : h + 1 = pc') (hn : (n : Nat) < L.length) (hL : px_st1 L n none = L') (k : jp X C M Q N pc' L' [] m u) : px_hand M pc e L (jmem N m) u (px_W X C M Q) Q := by
  subst hp; subst hL
  unfold px_hand; rw [hM]
  show (match px_find M.2.1 pc e (r :: rs) with
    | some h => match px_ins M h with
      | some (.astore_n n, 1) => (n : Nat) < L.length ∧ px_W X C M Q (h + 1, px_st1 L n none, [], jmem N m, u)
      | some (.astore n, 2) => n < L.length ∧ px_W X C M Q (h + 2, px_st1 L n none, [], jmem N m, u)
      | _ => False
    | none => False)
  rw [hf]
  show (match px_ins M h with
      | some (.astore_n n, 1) => (n : Nat) < L.length ∧ px_W X C M Q (h + 1, px_st1 L n none, [], jmem N m, u)
      | some (.astore n, 2) => n < L.length ∧ px_W X C M Q (h + 2, px_st1 L n none, [], jmem N m, u)
      | _ => False)
  rw [hi]; exact ⟨hn, k⟩
theorem jh_a {e h n : Nat} {r : Nat × Nat × Nat × Nat} {rs : List (Nat × Nat × Nat × Nat)} (hM : M.2.2.2.2.2.2 = r :: rs) (hf : px_find M.2.1 pc e (r :: rs) = some h) (hi : px_ins M h = some (.astore n, 2)) (hp : h + 2 = pc') (hn : n < L.length) (hL : px_st1 L n none = L') (k : jp X C M Q N pc' L' [] m u) : px_hand M pc e L (jmem N m) u (px_W X C M Q) Q := by
  subst hp; subst hL
  unfold px_hand; rw [hM]
  show (match px_find M.2.1 pc e (r :: rs) with
    | some h => match px_ins M h with
      | some (.astore_n n, 1) => (n : Nat) < L.length ∧ px_W X C M Q (h + 1, px_st1 L n none, [], jmem N m, u)
      | some (.astore n, 2) => n < L.length ∧ px_W X C M Q (h + 2, px_st1 L n none, [], jmem N m, u)
      | _ => False
    | none => False)
  rw [hf]
  show (match px_ins M h with
      | some (.astore_n n, 1) => (n : Nat) < L.length ∧ px_W X C M Q (h + 1, px_st1 L n none, [], jmem N m, u)
      | some (.astore n, 2) => n < L.length ∧ px_W X C M Q (h + 2, px_st1 L n none, [], jmem N m, u)
      | _ => False)
  rw [hi]; exact ⟨hn, k⟩
end
theorem jr_in {X : Nat × (Nat → Int32)} {M : px_M} {Q : px_Q} {N mi d lev : Nat} {av : List Value} {L : px_L} {m : jm} (hd : lev + 1 ≤ d) (hM : px_prog mi = M) (hb : px_bud mi = (0, 0)) (hl : (px_lay av).length ≤ M.2.2.2.2.1) (hL : px_ent M.2.2.2.2.1 av = L) (k : ∀ d', lev ≤ d' → ∀ Q' : px_Q, (∀ r m', Q r (jmem N m') → Q' r (jmem N m')) → jp X (px_C X d') M Q' N 0 L [] m (0, 0)) : px_C X d mi av (jmem N m) Q := by
  subst hM; subst hL
  cases d with
  | zero => omega
  | succ d => exact ⟨hl, k d (by omega) _ (fun r m' hq => ⟨fun _ => by rw [jN, jN, hb]; rfl, hq⟩)⟩
theorem jr_inT {X : Nat × (Nat → Int32)} {M : px_M} {Q : px_Q} {N mi d lev : Nat} {av : List Value} {L : px_L} {m : jm} (hd : lev + 1 ≤ d) (hN : 103 ≤ N) (hM : px_prog mi = M) (hl : (px_lay av).length ≤ M.2.2.2.2.1) (hL : px_ent M.2.2.2.2.1 av = L) (k : ∀ d', lev ≤ d' → ∀ Q' : px_Q, (∀ r m', Q r (jmem N m') → Q' r (jmem N m')) → jp X (px_C X d') M Q' N 0 L [] m (0, 0)) : px_C X d mi av (jmem N m) Q := by
  subst hM; subst hL
  cases d with
  | zero => omega
  | succ d => exact ⟨hl, k d (by omega) _ (fun r m' hq => ⟨fun h => by rw [jN] at h; omega, hq⟩)⟩
