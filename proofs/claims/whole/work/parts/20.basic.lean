/-! SPECS: what all operations use. -/
theorem Inv_of {m m' : jm} (h : Inv m) (e1 : kEq kQS m m') (e2 : kEq kQT m m') (r : kR m') : Inv m' := ⟨kS_congr e1 h.1, kT_congr e2 h.2.1, r⟩
theorem Inv_eq {m m' : jm} (h : Inv m) (e1 : kEq kQS m m') (e2 : kEq kQT m m') (e3 : kEq kQR m m') : Inv m' := ⟨kS_congr e1 h.1, kT_congr e2 h.2.1, kR_congr e3 h.2.2⟩
theorem Inv_js {m : jm} {k j : Nat} {x : Int} (h : Inv m) (h1 : ¬ kQS k j) (h2 : ¬ kQT k j) (h3 : ¬ kQR k j) : Inv (js m k j x) := Inv_eq h (kEq_js kEq_r h1) (kEq_js kEq_r h2) (kEq_js kEq_r h3)
theorem Inv_th {m : jm} {x : Int} (h : Inv m) : Inv (js m 67 0 x) := Inv_js h (by unfold kQS; omega) (by unfold kQT; omega) (by unfold kQR; omega)
theorem Inv_jsl {m : jm} {k j : Nat} {x : Int} (h : Inv m) : Inv (jsl m k j x) := Inv_eq h (kEq_jsl kEq_r) (kEq_jsl kEq_r) (kEq_jsl kEq_r)
/-- a fold with the place counted -/
def kAcc {α : Type} (f : Nat → α → α) (a : α) : Nat → α
  | 0 => a
  | n + 1 => f n (kAcc f a n)
theorem kAcc_ext {α : Type} {f g : Nat → α → α} {a : α} : ∀ (n : Nat), (∀ i, i < n → ∀ x, f i x = g i x) → kAcc f a n = kAcc g a n
  | 0, _ => rfl
  | n + 1, h => by
    show f n (kAcc f a n) = g n (kAcc g a n)
    rw [kAcc_ext n (fun i hi => h i (by omega)), h n (by omega)]
theorem kAcc_lp {α β : Type} {body : α × Int → Option ((α × Int) ⊕ β)} {a : α} {c : β} (n : Nat) (f : Nat → α → α) (hn : n < 4000000) (hs : ∀ i, i < n → ∀ x, body (x, (i : Int)) = some (Sum.inl (f i x, ((i + 1 : Nat) : Int)))) (he : body (kAcc f a n, (n : Int)) = some (Sum.inr c)) : jlp body jfu (a, (0 : Int)) = some c :=
  jlp_fr n (fun i => (kAcc f a i, (i : Int))) hn rfl (fun i hi => hs i hi _) he
theorem jwn {n : Nat} (h : n < 2147483647) : jw ((n : Int) + 1) = ((n + 1 : Nat) : Int) := by rw [jwi (by omega) (by omega)]; omega
theorem jwc {a : Int} {n : Nat} (h0 : 0 ≤ a) (h : a + n < 2147483648) : jw (a + (n : Int)) = a + n := jwi (by omega) (by omega)
/-! refusals -/
theorem sp_153 {x a b : Int} {m : jm} : jf_153 x a b m = some (if a ≤ x ∧ x ≤ b then 1 else 0) := by
  unfold jf_153
  by_cases h1 : x < a
  · rw [if_pos h1, if_neg (by omega)]; rfl
  · rw [if_neg h1]
    by_cases h2 : b < x
    · rw [if_pos h2, if_neg (by omega)]; rfl
    · rw [if_neg h2, if_pos (by omega)]; rfl
theorem sp_247 {x a b : Int} {m : jm} : jf_247 x a b m = some (if a ≤ x ∧ x ≤ b then 1 else 0) := sp_153 (m := m)
def kA (m : jm) : jm := js m 0 16 (jw (ja m 0 16 + 1))
def kE (m : jm) : jm := js m 0 15 (jw (ja m 0 15 + 1))
theorem sp_154 {x : Int} {m : jm} : jf_154 x m = some (if x = 0 then (2, kA m) else (0, m)) := by
  unfold jf_154
  by_cases h : x = 0
  · rw [if_pos h, if_pos h]; rfl
  · rw [if_neg h, if_neg h]
theorem jpr {p : Nat × jm} : (if p.1 = 0 then some ((0 : Nat), p.2) else some (p.1, p.2)) = some p := by
  by_cases h0 : p.1 = 0
  · rw [if_pos h0]; exact congrArg some (Prod.ext h0.symm rfl)
  · rw [if_neg h0]
theorem sp_152 {x a b : Int} {m : jm} : jf_152 x a b m = some (if a ≤ x ∧ x ≤ b then (0, m) else (2, kA m)) := by
  unfold jf_152
  rw [sp_153, jsb, sp_154, jsb, jpr]
  by_cases h : a ≤ x ∧ x ≤ b
  · rw [if_pos h, if_pos h]; rfl
  · rw [if_neg h, if_neg h]; rfl
theorem sp_151 {x b : Int} {m : jm} : jf_151 x b m = some (if 0 ≤ x ∧ x ≤ jmin b (ja m 1 1) then (0, m) else (2, kA m)) := by
  unfold jf_151
  rw [sp_152, jsb, jpr]
theorem sp_160 {x n : Int} {m : jm} : jf_160 x n m = some (if 0 ≤ x ∧ x ≤ jw (n - 1) then (0, m) else (1, kE m)) := by
  unfold jf_160
  rw [sp_153, jsb]
  by_cases h : 0 ≤ x ∧ x ≤ jw (n - 1)
  · rw [if_pos h, if_pos h]; rfl
  · rw [if_neg h, if_neg h]; rfl
/-- the model's refusals: thrown set, the kind counted -/
def kTh (m : jm) (t : Int) (k : Nat) : jm := js (js m 67 0 t) 68 k (jw (ja m 68 k + 1))
theorem sp_194 {g t : Int} {k : Nat} {m : jm} (hk : k < 2) (h0 : ja m 67 0 = 0) (ht : jg t) (ht0 : t ≠ 0) : jf_194 g t k m = some (if g = 0 then (0, kTh m t k) else (1, m)) := by
  unfold jf_194
  by_cases h : g = 0
  · rw [if_pos h, if_pos h, if_pos h0, jle_eq, if_pos (by omega), if_pos (by omega), jle_eq, jsb]
    have e : ja (js (js m 67 0 t) 68 (k : Int).toNat (jw (ja (js m 67 0 t) 68 (k : Int).toNat + 1))) 67 0 = t := by
      rw [ja_jsk (by decide), ja_js1, jw_id ht]
    rw [e, if_neg ht0]
    have e2 : ja (js m 67 0 t) 68 (k : Int).toNat = ja m 68 k := by rw [ja_jsk (by decide)]; rfl
    rw [e2]; rfl
  · rw [if_neg h, if_neg h, jsb, if_pos h0]; rfl
theorem kR_bad {m m' : jm} (h : kR m) (e : kEq kQR m m') : kR m' := kR_congr e h
/-- both refuse an argument -/
theorem Inv_A {m : jm} {t : Int} (h : Inv m) : Inv (kTh (js (kA m) 67 0 0) t 1) := by
  refine Inv_of h ?_ ?_ ?_
  · unfold kTh kA; exact kEq_js (kEq_js (kEq_js (kEq_js kEq_r (by unfold kQS; omega)) (by unfold kQS; omega)) (by unfold kQS; omega)) (by unfold kQS; omega)
  · unfold kTh kA; exact kEq_js (kEq_js (kEq_js (kEq_js kEq_r (by unfold kQT; omega)) (by unfold kQT; omega)) (by unfold kQT; omega)) (by unfold kQT; omega)
  · obtain ⟨-, -, r1, r2⟩ := h
    unfold kR kTh kA
    refine ⟨?_, ?_⟩
    · rw [ja_jsk (by decide), ja_jsk (by decide), ja_jsk (by decide), ja_jsj (by decide), ja_jsj (by decide), ja_jsk (by decide), ja_jsk (by decide), ja_jsk (by decide)]; exact r1
    · rw [ja_jsk (by decide), ja_jsk (by decide), ja_jsk (by decide), ja_js1, ja_js1, jw_w, jw_w, r2, ja_jsk (by decide), ja_jsk (by decide)]
theorem Inv_E {m : jm} {t : Int} (h : Inv m) : Inv (kTh (js (kE m) 67 0 0) t 0) := by
  refine Inv_of h ?_ ?_ ?_
  · unfold kTh kE; exact kEq_js (kEq_js (kEq_js (kEq_js kEq_r (by unfold kQS; omega)) (by unfold kQS; omega)) (by unfold kQS; omega)) (by unfold kQS; omega)
  · unfold kTh kE; exact kEq_js (kEq_js (kEq_js (kEq_js kEq_r (by unfold kQT; omega)) (by unfold kQT; omega)) (by unfold kQT; omega)) (by unfold kQT; omega)
  · obtain ⟨-, -, r1, r2⟩ := h
    unfold kR kTh kE
    refine ⟨?_, ?_⟩
    · rw [ja_jsk (by decide), ja_jsk (by decide), ja_jsk (by decide), ja_js1, ja_js1, jw_w, jw_w, r1, ja_jsk (by decide), ja_jsk (by decide)]
    · rw [ja_jsk (by decide), ja_jsk (by decide), ja_jsk (by decide), ja_jsj (by decide), ja_jsj (by decide), ja_jsk (by decide), ja_jsk (by decide), ja_jsk (by decide)]; exact r2
/-! rows copied by the model -/
theorem sp_190 {a b n : Nat} {m : jm} (hab : a ≠ b) (h1 : n ≤ px_ln a) (h2 : n ≤ px_ln b) : jf_190 a b n m = some (jcp m (m.1 a) b 0 0 n) := by
  unfold jf_190
  have hl := jln_le (a := a)
  rw [jlp_fr (c := jcp m (m.1 a) b 0 0 n) n (fun i => ((i : Int), jcp m (m.1 a) b 0 0 i)) (by omega) ?_ (fun i hi => ?_) ?_]
  · rfl
  · refine Prod.ext rfl (Prod.ext ?_ rfl)
    funext k j
    show (if k = b ∧ 0 ≤ j ∧ j < 0 + 0 then _ else m.1 k j) = m.1 k j
    rw [if_neg (by omega)]
  · show (if ((n : Nat) : Int) < (n : Int) then _ else _) = _
    rw [if_neg (by omega)]
  · show (if (i : Int) < (n : Int) then _ else _) = _
    rw [if_pos (by omega), if_pos (by omega), if_pos (by omega), jle_eq, jwn (by omega)]
    refine congrArg (fun z => some (Sum.inl (((i + 1 : Nat) : Int), z))) ?_
    unfold js
    refine Prod.ext ?_ rfl
    funext k j
    have e : Int32.ofInt (ja (jcp m (m.1 a) b 0 0 i) a (i : Int).toNat) = m.1 a i := by
      rw [ja_jcp, if_neg (by omega)]
      exact Int32.ofInt_toInt _
    show (if k = b ∧ j = (i : Int).toNat then Int32.ofInt (ja (jcp m (m.1 a) b 0 0 i) a (i : Int).toNat) else if k = b ∧ 0 ≤ j ∧ j < 0 + i then m.1 a (0 + (j - 0)) else m.1 k j) = if k = b ∧ 0 ≤ j ∧ j < 0 + (i + 1) then m.1 a (0 + (j - 0)) else m.1 k j
    rw [e]
    by_cases h1 : k = b ∧ j = (i : Int).toNat
    · rw [if_pos h1, if_pos (by omega)]
      have : 0 + (j - 0) = i := by omega
      rw [this]
    · rw [if_neg h1]
      by_cases h2 : k = b ∧ 0 ≤ j ∧ j < 0 + i
      · rw [if_pos h2, if_pos (by omega)]
      · rw [if_neg h2, if_neg (by omega)]
/-- the model's working copy -/
def kT0 (m : jm) : jm := jcp m (m.1 88) 89 0 0 68
theorem sp_226 {m : jm} : jf_226 m = some (kT0 m) := by
  unfold jf_226
  rw [show ((68 : Int)) = ((68 : Nat) : Int) from rfl, sp_190 (by decide) (by decide) (by decide)]; rfl
theorem ja_T0 {m : jm} {k j : Nat} (h : k ≠ 89) : ja (kT0 m) k j = ja m k j := by
  unfold kT0; rw [ja_jcp, if_neg (by omega)]
theorem ja_T9 {m : jm} {j : Nat} (h : j < 68) : ja (kT0 m) 89 j = ja m 88 j := by
  unfold kT0; rw [ja_jcp, if_pos (by omega)]
  have : 0 + (j - 0) = j := by omega
  rw [this]; rfl
theorem Inv_T0 {m : jm} (h : Inv m) : Inv (kT0 m) := Inv_eq h (fun k j hk => ja_T0 (by unfold kQS at hk; omega)) (fun k j hk => ja_T0 (by unfold kQT at hk; omega)) (fun k j hk => ja_T0 (by unfold kQR at hk; omega))
theorem kPm_T0 {m : jm} {c : kC} {p : kP} (hv : kV c) (h : kPm (fun j => ja m 88 j) c p) : kPm (fun j => ja (kT0 m) 89 j) c p := by
  obtain ⟨⟨v1, v2, v3, v4⟩, -⟩ := hv
  obtain ⟨h1, h2, h3, h4, h5⟩ := h
  refine ⟨?_, ?_, fun e he => ?_, fun w hw => ?_, fun l hl => ?_⟩
  · show ja _ 89 66 = _; rw [ja_T9 (by omega)]; exact h1
  · show ja _ 89 67 = _; rw [ja_T9 (by omega)]; exact h2
  · show ja _ 89 _ = _ ∧ ja _ 89 _ = _; rw [ja_T9 (by omega), ja_T9 (by omega)]; exact h3 e he
  · show ja _ 89 _ = _ ∧ ja _ 89 _ = _ ∧ ja _ 89 _ = _; rw [ja_T9 (by omega), ja_T9 (by omega), ja_T9 (by omega)]; exact h4 w hw
  · show ja _ 89 _ = _ ∧ ja _ 89 _ = _ ∧ ja _ 89 _ = _; rw [ja_T9 (by omega), ja_T9 (by omega), ja_T9 (by omega)]; exact h5 l hl
/-! fault, status, count -/
theorem sy_5 {m : jm} (h : Inv m) : kSp (fun m => jf_142 m) (fun m => jf_192 m) m := by
  unfold kSp jf_142 jf_192
  refine ⟨?_, Inv_th h⟩
  obtain ⟨-, ⟨n, -, -, -, -, h5⟩, -⟩ := h
  show ja m 1 6 = ja (js m 67 0 0) 67 8
  rw [ja_jsj (by decide)]; exact h5
theorem sy_35 {m : jm} {x0 : Int} (hx0 : jg x0) (h : Inv m) : kSp (fun m => jf_148 x0 m) (fun m => jf_302 x0 m) m := by
  obtain ⟨-, -, r1, r2⟩ := id h
  unfold kSp jf_148 jf_302
  simp only [jle_eq, sp_247, jsb]
  by_cases h0 : x0 = 0
  · subst h0
    refine ⟨?_, Inv_th h⟩
    show ja m 0 15 = ja (js m 67 0 0) 68 0
    rw [ja_jsk (by decide)]; exact r1
  · by_cases h1 : x0 = 1
    · subst h1
      refine ⟨?_, Inv_th h⟩
      show ja m 0 16 = ja (js m 67 0 0) 68 1
      rw [ja_jsk (by decide)]; exact r2
    · rw [if_neg h0, if_neg h1, if_neg (by omega : ¬ (0 ≤ x0 ∧ x0 ≤ 1))]
      exact ⟨rfl, Inv_th h⟩
theorem sy_36 {m : jm} {x0 : Int} (hx0 : jg x0) (h : Inv m) : kSp (fun m => jf_149 x0 m) (fun m => jf_303 x0 m) m := by
  obtain ⟨⟨c, cl, -, -, -, -, -, -, -, -, ⟨n, -, p1, p2, -⟩, ⟨n', -, i1, i2, -⟩, -⟩, ⟨n'', -, t1, t2, -, -⟩, -⟩ := id h
  unfold kSp jf_149 jf_303
  simp only [jle_eq]
  by_cases h0 : x0 = 0
  · subst h0
    refine ⟨?_, Inv_th h⟩
    show ja m 50 5 = ja (js m 67 0 0) 67 66
    rw [ja_jsj (by decide), i1, i2]
  · by_cases h1 : x0 = 1
    · subst h1
      refine ⟨?_, Inv_th h⟩
      show ja m 1 1 = ja (js m 67 0 0) 67 2
      rw [ja_jsj (by decide), t1, t2]
    · by_cases h2 : x0 = 2
      · subst h2
        refine ⟨?_, Inv_th h⟩
        show ja m 50 1 = ja (js m 67 0 0) 67 39
        rw [ja_jsj (by decide), p1, p2]
      · rw [if_neg h0, if_neg h1, if_neg h2, if_neg h0, if_neg h1, if_neg h2]
        exact ⟨rfl, Inv_th h⟩
