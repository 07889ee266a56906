/-! FRAME: greedily, by weight, is the best. w: a weight for each wire, no two alike. -/
def kKr (c : kC) (w : Nat → Nat) (e : Nat) : Bool := !kRe c (fun f => decide (w f < w e)) (c 1 e) (c 2 e)
theorem kRe_0 {c : kC} {s : Nat → Bool} {u v : Nat} (hs : ∀ e, e < c 11 1 → s e = false) (h : kRe c s u v = true) : v = u :=
  kRe_min (P := fun x => x = u) rfl (fun e he hse => by rw [hs e he] at hse; cases hse) h
theorem kCnt_all {f : Nat → Bool} : ∀ n, (∀ i, i < n → f i = true) → kCnt f n = n
  | 0, _ => rfl
  | n + 1, h => by rw [kCnt_s, h n (by omega), kCnt_all n (fun i hi => h i (by omega))]; rfl
theorem kCo_0 {c : kC} {s : Nat → Bool} (hs : ∀ e, e < c 11 1 → s e = false) : kCo c s = c 11 0 := by
  unfold kCo
  refine kCnt_all _ (fun t ht => kMn_iff.2 (fun u hu => ?_))
  cases h : kRe c s u t
  · rfl
  · have := kRe_0 hs h; omega
theorem kr_A {c : kC} {w : Nat → Nat} (hv : kV c) (hw : ∀ e f, e < c 11 1 → f < c 11 1 → w e = w f → e = f) : ∀ x, kCo c (fun f => decide (w f < x)) + kCnt (fun e => kKr c w e && decide (w e < x)) (c 11 1) = c 11 0
  | 0 => by
    rw [kCo_0 (fun e _ => decide_eq_false (Nat.not_lt_zero _)), kCnt_z _ (fun i _ => by rw [decide_eq_false (Nat.not_lt_zero _), Bool.and_false]), Nat.add_zero]
  | x + 1 => by
    have ih := kr_A hv hw x
    by_cases hex : ∃ e, e < c 11 1 ∧ w e = x
    · obtain ⟨e, he, hx⟩ := hex
      have h1 := kCo_1 (s := fun f => decide (w f < x)) (s' := fun f => decide (w f < x + 1)) hv he (fun f hf => by
        rw [decide_eq_true_eq, decide_eq_true_eq]
        refine ⟨fun h => ?_, fun h => ?_⟩
        · by_cases q : w f < x
          · exact Or.inl q
          · exact Or.inr (hw f e hf he (by omega))
        · rcases h with h | h
          · omega
          · rw [h]; omega)
      have hK : kKr c w e = !kRe c (fun f => decide (w f < x)) (c 1 e) (c 2 e) := by unfold kKr; rw [hx]
      cases hr : kRe c (fun f => decide (w f < x)) (c 1 e) (c 2 e)
      · rw [hr] at hK h1
        rw [if_neg nft] at h1
        have h2 := kCnt_rm (f := fun e => kKr c w e && decide (w e < x + 1)) (g := fun e => kKr c w e && decide (w e < x)) (M := e) (c 11 1) he (by rw [hK, decide_eq_true (by omega)]; rfl) (fun t ht => by
          simp only [Bool.and_eq_true, decide_eq_true_eq]
          refine ⟨fun ⟨q1, q2⟩ => ⟨⟨q1, by omega⟩, fun q => by rw [q] at q2; omega⟩, fun ⟨⟨q1, q2⟩, q3⟩ => ⟨q1, ?_⟩⟩
          by_cases q : w t < x
          · exact q
          · exact absurd (hw t e ht he (by omega)) q3)
        omega
      · rw [hr] at hK h1
        rw [if_pos rfl] at h1
        have h2 : kCnt (fun e => kKr c w e && decide (w e < x + 1)) (c 11 1) = kCnt (fun e => kKr c w e && decide (w e < x)) (c 11 1) := kCnt_ext _ (fun t ht => b_iff (by
          simp only [Bool.and_eq_true, decide_eq_true_eq]
          refine ⟨fun ⟨q1, q2⟩ => ⟨q1, ?_⟩, fun ⟨q1, q2⟩ => ⟨q1, by omega⟩⟩
          by_cases q : w t < x
          · exact q
          · have := hw t e ht he (by omega)
            rw [this, hK] at q1; cases q1))
        omega
    · have h1 : ∀ f, f < c 11 1 → decide (w f < x + 1) = decide (w f < x) := fun f hf => b_iff (by
        rw [decide_eq_true_eq, decide_eq_true_eq]
        refine ⟨fun h => ?_, fun h => by omega⟩
        by_cases q : w f < x
        · exact q
        · exact absurd ⟨f, hf, by omega⟩ hex)
      rw [kCo_x (s' := fun f => decide (w f < x)) hv h1, kCnt_ext (T := fun e => kKr c w e && decide (w e < x)) _ (fun f hf => by rw [h1 f hf])]
      exact ih
/-- what was chosen hangs together as all that was looked at -/
theorem kr_B {c : kC} {w : Nat → Nat} (hv : kV c) (hw : ∀ e f, e < c 11 1 → f < c 11 1 → w e = w f → e = f) : ∀ x u v, u < c 11 0 → v < c 11 0 → kRe c (fun f => kKr c w f && decide (w f < x)) u v = kRe c (fun f => decide (w f < x)) u v
  | 0, u, v, hu, _ => kRe_x hv hu (fun e _ => by rw [decide_eq_false (Nat.not_lt_zero _), Bool.and_false])
  | x + 1, u, v, hu, hvv => by
    have ih := kr_B hv hw x
    by_cases hex : ∃ e, e < c 11 1 ∧ w e = x
    · obtain ⟨e, he, hx⟩ := hex
      have hE := hv.2.2.1 e he
      have hs1 : ∀ f, f < c 11 1 → (decide (w f < x + 1) = true ↔ decide (w f < x) = true ∨ f = e) := fun f hf => by
        rw [decide_eq_true_eq, decide_eq_true_eq]
        refine ⟨fun h => ?_, fun h => ?_⟩
        · by_cases q : w f < x
          · exact Or.inl q
          · exact Or.inr (hw f e hf he (by omega))
        · rcases h with h | h
          · omega
          · rw [h]; omega
      have hK : kKr c w e = !kRe c (fun f => decide (w f < x)) (c 1 e) (c 2 e) := by unfold kKr; rw [hx]
      cases hr : kRe c (fun f => decide (w f < x)) (c 1 e) (c 2 e)
      · rw [hr] at hK
        have hs2 : ∀ f, f < c 11 1 → ((kKr c w f && decide (w f < x + 1)) = true ↔ (kKr c w f && decide (w f < x)) = true ∨ f = e) := fun f hf => by
          rw [Bool.and_eq_true, Bool.and_eq_true, hs1 f hf]
          refine ⟨fun ⟨q1, q2⟩ => q2.elim (fun q => Or.inl ⟨q1, q⟩) Or.inr, fun q => q.elim (fun q => ⟨q.1, Or.inl q.2⟩) (fun q => ⟨by rw [q, hK]; rfl, Or.inr q⟩)⟩
        refine b_iff ?_
        rw [kRe_1 (s := fun f => kKr c w f && decide (w f < x)) hv hu hvv he hs2, kRe_1 (s := fun f => decide (w f < x)) hv hu hvv he hs1, ih u v hu hvv, ih u _ hu hE.1, ih u _ hu hE.2.1, ih _ v hE.1 hvv, ih _ v hE.2.1 hvv]
      · rw [hr] at hK
        have e1 : kRe c (fun f => kKr c w f && decide (w f < x + 1)) u v = kRe c (fun f => kKr c w f && decide (w f < x)) u v := kRe_x hv hu (fun f hf => b_iff (by
          rw [Bool.and_eq_true, Bool.and_eq_true, hs1 f hf]
          refine ⟨fun ⟨q1, q2⟩ => ⟨q1, q2.elim (fun q => q) (fun q => by rw [q, hK] at q1; cases q1)⟩, fun ⟨q1, q2⟩ => ⟨q1, Or.inl q2⟩⟩))
        rw [e1, ih u v hu hvv]
        refine b_iff ?_
        rw [kRe_1 (s := fun f => decide (w f < x)) hv hu hvv he hs1]
        refine ⟨Or.inl, fun h => ?_⟩
        rcases h with h | ⟨q1, q2⟩ | ⟨q1, q2⟩
        · exact h
        · exact kRe_t hv hu (kRe_t hv hu q1 hr) q2
        · exact kRe_t hv hu (kRe_t hv hu q1 (kRe_s hv hr)) q2
    · have h1 : ∀ f, f < c 11 1 → decide (w f < x + 1) = decide (w f < x) := fun f hf => b_iff (by
        rw [decide_eq_true_eq, decide_eq_true_eq]
        refine ⟨fun h => ?_, fun h => by omega⟩
        by_cases q : w f < x
        · exact q
        · exact absurd ⟨f, hf, by omega⟩ hex)
      rw [kRe_x (s' := fun f => decide (w f < x)) hv hu h1, kRe_x (s' := fun f => kKr c w f && decide (w f < x)) hv hu (fun f hf => by rw [h1 f hf])]
      exact ih u v hu hvv
/-- a set that holds all together needs enough heavy wires -/
theorem kr_C {c : kC} {w : Nat → Nat} {S : Nat → Bool} {x : Nat} (hv : kV c) : ∀ n, n ≤ c 11 1 → kCo c (fun f => decide (w f < x)) ≤ kCo c (fun f => decide (w f < x) || (S f && decide (f < n))) + kCnt (fun e => S e && decide (x ≤ w e)) n
  | 0, _ => by
    rw [kCo_x (s := fun f => decide (w f < x) || (S f && decide (f < 0))) (s' := fun f => decide (w f < x)) hv (fun f _ => by rw [decide_eq_false (Nat.not_lt_zero f), Bool.and_false, Bool.or_false])]
    exact Nat.le_add_right _ _
  | n + 1, hn => by
    have ih := kr_C (w := w) (S := S) (x := x) hv n (by omega)
    rw [kCnt_s]
    by_cases hs : S n = true ∧ x ≤ w n
    · have h1 := kCo_1 (s := fun f => decide (w f < x) || (S f && decide (f < n))) (s' := fun f => decide (w f < x) || (S f && decide (f < n + 1))) hv (show n < c 11 1 by omega) (fun f hf => by
        simp only [Bool.or_eq_true, Bool.and_eq_true, decide_eq_true_eq]
        refine ⟨fun h => ?_, fun h => ?_⟩
        · rcases h with h | ⟨q1, q2⟩
          · exact Or.inl (Or.inl h)
          · by_cases q : f = n
            · exact Or.inr q
            · exact Or.inl (Or.inr ⟨q1, by omega⟩)
        · rcases h with (h | ⟨q1, q2⟩) | h
          · exact Or.inl h
          · exact Or.inr ⟨q1, by omega⟩
          · exact Or.inr ⟨by rw [h]; exact hs.1, by omega⟩)
      rw [if_pos (show (S n && decide (x ≤ w n)) = true by rw [hs.1, decide_eq_true hs.2]; rfl)]
      have : (if kRe c (fun f => decide (w f < x) || (S f && decide (f < n))) (c 1 n) (c 2 n) = true then 0 else 1) ≤ 1 := by split <;> omega
      omega
    · rw [if_neg (show ¬ (S n && decide (x ≤ w n)) = true by rw [Bool.and_eq_true, decide_eq_true_eq]; exact hs)]
      rw [kCo_x (s := fun f => decide (w f < x) || (S f && decide (f < n + 1))) (s' := fun f => decide (w f < x) || (S f && decide (f < n))) hv (fun f hf => b_iff (by
        simp only [Bool.or_eq_true, Bool.and_eq_true, decide_eq_true_eq]
        refine ⟨fun h => ?_, fun h => ?_⟩
        · rcases h with h | ⟨q1, q2⟩
          · exact Or.inl h
          · by_cases q : f = n
            · subst q
              by_cases q3 : w f < x
              · exact Or.inl q3
              · exact absurd ⟨q1, by omega⟩ hs
            · exact Or.inr ⟨q1, by omega⟩
        · rcases h with h | ⟨q1, q2⟩
          · exact Or.inl h
          · exact Or.inr ⟨q1, by omega⟩))]
      exact ih
/-! sums by layers -/
theorem kSm_add {f g : Nat → Nat} : ∀ n, kSm (fun x => f x + g x) n = kSm f n + kSm g n
  | 0 => rfl
  | n + 1 => by
    have := kSm_add (f := f) (g := g) n
    rw [kSm_s, kSm_s, kSm_s, this]; omega
theorem kSm_0 : ∀ n, kSm (fun _ => 0) n = 0
  | 0 => rfl
  | n + 1 => by rw [kSm_s, kSm_0 n]
theorem kSm_x {f g : Nat → Nat} : ∀ n, (∀ k, k < n → f k = g k) → kSm f n = kSm g n
  | 0, _ => rfl
  | n + 1, h => by rw [kSm_s, kSm_s, kSm_x n (fun k hk => h k (by omega)), h n (by omega)]
theorem kSm_c {k : Nat} : ∀ n, kSm (fun x => if x < k then 1 else 0) n = min k n
  | 0 => by show 0 = min k 0; omega
  | n + 1 => by
    rw [kSm_s, kSm_c n]
    split <;> omega
def kWt (w : Nat → Nat) (S : Nat → Bool) (n : Nat) : Nat := kSm (fun e => if S e = true then w e else 0) n
theorem kWt_l {w : Nat → Nat} {S : Nat → Bool} {N : Nat} : ∀ n, (∀ e, e < n → w e ≤ N) → kSm (fun x => kCnt (fun e => S e && decide (x < w e)) n) N = kWt w S n
  | 0, _ => kSm_0 N
  | n + 1, h => by
    have ih := kWt_l (w := w) (S := S) (N := N) n (fun e he => h e (by omega))
    have hn := h n (by omega)
    show kSm (fun x => kCnt (fun e => S e && decide (x < w e)) n + (if (S n && decide (x < w n)) = true then 1 else 0)) N = kWt w S n + (if S n = true then w n else 0)
    rw [kSm_add (f := fun x => kCnt (fun e => S e && decide (x < w e)) n) (g := fun x => if (S n && decide (x < w n)) = true then 1 else 0), ih]
    congr 1
    cases hs : S n
    · rw [if_neg nft]
      rw [kSm_x (g := fun _ => 0) N (fun x _ => by rw [Bool.false_and]; rfl), kSm_0]
    · rw [if_pos (rfl : true = true), kSm_x (g := fun x => if x < w n then 1 else 0) N (fun x _ => by rw [Bool.true_and]; by_cases h : x < w n <;> simp [h]), kSm_c]; omega
theorem kCnt_sp {f g : Nat → Bool} : ∀ n, kCnt f n = kCnt (fun e => f e && g e) n + kCnt (fun e => f e && !g e) n
  | 0 => rfl
  | n + 1 => by
    have := kCnt_sp (f := f) (g := g) n
    rw [kCnt_s, kCnt_s, kCnt_s, this]
    cases f n <;> cases g n <;> simp <;> omega
theorem kr_D {c : kC} {w : Nat → Nat} {N : Nat} (hv : kV c) (hw : ∀ e f, e < c 11 1 → f < c 11 1 → w e = w f → e = f) (hN : ∀ e, e < c 11 1 → w e < N) {S : Nat → Bool} (hS : kCo c S = kCo c (fun _ => true)) : kWt w (kKr c w) (c 11 1) ≤ kWt w S (c 11 1) := by
  rw [← kWt_l (N := N) (c 11 1) (fun e he => Nat.le_of_lt (hN e he)), ← kWt_l (S := S) (N := N) (c 11 1) (fun e he => Nat.le_of_lt (hN e he))]
  refine kSm_le _ (fun x _ => ?_)
  have hA := kr_A hv hw (x + 1)
  have hAN := kr_A hv hw N
  have hC := kr_C (w := w) (S := S) (x := x + 1) hv (c 11 1) (Nat.le_refl _)
  have hall : kCo c (fun f => decide (w f < N)) = kCo c (fun _ => true) := kCo_x hv (fun e he => decide_eq_true (hN e he))
  have hK : kCnt (fun e => kKr c w e && decide (w e < N)) (c 11 1) = kCnt (kKr c w) (c 11 1) := kCnt_ext _ (fun e he => by rw [decide_eq_true (hN e he), Bool.and_true])
  have hsp := kCnt_sp (f := kKr c w) (g := fun e => decide (w e < x + 1)) (c 11 1)
  have hxx : kCnt (fun e => kKr c w e && !decide (w e < x + 1)) (c 11 1) = kCnt (fun e => kKr c w e && decide (x < w e)) (c 11 1) := kCnt_ext _ (fun e _ => by
    have : (!decide (w e < x + 1)) = decide (x < w e) := by
      by_cases q : x < w e
      · rw [decide_eq_true q, decide_eq_false (by omega)]; rfl
      · rw [decide_eq_false q, decide_eq_true (by omega)]; rfl
    rw [this])
  have hUS : kCo c (fun f => decide (w f < x + 1) || (S f && decide (f < c 11 1))) ≤ kCo c S := kCo_mo hv (fun e he h => by rw [h, decide_eq_true he]; simp)
  have hSx : kCnt (fun e => S e && decide (x + 1 ≤ w e)) (c 11 1) = kCnt (fun e => S e && decide (x < w e)) (c 11 1) := rfl
  omega
theorem kr_span {c : kC} {w : Nat → Nat} {N : Nat} (hv : kV c) (hw : ∀ e f, e < c 11 1 → f < c 11 1 → w e = w f → e = f) (hN : ∀ e, e < c 11 1 → w e < N) : kCo c (kKr c w) = kCo c (fun _ => true) := by
  refine kCo_r (fun u v hu hvv => ?_)
  have h := kr_B hv hw N u v hu hvv
  rw [kRe_x (s' := kKr c w) hv hu (fun e he => by rw [decide_eq_true (hN e he), Bool.and_true]), kRe_x (s := fun f => decide (w f < N)) (s' := fun _ => true) hv hu (fun e he => decide_eq_true (hN e he))] at h
  exact h
/-! the weight that orders by slack, then by number -/
def kWe (p : kP) (e : Nat) : Nat := (p 0 e).toNat * 131072 + 8192 + 2 ^ e
theorem p2_12 {e : Nat} (h : e < 12) : 1 ≤ 2 ^ e ∧ 2 ^ e < 4096 := ⟨Nat.pow_pos (by decide), (Nat.pow_lt_pow_iff_right (a := 2) (m := 12) (by decide)).2 h⟩
theorem kWe_i {p : kP} {e f : Nat} (he : e < 12) (hf : f < 12) (h : kWe p e = kWe p f) : e = f := by
  unfold kWe at h
  have h1 := p2_12 he
  have h2 := p2_12 hf
  have h3 : 2 ^ e = 2 ^ f := by omega
  rcases Nat.lt_trichotomy e f with q | q | q
  · have := (Nat.pow_lt_pow_iff_right (a := 2) (by decide)).2 q; omega
  · exact q
  · have := (Nat.pow_lt_pow_iff_right (a := 2) (by decide)).2 q; omega
theorem kWe_lt {p : kP} {e f : Nat} (he : e < 12) (hf : f < 12) : kWe p f < kWe p e ↔ ((p 0 f).toNat < (p 0 e).toNat ∨ ((p 0 f).toNat = (p 0 e).toNat ∧ f < e)) := by
  unfold kWe
  have h1 := p2_12 he
  have h2 := p2_12 hf
  have h3 : 2 ^ f < 2 ^ e ↔ f < e := Nat.pow_lt_pow_iff_right (a := 2) (by decide)
  omega
theorem kSm_num {n : Nat} : ∀ W, kSm (fun e => if n.testBit e = true then 2 ^ e else 0) W = n % 2 ^ W
  | 0 => by rw [Nat.pow_zero, Nat.mod_one]; rfl
  | W + 1 => by
    rw [kSm_s, kSm_num W, Nat.mod_pow_succ, ← Nat.toNat_testBit]
    cases n.testBit W <;> simp
theorem kWt_3 {p : kP} {S : Nat → Bool} : ∀ W, kWt (kWe p) S W = 131072 * kSm (fun e => if S e = true then (p 0 e).toNat else 0) W + 8192 * kCnt S W + kSm (fun e => if S e = true then 2 ^ e else 0) W
  | 0 => rfl
  | W + 1 => by
    have ih := kWt_3 (p := p) (S := S) W
    show kWt (kWe p) S W + (if S W = true then kWe p W else 0) = _
    rw [ih, kSm_s, kSm_s, kCnt_s]
    cases S W
    · simp
    · simp only [if_true]
      unfold kWe
      omega
/-- the first least of some -/
def kFr (good : Nat → Bool) (v : Nat → Int) : Nat → Int × Int
  | 0 => (-1, 100000)
  | n + 1 => if v n < (kFr good v n).2 then (if good n = true then ((n : Int), v n) else kFr good v n) else kFr good v n
theorem kFr_s {good : Nat → Bool} {v : Nat → Int} {n : Nat} : kFr good v (n + 1) = if v n < (kFr good v n).2 then (if good n = true then ((n : Int), v n) else kFr good v n) else kFr good v n := rfl
theorem kFr_min {good : Nat → Bool} {v : Nat → Int} {k N : Nat} (hk : k < N) (hg : good k = true) (hv : v k < 100000) (hm : ∀ n, n < N → good n = true → v k ≤ v n ∧ (v n = v k → k ≤ n)) : kFr good v N = ((k : Int), v k) := by
  have h1 : ∀ n, n ≤ k → v k < (kFr good v n).2 := fun n => by
    induction n with
    | zero => intro _; exact hv
    | succ n ih =>
      intro hn
      have ih := ih (by omega)
      rw [kFr_s]
      split
      · split
        · rename_i q1 q2
          have := hm n (by omega) q2
          show v k < v n
          by_cases q : v n = v k
          · have := this.2 q; omega
          · omega
        · exact ih
      · exact ih
  have h2 : ∀ n, k + 1 + n ≤ N → kFr good v (k + 1 + n) = ((k : Int), v k) := fun n => by
    induction n with
    | zero =>
      intro _
      show kFr good v (k + 1) = _
      rw [kFr_s, if_pos (h1 k (Nat.le_refl _)), if_pos hg]
    | succ n ih =>
      intro hn
      have ih := ih (by omega)
      show kFr good v (k + 1 + n + 1) = _
      rw [kFr_s, ih]
      split
      · split
        · rename_i q1 q2
          have := (hm (k + 1 + n) (by omega) q2).1
          dsimp only at q1
          omega
        · rfl
      · rfl
  have := h2 (N - (k + 1)) (by omega)
  rw [show k + 1 + (N - (k + 1)) = N by omega] at this; exact this
