/-! QUESTIONS: told, between, loudest, lean, over. -/
def kFs (f : Nat → Bool) : Nat → Int
  | 0 => -1
  | n + 1 => if kFs f n = -1 then (if f n = true then (n : Int) else -1) else kFs f n
theorem kFs_s {f : Nat → Bool} {n : Nat} : kFs f (n + 1) = if kFs f n = -1 then (if f n = true then (n : Int) else -1) else kFs f n := rfl
theorem kFs_no {f : Nat → Bool} : ∀ n, (∀ i, i < n → f i = false) → kFs f n = -1
  | 0, _ => rfl
  | n + 1, h => by
    rw [kFs_s, kFs_no n (fun i hi => h i (by omega)), if_pos rfl, h n (by omega)]; rfl
theorem kFs_yes {f : Nat → Bool} {e : Nat} (h1 : f e = true) (h2 : ∀ i, i < e → f i = false) : ∀ n, e < n → kFs f n = e
  | 0, h => absurd h (Nat.not_lt_zero _)
  | n + 1, h => by
    rw [kFs_s]
    by_cases hn : e = n
    · subst hn
      rw [kFs_no e h2, if_pos rfl, if_pos h1]
    · rw [kFs_yes h1 h2 n (by omega), if_neg (by omega)]
theorem kFs_ext {f g : Nat → Bool} : ∀ n, (∀ i, i < n → f i = g i) → kFs f n = kFs g n
  | 0, _ => rfl
  | n + 1, h => by rw [kFs_s, kFs_s, kFs_ext n (fun i hi => h i (by omega)), h n (by omega)]
/-- none, or the first -/
theorem kFs_cs {f : Nat → Bool} : ∀ n, (kFs f n = -1 ∧ ∀ i, i < n → f i = false) ∨ ∃ e, e < n ∧ kFs f n = e ∧ f e = true ∧ ∀ i, i < e → f i = false
  | 0 => Or.inl ⟨rfl, fun i hi => absurd hi (Nat.not_lt_zero _)⟩
  | n + 1 => by
    rcases kFs_cs (f := f) n with ⟨h1, h2⟩ | ⟨e, h1, h2, h3, h4⟩
    · cases hn : f n
      · exact Or.inl ⟨by rw [kFs_s, h1, if_pos rfl, hn]; rfl, fun i hi => by
          by_cases e : i = n
          · rw [e]; exact hn
          · exact h2 i (by omega)⟩
      · exact Or.inr ⟨n, by omega, by rw [kFs_s, h1, if_pos rfl, hn]; rfl, hn, h2⟩
    · exact Or.inr ⟨e, by omega, by rw [kFs_s, h2, if_neg (by omega)], h3, h4⟩
theorem kFs_lp0 {body : Int → Option (Int ⊕ Int)} {f : Nat → Bool} {n : Nat} (hs : ∀ i : Nat, i < n → body (i : Int) = some (if f i = true then Sum.inr (i : Int) else Sum.inl ((i + 1 : Nat) : Int))) (he : body (n : Int) = some (Sum.inr (-1))) : ∀ (k i F : Nat), i + k = n → k < F → (∀ j, j < i → f j = false) → jlp body F (i : Int) = some (kFs f n)
  | 0, i, F + 1, h, _, hf => by
    have : i = n := by omega
    subst this
    rw [jlp_dn he, kFs_no _ hf]
  | k + 1, i, F + 1, h, hF, hf => by
    have := hs i (by omega)
    cases hi : f i
    · rw [hi] at this
      rw [jlp_st this]
      exact kFs_lp0 hs he k (i + 1) F (by omega) (by omega) (fun j hj => by
        by_cases e : j = i
        · rw [e]; exact hi
        · exact hf j (by omega))
    · rw [hi] at this
      rw [jlp_dn this, kFs_yes hi hf n (by omega)]
theorem kFs_lp {body : Int → Option (Int ⊕ Int)} {n : Nat} (f : Nat → Bool) (hn : n < 4000000) (hs : ∀ i : Nat, i < n → body (i : Int) = some (if f i = true then Sum.inr (i : Int) else Sum.inl ((i + 1 : Nat) : Int))) (he : body (n : Int) = some (Sum.inr (-1))) : jlp body jfu (0 : Int) = some (kFs f n) :=
  kFs_lp0 hs he n 0 jfu (by omega) (jfu_lt hn) (fun j hj => absurd hj (Nat.not_lt_zero _))
def kJn (A B : Nat → Int) (x y : Int) (e : Nat) : Bool := decide ((A e = x ∧ B e = y) ∨ (A e = y ∧ B e = x))
theorem sp_16' {m : jm} {q N : Nat} {x y : Int} {A B : Nat → Int} (hN : N ≤ 12) (hn : ja m (3 + q) 1 = N) (hA : ∀ e, e < N → ja m (5 + q) e = A e) (hB : ∀ e, e < N → ja m (6 + q) e = B e) : jf_16 q x y m = some (kFs (kJn A B x y) N) := by
  unfold jf_16
  refine kFs_lp (kJn A B x y) (by omega) (fun i hi => ?_) ?_
  · try dsimp only
    rw [hn, Int.toNat_natCast, hA i hi, hB i hi, jwn (by omega)]
    unfold kJn
    simp (disch := omega) only [jif]
    by_cases h3 : A i = y ∧ B i = x
    · rw [if_pos h3.1, if_pos h3.2, if_pos (show decide ((A i = x ∧ B i = y) ∨ (A i = y ∧ B i = x)) = true from decide_eq_true (Or.inr h3))]
      by_cases h1 : A i = x
      · rw [if_pos h1]
        by_cases h2 : B i = y
        · rw [if_pos h2]; rfl
        · rw [if_neg h2]; rfl
      · rw [if_neg h1]; rfl
    · have e : (if A i = y then if B i = x then some (1 : Int) else some 0 else some 0) = some 0 := by
        by_cases h4 : A i = y
        · rw [if_pos h4, if_neg (fun h5 => h3 ⟨h4, h5⟩)]
        · rw [if_neg h4]
      rw [e]
      by_cases h1 : A i = x
      · rw [if_pos h1]
        by_cases h2 : B i = y
        · rw [if_pos h2, if_pos (show decide ((A i = x ∧ B i = y) ∨ (A i = y ∧ B i = x)) = true from decide_eq_true (Or.inl ⟨h1, h2⟩))]; rfl
        · rw [if_neg h2, if_neg (show ¬ decide ((A i = x ∧ B i = y) ∨ (A i = y ∧ B i = x)) = true by simp only [decide_eq_true_eq]; exact fun h => h.elim (fun h => h2 h.2) h3)]; rfl
      · rw [if_neg h1, if_neg (show ¬ decide ((A i = x ∧ B i = y) ∨ (A i = y ∧ B i = x)) = true by simp only [decide_eq_true_eq]; exact fun h => h.elim (fun h => h1 h.1) h3)]; rfl
  · try dsimp only
    rw [hn, if_neg (by omega)]
def kJo (c : kC) (x y : Int) : Int := kFs (kJn (fun e => (c 1 e : Int)) (fun e => (c 2 e : Int)) x y) (c 11 1)
theorem sp_16 {q : Nat} {m : jm} {c : kC} {p : kP} {cl : List Int} {x y : Int} (H : kK q m c p cl) : jf_16 0 x y m = some (kJo c x y) := sp_16' H.1.1.2.1 (kK_n H (by decide)) (fun e he => kK_A H he) (fun e he => kK_B H he)
theorem sp_235' {m : jm} {c : kC} {x y : Int} (hv : kV c) (hC : kCm m 24 75 c) : jf_235 x y m = some (kJo c x y) := by
  have hn := hv.1
  have n1 : ja m 67 25 = _ := hC.1 1 (by decide)
  unfold jf_235
  refine kFs_lp _ (by omega) (fun i hi => ?_) ?_
  · try dsimp only
    have ei : ((2 : Int) * (i : Int)).toNat = 2 * i := by omega
    have ej : ((2 : Int) * (i : Int) + 1).toNat = 2 * i + 1 := by omega
    have hA := (hC.2.2.1 i hi).1
    have hB := (hC.2.2.1 i hi).2.1
    rw [n1, jwn (by omega)]
    simp (disch := omega) only [jwi, jif, ei, ej, hA, hB]
    unfold kJn
    by_cases h1 : (c 1 i : Int) = x
    · by_cases h2 : (c 2 i : Int) = y
      · simp [h1, h2]
      · by_cases h3 : (c 1 i : Int) = y
        · by_cases h4 : (c 2 i : Int) = x
          · rw [if_pos h1, if_neg h2, if_pos h3, if_pos h4, if_pos (by simp [h3, h4])]
          · rw [if_pos h1, if_neg h2, if_pos h3, if_neg h4, if_neg (by simp [h2, h4])]
        · rw [if_pos h1, if_neg h2, if_neg h3, if_neg (by simp [h2, h3])]
    · by_cases h3 : (c 1 i : Int) = y
      · by_cases h4 : (c 2 i : Int) = x
        · rw [if_neg h1, if_pos h3, if_pos h4, if_pos (by simp [h3, h4])]
        · rw [if_neg h1, if_pos h3, if_neg h4, if_neg (by simp [h1, h4])]
      · rw [if_neg h1, if_neg h3, if_neg (by simp [h1, h3])]
  · try dsimp only
    rw [n1, if_neg (by omega)]
theorem sp_235 {m : jm} {c : kC} {p : kP} {cl : List Int} {x y : Int} (H : kM m c p cl) : jf_235 x y m = some (kJo c x y) := sp_235' H.1 H.2.2.2.1
theorem kJo_b {c : kC} {x y : Int} : -1 ≤ kJo c x y ∧ kJo c x y < c 11 1 := by
  unfold kJo
  rcases kFs_cs (f := kJn (fun e => (c 1 e : Int)) (fun e => (c 2 e : Int)) x y) (c 11 1) with ⟨h, -⟩ | ⟨e, h1, h2, -⟩
  · rw [h]; omega
  · rw [h2]; omega
def kLo (p : kP) : Nat → Int × Int
  | 0 => (-1, 0)
  | n + 1 => if (kLo p n).2 < p 1 n then ((n : Int), p 1 n) else kLo p n
theorem kLo_s {p : kP} {n : Nat} : kLo p (n + 1) = if (kLo p n).2 < p 1 n then ((n : Int), p 1 n) else kLo p n := rfl
theorem kLo_c {p : kP} : ∀ n, ((kLo p n).1 = -1 ∧ (kLo p n).2 = 0) ∨ ∃ e, e < n ∧ (kLo p n).1 = (e : Int) ∧ (kLo p n).2 = p 1 e
  | 0 => Or.inl ⟨rfl, rfl⟩
  | n + 1 => by
    rw [kLo_s]
    by_cases h : (kLo p n).2 < p 1 n
    · rw [if_pos h]; exact Or.inr ⟨n, by omega, rfl, rfl⟩
    · rw [if_neg h]
      rcases kLo_c (p := p) n with h | ⟨e, h1, h2⟩
      · exact Or.inl h
      · exact Or.inr ⟨e, by omega, h2⟩
theorem sp_95 {q : Nat} {m : jm} {c : kC} {p : kP} {cl : List Int} (H : kK q m c p cl) : jf_95 q m = some (kLo p (c 11 1)).1 := by
  have hn := H.1.1
  have n1 := kK_n H (i := 1) (by decide)
  unfold jf_95
  rw [jlp_fr (a := ((-1 : Int), (0 : Int))) (c := (kLo p (c 11 1)).1) (c 11 1) (fun i => ((kLo p i).1, (i : Int))) (by omega) rfl ?hs ?he]
  case he =>
    dsimp only
    rw [n1, if_neg (by omega)]
  case hs =>
    intro i hi
    dsimp only
    rw [n1, if_pos (by omega), sp_66 H hi, jsb, jwn (by omega), kLo_s]
    rcases kLo_c (p := p) i with ⟨h1, h2⟩ | ⟨e, h0, h1, h2⟩
    · rw [h1, if_pos rfl, jsb, h2]
      by_cases h : 0 < p 1 i
      · rw [if_pos h, if_pos h]; rfl
      · rw [if_neg h, if_neg h, h1]; rfl
    · rw [if_neg (by omega), h1, sp_66 H (by omega), jsb, jsb, h2]
      by_cases h : p 1 e < p 1 i
      · rw [if_pos h, if_pos h]; rfl
      · rw [if_neg h, if_neg h, h1]; rfl
  rfl
/-- the model's carries -/
theorem sl_230 {m : jm} {c : kC} {p : kP} {cl : List Int} {w : Int} (H : kM m c p cl) : jo (jf_230 w m) (fun r => (ja r 67 47, ja r 67 48, ja r 67 49) = kCar c (fun l => decide (p 6 l = w)) (c 11 3) ∧ jfr true jW_230 m r) := by
  refine jo_and ?_ jx_230
  have hn := H.1.1
  unfold jf_230
  rw [jle_eq, jle_eq, jle_eq]
  refine jo_c (R := fun r => (ja r 67 47, ja r 67 48, ja r 67 49) = kCar c (fun l => decide (p 6 l = w)) (c 11 3)) ?_ (fun r hr => hr)
  refine jo_for (c 11 3) jfu (fun i (s : Int × jm) => s.1 = i ∧ (ja s.2 67 47, ja s.2 67 48, ja s.2 67 49) = kCar c (fun l => decide (p 6 l = w)) i ∧ (∀ k j, ¬ (k = 67 ∧ 47 ≤ j ∧ j ≤ 49) → ja s.2 k j = ja m k j)) (jfu_lt (by omega)) ?_ ?_ _ ⟨rfl, ?_, fun k j hk => ?_⟩
  · intro i hi s hs
    obtain ⟨x, m'⟩ := s
    obtain ⟨h1, h2, h3⟩ := hs
    dsimp only at h1 h2 h3 ⊢
    subst h1
    have e27 : ja m' 67 27 = c 11 3 := by rw [h3 _ _ (by omega)]; exact kM_n H (i := 3) (by decide)
    have e6 : ja m' 89 (50 + i) = p 6 i := by rw [h3 _ _ (by omega)]; exact kM_s6 H hi
    have ew : ja m' 79 (4 * i + 3) = c 10 i := by rw [h3 _ _ (by omega)]; exact kM_wt H hi
    have ek : ja m' 79 (4 * i + 2) = c 9 i := by rw [h3 _ _ (by omega)]; exact kM_kd H hi
    have t1 : ((50 : Int) + (i : Int)).toNat = 50 + i := by omega
    have t2 : ((4 : Int) * (i : Int) + 3).toNat = 4 * i + 3 := by omega
    have t3 : ((4 : Int) * (i : Int) + 2).toNat = 4 * i + 2 := by omega
    have hcb := kCar_b (S := fun l => decide (p 6 l = w)) H.1 i (by omega)
    have hl := H.1.2.2.2.2.2 i hi
    rw [← h2] at hcb
    dsimp only at hcb
    have d1 : jw ((4 : Int) * (i : Int)) = (4 : Int) * (i : Int) := jwi (by omega) (by omega)
    have d2 : jw ((4 : Int) * (i : Int) + 3) = (4 : Int) * (i : Int) + 3 := jwi (by omega) (by omega)
    have d3 : jw ((4 : Int) * (i : Int) + 2) = (4 : Int) * (i : Int) + 2 := jwi (by omega) (by omega)
    have d4 : jw ((50 : Int) + (i : Int)) = (50 : Int) + (i : Int) := jwi (by omega) (by omega)
    have d5 : jw ((i : Int) + 1) = ((i + 1 : Nat) : Int) := jwn (by omega)
    rw [e27, d1, d2, d3, d4, d5, t1, t2, t3, e6, if_pos (by omega), if_pos (by omega), kCar_s, ← h2]
    by_cases h6 : p 6 i = w
    · have r1 : ja (js m' 67 47 (jw (ja m' 67 47 + (c 10 i : Int)))) 67 48 = ja m' 67 48 := ja_jsj (by decide)
      have r2 : ja (js m' 67 47 (jw (ja m' 67 47 + (c 10 i : Int)))) 79 (4 * i + 2) = c 9 i := by rw [ja_jsk (by decide)]; exact ek
      rw [if_pos h6, if_pos (show (0 : Int) ≤ 4 * (i : Int) + 3 ∧ 4 * (i : Int) + 3 < 32 by omega), jle_eq, if_pos (show (0 : Int) ≤ 4 * (i : Int) + 2 ∧ 4 * (i : Int) + 2 < 32 by omega), ew, r1, r2, if_pos (decide_eq_true h6)]
      dsimp only
      by_cases hk : ja m' 67 48 < (c 9 i : Int)
      · rw [if_pos hk, if_pos hk, if_pos (show (0 : Int) ≤ 4 * (i : Int) + 2 ∧ 4 * (i : Int) + 2 < 32 by omega), jsb, jle_eq, jle_eq, jsb]
        refine ⟨rfl, ?_, fun k j hkj => ?_⟩
        · dsimp only
          simp [ja_js]
          exact ⟨by rw [jwi (x := _ + _) (by omega) (by omega), jwi (by omega) (by omega)], jwi (by omega) (by omega), by rw [jwi (x := _ + _) (by omega) (by omega), jwi (by omega) (by omega)]⟩
        · dsimp only
          rw [ja_js, if_neg (by omega), ja_js, if_neg (by omega), ja_js, if_neg (by omega)]; exact h3 k j hkj
      · rw [if_neg hk, if_neg hk, jsb, jle_eq, jle_eq, jsb]
        refine ⟨rfl, ?_, fun k j hkj => ?_⟩
        · dsimp only
          simp [ja_js]
          exact ⟨by rw [jwi (x := _ + _) (by omega) (by omega), jwi (by omega) (by omega)], jwi (by omega) (by omega), by rw [jwi (x := _ + _) (by omega) (by omega), jwi (by omega) (by omega)]⟩
        · dsimp only
          rw [ja_js, if_neg (by omega), ja_js, if_neg (by omega), ja_js, if_neg (by omega)]; exact h3 k j hkj
    · rw [if_neg h6, jsb, if_neg (by simp [h6])]
      exact ⟨rfl, rfl, h3⟩
  · intro s hs
    obtain ⟨x, m'⟩ := s
    obtain ⟨h1, h2, h3⟩ := hs
    dsimp only at h1 h2 h3 ⊢
    have e27 : ja m' 67 27 = c 11 3 := by rw [h3 _ _ (by omega)]; exact kM_n H (i := 3) (by decide)
    refine jo_q (by omega) ?_
    exact h2
  · simp [ja_js, kCar]; decide
  · dsimp only
    rw [ja_js, if_neg (by omega), ja_js, if_neg (by omega), ja_js, if_neg (by omega)]
def kOv (c : kC) (w : Nat) (x : Int) : Bool := decide ((if x < 0 then -x else x) ≤ (c 5 w : Int))
theorem jabs_b {x : Int} (h : -99 ≤ x ∧ x ≤ 99) : jabs x = if x < 0 then -x else x := by
  unfold jabs
  by_cases h0 : 0 ≤ x
  · rw [if_pos h0, if_neg (by omega)]
  · rw [if_neg h0, if_pos (by omega), jwi (by omega) (by omega)]; omega
theorem sp_73 {q q2 : Nat} {m : jm} {c : kC} {p : kP} {cl : List Int} {w : Nat} {x : Int} (H : kK q m c p cl) (hw : w < c 11 2) (hx : -99 ≤ x ∧ x ≤ 99) : jf_73 q2 w x m = some (if kOv c w x = true then 1 else 0) := by
  have hn := H.1.1
  unfold jf_73 kOv
  rw [if_pos (by omega), Int.toNat_natCast, kK_nv H hw, jabs_b hx]
  by_cases h : (if x < 0 then -x else x) ≤ (c 5 w : Int)
  · rw [if_neg (by omega), if_pos (decide_eq_true h)]; rfl
  · rw [if_pos (by omega), if_neg (by simp [h])]; rfl
/-- the model: over a wire -/
theorem sl_236 {m : jm} {c : kC} {p : kP} {cl : List Int} {w e : Nat} {how fog : Int} (H : kM m c p cl) (hw : w < c 11 2) (he : e < c 11 1) (hf : jg fog) : jo (jf_236 w e how fog m) (fun r => r.1 = (if kOv c w (kLn c p cl w e how fog (ja m 67 47, ja m 67 48, ja m 67 49)) = true then 1 else 0) ∧ jfr true jW_236 m r.2) := by
  refine jo_and ?_ jx_236
  have hn := H.1.1
  unfold jf_236
  refine jo_c (sl_237 H hw he hf) (fun r hr => ?_)
  obtain ⟨hr, hfr⟩ := hr
  have H' := kM_fr H hfr (fun k j hk => by unfold jW_237 at hk; unfold kQM; omega)
  have hb : -99 ≤ r.1 ∧ r.1 ≤ 99 := by rw [hr]; exact kLean_b
  have t1 : ((3 : Int) * (w : Int) + 1).toNat = 3 * w + 1 := by omega
  have d1 : jw ((3 : Int) * (w : Int)) = (3 : Int) * (w : Int) := jwi (by omega) (by omega)
  have d2 : jw ((3 : Int) * (w : Int) + 1) = (3 : Int) * (w : Int) + 1 := jwi (by omega) (by omega)
  rw [d1, d2, t1, kM_nv H' hw, ← hr]
  have e2 : jf_242 r.1 r.2 = some (if r.1 < 0 then -r.1 else r.1) := by
    unfold jf_242
    by_cases h : r.1 < 0
    · rw [if_pos h, if_pos h, jwi (by omega) (by omega)]; rfl
    · rw [if_neg h, if_neg h]; rfl
  rw [e2, jsb, if_pos (by omega)]
  unfold kOv
  by_cases h : (if r.1 < 0 then -r.1 else r.1) ≤ (c 5 w : Int)
  · rw [if_neg (show ¬ (c 5 w : Int) < _ by omega), if_pos (decide_eq_true h)]; rfl
  · rw [if_pos (show (c 5 w : Int) < _ by omega), if_neg (by simp [h])]; rfl
theorem Inv_rs {m : jm} (h : Inv m) : ja m 0 14 = ja m 67 40 := by
  obtain ⟨⟨c, cl, -, -, -, -, -, -, -, -, -, -, h⟩, -⟩ := h
  exact h
def kHu (p : kP) : Nat → Int
  | 0 => 0
  | n + 1 => jw (kHu p n + p 1 n)
theorem jshl_0f : ∀ k : Fin 31, jshl 0 ((k : Nat) : Int) = 0 := by decide +kernel
theorem jshl_0 {k : Nat} (h : k < 31) : jshl 0 (k : Int) = 0 := jshl_0f ⟨k, h⟩
theorem kHu_g {p : kP} : ∀ n, jg (kHu p n)
  | 0 => jg_0
  | n + 1 => jg_w
theorem sp_89 {q : Nat} {m : jm} {c : kC} {p : kP} {cl : List Int} (H : kK q m c p cl) : jf_89 q m = some (kHu p (c 11 1)) := by
  have hn := H.1.1
  have n1 := kK_n H (i := 1) (by decide)
  unfold jf_89
  rw [jlp_fr (a := ((0 : Int), (0 : Int))) (c := kHu p (c 11 1)) (c 11 1) (fun i => (kHu p i, (i : Int))) (by omega) rfl ?hs ?he]
  case he =>
    dsimp only
    rw [n1, if_neg (by omega)]
  case hs =>
    intro i hi
    dsimp only
    rw [n1, if_pos (by omega), sp_66 H hi, jsb, jwn (by omega)]; rfl
  rfl
theorem sp_250 {m : jm} {c : kC} {p : kP} {cl : List Int} (H : kM m c p cl) : jf_250 m = some (kHu p (c 11 1)) := by
  have hn := H.1.1
  have n1 : ja m 67 25 = _ := kM_n H (i := 1) (by decide)
  unfold jf_250
  rw [jlp_fr (a := ((0 : Int), (0 : Int))) (c := kHu p (c 11 1)) (c 11 1) (fun i => (kHu p i, (i : Int))) (by omega) rfl ?hs ?he]
  case he =>
    dsimp only
    rw [n1, if_neg (by omega)]
  case hs =>
    intro i hi
    have ei : ((12 : Int) + (i : Int)).toNat = 12 + i := by omega
    have di : jw ((12 : Int) + (i : Int)) = (12 : Int) + (i : Int) := jwi (by omega) (by omega)
    dsimp only
    rw [n1, if_pos (by omega), di, if_pos (by omega), ei, kM_s1 H hi, jwn (by omega)]; rfl
  rfl
theorem sp_248 {m : jm} {c : kC} {p : kP} {cl : List Int} (H : kM m c p cl) : jf_248 m = some ((kB (fun l => decide (p 7 l = 1)) (c 11 3) : Nat) : Int) := by
  have hn := H.1.1
  have n1 : ja m 67 27 = _ := kM_n H (i := 3) (by decide)
  unfold jf_248
  rw [kB_lp (n := c 11 3) (fun l => decide (p 7 l = 1)) (by omega) (fun i hi x => ?_) (fun x => ?_)]
  · rfl
  · have ei : ((58 : Int) + (i : Int)).toNat = 58 + i := by omega
    have di : jw ((58 : Int) + (i : Int)) = (58 : Int) + (i : Int) := jwi (by omega) (by omega)
    dsimp only
    rw [n1, if_pos (by omega), di, if_pos (by omega), ei, kM_s7 H hi, jwn (by omega)]
    rcases (H.2.1.2.2.2.1 i hi).1 with h | h
    · rw [h]
      have : jshl 0 (i : Int) = 0 := jshl_0 (by omega)
      rw [this]; rfl
    · rw [h]; rfl
  · dsimp only
    rw [n1, if_neg (by omega)]
theorem sp_249 {m : jm} {c : kC} {p : kP} {cl : List Int} (H : kM m c p cl) : jf_249 m = some ((kB (fun l => decide (p 2 l = -1)) (c 11 2) : Nat) : Int) := by
  have hn := H.1.1
  have n1 : ja m 67 26 = _ := kM_n H (i := 2) (by decide)
  unfold jf_249
  rw [kB_lp (n := c 11 2) (fun l => decide (p 2 l = -1)) (by omega) (fun i hi x => ?_) (fun x => ?_)]
  · rfl
  · have ei : ((24 : Int) + (i : Int)).toNat = 24 + i := by omega
    have di : jw ((24 : Int) + (i : Int)) = (24 : Int) + (i : Int) := jwi (by omega) (by omega)
    dsimp only
    rw [n1, if_pos (by omega), di, if_pos (by omega), ei, kM_s2 H hi, jwn (by omega)]
    by_cases h : p 2 i = -1
    · rw [if_pos h, jsb, if_pos (decide_eq_true h)]
    · rw [if_neg h, jsb, if_neg (by simp [h])]
  · dsimp only
    rw [n1, if_neg (by omega)]
