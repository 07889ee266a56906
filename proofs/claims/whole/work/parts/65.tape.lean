/-! TAPE: how far a run of like bytes goes. -/
def kWf (P : Nat → Bool) : Nat → Nat → Nat
  | 0, i => i
  | k + 1, i => if P i = true then kWf P k (i + 1) else i
def kWh (P : Nat → Bool) (n i : Nat) : Nat := kWf P (n - i) i
theorem kWf_ge {P : Nat → Bool} : ∀ k i, i ≤ kWf P k i
  | 0, i => Nat.le_refl _
  | k + 1, i => by
    show i ≤ if P i = true then kWf P k (i + 1) else i
    split
    · exact Nat.le_trans (by omega) (kWf_ge k (i + 1))
    · exact Nat.le_refl _
theorem kWf_le {P : Nat → Bool} : ∀ k i, kWf P k i ≤ i + k
  | 0, i => Nat.le_refl _
  | k + 1, i => by
    show (if P i = true then kWf P k (i + 1) else i) ≤ _
    split
    · exact Nat.le_trans (kWf_le k (i + 1)) (by omega)
    · omega
theorem kWf_in {P : Nat → Bool} : ∀ k i j, i ≤ j → j < kWf P k i → P j = true
  | 0, i, j, h1, h2 => by
    have : j < i := h2
    omega
  | k + 1, i, j, h1, h2 => by
    have h2' : j < if P i = true then kWf P k (i + 1) else i := h2
    by_cases h : P i = true
    · rw [if_pos h] at h2'
      by_cases e : j = i
      · rw [e]; exact h
      · exact kWf_in k (i + 1) j (by omega) h2'
    · rw [if_neg h] at h2'; omega
theorem kWf_no {P : Nat → Bool} : ∀ k i, kWf P k i < i + k → P (kWf P k i) = false
  | 0, i, h => by
    have : i < i + 0 := h
    omega
  | k + 1, i, h => by
    have h' : (if P i = true then kWf P k (i + 1) else i) < i + (k + 1) := h
    show P (if P i = true then kWf P k (i + 1) else i) = false
    by_cases hp : P i = true
    · rw [if_pos hp] at h' ⊢; exact kWf_no k (i + 1) (by omega)
    · rw [if_neg hp]; simpa using hp
theorem kWh_ge {P : Nat → Bool} {n i : Nat} : i ≤ kWh P n i := kWf_ge _ _
theorem kWh_le {P : Nat → Bool} {n i : Nat} (h : i ≤ n) : kWh P n i ≤ n := by
  have := kWf_le (P := P) (n - i) i
  unfold kWh; omega
theorem kWh_in {P : Nat → Bool} {n i j : Nat} (h1 : i ≤ j) (h2 : j < kWh P n i) : P j = true := kWf_in _ _ _ h1 h2
theorem kWh_no {P : Nat → Bool} {n i : Nat} (h : kWh P n i < n) : P (kWh P n i) = false := by
  refine kWf_no _ _ ?_
  have := kWf_ge (P := P) (n - i) i
  unfold kWh at h; omega
/-- a run ends where it stands -/
theorem kWh_0 {P : Nat → Bool} {n i : Nat} (h : i < n → P i = false) : kWh P n i = i := by
  unfold kWh
  cases hk : n - i with
  | zero => rfl
  | succ k =>
    show (if P i = true then kWf P k (i + 1) else i) = i
    rw [if_neg (by rw [h (by omega)]; simp)]
theorem kWh_2 {P : Nat → Bool} {n i : Nat} : kWh P n (kWh P n i) = kWh P n i := kWh_0 (fun h => kWh_no h)
theorem jo_scan {α β : Type} {body : α → Option (α ⊕ β)} {Q : β → Prop} {I : Nat → α → Prop} {P : Nat → Bool} {n i : Nat} {m : α} (hn : n ≤ 600) (hi : i ≤ n) (hs : ∀ j s, i ≤ j → j < n → P j = true → I j s → jo (body s) (jcase (I (j + 1)) Q)) (he : ∀ s, I (kWh P n i) s → jo (body s) (jcase (fun _ => False) Q)) (h : I i m) : jo (jlp body jfu m) Q := by
  have h1 := kWh_ge (P := P) (n := n) (i := i)
  have h2 := kWh_le (P := P) hi
  refine jo_for (kWh P n i - i) jfu (fun k s => I (i + k) s) (jfu_lt (by omega)) (fun k hk s hs' => ?_) (fun s hs' => ?_) _ h
  · exact hs (i + k) s (by omega) (by omega) (kWh_in (n := n) (i := i) (by omega) (by omega)) hs'
  · rw [show i + (kWh P n i - i) = kWh P n i by omega] at hs'
    exact he s hs'
/-! what is on it -/
def kIs (f : Nat → Int) (j : Nat) : Bool := decide (f j = 32)
def kId (f : Nat → Int) (j : Nat) : Bool := decide (48 ≤ f j ∧ f j ≤ 57)
def kIl (f : Nat → Int) (j : Nat) : Bool := decide (97 ≤ f j ∧ f j ≤ 122)
/-- past the spaces -/
def kSkp (f : Nat → Int) (n i : Nat) : Nat := kWh (kIs f) n i
def kTc (m : jm) (f : Nat → Int) (n i : Nat) : Prop := (n ≤ 600 ∧ i ≤ n ∧ ∀ j, j < n → 0 ≤ f j ∧ f j ≤ 255) ∧ (∀ j, j < n → ja m 2 j = f j) ∧ ja m 1 2 = n ∧ ja m 1 3 = i
def kTm (m : jm) (f : Nat → Int) (n i : Nat) : Prop := (n ≤ 600 ∧ i ≤ n ∧ ∀ j, j < n → 0 ≤ f j ∧ f j ≤ 255) ∧ (∀ j, j < n → ja m 69 j = f j) ∧ ja m 67 3 = n ∧ ja m 67 4 = i
theorem kTc_mv {m : jm} {f : Nat → Int} {n i j : Nat} (H : kTc m f n i) (hj : j ≤ n) : kTc (js m 1 3 j) f n j := by
  obtain ⟨⟨h1, h2, h3⟩, h4, h5, h6⟩ := H
  exact ⟨⟨h1, hj, h3⟩, fun k hk => by rw [ja_jsk (by decide)]; exact h4 k hk, by rw [ja_jsj (by decide)]; exact h5, by rw [ja_js1, jwi (by omega) (by omega)]⟩
theorem kTm_mv {m : jm} {f : Nat → Int} {n i j : Nat} (H : kTm m f n i) (hj : j ≤ n) : kTm (js m 67 4 j) f n j := by
  obtain ⟨⟨h1, h2, h3⟩, h4, h5, h6⟩ := H
  exact ⟨⟨h1, hj, h3⟩, fun k hk => by rw [ja_jsk (by decide)]; exact h4 k hk, by rw [ja_jsj (by decide)]; exact h5, by rw [ja_js1, jwi (by omega) (by omega)]⟩
theorem kTc_fr {b : Bool} {W : Nat → Nat → Prop} {m m' : jm} {f : Nat → Int} {n i : Nat} (H : kTc m f n i) (h : jfr b W m m') (hz : ∀ k j, W k j → ¬ (k = 2 ∨ (k = 1 ∧ (j = 2 ∨ j = 3)))) : kTc m' f n i := by
  obtain ⟨h1, h4, h5, h6⟩ := H
  exact ⟨h1, fun k hk => by rw [ja_fr h (fun e => hz _ _ e (Or.inl rfl))]; exact h4 k hk, by rw [ja_fr h (fun e => hz _ _ e (by omega))]; exact h5, by rw [ja_fr h (fun e => hz _ _ e (by omega))]; exact h6⟩
theorem kTm_fr {b : Bool} {W : Nat → Nat → Prop} {m m' : jm} {f : Nat → Int} {n i : Nat} (H : kTm m f n i) (h : jfr b W m m') (hz : ∀ k j, W k j → ¬ (k = 69 ∨ (k = 67 ∧ (j = 3 ∨ j = 4)))) : kTm m' f n i := by
  obtain ⟨h1, h4, h5, h6⟩ := H
  exact ⟨h1, fun k hk => by rw [ja_fr h (fun e => hz _ _ e (Or.inl rfl))]; exact h4 k hk, by rw [ja_fr h (fun e => hz _ _ e (by omega))]; exact h5, by rw [ja_fr h (fun e => hz _ _ e (by omega))]; exact h6⟩
theorem kTc_js {m : jm} {f : Nat → Int} {n i k j : Nat} {x : Int} (H : kTc m f n i) (hz : ¬ (k = 2 ∨ (k = 1 ∧ (j = 2 ∨ j = 3)))) : kTc (js m k j x) f n i := by
  obtain ⟨h1, h4, h5, h6⟩ := H
  exact ⟨h1, fun t ht => by rw [ja_js, if_neg (by omega)]; exact h4 t ht, by rw [ja_js, if_neg (by omega)]; exact h5, by rw [ja_js, if_neg (by omega)]; exact h6⟩
theorem kTm_js {m : jm} {f : Nat → Int} {n i k j : Nat} {x : Int} (H : kTm m f n i) (hz : ¬ (k = 69 ∨ (k = 67 ∧ (j = 3 ∨ j = 4)))) : kTm (js m k j x) f n i := by
  obtain ⟨h1, h4, h5, h6⟩ := H
  exact ⟨h1, fun t ht => by rw [ja_js, if_neg (by omega)]; exact h4 t ht, by rw [ja_js, if_neg (by omega)]; exact h5, by rw [ja_js, if_neg (by omega)]; exact h6⟩
theorem sl_116 {m : jm} {f : Nat → Int} {n i : Nat} (H : kTc m f n i) : jo (jf_116 m) (fun r => (r.1 = if kSkp f n i < n then f (kSkp f n i) else -1) ∧ kTc r.2 f n (kSkp f n i) ∧ jfr true jW_116 m r.2) := by
  refine jo_mono (jo_and (R := fun r => jfr true jW_116 m r.2) (P := fun r => (r.1 = if kSkp f n i < n then f (kSkp f n i) else -1) ∧ kTc r.2 f n (kSkp f n i)) ?_ jx_116) (fun r hr => ⟨hr.1.1, hr.1.2, hr.2⟩)
  obtain ⟨h1, h2, h3⟩ := H.1
  unfold jf_116
  refine jo_c (R := fun r => kTc r f n (kSkp f n i)) ?_ (fun r hr => ?_)
  · refine jo_scan (P := kIs f) (n := n) (i := i) (I := fun j s => kTc s f n j) h1 h2 (fun j s hij hj hp hs => ?_) (fun s hs => ?_) H
    · rw [hs.2.2.2, hs.2.2.1, if_pos (show (j : Int) < (n : Int) by omega), if_pos (show 0 ≤ (j : Int) ∧ (j : Int) < 600 by omega), Int.toNat_natCast, hs.2.1 j hj, if_pos (show f j = 32 from of_decide_eq_true hp), jwn (by omega)]
      exact kTc_mv hs (by omega)
    · have hle := hs.1.2.1
      rw [hs.2.2.2, hs.2.2.1]
      by_cases hl : kWh (kIs f) n i < n
      · rw [if_pos (show ((kWh (kIs f) n i : Nat) : Int) < (n : Int) by omega), if_pos (show 0 ≤ ((kWh (kIs f) n i : Nat) : Int) ∧ ((kWh (kIs f) n i : Nat) : Int) < 600 by omega), Int.toNat_natCast, hs.2.1 _ hl, if_neg (show ¬ f (kWh (kIs f) n i) = 32 from of_decide_eq_false (kWh_no hl))]
        exact hs
      · rw [if_neg (show ¬ ((kWh (kIs f) n i : Nat) : Int) < (n : Int) by omega)]
        exact hs
  · have hle := hr.1.2.1
    rw [hr.2.2.2, hr.2.2.1]
    by_cases hl : kSkp f n i < n
    · rw [if_pos (show ((kSkp f n i : Nat) : Int) < (n : Int) by omega), if_pos (show 0 ≤ ((kSkp f n i : Nat) : Int) ∧ ((kSkp f n i : Nat) : Int) < 600 by omega), Int.toNat_natCast, hr.2.1 _ hl, jsb, if_pos hl]
      exact ⟨rfl, hr⟩
    · rw [if_neg (show ¬ ((kSkp f n i : Nat) : Int) < (n : Int) by omega), jsb, if_neg hl]
      exact ⟨rfl, hr⟩
theorem sl_198 {m : jm} {f : Nat → Int} {n i : Nat} (H : kTm m f n i) : jo (jf_198 m) (fun r => (r.1 = if kSkp f n i < n then f (kSkp f n i) else 0) ∧ kTm r.2 f n (kSkp f n i) ∧ jfr true jW_198 m r.2) := by
  refine jo_mono (jo_and (R := fun r => jfr true jW_198 m r.2) (P := fun r => (r.1 = if kSkp f n i < n then f (kSkp f n i) else 0) ∧ kTm r.2 f n (kSkp f n i)) ?_ jx_198) (fun r hr => ⟨hr.1.1, hr.1.2, hr.2⟩)
  obtain ⟨h1, h2, h3⟩ := H.1
  unfold jf_198
  refine jo_c (R := fun r => kTm r f n (kSkp f n i)) ?_ (fun r hr => ?_)
  · refine jo_scan (P := kIs f) (n := n) (i := i) (I := fun j s => kTm s f n j) h1 h2 (fun j s hij hj hp hs => ?_) (fun s hs => ?_) H
    · rw [hs.2.2.2, hs.2.2.1, if_pos (show (j : Int) < (n : Int) by omega), if_pos (show 0 ≤ (j : Int) ∧ (j : Int) < 600 by omega), Int.toNat_natCast, hs.2.1 j hj, if_pos (show f j = 32 from of_decide_eq_true hp), jwn (by omega)]
      exact kTm_mv hs (by omega)
    · have hle := hs.1.2.1
      rw [hs.2.2.2, hs.2.2.1]
      by_cases hl : kWh (kIs f) n i < n
      · rw [if_pos (show ((kWh (kIs f) n i : Nat) : Int) < (n : Int) by omega), if_pos (show 0 ≤ ((kWh (kIs f) n i : Nat) : Int) ∧ ((kWh (kIs f) n i : Nat) : Int) < 600 by omega), Int.toNat_natCast, hs.2.1 _ hl, if_neg (show ¬ f (kWh (kIs f) n i) = 32 from of_decide_eq_false (kWh_no hl))]
        exact hs
      · rw [if_neg (show ¬ ((kWh (kIs f) n i : Nat) : Int) < (n : Int) by omega)]
        exact hs
  · have hle := hr.1.2.1
    rw [hr.2.2.2, hr.2.2.1]
    by_cases hl : kSkp f n i < n
    · rw [if_pos (show ((kSkp f n i : Nat) : Int) < (n : Int) by omega), if_pos (show 0 ≤ ((kSkp f n i : Nat) : Int) ∧ ((kSkp f n i : Nat) : Int) < 600 by omega), Int.toNat_natCast, hr.2.1 _ hl, jsb, if_pos hl]
      exact ⟨rfl, hr⟩
    · rw [if_neg (show ¬ ((kSkp f n i : Nat) : Int) < (n : Int) by omega), jsb, if_neg hl]
      exact ⟨rfl, hr⟩
