/-! WAYS in a graph of towers: G u v, one can go from u to v. -/
def kEx (f : Nat → Bool) : Nat → Bool
  | 0 => false
  | n + 1 => kEx f n || f n
theorem kEx_s {f : Nat → Bool} {n : Nat} : kEx f (n + 1) = (kEx f n || f n) := rfl
theorem kEx_iff {f : Nat → Bool} : ∀ {n : Nat}, kEx f n = true ↔ ∃ i, i < n ∧ f i = true
  | 0 => ⟨fun h => absurd h nft, fun ⟨i, h, _⟩ => absurd h (Nat.not_lt_zero _)⟩
  | n + 1 => by
    rw [kEx_s, Bool.or_eq_true, kEx_iff (n := n)]
    refine ⟨fun h => h.elim (fun ⟨i, h1, h2⟩ => ⟨i, by omega, h2⟩) (fun h => ⟨n, by omega, h⟩), fun ⟨i, h1, h2⟩ => ?_⟩
    by_cases e : i = n
    · exact Or.inr (e ▸ h2)
    · exact Or.inl ⟨i, by omega, h2⟩
/-- v is reached from a by n wires at most -/
def kD (G : Nat → Nat → Bool) (T a : Nat) : Nat → Nat → Bool
  | 0, v => decide (v = a)
  | n + 1, v => kD G T a n v || kEx (fun u => kD G T a n u && G u v) T
theorem kD_0 {G : Nat → Nat → Bool} {T a v : Nat} : kD G T a 0 v = true ↔ v = a := decide_eq_true_iff
theorem kD_s {G : Nat → Nat → Bool} {T a n v : Nat} : kD G T a (n + 1) v = true ↔ (kD G T a n v = true ∨ ∃ u, u < T ∧ kD G T a n u = true ∧ G u v = true) := by
  show (kD G T a n v || kEx (fun u => kD G T a n u && G u v) T) = true ↔ _
  rw [Bool.or_eq_true, kEx_iff]
  simp only [Bool.and_eq_true]
theorem kD_m1 {G : Nat → Nat → Bool} {T a n v : Nat} (h : kD G T a n v = true) : kD G T a (n + 1) v = true := kD_s.2 (Or.inl h)
theorem kD_m {G : Nat → Nat → Bool} {T a n v : Nat} (h : kD G T a n v = true) : ∀ k, kD G T a (n + k) v = true
  | 0 => h
  | k + 1 => kD_m1 (kD_m h k)
theorem kD_le {G : Nat → Nat → Bool} {T a n k v : Nat} (hk : n ≤ k) (h : kD G T a n v = true) : kD G T a k v = true := by
  have := kD_m h (k - n)
  rw [show n + (k - n) = k by omega] at this; exact this
theorem kD_first {G : Nat → Nat → Bool} {T : Nat} : ∀ (n : Nat) {a b : Nat}, a < T → b < T → (kD G T a (n + 1) b = true ↔ (kD G T a n b = true ∨ ∃ v, v < T ∧ G a v = true ∧ kD G T v n b = true))
  | 0, a, b, ha, hb => by
    rw [kD_s]
    refine ⟨fun h => h.elim Or.inl (fun ⟨u, h1, h2, h3⟩ => Or.inr ⟨b, hb, by rw [kD_0] at h2; rw [← h2]; exact h3, kD_0.2 rfl⟩), fun h => h.elim Or.inl (fun ⟨v, h1, h2, h3⟩ => Or.inr ⟨a, ha, kD_0.2 rfl, by rw [kD_0] at h3; rw [h3]; exact h2⟩)⟩
  | n + 1, a, b, ha, hb => by
    rw [kD_s (n := n + 1)]
    refine ⟨fun h => h.elim Or.inl (fun ⟨u, h1, h2, h3⟩ => ?_), fun h => h.elim Or.inl (fun ⟨v, h1, h2, h3⟩ => ?_)⟩
    · rcases (kD_first n ha h1).1 h2 with h4 | ⟨v, h5, h6, h7⟩
      · exact Or.inl (kD_s.2 (Or.inr ⟨u, h1, h4, h3⟩))
      · exact Or.inr ⟨v, h5, h6, kD_s.2 (Or.inr ⟨u, h1, h7, h3⟩)⟩
    · rcases kD_s.1 h3 with h4 | ⟨u, h5, h6, h7⟩
      · exact Or.inl ((kD_first n ha hb).2 (Or.inr ⟨v, h1, h2, h4⟩))
      · exact Or.inr ⟨u, h5, (kD_first n ha h5).2 (Or.inr ⟨v, h1, h2, h6⟩), h7⟩
/-! after T - 1 wires nothing more is reached -/
theorem kCnt_mono {f g : Nat → Bool} : ∀ n, (∀ i, i < n → f i = true → g i = true) → kCnt f n ≤ kCnt g n
  | 0, _ => Nat.le_refl _
  | n + 1, h => by
    have ih := kCnt_mono n (fun i hi => h i (by omega))
    have hn := h n (by omega)
    rw [kCnt_s, kCnt_s]
    cases hf : f n
    · rw [if_neg nft]; split <;> omega
    · rw [hn hf, if_pos rfl]; omega
theorem kCnt_lt {f g : Nat → Bool} : ∀ n, (∀ i, i < n → f i = true → g i = true) → (∃ i, i < n ∧ g i = true ∧ f i = false) → kCnt f n < kCnt g n
  | 0, _, ⟨i, h, _⟩ => absurd h (Nat.not_lt_zero _)
  | n + 1, h, ⟨i, h1, h2, h3⟩ => by
    rw [kCnt_s, kCnt_s]
    by_cases e : i = n
    · subst e
      have := kCnt_mono (f := f) (g := g) i (fun j hj => h j (by omega))
      rw [h2, h3, if_pos rfl, if_neg nft]; omega
    · have ih := kCnt_lt n (fun j hj => h j (by omega)) ⟨i, by omega, h2, h3⟩
      have hn := h n (by omega)
      cases hf : f n
      · rw [if_neg nft]; split <;> omega
      · rw [hn hf, if_pos rfl]; omega
/-- nothing new at the step behind n -/
def kSta (G : Nat → Nat → Bool) (T a n : Nat) : Prop := ∀ v, v < T → kD G T a (n + 1) v = true → kD G T a n v = true
theorem kSta_s {G : Nat → Nat → Bool} {T a n : Nat} (h : kSta G T a n) : kSta G T a (n + 1) := fun v hv h2 => by
  rcases kD_s.1 h2 with h3 | ⟨u, h3, h4, h5⟩
  · exact h3
  · exact kD_s.2 (Or.inr ⟨u, h3, h u h3 h4, h5⟩)
theorem kSta_k {G : Nat → Nat → Bool} {T a n : Nat} (h : kSta G T a n) : ∀ k v, v < T → kD G T a (n + k) v = true → kD G T a n v = true
  | 0, _, _, h2 => h2
  | k + 1, v, hv, h2 => by
    have hs : ∀ j, kSta G T a (n + j) := fun j => by
      induction j with
      | zero => exact h
      | succ j ih => exact kSta_s ih
    exact kSta_k h k v hv (hs k v hv h2)
theorem kSta_or {G : Nat → Nat → Bool} {T a : Nat} (ha : a < T) : ∀ n, (∃ k, k ≤ n ∧ kSta G T a k) ∨ n + 2 ≤ kCnt (kD G T a (n + 1)) T
  | 0 => by
    by_cases h : kSta G T a 0
    · exact Or.inl ⟨0, Nat.le_refl _, h⟩
    · refine Or.inr ?_
      have h0 : 1 ≤ kCnt (kD G T a 0) T := by
        have := kCnt_lt (f := fun _ => false) (g := kD G T a 0) T (fun i _ h => by cases h) ⟨a, ha, kD_0.2 rfl, rfl⟩
        omega
      have h1 : kCnt (kD G T a 0) T < kCnt (kD G T a 1) T := by
        refine kCnt_lt T (fun i _ h => kD_m1 h) ?_
        by_cases hx : ∃ i, i < T ∧ kD G T a 1 i = true ∧ kD G T a 0 i = false
        · exact hx
        · refine absurd (fun v hv h2 => ?_) h
          cases h3 : kD G T a 0 v
          · exact absurd ⟨v, hv, h2, h3⟩ hx
          · rfl
      show 0 + 2 ≤ kCnt (kD G T a 1) T
      omega
  | n + 1 => by
    rcases kSta_or (G := G) ha n with ⟨k, h1, h2⟩ | h0
    · exact Or.inl ⟨k, by omega, h2⟩
    · by_cases h : kSta G T a (n + 1)
      · exact Or.inl ⟨n + 1, Nat.le_refl _, h⟩
      · refine Or.inr ?_
        have h1 : kCnt (kD G T a (n + 1)) T < kCnt (kD G T a (n + 1 + 1)) T := by
          refine kCnt_lt T (fun i _ h => kD_m1 h) ?_
          by_cases hx : ∃ i, i < T ∧ kD G T a (n + 1 + 1) i = true ∧ kD G T a (n + 1) i = false
          · exact hx
          · refine absurd (fun v hv h2 => ?_) h
            cases h3 : kD G T a (n + 1) v
            · exact absurd ⟨v, hv, h2, h3⟩ hx
            · rfl
        omega
theorem kD_sat {G : Nat → Nat → Bool} {T a n v : Nat} (ha : a < T) (hv : v < T) (h : kD G T a n v = true) : kD G T a (T - 1) v = true := by
  rcases kSta_or (G := G) ha (T - 1) with ⟨k, h1, h2⟩ | h0
  · have h3 : kD G T a (k + n) v = true := kD_le (by omega) h
    exact kD_le h1 (kSta_k h2 n v hv h3)
  · have := kCnt_le (S := kD G T a (T - 1 + 1)) T
    omega
/-- how many wires from a to b; -1: there is no way -/
def kDs (G : Nat → Nat → Bool) (T a b : Nat) : Int := kFs (fun n => kD G T a n b) 8
theorem kFs_up {f : Nat → Bool} {n : Nat} (h : kFs f n ≠ -1) : ∀ k, kFs f (n + k) = kFs f n
  | 0 => rfl
  | k + 1 => by
    show kFs f (n + k + 1) = _
    rw [kFs_s, kFs_up h k, if_neg h]
theorem kDs_T {G : Nat → Nat → Bool} {T a b : Nat} (hT : T ≤ 8) (ha : a < T) (hb : b < T) : kDs G T a b = kFs (fun n => kD G T a n b) T := by
  unfold kDs
  by_cases h : kFs (fun n => kD G T a n b) T = -1
  · rw [h]
    refine kFs_no 8 (fun i hi => ?_)
    cases hi2 : kD G T a i b
    · rfl
    · have h3 := kD_sat ha hb hi2
      rcases kFs_cs (f := fun n => kD G T a n b) T with ⟨h4, h5⟩ | ⟨e, h4, h5, -⟩
      · have := h5 (T - 1) (by omega)
        rw [h3] at this; cases this
      · rw [h5] at h; omega
  · have := kFs_up h (8 - T)
    rw [show T + (8 - T) = 8 by omega] at this; exact this
theorem kDs_b {G : Nat → Nat → Bool} {T a b : Nat} : -1 ≤ kDs G T a b ∧ kDs G T a b < 8 := by
  unfold kDs
  rcases kFs_cs (f := fun n => kD G T a n b) 8 with ⟨h, -⟩ | ⟨e, h1, h2, -⟩
  · rw [h]; omega
  · rw [h2]; omega
theorem kDs_r {G : Nat → Nat → Bool} {T a b : Nat} (hT : T ≤ 8) (ha : a < T) (hb : b < T) : kD G T a 8 b = true ↔ kDs G T a b ≠ -1 := by
  unfold kDs
  rcases kFs_cs (f := fun n => kD G T a n b) 8 with ⟨h, h1⟩ | ⟨e, h1, h2, h3, -⟩
  · refine ⟨fun h2 => ?_, fun h2 => absurd h h2⟩
    have h3 := kD_sat ha hb h2
    have := h1 (T - 1) (by omega)
    rw [h3] at this; cases this
  · exact ⟨fun _ => by rw [h2]; omega, fun _ => kD_le (by omega) h3⟩
/-- the label of t behind round r of the model: how many wires to b, r at most -/
def kLb (G : Nat → Nat → Bool) (T b r t : Nat) : Int := if kFs (fun n => kD G T t n b) (r + 1) = -1 then 100000 else kFs (fun n => kD G T t n b) (r + 1)
theorem kLb_0 {G : Nat → Nat → Bool} {T b t : Nat} : kLb G T b 0 t = if t = b then 0 else 100000 := by
  unfold kLb
  rw [kFs_s, show kFs (fun n => kD G T t n b) 0 = -1 from rfl, if_pos rfl]
  by_cases h : t = b
  · rw [if_pos (kD_0.2 h.symm), if_pos h, if_neg (by decide)]; rfl
  · rw [if_neg (fun e => h (kD_0.1 e).symm), if_neg h, if_pos rfl]
theorem kLb_b {G : Nat → Nat → Bool} {T b r t : Nat} : (kLb G T b r t = 100000 ∧ kFs (fun n => kD G T t n b) (r + 1) = -1) ∨ (0 ≤ kLb G T b r t ∧ kLb G T b r t ≤ r ∧ kLb G T b r t = kFs (fun n => kD G T t n b) (r + 1)) := by
  unfold kLb
  rcases kFs_cs (f := fun n => kD G T t n b) (r + 1) with ⟨h, -⟩ | ⟨e, h1, h2, -⟩
  · rw [if_pos h]; exact Or.inl ⟨rfl, h⟩
  · rw [if_neg (by omega)]; exact Or.inr ⟨by omega, by omega, rfl⟩
theorem kLb_old {G : Nat → Nat → Bool} {T b r t : Nat} (h : kLb G T b r t ≠ 100000) : kLb G T b (r + 1) t = kLb G T b r t := by
  unfold kLb at *
  by_cases h2 : kFs (fun n => kD G T t n b) (r + 1) = -1
  · rw [if_pos h2] at h; exact absurd rfl h
  · have := kFs_up h2 1
    rw [show r + 1 + 1 = r + 1 + 1 from rfl] at this
    rw [this]
/-- a tower that has no label yet gets one in round r + 1 just if a wire leads to one of label r -/
theorem kLb_new {G : Nat → Nat → Bool} {T b r t : Nat} (hr : r < 100) (ht : t < T) (hb : b < T) (h : kLb G T b r t = 100000) : kLb G T b (r + 1) t = if kEx (fun v => decide (kLb G T b r v = (r : Int)) && G t v) T = true then ((r + 1 : Nat) : Int) else 100000 := by
  have h0 : kFs (fun n => kD G T t n b) (r + 1) = -1 := by
    rcases kLb_b (G := G) (T := T) (b := b) (r := r) (t := t) with ⟨-, h2⟩ | ⟨h1, h2, h3⟩
    · exact h2
    · omega
  have hno : ∀ i, i < r + 1 → kD G T t i b = false := by
    rcases kFs_cs (f := fun n => kD G T t n b) (r + 1) with ⟨-, h5⟩ | ⟨e, h4, h5, -⟩
    · exact h5
    · omega
  have hiff : kD G T t (r + 1) b = true ↔ kEx (fun v => decide (kLb G T b r v = (r : Int)) && G t v) T = true := by
    rw [kD_first r ht hb, kEx_iff]
    simp only [Bool.and_eq_true, decide_eq_true_eq]
    refine ⟨fun h => h.elim (fun h => ?_) (fun ⟨v, h1, h2, h3⟩ => ⟨v, h1, ?_, h2⟩), fun ⟨v, h1, h2, h3⟩ => Or.inr ⟨v, h1, h3, ?_⟩⟩
    · rw [hno r (by omega)] at h; cases h
    · have : kFs (fun n => kD G T v n b) (r + 1) = r := kFs_yes (f := fun n => kD G T v n b) h3 (fun i hi => by
        cases h4 : kD G T v i b
        · rfl
        · have h5 := (kD_first i ht hb).2 (Or.inr ⟨v, h1, h2, h4⟩)
          rw [hno (i + 1) (by omega)] at h5; cases h5) (r + 1) (by omega)
      unfold kLb
      rw [this, if_neg (by omega)]
    · rcases kLb_b (G := G) (T := T) (b := b) (r := r) (t := v) with ⟨h4, -⟩ | ⟨h4, h5, h6⟩
      · omega
      · rcases kFs_cs (f := fun n => kD G T v n b) (r + 1) with ⟨h7, -⟩ | ⟨e, h7, h8, h9, -⟩
        · omega
        · have : e = r := by omega
          rw [← this]; exact h9
  have e1 : kFs (fun n => kD G T t n b) (r + 1 + 1) = if kD G T t (r + 1) b = true then ((r + 1 : Nat) : Int) else -1 := by
    rw [kFs_s, if_pos h0]
  have e2 : kLb G T b (r + 1) t = if kD G T t (r + 1) b = true then ((r + 1 : Nat) : Int) else 100000 := by
    unfold kLb
    rw [e1]
    by_cases hd : kD G T t (r + 1) b = true
    · rw [if_pos hd, if_pos hd, if_neg (by omega)]
    · rw [if_neg hd, if_neg hd, if_pos rfl]
  rw [e2]
  by_cases hd : kD G T t (r + 1) b = true
  · rw [if_pos hd, if_pos (hiff.1 hd)]
  · rw [if_neg hd, if_neg (fun h => hd (hiff.2 h))]
/-- after all rounds -/
theorem kLb_end {G : Nat → Nat → Bool} {T b t : Nat} (hT : T ≤ 8) (ht : t < T) (hb : b < T) : kLb G T b (T - 1) t = if kDs G T t b = -1 then 100000 else kDs G T t b := by
  unfold kLb
  rw [kDs_T hT ht hb, show T - 1 + 1 = T by omega]
theorem kD_ext {G F : Nat → Nat → Bool} {T a : Nat} (h : ∀ u v, u < T → v < T → G u v = F u v) : ∀ n v, v < T → kD G T a n v = kD F T a n v
  | 0, _, _ => rfl
  | n + 1, v, hv => by
    have : kD G T a (n + 1) v = true ↔ kD F T a (n + 1) v = true := by
      rw [kD_s, kD_s, kD_ext h n v hv]
      refine ⟨fun h' => h'.elim Or.inl (fun ⟨u, h1, h2, h3⟩ => Or.inr ⟨u, h1, by rw [← kD_ext h n u h1]; exact h2, by rw [← h u v h1 hv]; exact h3⟩), fun h' => h'.elim Or.inl (fun ⟨u, h1, h2, h3⟩ => Or.inr ⟨u, h1, by rw [kD_ext h n u h1]; exact h2, by rw [h u v h1 hv]; exact h3⟩)⟩
    cases h1 : kD G T a (n + 1) v <;> cases h2 : kD F T a (n + 1) v
    · rfl
    · rw [h1, h2] at this; exact absurd (this.2 rfl) nft
    · rw [h1, h2] at this; exact absurd (this.1 rfl) nft
    · rfl
/-- the first tower on the way -/
def kFh (G : Nat → Nat → Bool) (T a b : Nat) : Int := if 0 < kDs G T a b then kFs (fun k => G a k && decide (kDs G T k b = kDs G T a b - 1)) T else -1
