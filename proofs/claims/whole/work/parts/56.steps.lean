/-! STEPS on a post, pure. -/
def kU (p : kP) (a i : Nat) (x : Int) : kP := fun b j => if b = a ∧ j = i then x else p b j
theorem kU_e {p : kP} {a i : Nat} {x : Int} : kU p a i x a i = x := if_pos ⟨rfl, rfl⟩
theorem kU_a {p : kP} {a i b j : Nat} {x : Int} (h : b ≠ a) : kU p a i x b j = p b j := if_neg (fun e => h e.1)
theorem kU_j {p : kP} {a i j : Nat} {x : Int} (h : j ≠ i) : kU p a i x a j = p a j := if_neg (fun e => h e.2)
def kLay (c : kC) (p : kP) (l : Nat) (t : Int) : kP := kU (kU (kU p 6 l (-1)) 5 l t) 7 l (if (c 8 l : Int) = t then 1 else 0)
def kGv (c : kC) (p : kP) (w l : Nat) : Bool × kP := if p 6 l = (w : Int) then (true, kLay c p l (p 2 w)) else (false, p)
def kTa (c : kC) (p : kP) (w l : Nat) : Bool × kP := if p 2 w ≠ -1 ∧ p 6 l = -1 ∧ p 7 l = 0 ∧ p 5 l = p 2 w ∧ kSu c w l = true ∧ (kHw c p w).2.2 ≠ 2 then (true, kU (kU p 6 l w) 5 l (-1)) else (false, p)
def kAg (c : kC) (p : kP) (w : Nat) : Nat → kP
  | 0 => p
  | n + 1 => (kGv c (kAg c p w n) w n).2
def kAt (c : kC) (p : kP) (w : Nat) : Nat → kP
  | 0 => p
  | n + 1 => (kTa c (kAt c p w n) w n).2
def kOvr (c : kC) (p : kP) (cl : List Int) (w e : Nat) : Bool := kOv c w (kLn c p cl w e (if (c 1 e : Int) = p 2 w then 0 else 1) (p 8 1) (kHw c p w))
def kFall (c : kC) (p : kP) (w : Nat) : kP := kU (kU (kAg c p w (c 11 3)) 2 w (-1)) 4 w (jw (p 4 w + 1))
def kGo (c : kC) (p : kP) (cl : List Int) (w : Nat) (t : Int) : Bool × kP :=
  if p 2 w = -1 then (false, p) else if kJo c (p 2 w) t = -1 then (false, p)
  else if kOvr c p cl w (kJo c (p 2 w) t).toNat = true then (true, kU (kU p 1 (kJo c (p 2 w) t).toNat (jw (p 1 (kJo c (p 2 w) t).toNat + 1))) 2 w t)
  else (true, kFall c (kU p 1 (kJo c (p 2 w) t).toNat (jw (p 1 (kJo c (p 2 w) t).toNat + 1))) w)
def kNh (p : kP) : Nat → kP
  | 0 => p
  | n + 1 => kU (kNh p n) 1 n 0
def kNw (c : kC) (p : kP) : Nat → kP
  | 0 => p
  | n + 1 => if kNw c p n 2 n = -1 then kU (kU (kNw c p n) 3 n 0) 2 n (c 4 n) else kU (kNw c p n) 3 n 0
def kN0 (p : kP) : kP := kU (kU p 8 0 (jw (p 8 0 + 1))) 8 1 0
def kNi (c : kC) (p : kP) : kP := kNw c (kNh (kN0 p) (c 11 1)) (c 11 2)
/-! they keep a post one that can be -/
theorem kHeld_c {p : kP} {w : Int} : ∀ n, kHeld p w n = kCnt (fun l => decide (p 6 l = w)) n
  | 0 => rfl
  | n + 1 => by
    show kHeld p w n + (if p 6 n = w then 1 else 0) = _
    rw [kHeld_c n, kCnt_s]
    by_cases h : p 6 n = w
    · rw [if_pos h, if_pos (decide_eq_true h)]
    · rw [if_neg h, if_neg (by simp [h])]
theorem kVp_lay {c : kC} {p : kP} {l : Nat} {t : Int} (hq : kVp c p) (ht : 0 ≤ t ∧ t < c 11 0) : kVp c (kLay c p l t) := by
  obtain ⟨h1, h2, h3, h4, h5⟩ := hq
  have r : ∀ b j, ¬ (j = l ∧ (b = 5 ∨ b = 6 ∨ b = 7)) → kLay c p l t b j = p b j := fun b j h => by
    unfold kLay kU
    rw [if_neg (by omega), if_neg (by omega), if_neg (by omega)]
  have r6 : kLay c p l t 6 l = -1 := by unfold kLay; rw [kU_a (by decide), kU_a (by decide), kU_e]
  have r5 : kLay c p l t 5 l = t := by unfold kLay; rw [kU_a (by decide), kU_e]
  have r7 : kLay c p l t 7 l = if (c 8 l : Int) = t then 1 else 0 := by unfold kLay; rw [kU_e]
  refine ⟨by rw [r 8 1 (by omega)]; exact h1, fun e he => by rw [r 0 e (by omega)]; exact h2 e he, fun w hw => by rw [r 2 w (by omega), r 3 w (by omega)]; exact h3 w hw, fun k hk => ?_, fun w hw => ?_⟩
  · by_cases e : k = l
    · subst e
      rw [r5, r6, r7]
      refine ⟨by split <;> omega, by omega, by omega, fun h => ⟨rfl, ?_⟩, fun h => absurd rfl h, fun _ => ht⟩
      by_cases q : (c 8 k : Int) = t
      · exact q.symm
      · rw [if_neg q] at h; omega
    · rw [r 7 k (by omega), r 6 k (by omega), r 5 k (by omega), r 2 _ (by omega)]; exact h4 k hk
  · rw [kHeld_c]
    have := h5 w hw
    rw [kHeld_c] at this
    refine Nat.le_trans (kCnt_mono _ (fun k hk h => ?_)) this
    have h' := of_decide_eq_true h
    by_cases e : k = l
    · subst e; rw [r6] at h'; omega
    · rw [r 6 k (by omega)] at h'; exact decide_eq_true h'
theorem kVp_gv {c : kC} {p : kP} {w l : Nat} (hq : kVp c p) (hw : w < c 11 2) (hl : l < c 11 3) : kVp c (kGv c p w l).2 := by
  unfold kGv
  by_cases h : p 6 l = (w : Int)
  · rw [if_pos h]
    have h4 := hq.2.2.2.1 l hl
    have h3 := hq.2.2.1 w hw
    have := h4.2.2.2.2.1 (by omega)
    rw [h, Int.toNat_natCast] at this
    exact kVp_lay hq ⟨by omega, by omega⟩
  · rw [if_neg h]; exact hq
theorem kGv_2 {c : kC} {p : kP} {w l b j : Nat} (hb : b ≠ 5 ∧ b ≠ 6 ∧ b ≠ 7) : (kGv c p w l).2 b j = p b j := by
  unfold kGv
  split
  · show kLay c p l (p 2 w) b j = _
    unfold kLay; rw [kU_a (by omega), kU_a (by omega), kU_a (by omega)]
  · rfl
theorem kAg_2 {c : kC} {p : kP} {w b j : Nat} (hb : b ≠ 5 ∧ b ≠ 6 ∧ b ≠ 7) : ∀ n, kAg c p w n b j = p b j
  | 0 => rfl
  | n + 1 => by
    show (kGv c (kAg c p w n) w n).2 b j = _
    rw [kGv_2 hb, kAg_2 hb n]
theorem kVp_ag {c : kC} {p : kP} {w : Nat} (hq : kVp c p) (hw : w < c 11 2) : ∀ n, n ≤ c 11 3 → kVp c (kAg c p w n)
  | 0, _ => hq
  | n + 1, h => kVp_gv (kVp_ag hq hw n (by omega)) hw (by omega)
/-- then he holds none of them -/
theorem kAg_6 {c : kC} {p : kP} {w : Nat} : ∀ n l, l < n → kAg c p w n 6 l ≠ (w : Int)
  | 0, l, h => absurd h (Nat.not_lt_zero _)
  | n + 1, l, h => by
    show (kGv c (kAg c p w n) w n).2 6 l ≠ _
    unfold kGv
    by_cases h6 : kAg c p w n 6 n = (w : Int)
    · rw [if_pos h6]
      show kLay c (kAg c p w n) n (kAg c p w n 2 w) 6 l ≠ _
      unfold kLay
      rw [kU_a (by decide), kU_a (by decide)]
      by_cases e : l = n
      · rw [e, kU_e]; omega
      · rw [kU_j e]; exact kAg_6 n l (by omega)
    · rw [if_neg h6]
      show kAg c p w n 6 l ≠ _
      by_cases e : l = n
      · rw [e]; exact h6
      · exact kAg_6 n l (by omega)
theorem kVp_ta {c : kC} {p : kP} {w l : Nat} (hq : kVp c p) (hw : w < c 11 2) (hl : l < c 11 3) : kVp c (kTa c p w l).2 := by
  unfold kTa
  by_cases h : p 2 w ≠ -1 ∧ p 6 l = -1 ∧ p 7 l = 0 ∧ p 5 l = p 2 w ∧ kSu c w l = true ∧ (kHw c p w).2.2 ≠ 2
  · rw [if_pos h]
    show kVp c (kU (kU p 6 l w) 5 l (-1))
    obtain ⟨a1, a2, a3, a4, a5, a6⟩ := h
    obtain ⟨h1, h2, h3, h4, h5⟩ := hq
    have r : ∀ b j, ¬ (j = l ∧ (b = 5 ∨ b = 6)) → kU (kU p 6 l w) 5 l (-1) b j = p b j := fun b j h => by
      unfold kU
      rw [if_neg (by omega), if_neg (by omega)]
    have r6 : kU (kU p 6 l w) 5 l (-1) 6 l = (w : Int) := by rw [kU_a (by decide), kU_e]
    have r5 : kU (kU p 6 l w) 5 l (-1) 5 l = -1 := kU_e
    refine ⟨by rw [r 8 1 (by omega)]; exact h1, fun e he => by rw [r 0 e (by omega)]; exact h2 e he, fun v hv => by rw [r 2 v (by omega), r 3 v (by omega)]; exact h3 v hv, fun k hk => ?_, fun v hv => ?_⟩
    · by_cases e : k = l
      · subst e
        rw [r5, r6, r 7 k (by omega), Int.toNat_natCast, r 2 w (by omega)]
        exact ⟨Or.inl a3, by omega, by omega, fun h => by omega, fun _ => ⟨rfl, a3, a1⟩, fun h => by omega⟩
      · rw [r 7 k (by omega), r 6 k (by omega), r 5 k (by omega), r 2 _ (by omega)]; exact h4 k hk
    · have hv5 := h5 v hv
      rw [kHeld_c] at hv5 ⊢
      by_cases e : v = w
      · subst e
        have hr := kCnt_rm (f := fun l' => decide (kU (kU p 6 l v) 5 l (-1) 6 l' = (v : Int))) (g := fun l' => decide (p 6 l' = (v : Int))) (M := l) (c 11 3) hl (decide_eq_true r6) (fun t ht => by
          rw [decide_eq_true_eq, decide_eq_true_eq]
          by_cases q : t = l
          · subst q; rw [a2]; exact ⟨fun h => by omega, fun h => absurd rfl h.2⟩
          · rw [r 6 t (by omega)]; exact ⟨fun h => ⟨h, q⟩, fun h => h.1⟩)
        have hc := kCar_n (c := c) (S := fun l => decide (p 6 l = (v : Int))) (c 11 3)
        unfold kHw at a6
        rw [hc] at a6
        omega
      · rw [kCnt_ext (T := fun l' => decide (p 6 l' = (v : Int))) _ (fun t ht => b_iff (by
          rw [decide_eq_true_eq, decide_eq_true_eq]
          by_cases q : t = l
          · subst q; rw [r6, a2]; omega
          · rw [r 6 t (by omega)]))]
        exact hv5
  · rw [if_neg h]; exact hq
theorem kVp_at {c : kC} {p : kP} {w : Nat} (hq : kVp c p) (hw : w < c 11 2) : ∀ n, n ≤ c 11 3 → kVp c (kAt c p w n)
  | 0, _ => hq
  | n + 1, h => kVp_ta (kVp_at hq hw n (by omega)) hw (by omega)
theorem kVp_u {c : kC} {p : kP} {a i : Nat} {x : Int} (hq : kVp c p) (ha : a = 1 ∨ a = 4) : kVp c (kU p a i x) := by
  obtain ⟨h1, h2, h3, h4, h5⟩ := hq
  have r : ∀ b j, b ≠ a → kU p a i x b j = p b j := fun b j h => kU_a h
  refine ⟨by rw [r 8 1 (by omega)]; exact h1, fun e he => by rw [r 0 e (by omega)]; exact h2 e he, fun v hv => by rw [r 2 v (by omega), r 3 v (by omega)]; exact h3 v hv, fun k hk => ?_, fun v hv => ?_⟩
  · rw [r 7 k (by omega), r 6 k (by omega), r 5 k (by omega), r 2 _ (by omega)]; exact h4 k hk
  · have := h5 v hv
    rw [kHeld_c] at this ⊢
    rw [kCnt_ext (T := fun l' => decide (p 6 l' = (v : Int))) _ (fun t ht => by rw [r 6 t (by omega)])]
    exact this
/-- a walker is somewhere else, or has fallen once he holds nothing -/
theorem kVp_2 {c : kC} {p : kP} {w : Nat} {t : Int} (hq : kVp c p) (ht : -1 ≤ t ∧ t < c 11 0) (hh : t = -1 → ∀ l, l < c 11 3 → p 6 l ≠ (w : Int)) : kVp c (kU p 2 w t) := by
  obtain ⟨h1, h2, h3, h4, h5⟩ := hq
  have r : ∀ b j, b ≠ 2 → kU p 2 w t b j = p b j := fun b j h => kU_a h
  refine ⟨by rw [r 8 1 (by omega)]; exact h1, fun e he => by rw [r 0 e (by omega)]; exact h2 e he, fun v hv => ?_, fun k hk => ?_, fun v hv => ?_⟩
  · rw [r 3 v (by omega)]
    have := h3 v hv
    by_cases e : v = w
    · rw [e, kU_e]; rw [e] at this; omega
    · rw [kU_j e]; exact this
  · rw [r 7 k (by omega), r 6 k (by omega), r 5 k (by omega)]
    have := h4 k hk
    refine ⟨this.1, this.2.1, this.2.2.1, this.2.2.2.1, fun h => ?_, this.2.2.2.2.2⟩
    obtain ⟨q1, q2, q3⟩ := this.2.2.2.2.1 h
    refine ⟨q1, q2, ?_⟩
    by_cases e : (p 6 k).toNat = w
    · rw [e, kU_e]
      intro z
      exact hh z k hk (by omega)
    · rw [kU_j e]; exact q3
  · have := h5 v hv
    rw [kHeld_c] at this ⊢
    rw [kCnt_ext (T := fun l' => decide (p 6 l' = (v : Int))) _ (fun t ht => by rw [r 6 t (by omega)])]
    exact this
theorem kVp_fall {c : kC} {p : kP} {w : Nat} (hq : kVp c p) (hw : w < c 11 2) : kVp c (kFall c p w) := by
  unfold kFall
  have h0 := hq.2.2.1 w hw
  exact kVp_u (kVp_2 (kVp_ag hq hw _ (Nat.le_refl _)) ⟨by omega, by omega⟩ (fun _ l hl => kAg_6 _ l hl)) (Or.inr rfl)
theorem kVp_go {c : kC} {p : kP} {cl : List Int} {w t : Nat} (hq : kVp c p) (hw : w < c 11 2) (ht : t < c 11 0) : kVp c (kGo c p cl w t).2 := by
  unfold kGo
  repeat' split
  · exact hq
  · exact hq
  · exact kVp_2 (kVp_u hq (Or.inl rfl)) ⟨by omega, by omega⟩ (fun h => by omega)
  · exact kVp_fall (kVp_u hq (Or.inl rfl)) hw
theorem kVp_ux {c : kC} {p : kP} {a i : Nat} {x : Int} (hq : kVp c p) (ha : (a = 0 ∧ 0 ≤ x ∧ x ≤ 9) ∨ (a = 3 ∧ 0 ≤ x ∧ x ≤ 9) ∨ (a = 8 ∧ i = 0) ∨ (a = 8 ∧ i = 1 ∧ (x = 0 ∨ x = 1))) : kVp c (kU p a i x) := by
  obtain ⟨h1, h2, h3, h4, h5⟩ := hq
  have r : ∀ b j, b ≠ a → kU p a i x b j = p b j := fun b j h => kU_a h
  have n : ∀ b j, kU p a i x b j = p b j ∨ (b = a ∧ j = i ∧ kU p a i x b j = x) := fun b j => by
    unfold kU
    by_cases e : b = a ∧ j = i
    · rw [if_pos e]; exact Or.inr ⟨e.1, e.2, rfl⟩
    · rw [if_neg e]; exact Or.inl rfl
  refine ⟨?_, fun e he => ?_, fun v hv => ?_, fun k hk => ?_, fun v hv => ?_⟩
  · rcases n 8 1 with e | ⟨e1, e2, e3⟩
    · rw [e]; exact h1
    · rw [e3]; omega
  · rcases n 0 e with z | ⟨e1, e2, e3⟩
    · rw [z]; exact h2 e he
    · rw [e3]; omega
  · have := h3 v hv
    rw [r 2 v (by omega)]
    rcases n 3 v with z | ⟨e1, e2, e3⟩
    · rw [z]; exact this
    · rw [e3]; omega
  · rw [r 7 k (by omega), r 6 k (by omega), r 5 k (by omega), r 2 _ (by omega)]; exact h4 k hk
  · have := h5 v hv
    rw [kHeld_c] at this ⊢
    rw [kCnt_ext (T := fun l' => decide (p 6 l' = (v : Int))) _ (fun t ht => by rw [r 6 t (by omega)])]
    exact this
theorem kVp_n0 {c : kC} {p : kP} (hq : kVp c p) : kVp c (kN0 p) := kVp_ux (kVp_ux hq (Or.inr (Or.inr (Or.inl ⟨rfl, rfl⟩)))) (Or.inr (Or.inr (Or.inr ⟨rfl, rfl, Or.inl rfl⟩)))
theorem kVp_nh {c : kC} {p : kP} (hq : kVp c p) : ∀ n, kVp c (kNh p n)
  | 0 => hq
  | n + 1 => kVp_u (kVp_nh hq n) (Or.inl rfl)
theorem kVp_n1 {c : kC} {p : kP} {n : Nat} (hq : kVp c p) : kVp c (kU p 3 n 0) := kVp_ux hq (Or.inr (Or.inl ⟨rfl, by decide, by decide⟩))
theorem kVp_nw {c : kC} {p : kP} (hv : kV c) (hq : kVp c p) : ∀ n, n ≤ c 11 2 → kVp c (kNw c p n)
  | 0, _ => hq
  | n + 1, h => by
    have h0 := kVp_nw hv hq n (by omega)
    have h4 := (hv.2.2.2.2.1 n (by omega)).1
    show kVp c (if kNw c p n 2 n = -1 then kU (kU (kNw c p n) 3 n 0) 2 n (c 4 n) else kU (kNw c p n) 3 n 0)
    split
    · exact kVp_2 (kVp_n1 h0) ⟨by omega, by omega⟩ (fun h => by omega)
    · exact kVp_n1 h0
theorem kVp_ni {c : kC} {p : kP} (hv : kV c) (hq : kVp c p) : kVp c (kNi c p) := kVp_nw hv (kVp_nh (kVp_n0 hq) _) _ (Nat.le_refl _)
