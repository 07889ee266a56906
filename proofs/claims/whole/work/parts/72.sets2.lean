/-! A NEW CITY in the class. -/
def kLen (t : Nat) : Nat := if t = 0 then 8 else if t ≤ 3 then 12 else if t ≤ 6 then 6 else 8
def kCpa (m : jm) : Nat → jm
  | 0 => m
  | t + 1 => jcp (kCpa m t) ((kCpa m t).1 (16 + t)) (4 + t) 0 0 (kLen t)
theorem kCpa_k {m : jm} {k j : Nat} : ∀ t, ¬ (4 ≤ k ∧ k < 4 + t) → ja (kCpa m t) k j = ja m k j
  | 0, _ => rfl
  | t + 1, h => by
    show ja (jcp (kCpa m t) ((kCpa m t).1 (16 + t)) (4 + t) 0 0 (kLen t)) k j = _
    rw [ja_jcp, if_neg (by omega)]; exact kCpa_k t (by omega)
theorem kCpa_c {m : jm} {u j : Nat} (hj : j < kLen u) : ∀ t, u < t → t ≤ 11 → ja (kCpa m t) (4 + u) j = ja m (16 + u) j
  | 0, h, _ => absurd h (Nat.not_lt_zero _)
  | t + 1, h, h2 => by
    show ja (jcp (kCpa m t) ((kCpa m t).1 (16 + t)) (4 + t) 0 0 (kLen t)) (4 + u) j = _
    rw [ja_jcp]
    by_cases e : u = t
    · subst e
      rw [if_pos ⟨rfl, Nat.zero_le _, by omega⟩]
      show ja (kCpa m u) (16 + u) (0 + (j - 0)) = _
      rw [Nat.zero_add, Nat.sub_zero]; exact kCpa_k u (by omega)
    · rw [if_neg (by omega)]; exact kCpa_c hj t (by omega) (by omega)
def kC4 (m : jm) : jm := js (js (js (js m 3 0 (ja m 15 0)) 3 1 (ja (js m 3 0 (ja m 15 0)) 15 1)) 3 2 (ja (js (js m 3 0 (ja m 15 0)) 3 1 (ja (js m 3 0 (ja m 15 0)) 15 1)) 15 2)) 3 3 (ja (js (js (js m 3 0 (ja m 15 0)) 3 1 (ja (js m 3 0 (ja m 15 0)) 15 1)) 3 2 (ja (js (js m 3 0 (ja m 15 0)) 3 1 (ja (js m 3 0 (ja m 15 0)) 15 1)) 15 2)) 15 3)
theorem sp_19 {m : jm} : jf_19 m = some (kCpa (kC4 m) 11) := rfl
theorem kC4_k {m : jm} {k j : Nat} (h : k ≠ 3) : ja (kC4 m) k j = ja m k j := by
  unfold kC4; rw [ja_jsk h, ja_jsk h, ja_jsk h, ja_jsk h]
theorem kC4_n {m : jm} : ∀ i, i < 4 → ja (kC4 m) 3 i = ja m 15 i := fun i hi => by
  unfold kC4
  rcases (by omega : i = 0 ∨ i = 1 ∨ i = 2 ∨ i = 3) with rfl | rfl | rfl | rfl
  · rw [ja_jsj (by decide), ja_jsj (by decide), ja_jsj (by decide), ja_js1, jw_a]
  · rw [ja_jsj (by decide), ja_jsj (by decide), ja_js1, jw_a, ja_jsk (by decide)]
  · rw [ja_jsj (by decide), ja_js1, jw_a, ja_jsk (by decide), ja_jsk (by decide)]
  · rw [ja_js1, jw_a, ja_jsk (by decide), ja_jsk (by decide), ja_jsk (by decide)]
theorem kCc_19 {m : jm} {c : kC} (hv : kV c) (H : kCc m 15 c) : kCc (kCpa (kC4 m) 11) 3 c := by
  have hn := hv.1
  refine ⟨fun i hi => ?_, fun k i hk hi => ?_⟩
  · rw [kCpa_k 11 (by omega), kC4_n i hi]; exact H.1 i hi
  · have hl : i < kLen k := by
      unfold kN at hi
      unfold kLen
      by_cases e0 : k = 0
      · rw [if_pos e0] at hi ⊢; omega
      · rw [if_neg e0] at hi ⊢
        by_cases e1 : k ≤ 3
        · rw [if_pos e1] at hi ⊢; omega
        · rw [if_neg e1] at hi ⊢
          by_cases e2 : k ≤ 6
          · rw [if_pos e2] at hi ⊢; omega
          · rw [if_neg e2] at hi ⊢; omega
    rw [show 3 + 1 + k = 4 + k by omega, kCpa_c hl 11 (by omega) (by omega), kC4_k (by omega), show 16 + k = 15 + 1 + k by omega]
    exact H.2 k i hk hi
/-- the law without which a city is -/
theorem kLc_25 {m : jm} : jo (jf_25 m) (fun r => kLc r 27 kWo ∧ jfr true (fun k j => k = 28 ∨ (k = 27 ∧ j = 1)) m r) := by
  rw [show jf_25 m = some (js (jcp m jwo 28 0 0 7) 27 1 7) from rfl]
  refine ⟨⟨by rw [ja_js1]; exact jwi (by decide) (by decide), fun i hi => ?_⟩, jfr_js (jfr_jcp jfr_r (fun j => Or.inl rfl)) (Or.inr ⟨rfl, rfl⟩)⟩
  have hi' : i < 7 := hi
  rw [ja_jsk (by decide), ja_jcp, if_pos ⟨rfl, Nat.zero_le _, by omega⟩]
  rcases (by omega : i = 0 ∨ i = 1 ∨ i = 2 ∨ i = 3 ∨ i = 4 ∨ i = 5 ∨ i = 6) with rfl | rfl | rfl | rfl | rfl | rfl | rfl <;> rfl
/-- the post as it begins -/
theorem kPc_74 {m : jm} {c : kC} (hv : kV c) (H : kCc m 3 c) : jo (jf_74 0 m) (fun r => kPc (fun j => ja r 48 j) c (kP0 c) ∧ jfr true (fun k _ => k = 48) m r) := by
  have hn := hv.1
  unfold jf_74
  rw [sp_334, jsb]
  show jo (some (jcp (jcp (jcp (jfl m 48 0) ((jfl m 48 0).1 7) 48 0 2 12) ((jcp (jfl m 48 0) ((jfl m 48 0).1 7) 48 0 2 12).1 8) 48 0 26 6) ((jcp (jcp (jfl m 48 0) ((jfl m 48 0).1 7) 48 0 2 12) ((jcp (jfl m 48 0) ((jfl m 48 0).1 7) 48 0 2 12).1 8) 48 0 26 6).1 11) 48 0 44 8)) _
  have rd : ∀ j, j < 52 → ja (jcp (jcp (jcp (jfl m 48 0) ((jfl m 48 0).1 7) 48 0 2 12) ((jcp (jfl m 48 0) ((jfl m 48 0).1 7) 48 0 2 12).1 8) 48 0 26 6) ((jcp (jcp (jfl m 48 0) ((jfl m 48 0).1 7) 48 0 2 12) ((jcp (jfl m 48 0) ((jfl m 48 0).1 7) 48 0 2 12).1 8) 48 0 26 6).1 11) 48 0 44 8) 48 j = if 44 ≤ j then ja m 11 (j - 44) else if 26 ≤ j ∧ j < 32 then ja m 8 (j - 26) else if 2 ≤ j ∧ j < 14 then ja m 7 (j - 2) else 0 := fun j hj => by
    rw [ja_jcp]
    by_cases a : 44 ≤ j
    · rw [if_pos ⟨rfl, a, by omega⟩, if_pos a]
      show ja (jcp (jcp (jfl m 48 0) ((jfl m 48 0).1 7) 48 0 2 12) ((jcp (jfl m 48 0) ((jfl m 48 0).1 7) 48 0 2 12).1 8) 48 0 26 6) 11 (0 + (j - 44)) = _
      rw [ja_jcp, if_neg (by omega), ja_jcp, if_neg (by omega), Nat.zero_add]
      unfold ja jfl; dsimp only; rw [if_neg (by omega)]
    · rw [if_neg (by omega), if_neg a, ja_jcp]
      by_cases b : 26 ≤ j ∧ j < 32
      · rw [if_pos ⟨rfl, b.1, by omega⟩, if_pos b]
        show ja (jcp (jfl m 48 0) ((jfl m 48 0).1 7) 48 0 2 12) 8 (0 + (j - 26)) = _
        rw [ja_jcp, if_neg (by omega), Nat.zero_add]
        unfold ja jfl; dsimp only; rw [if_neg (by omega)]
      · rw [if_neg (by omega), if_neg b, ja_jcp]
        by_cases d : 2 ≤ j ∧ j < 14
        · rw [if_pos ⟨rfl, d.1, by omega⟩, if_pos d]
          show ja (jfl m 48 0) 7 (0 + (j - 2)) = _
          rw [Nat.zero_add]
          unfold ja jfl; dsimp only; rw [if_neg (by omega)]
        · rw [if_neg (by omega), if_neg d]
          show (if 48 = 48 ∧ j < px_ln 48 then Int32.ofInt 0 else m.1 48 j).toInt = 0
          rw [if_pos ⟨rfl, hj⟩]; rfl
  refine ⟨⟨?_, ?_, fun e he => ⟨?_, ?_⟩, fun w hw => ⟨?_, ?_, ?_⟩, fun l hl => ?_⟩, jfr_jcp (jfr_jcp (jfr_jcp ⟨fun k j hk => ?_, fun _ => rfl⟩ (fun _ => rfl)) (fun _ => rfl)) (fun _ => rfl)⟩
  · refine (rd 0 (by omega)).trans ?_; rw [if_neg (by omega), if_neg (by omega), if_neg (by omega)]; rfl
  · refine (rd 1 (by omega)).trans ?_; rw [if_neg (by omega), if_neg (by omega), if_neg (by omega)]; rfl
  · refine (rd (2 + e) (by omega)).trans ?_; rw [if_neg (by omega), if_neg (by omega), if_pos (by omega), show 2 + e - 2 = e by omega]; exact H.2 3 e (by decide) he
  · refine (rd (14 + e) (by omega)).trans ?_; rw [if_neg (by omega), if_neg (by omega), if_neg (by omega)]; rfl
  · refine (rd (26 + w) (by omega)).trans ?_; rw [if_neg (by omega), if_pos (by omega), show 26 + w - 26 = w by omega]; exact H.2 4 w (by decide) hw
  · refine (rd (32 + w) (by omega)).trans ?_; rw [if_neg (by omega), if_neg (by omega), if_neg (by omega)]; rfl
  · refine (rd (38 + w) (by omega)).trans ?_; rw [if_neg (by omega), if_neg (by omega), if_neg (by omega)]; rfl
  · refine (rd (44 + l) (by omega)).trans ?_; rw [if_pos (by omega), show 44 + l - 44 = l by omega]; exact H.2 7 l (by decide) hl
  · show (if k = 48 ∧ j < px_ln 48 then Int32.ofInt 0 else m.1 k j) = m.1 k j
    rw [if_neg (fun z => hk z.1)]
