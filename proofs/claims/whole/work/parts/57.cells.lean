/-! CELLS: one cell of a post is written, in the class and in the model. -/
theorem kK_p {q : Nat} {m m' : jm} {c : kC} {p p' : kP} {cl : List Int} (H : kK q m c p cl) (hv : kVp c p') (hr : ∀ k j, k < 48 → ja m' k j = ja m k j) (hp : kPc (fun j => ja m' (48 + q) j) c p') : kK q m' c p' cl := by
  obtain ⟨h1, h2, h3, h4, h5, h6⟩ := H
  refine ⟨h1, hv, h3, ⟨fun i hi => by rw [hr _ _ (by omega)]; exact h4.1 i hi, fun k i hk hi => by rw [hr _ _ (by omega)]; exact h4.2 k i hk hi⟩, hp, ⟨by rw [hr _ _ (by omega)]; exact h6.1, fun i hi => by rw [hr _ _ (by omega)]; exact h6.2 i hi⟩⟩
theorem kM_p {m m' : jm} {c : kC} {p p' : kP} {cl : List Int} (H : kM m c p cl) (hv : kVp c p') (hr : ∀ k j, k ≠ 89 → ja m' k j = ja m k j) (hp : kPm (fun j => ja m' 89 j) c p') : kM m' c p' cl := by
  obtain ⟨h1, h2, h3, h4, h5, h6⟩ := H
  have r : ∀ k j, k < 89 → ja m' k j = ja m k j := fun k j h => hr k j (by omega)
  refine ⟨h1, hv, h3, ⟨fun i hi => by rw [r _ _ (by omega)]; exact h4.1 i hi, fun i hi => by rw [r _ _ (by omega)]; exact h4.2.1 i hi, fun i hi => by rw [r _ _ (by omega), r _ _ (by omega), r _ _ (by omega)]; exact h4.2.2.1 i hi, fun i hi => by rw [r _ _ (by omega), r _ _ (by omega), r _ _ (by omega)]; exact h4.2.2.2.1 i hi, fun i hi => by rw [r _ _ (by omega), r _ _ (by omega), r _ _ (by omega), r _ _ (by omega)]; exact h4.2.2.2.2 i hi⟩, hp, ?_⟩
  unfold kLm at *
  simp only [r 67 _ (show (67 : Nat) < 89 by decide), r 82 _ (show (82 : Nat) < 89 by decide), r 83 _ (show (83 : Nat) < 89 by decide)]
  exact h6
theorem ja_f1 {m : jm} {k i : Nat} {x : Int} : (fun j => ja (js m k i x) k j) = (fun j => if j = i then jw x else ja m k j) := funext fun j => by
  rw [ja_js]
  by_cases h : j = i
  · rw [if_pos ⟨rfl, h⟩, if_pos h]
  · rw [if_neg (fun e => h e.2), if_neg h]
theorem kPc_u0 {f : Nat → Int} {c : kC} {p : kP} {i : Nat} {x : Int} (hn : c 11 1 ≤ 12 ∧ c 11 2 ≤ 6) (hi : i < 12) (h : kPc f c p) : kPc (fun j => if j = 2 + i then x else f j) c (kU p 0 i x) := by
  obtain ⟨h1, h2, h3, h4, h5⟩ := h
  refine ⟨?_, ?_, fun t ht => ⟨?_, ?_⟩, fun t ht => ⟨?_, ?_, ?_⟩, fun t ht => ?_⟩
  · show (if 0 = 2 + i then x else f (0)) = kU p 0 i x 8 0
    unfold kU
    by_cases e : 0 = 2 + i
    · rw [if_pos e, if_pos (show (8 : Nat) = 0 ∧ 0 = i by omega)]
    · rw [if_neg e, if_neg (show ¬ ((8 : Nat) = 0 ∧ 0 = i) by omega)]; exact h1
  · show (if 1 = 2 + i then x else f (1)) = kU p 0 i x 8 1
    unfold kU
    by_cases e : 1 = 2 + i
    · rw [if_pos e, if_pos (show (8 : Nat) = 0 ∧ 1 = i by omega)]
    · rw [if_neg e, if_neg (show ¬ ((8 : Nat) = 0 ∧ 1 = i) by omega)]; exact h2
  · show (if 2 + t = 2 + i then x else f (2 + t)) = kU p 0 i x 0 t
    unfold kU
    by_cases e : 2 + t = 2 + i
    · rw [if_pos e, if_pos (show (0 : Nat) = 0 ∧ t = i by omega)]
    · rw [if_neg e, if_neg (show ¬ ((0 : Nat) = 0 ∧ t = i) by omega)]; exact (h3 t ht).1
  · show (if 14 + t = 2 + i then x else f (14 + t)) = kU p 0 i x 1 t
    unfold kU
    by_cases e : 14 + t = 2 + i
    · rw [if_pos e, if_pos (show (1 : Nat) = 0 ∧ t = i by omega)]
    · rw [if_neg e, if_neg (show ¬ ((1 : Nat) = 0 ∧ t = i) by omega)]; exact (h3 t ht).2
  · show (if 26 + t = 2 + i then x else f (26 + t)) = kU p 0 i x 2 t
    unfold kU
    by_cases e : 26 + t = 2 + i
    · rw [if_pos e, if_pos (show (2 : Nat) = 0 ∧ t = i by omega)]
    · rw [if_neg e, if_neg (show ¬ ((2 : Nat) = 0 ∧ t = i) by omega)]; exact (h4 t ht).1
  · show (if 32 + t = 2 + i then x else f (32 + t)) = kU p 0 i x 3 t
    unfold kU
    by_cases e : 32 + t = 2 + i
    · rw [if_pos e, if_pos (show (3 : Nat) = 0 ∧ t = i by omega)]
    · rw [if_neg e, if_neg (show ¬ ((3 : Nat) = 0 ∧ t = i) by omega)]; exact (h4 t ht).2.1
  · show (if 38 + t = 2 + i then x else f (38 + t)) = kU p 0 i x 4 t
    unfold kU
    by_cases e : 38 + t = 2 + i
    · rw [if_pos e, if_pos (show (4 : Nat) = 0 ∧ t = i by omega)]
    · rw [if_neg e, if_neg (show ¬ ((4 : Nat) = 0 ∧ t = i) by omega)]; exact (h4 t ht).2.2
  · show (if 44 + t = 2 + i then x else f (44 + t)) = kLt (kU p 0 i x) t
    unfold kLt
    rw [if_neg (show ¬ 44 + t = 2 + i by omega), kU_a (show (7 : Nat) ≠ 0 by decide), kU_a (show (6 : Nat) ≠ 0 by decide), kU_a (show (5 : Nat) ≠ 0 by decide)]
    exact h5 t ht
theorem kK_u0 {q : Nat} {m : jm} {c : kC} {p : kP} {cl : List Int} {i : Nat} {x : Int} (H : kK q m c p cl) (hi : i < 12) (hv : kVp c (kU p 0 i (jw x))) : kK q (js m (48 + q) (2 + i) x) c (kU p 0 i (jw x)) cl := by
  refine kK_p H hv (fun k j hk => ja_jsk (by omega)) ?_
  rw [ja_f1]
  exact kPc_u0 ⟨H.1.1.2.1, H.1.1.2.2.1⟩ hi H.2.2.2.2.1
theorem kPc_u1 {f : Nat → Int} {c : kC} {p : kP} {i : Nat} {x : Int} (hn : c 11 1 ≤ 12 ∧ c 11 2 ≤ 6) (hi : i < 12) (h : kPc f c p) : kPc (fun j => if j = 14 + i then x else f j) c (kU p 1 i x) := by
  obtain ⟨h1, h2, h3, h4, h5⟩ := h
  refine ⟨?_, ?_, fun t ht => ⟨?_, ?_⟩, fun t ht => ⟨?_, ?_, ?_⟩, fun t ht => ?_⟩
  · show (if 0 = 14 + i then x else f (0)) = kU p 1 i x 8 0
    unfold kU
    by_cases e : 0 = 14 + i
    · rw [if_pos e, if_pos (show (8 : Nat) = 1 ∧ 0 = i by omega)]
    · rw [if_neg e, if_neg (show ¬ ((8 : Nat) = 1 ∧ 0 = i) by omega)]; exact h1
  · show (if 1 = 14 + i then x else f (1)) = kU p 1 i x 8 1
    unfold kU
    by_cases e : 1 = 14 + i
    · rw [if_pos e, if_pos (show (8 : Nat) = 1 ∧ 1 = i by omega)]
    · rw [if_neg e, if_neg (show ¬ ((8 : Nat) = 1 ∧ 1 = i) by omega)]; exact h2
  · show (if 2 + t = 14 + i then x else f (2 + t)) = kU p 1 i x 0 t
    unfold kU
    by_cases e : 2 + t = 14 + i
    · rw [if_pos e, if_pos (show (0 : Nat) = 1 ∧ t = i by omega)]
    · rw [if_neg e, if_neg (show ¬ ((0 : Nat) = 1 ∧ t = i) by omega)]; exact (h3 t ht).1
  · show (if 14 + t = 14 + i then x else f (14 + t)) = kU p 1 i x 1 t
    unfold kU
    by_cases e : 14 + t = 14 + i
    · rw [if_pos e, if_pos (show (1 : Nat) = 1 ∧ t = i by omega)]
    · rw [if_neg e, if_neg (show ¬ ((1 : Nat) = 1 ∧ t = i) by omega)]; exact (h3 t ht).2
  · show (if 26 + t = 14 + i then x else f (26 + t)) = kU p 1 i x 2 t
    unfold kU
    by_cases e : 26 + t = 14 + i
    · rw [if_pos e, if_pos (show (2 : Nat) = 1 ∧ t = i by omega)]
    · rw [if_neg e, if_neg (show ¬ ((2 : Nat) = 1 ∧ t = i) by omega)]; exact (h4 t ht).1
  · show (if 32 + t = 14 + i then x else f (32 + t)) = kU p 1 i x 3 t
    unfold kU
    by_cases e : 32 + t = 14 + i
    · rw [if_pos e, if_pos (show (3 : Nat) = 1 ∧ t = i by omega)]
    · rw [if_neg e, if_neg (show ¬ ((3 : Nat) = 1 ∧ t = i) by omega)]; exact (h4 t ht).2.1
  · show (if 38 + t = 14 + i then x else f (38 + t)) = kU p 1 i x 4 t
    unfold kU
    by_cases e : 38 + t = 14 + i
    · rw [if_pos e, if_pos (show (4 : Nat) = 1 ∧ t = i by omega)]
    · rw [if_neg e, if_neg (show ¬ ((4 : Nat) = 1 ∧ t = i) by omega)]; exact (h4 t ht).2.2
  · show (if 44 + t = 14 + i then x else f (44 + t)) = kLt (kU p 1 i x) t
    unfold kLt
    rw [if_neg (show ¬ 44 + t = 14 + i by omega), kU_a (show (7 : Nat) ≠ 1 by decide), kU_a (show (6 : Nat) ≠ 1 by decide), kU_a (show (5 : Nat) ≠ 1 by decide)]
    exact h5 t ht
theorem kK_u1 {q : Nat} {m : jm} {c : kC} {p : kP} {cl : List Int} {i : Nat} {x : Int} (H : kK q m c p cl) (hi : i < 12) (hv : kVp c (kU p 1 i (jw x))) : kK q (js m (48 + q) (14 + i) x) c (kU p 1 i (jw x)) cl := by
  refine kK_p H hv (fun k j hk => ja_jsk (by omega)) ?_
  rw [ja_f1]
  exact kPc_u1 ⟨H.1.1.2.1, H.1.1.2.2.1⟩ hi H.2.2.2.2.1
theorem kPc_u2 {f : Nat → Int} {c : kC} {p : kP} {i : Nat} {x : Int} (hn : c 11 1 ≤ 12 ∧ c 11 2 ≤ 6) (hi : i < 6) (h : kPc f c p) : kPc (fun j => if j = 26 + i then x else f j) c (kU p 2 i x) := by
  obtain ⟨h1, h2, h3, h4, h5⟩ := h
  refine ⟨?_, ?_, fun t ht => ⟨?_, ?_⟩, fun t ht => ⟨?_, ?_, ?_⟩, fun t ht => ?_⟩
  · show (if 0 = 26 + i then x else f (0)) = kU p 2 i x 8 0
    unfold kU
    by_cases e : 0 = 26 + i
    · rw [if_pos e, if_pos (show (8 : Nat) = 2 ∧ 0 = i by omega)]
    · rw [if_neg e, if_neg (show ¬ ((8 : Nat) = 2 ∧ 0 = i) by omega)]; exact h1
  · show (if 1 = 26 + i then x else f (1)) = kU p 2 i x 8 1
    unfold kU
    by_cases e : 1 = 26 + i
    · rw [if_pos e, if_pos (show (8 : Nat) = 2 ∧ 1 = i by omega)]
    · rw [if_neg e, if_neg (show ¬ ((8 : Nat) = 2 ∧ 1 = i) by omega)]; exact h2
  · show (if 2 + t = 26 + i then x else f (2 + t)) = kU p 2 i x 0 t
    unfold kU
    by_cases e : 2 + t = 26 + i
    · rw [if_pos e, if_pos (show (0 : Nat) = 2 ∧ t = i by omega)]
    · rw [if_neg e, if_neg (show ¬ ((0 : Nat) = 2 ∧ t = i) by omega)]; exact (h3 t ht).1
  · show (if 14 + t = 26 + i then x else f (14 + t)) = kU p 2 i x 1 t
    unfold kU
    by_cases e : 14 + t = 26 + i
    · rw [if_pos e, if_pos (show (1 : Nat) = 2 ∧ t = i by omega)]
    · rw [if_neg e, if_neg (show ¬ ((1 : Nat) = 2 ∧ t = i) by omega)]; exact (h3 t ht).2
  · show (if 26 + t = 26 + i then x else f (26 + t)) = kU p 2 i x 2 t
    unfold kU
    by_cases e : 26 + t = 26 + i
    · rw [if_pos e, if_pos (show (2 : Nat) = 2 ∧ t = i by omega)]
    · rw [if_neg e, if_neg (show ¬ ((2 : Nat) = 2 ∧ t = i) by omega)]; exact (h4 t ht).1
  · show (if 32 + t = 26 + i then x else f (32 + t)) = kU p 2 i x 3 t
    unfold kU
    by_cases e : 32 + t = 26 + i
    · rw [if_pos e, if_pos (show (3 : Nat) = 2 ∧ t = i by omega)]
    · rw [if_neg e, if_neg (show ¬ ((3 : Nat) = 2 ∧ t = i) by omega)]; exact (h4 t ht).2.1
  · show (if 38 + t = 26 + i then x else f (38 + t)) = kU p 2 i x 4 t
    unfold kU
    by_cases e : 38 + t = 26 + i
    · rw [if_pos e, if_pos (show (4 : Nat) = 2 ∧ t = i by omega)]
    · rw [if_neg e, if_neg (show ¬ ((4 : Nat) = 2 ∧ t = i) by omega)]; exact (h4 t ht).2.2
  · show (if 44 + t = 26 + i then x else f (44 + t)) = kLt (kU p 2 i x) t
    unfold kLt
    rw [if_neg (show ¬ 44 + t = 26 + i by omega), kU_a (show (7 : Nat) ≠ 2 by decide), kU_a (show (6 : Nat) ≠ 2 by decide), kU_a (show (5 : Nat) ≠ 2 by decide)]
    exact h5 t ht
theorem kK_u2 {q : Nat} {m : jm} {c : kC} {p : kP} {cl : List Int} {i : Nat} {x : Int} (H : kK q m c p cl) (hi : i < 6) (hv : kVp c (kU p 2 i (jw x))) : kK q (js m (48 + q) (26 + i) x) c (kU p 2 i (jw x)) cl := by
  refine kK_p H hv (fun k j hk => ja_jsk (by omega)) ?_
  rw [ja_f1]
  exact kPc_u2 ⟨H.1.1.2.1, H.1.1.2.2.1⟩ hi H.2.2.2.2.1
theorem kPc_u3 {f : Nat → Int} {c : kC} {p : kP} {i : Nat} {x : Int} (hn : c 11 1 ≤ 12 ∧ c 11 2 ≤ 6) (hi : i < 6) (h : kPc f c p) : kPc (fun j => if j = 32 + i then x else f j) c (kU p 3 i x) := by
  obtain ⟨h1, h2, h3, h4, h5⟩ := h
  refine ⟨?_, ?_, fun t ht => ⟨?_, ?_⟩, fun t ht => ⟨?_, ?_, ?_⟩, fun t ht => ?_⟩
  · show (if 0 = 32 + i then x else f (0)) = kU p 3 i x 8 0
    unfold kU
    by_cases e : 0 = 32 + i
    · rw [if_pos e, if_pos (show (8 : Nat) = 3 ∧ 0 = i by omega)]
    · rw [if_neg e, if_neg (show ¬ ((8 : Nat) = 3 ∧ 0 = i) by omega)]; exact h1
  · show (if 1 = 32 + i then x else f (1)) = kU p 3 i x 8 1
    unfold kU
    by_cases e : 1 = 32 + i
    · rw [if_pos e, if_pos (show (8 : Nat) = 3 ∧ 1 = i by omega)]
    · rw [if_neg e, if_neg (show ¬ ((8 : Nat) = 3 ∧ 1 = i) by omega)]; exact h2
  · show (if 2 + t = 32 + i then x else f (2 + t)) = kU p 3 i x 0 t
    unfold kU
    by_cases e : 2 + t = 32 + i
    · rw [if_pos e, if_pos (show (0 : Nat) = 3 ∧ t = i by omega)]
    · rw [if_neg e, if_neg (show ¬ ((0 : Nat) = 3 ∧ t = i) by omega)]; exact (h3 t ht).1
  · show (if 14 + t = 32 + i then x else f (14 + t)) = kU p 3 i x 1 t
    unfold kU
    by_cases e : 14 + t = 32 + i
    · rw [if_pos e, if_pos (show (1 : Nat) = 3 ∧ t = i by omega)]
    · rw [if_neg e, if_neg (show ¬ ((1 : Nat) = 3 ∧ t = i) by omega)]; exact (h3 t ht).2
  · show (if 26 + t = 32 + i then x else f (26 + t)) = kU p 3 i x 2 t
    unfold kU
    by_cases e : 26 + t = 32 + i
    · rw [if_pos e, if_pos (show (2 : Nat) = 3 ∧ t = i by omega)]
    · rw [if_neg e, if_neg (show ¬ ((2 : Nat) = 3 ∧ t = i) by omega)]; exact (h4 t ht).1
  · show (if 32 + t = 32 + i then x else f (32 + t)) = kU p 3 i x 3 t
    unfold kU
    by_cases e : 32 + t = 32 + i
    · rw [if_pos e, if_pos (show (3 : Nat) = 3 ∧ t = i by omega)]
    · rw [if_neg e, if_neg (show ¬ ((3 : Nat) = 3 ∧ t = i) by omega)]; exact (h4 t ht).2.1
  · show (if 38 + t = 32 + i then x else f (38 + t)) = kU p 3 i x 4 t
    unfold kU
    by_cases e : 38 + t = 32 + i
    · rw [if_pos e, if_pos (show (4 : Nat) = 3 ∧ t = i by omega)]
    · rw [if_neg e, if_neg (show ¬ ((4 : Nat) = 3 ∧ t = i) by omega)]; exact (h4 t ht).2.2
  · show (if 44 + t = 32 + i then x else f (44 + t)) = kLt (kU p 3 i x) t
    unfold kLt
    rw [if_neg (show ¬ 44 + t = 32 + i by omega), kU_a (show (7 : Nat) ≠ 3 by decide), kU_a (show (6 : Nat) ≠ 3 by decide), kU_a (show (5 : Nat) ≠ 3 by decide)]
    exact h5 t ht
theorem kK_u3 {q : Nat} {m : jm} {c : kC} {p : kP} {cl : List Int} {i : Nat} {x : Int} (H : kK q m c p cl) (hi : i < 6) (hv : kVp c (kU p 3 i (jw x))) : kK q (js m (48 + q) (32 + i) x) c (kU p 3 i (jw x)) cl := by
  refine kK_p H hv (fun k j hk => ja_jsk (by omega)) ?_
  rw [ja_f1]
  exact kPc_u3 ⟨H.1.1.2.1, H.1.1.2.2.1⟩ hi H.2.2.2.2.1
theorem kPc_u4 {f : Nat → Int} {c : kC} {p : kP} {i : Nat} {x : Int} (hn : c 11 1 ≤ 12 ∧ c 11 2 ≤ 6) (hi : i < 6) (h : kPc f c p) : kPc (fun j => if j = 38 + i then x else f j) c (kU p 4 i x) := by
  obtain ⟨h1, h2, h3, h4, h5⟩ := h
  refine ⟨?_, ?_, fun t ht => ⟨?_, ?_⟩, fun t ht => ⟨?_, ?_, ?_⟩, fun t ht => ?_⟩
  · show (if 0 = 38 + i then x else f (0)) = kU p 4 i x 8 0
    unfold kU
    by_cases e : 0 = 38 + i
    · rw [if_pos e, if_pos (show (8 : Nat) = 4 ∧ 0 = i by omega)]
    · rw [if_neg e, if_neg (show ¬ ((8 : Nat) = 4 ∧ 0 = i) by omega)]; exact h1
  · show (if 1 = 38 + i then x else f (1)) = kU p 4 i x 8 1
    unfold kU
    by_cases e : 1 = 38 + i
    · rw [if_pos e, if_pos (show (8 : Nat) = 4 ∧ 1 = i by omega)]
    · rw [if_neg e, if_neg (show ¬ ((8 : Nat) = 4 ∧ 1 = i) by omega)]; exact h2
  · show (if 2 + t = 38 + i then x else f (2 + t)) = kU p 4 i x 0 t
    unfold kU
    by_cases e : 2 + t = 38 + i
    · rw [if_pos e, if_pos (show (0 : Nat) = 4 ∧ t = i by omega)]
    · rw [if_neg e, if_neg (show ¬ ((0 : Nat) = 4 ∧ t = i) by omega)]; exact (h3 t ht).1
  · show (if 14 + t = 38 + i then x else f (14 + t)) = kU p 4 i x 1 t
    unfold kU
    by_cases e : 14 + t = 38 + i
    · rw [if_pos e, if_pos (show (1 : Nat) = 4 ∧ t = i by omega)]
    · rw [if_neg e, if_neg (show ¬ ((1 : Nat) = 4 ∧ t = i) by omega)]; exact (h3 t ht).2
  · show (if 26 + t = 38 + i then x else f (26 + t)) = kU p 4 i x 2 t
    unfold kU
    by_cases e : 26 + t = 38 + i
    · rw [if_pos e, if_pos (show (2 : Nat) = 4 ∧ t = i by omega)]
    · rw [if_neg e, if_neg (show ¬ ((2 : Nat) = 4 ∧ t = i) by omega)]; exact (h4 t ht).1
  · show (if 32 + t = 38 + i then x else f (32 + t)) = kU p 4 i x 3 t
    unfold kU
    by_cases e : 32 + t = 38 + i
    · rw [if_pos e, if_pos (show (3 : Nat) = 4 ∧ t = i by omega)]
    · rw [if_neg e, if_neg (show ¬ ((3 : Nat) = 4 ∧ t = i) by omega)]; exact (h4 t ht).2.1
  · show (if 38 + t = 38 + i then x else f (38 + t)) = kU p 4 i x 4 t
    unfold kU
    by_cases e : 38 + t = 38 + i
    · rw [if_pos e, if_pos (show (4 : Nat) = 4 ∧ t = i by omega)]
    · rw [if_neg e, if_neg (show ¬ ((4 : Nat) = 4 ∧ t = i) by omega)]; exact (h4 t ht).2.2
  · show (if 44 + t = 38 + i then x else f (44 + t)) = kLt (kU p 4 i x) t
    unfold kLt
    rw [if_neg (show ¬ 44 + t = 38 + i by omega), kU_a (show (7 : Nat) ≠ 4 by decide), kU_a (show (6 : Nat) ≠ 4 by decide), kU_a (show (5 : Nat) ≠ 4 by decide)]
    exact h5 t ht
theorem kK_u4 {q : Nat} {m : jm} {c : kC} {p : kP} {cl : List Int} {i : Nat} {x : Int} (H : kK q m c p cl) (hi : i < 6) (hv : kVp c (kU p 4 i (jw x))) : kK q (js m (48 + q) (38 + i) x) c (kU p 4 i (jw x)) cl := by
  refine kK_p H hv (fun k j hk => ja_jsk (by omega)) ?_
  rw [ja_f1]
  exact kPc_u4 ⟨H.1.1.2.1, H.1.1.2.2.1⟩ hi H.2.2.2.2.1
theorem kPc_u8 {f : Nat → Int} {c : kC} {p : kP} {i : Nat} {x : Int} (hn : c 11 1 ≤ 12 ∧ c 11 2 ≤ 6) (hi : i < 2) (h : kPc f c p) : kPc (fun j => if j = i then x else f j) c (kU p 8 i x) := by
  obtain ⟨h1, h2, h3, h4, h5⟩ := h
  refine ⟨?_, ?_, fun t ht => ⟨?_, ?_⟩, fun t ht => ⟨?_, ?_, ?_⟩, fun t ht => ?_⟩
  · show (if 0 = i then x else f (0)) = kU p 8 i x 8 0
    unfold kU
    by_cases e : 0 = i
    · rw [if_pos e, if_pos (show (8 : Nat) = 8 ∧ 0 = i by omega)]
    · rw [if_neg e, if_neg (show ¬ ((8 : Nat) = 8 ∧ 0 = i) by omega)]; exact h1
  · show (if 1 = i then x else f (1)) = kU p 8 i x 8 1
    unfold kU
    by_cases e : 1 = i
    · rw [if_pos e, if_pos (show (8 : Nat) = 8 ∧ 1 = i by omega)]
    · rw [if_neg e, if_neg (show ¬ ((8 : Nat) = 8 ∧ 1 = i) by omega)]; exact h2
  · show (if 2 + t = i then x else f (2 + t)) = kU p 8 i x 0 t
    unfold kU
    by_cases e : 2 + t = i
    · rw [if_pos e, if_pos (show (0 : Nat) = 8 ∧ t = i by omega)]
    · rw [if_neg e, if_neg (show ¬ ((0 : Nat) = 8 ∧ t = i) by omega)]; exact (h3 t ht).1
  · show (if 14 + t = i then x else f (14 + t)) = kU p 8 i x 1 t
    unfold kU
    by_cases e : 14 + t = i
    · rw [if_pos e, if_pos (show (1 : Nat) = 8 ∧ t = i by omega)]
    · rw [if_neg e, if_neg (show ¬ ((1 : Nat) = 8 ∧ t = i) by omega)]; exact (h3 t ht).2
  · show (if 26 + t = i then x else f (26 + t)) = kU p 8 i x 2 t
    unfold kU
    by_cases e : 26 + t = i
    · rw [if_pos e, if_pos (show (2 : Nat) = 8 ∧ t = i by omega)]
    · rw [if_neg e, if_neg (show ¬ ((2 : Nat) = 8 ∧ t = i) by omega)]; exact (h4 t ht).1
  · show (if 32 + t = i then x else f (32 + t)) = kU p 8 i x 3 t
    unfold kU
    by_cases e : 32 + t = i
    · rw [if_pos e, if_pos (show (3 : Nat) = 8 ∧ t = i by omega)]
    · rw [if_neg e, if_neg (show ¬ ((3 : Nat) = 8 ∧ t = i) by omega)]; exact (h4 t ht).2.1
  · show (if 38 + t = i then x else f (38 + t)) = kU p 8 i x 4 t
    unfold kU
    by_cases e : 38 + t = i
    · rw [if_pos e, if_pos (show (4 : Nat) = 8 ∧ t = i by omega)]
    · rw [if_neg e, if_neg (show ¬ ((4 : Nat) = 8 ∧ t = i) by omega)]; exact (h4 t ht).2.2
  · show (if 44 + t = i then x else f (44 + t)) = kLt (kU p 8 i x) t
    unfold kLt
    rw [if_neg (show ¬ 44 + t = i by omega), kU_a (show (7 : Nat) ≠ 8 by decide), kU_a (show (6 : Nat) ≠ 8 by decide), kU_a (show (5 : Nat) ≠ 8 by decide)]
    exact h5 t ht
theorem kK_u8 {q : Nat} {m : jm} {c : kC} {p : kP} {cl : List Int} {i : Nat} {x : Int} (H : kK q m c p cl) (hi : i < 2) (hv : kVp c (kU p 8 i (jw x))) : kK q (js m (48 + q) (i) x) c (kU p 8 i (jw x)) cl := by
  refine kK_p H hv (fun k j hk => ja_jsk (by omega)) ?_
  rw [ja_f1]
  exact kPc_u8 ⟨H.1.1.2.1, H.1.1.2.2.1⟩ hi H.2.2.2.2.1
theorem kK_ul {q : Nat} {m : jm} {c : kC} {p p' : kP} {cl : List Int} {l : Nat} {x : Int} (H : kK q m c p cl) (hv : kVp c p') (hp : ∀ b j, ¬ (j = l ∧ (b = 5 ∨ b = 6 ∨ b = 7)) → p' b j = p b j) (hx : jw x = kLt p' l) : kK q (js m (48 + q) (44 + l) x) c p' cl := by
  refine kK_p H hv (fun k j hk => ja_jsk (by omega)) ?_
  rw [ja_f1]
  obtain ⟨h1, h2, h3, h4, h5⟩ := H.2.2.2.2.1
  have hn := H.1.1
  refine ⟨?_, ?_, fun t ht => ⟨?_, ?_⟩, fun t ht => ⟨?_, ?_, ?_⟩, fun t ht => ?_⟩
  · show (if 0 = 44 + l then jw x else ja m (48 + q) 0) = p' 8 0
    rw [if_neg (by omega), hp 8 0 (by omega)]; exact h1
  · show (if 1 = 44 + l then jw x else ja m (48 + q) 1) = p' 8 1
    rw [if_neg (by omega), hp 8 1 (by omega)]; exact h2
  · show (if 2 + t = 44 + l then jw x else ja m (48 + q) (2 + t)) = p' 0 t
    rw [if_neg (by omega), hp 0 t (by omega)]; exact (h3 t ht).1
  · show (if 14 + t = 44 + l then jw x else ja m (48 + q) (14 + t)) = p' 1 t
    rw [if_neg (by omega), hp 1 t (by omega)]; exact (h3 t ht).2
  · show (if 26 + t = 44 + l then jw x else ja m (48 + q) (26 + t)) = p' 2 t
    rw [if_neg (by omega), hp 2 t (by omega)]; exact (h4 t ht).1
  · show (if 32 + t = 44 + l then jw x else ja m (48 + q) (32 + t)) = p' 3 t
    rw [if_neg (by omega), hp 3 t (by omega)]; exact (h4 t ht).2.1
  · show (if 38 + t = 44 + l then jw x else ja m (48 + q) (38 + t)) = p' 4 t
    rw [if_neg (by omega), hp 4 t (by omega)]; exact (h4 t ht).2.2
  · show (if 44 + t = 44 + l then jw x else ja m (48 + q) (44 + t)) = kLt p' t
    by_cases e : t = l
    · rw [if_pos (by omega), e]; exact hx
    · rw [if_neg (by omega), show kLt p' t = kLt p t by unfold kLt; rw [hp 7 t (by omega), hp 6 t (by omega), hp 5 t (by omega)]]; exact h5 t ht
theorem kPm_u0 {f : Nat → Int} {c : kC} {p : kP} {i : Nat} {x : Int} (hn : c 11 1 ≤ 12 ∧ c 11 2 ≤ 6 ∧ c 11 3 ≤ 8) (hi : i < 12) (h : kPm f c p) : kPm (fun j => if j = i then x else f j) c (kU p 0 i x) := by
  obtain ⟨h1, h2, h3, h4, h5⟩ := h
  refine ⟨?_, ?_, fun t ht => ⟨?_, ?_⟩, fun t ht => ⟨?_, ?_, ?_⟩, fun t ht => ⟨?_, ?_, ?_⟩⟩
  · show (if 66 = i then x else f (66)) = kU p 0 i x 8 0
    unfold kU
    by_cases e : 66 = i
    · rw [if_pos e, if_pos (show (8 : Nat) = 0 ∧ 0 = i by omega)]
    · rw [if_neg e, if_neg (show ¬ ((8 : Nat) = 0 ∧ 0 = i) by omega)]; exact h1
  · show (if 67 = i then x else f (67)) = kU p 0 i x 8 1
    unfold kU
    by_cases e : 67 = i
    · rw [if_pos e, if_pos (show (8 : Nat) = 0 ∧ 1 = i by omega)]
    · rw [if_neg e, if_neg (show ¬ ((8 : Nat) = 0 ∧ 1 = i) by omega)]; exact h2
  · show (if t = i then x else f (t)) = kU p 0 i x 0 t
    unfold kU
    by_cases e : t = i
    · rw [if_pos e, if_pos (show (0 : Nat) = 0 ∧ t = i by omega)]
    · rw [if_neg e, if_neg (show ¬ ((0 : Nat) = 0 ∧ t = i) by omega)]; exact (h3 t ht).1
  · show (if 12 + t = i then x else f (12 + t)) = kU p 0 i x 1 t
    unfold kU
    by_cases e : 12 + t = i
    · rw [if_pos e, if_pos (show (1 : Nat) = 0 ∧ t = i by omega)]
    · rw [if_neg e, if_neg (show ¬ ((1 : Nat) = 0 ∧ t = i) by omega)]; exact (h3 t ht).2
  · show (if 24 + t = i then x else f (24 + t)) = kU p 0 i x 2 t
    unfold kU
    by_cases e : 24 + t = i
    · rw [if_pos e, if_pos (show (2 : Nat) = 0 ∧ t = i by omega)]
    · rw [if_neg e, if_neg (show ¬ ((2 : Nat) = 0 ∧ t = i) by omega)]; exact (h4 t ht).1
  · show (if 30 + t = i then x else f (30 + t)) = kU p 0 i x 3 t
    unfold kU
    by_cases e : 30 + t = i
    · rw [if_pos e, if_pos (show (3 : Nat) = 0 ∧ t = i by omega)]
    · rw [if_neg e, if_neg (show ¬ ((3 : Nat) = 0 ∧ t = i) by omega)]; exact (h4 t ht).2.1
  · show (if 36 + t = i then x else f (36 + t)) = kU p 0 i x 4 t
    unfold kU
    by_cases e : 36 + t = i
    · rw [if_pos e, if_pos (show (4 : Nat) = 0 ∧ t = i by omega)]
    · rw [if_neg e, if_neg (show ¬ ((4 : Nat) = 0 ∧ t = i) by omega)]; exact (h4 t ht).2.2
  · show (if 42 + t = i then x else f (42 + t)) = kU p 0 i x 5 t
    unfold kU
    by_cases e : 42 + t = i
    · rw [if_pos e, if_pos (show (5 : Nat) = 0 ∧ t = i by omega)]
    · rw [if_neg e, if_neg (show ¬ ((5 : Nat) = 0 ∧ t = i) by omega)]; exact (h5 t ht).1
  · show (if 50 + t = i then x else f (50 + t)) = kU p 0 i x 6 t
    unfold kU
    by_cases e : 50 + t = i
    · rw [if_pos e, if_pos (show (6 : Nat) = 0 ∧ t = i by omega)]
    · rw [if_neg e, if_neg (show ¬ ((6 : Nat) = 0 ∧ t = i) by omega)]; exact (h5 t ht).2.1
  · show (if 58 + t = i then x else f (58 + t)) = kU p 0 i x 7 t
    unfold kU
    by_cases e : 58 + t = i
    · rw [if_pos e, if_pos (show (7 : Nat) = 0 ∧ t = i by omega)]
    · rw [if_neg e, if_neg (show ¬ ((7 : Nat) = 0 ∧ t = i) by omega)]; exact (h5 t ht).2.2
theorem kPm_j0 {m : jm} {c : kC} {p : kP} {i : Nat} {x : Int} (hv : kV c) (hi : i < 12) (h : kPm (fun j => ja m 89 j) c p) : kPm (fun j => ja (js m 89 (i) x) 89 j) c (kU p 0 i (jw x)) := by
  rw [ja_f1]
  exact kPm_u0 ⟨hv.1.2.1, hv.1.2.2.1, hv.1.2.2.2⟩ hi h
theorem kM_u0 {m : jm} {c : kC} {p : kP} {cl : List Int} {i : Nat} {x : Int} (H : kM m c p cl) (hi : i < 12) (hv : kVp c (kU p 0 i (jw x))) : kM (js m 89 (i) x) c (kU p 0 i (jw x)) cl := kM_p H hv (fun k j hk => ja_jsk hk) (kPm_j0 H.1 hi H.2.2.2.2.1)
theorem kPm_u1 {f : Nat → Int} {c : kC} {p : kP} {i : Nat} {x : Int} (hn : c 11 1 ≤ 12 ∧ c 11 2 ≤ 6 ∧ c 11 3 ≤ 8) (hi : i < 12) (h : kPm f c p) : kPm (fun j => if j = 12 + i then x else f j) c (kU p 1 i x) := by
  obtain ⟨h1, h2, h3, h4, h5⟩ := h
  refine ⟨?_, ?_, fun t ht => ⟨?_, ?_⟩, fun t ht => ⟨?_, ?_, ?_⟩, fun t ht => ⟨?_, ?_, ?_⟩⟩
  · show (if 66 = 12 + i then x else f (66)) = kU p 1 i x 8 0
    unfold kU
    by_cases e : 66 = 12 + i
    · rw [if_pos e, if_pos (show (8 : Nat) = 1 ∧ 0 = i by omega)]
    · rw [if_neg e, if_neg (show ¬ ((8 : Nat) = 1 ∧ 0 = i) by omega)]; exact h1
  · show (if 67 = 12 + i then x else f (67)) = kU p 1 i x 8 1
    unfold kU
    by_cases e : 67 = 12 + i
    · rw [if_pos e, if_pos (show (8 : Nat) = 1 ∧ 1 = i by omega)]
    · rw [if_neg e, if_neg (show ¬ ((8 : Nat) = 1 ∧ 1 = i) by omega)]; exact h2
  · show (if t = 12 + i then x else f (t)) = kU p 1 i x 0 t
    unfold kU
    by_cases e : t = 12 + i
    · rw [if_pos e, if_pos (show (0 : Nat) = 1 ∧ t = i by omega)]
    · rw [if_neg e, if_neg (show ¬ ((0 : Nat) = 1 ∧ t = i) by omega)]; exact (h3 t ht).1
  · show (if 12 + t = 12 + i then x else f (12 + t)) = kU p 1 i x 1 t
    unfold kU
    by_cases e : 12 + t = 12 + i
    · rw [if_pos e, if_pos (show (1 : Nat) = 1 ∧ t = i by omega)]
    · rw [if_neg e, if_neg (show ¬ ((1 : Nat) = 1 ∧ t = i) by omega)]; exact (h3 t ht).2
  · show (if 24 + t = 12 + i then x else f (24 + t)) = kU p 1 i x 2 t
    unfold kU
    by_cases e : 24 + t = 12 + i
    · rw [if_pos e, if_pos (show (2 : Nat) = 1 ∧ t = i by omega)]
    · rw [if_neg e, if_neg (show ¬ ((2 : Nat) = 1 ∧ t = i) by omega)]; exact (h4 t ht).1
  · show (if 30 + t = 12 + i then x else f (30 + t)) = kU p 1 i x 3 t
    unfold kU
    by_cases e : 30 + t = 12 + i
    · rw [if_pos e, if_pos (show (3 : Nat) = 1 ∧ t = i by omega)]
    · rw [if_neg e, if_neg (show ¬ ((3 : Nat) = 1 ∧ t = i) by omega)]; exact (h4 t ht).2.1
  · show (if 36 + t = 12 + i then x else f (36 + t)) = kU p 1 i x 4 t
    unfold kU
    by_cases e : 36 + t = 12 + i
    · rw [if_pos e, if_pos (show (4 : Nat) = 1 ∧ t = i by omega)]
    · rw [if_neg e, if_neg (show ¬ ((4 : Nat) = 1 ∧ t = i) by omega)]; exact (h4 t ht).2.2
  · show (if 42 + t = 12 + i then x else f (42 + t)) = kU p 1 i x 5 t
    unfold kU
    by_cases e : 42 + t = 12 + i
    · rw [if_pos e, if_pos (show (5 : Nat) = 1 ∧ t = i by omega)]
    · rw [if_neg e, if_neg (show ¬ ((5 : Nat) = 1 ∧ t = i) by omega)]; exact (h5 t ht).1
  · show (if 50 + t = 12 + i then x else f (50 + t)) = kU p 1 i x 6 t
    unfold kU
    by_cases e : 50 + t = 12 + i
    · rw [if_pos e, if_pos (show (6 : Nat) = 1 ∧ t = i by omega)]
    · rw [if_neg e, if_neg (show ¬ ((6 : Nat) = 1 ∧ t = i) by omega)]; exact (h5 t ht).2.1
  · show (if 58 + t = 12 + i then x else f (58 + t)) = kU p 1 i x 7 t
    unfold kU
    by_cases e : 58 + t = 12 + i
    · rw [if_pos e, if_pos (show (7 : Nat) = 1 ∧ t = i by omega)]
    · rw [if_neg e, if_neg (show ¬ ((7 : Nat) = 1 ∧ t = i) by omega)]; exact (h5 t ht).2.2
theorem kPm_j1 {m : jm} {c : kC} {p : kP} {i : Nat} {x : Int} (hv : kV c) (hi : i < 12) (h : kPm (fun j => ja m 89 j) c p) : kPm (fun j => ja (js m 89 (12 + i) x) 89 j) c (kU p 1 i (jw x)) := by
  rw [ja_f1]
  exact kPm_u1 ⟨hv.1.2.1, hv.1.2.2.1, hv.1.2.2.2⟩ hi h
theorem kM_u1 {m : jm} {c : kC} {p : kP} {cl : List Int} {i : Nat} {x : Int} (H : kM m c p cl) (hi : i < 12) (hv : kVp c (kU p 1 i (jw x))) : kM (js m 89 (12 + i) x) c (kU p 1 i (jw x)) cl := kM_p H hv (fun k j hk => ja_jsk hk) (kPm_j1 H.1 hi H.2.2.2.2.1)
theorem kPm_u2 {f : Nat → Int} {c : kC} {p : kP} {i : Nat} {x : Int} (hn : c 11 1 ≤ 12 ∧ c 11 2 ≤ 6 ∧ c 11 3 ≤ 8) (hi : i < 6) (h : kPm f c p) : kPm (fun j => if j = 24 + i then x else f j) c (kU p 2 i x) := by
  obtain ⟨h1, h2, h3, h4, h5⟩ := h
  refine ⟨?_, ?_, fun t ht => ⟨?_, ?_⟩, fun t ht => ⟨?_, ?_, ?_⟩, fun t ht => ⟨?_, ?_, ?_⟩⟩
  · show (if 66 = 24 + i then x else f (66)) = kU p 2 i x 8 0
    unfold kU
    by_cases e : 66 = 24 + i
    · rw [if_pos e, if_pos (show (8 : Nat) = 2 ∧ 0 = i by omega)]
    · rw [if_neg e, if_neg (show ¬ ((8 : Nat) = 2 ∧ 0 = i) by omega)]; exact h1
  · show (if 67 = 24 + i then x else f (67)) = kU p 2 i x 8 1
    unfold kU
    by_cases e : 67 = 24 + i
    · rw [if_pos e, if_pos (show (8 : Nat) = 2 ∧ 1 = i by omega)]
    · rw [if_neg e, if_neg (show ¬ ((8 : Nat) = 2 ∧ 1 = i) by omega)]; exact h2
  · show (if t = 24 + i then x else f (t)) = kU p 2 i x 0 t
    unfold kU
    by_cases e : t = 24 + i
    · rw [if_pos e, if_pos (show (0 : Nat) = 2 ∧ t = i by omega)]
    · rw [if_neg e, if_neg (show ¬ ((0 : Nat) = 2 ∧ t = i) by omega)]; exact (h3 t ht).1
  · show (if 12 + t = 24 + i then x else f (12 + t)) = kU p 2 i x 1 t
    unfold kU
    by_cases e : 12 + t = 24 + i
    · rw [if_pos e, if_pos (show (1 : Nat) = 2 ∧ t = i by omega)]
    · rw [if_neg e, if_neg (show ¬ ((1 : Nat) = 2 ∧ t = i) by omega)]; exact (h3 t ht).2
  · show (if 24 + t = 24 + i then x else f (24 + t)) = kU p 2 i x 2 t
    unfold kU
    by_cases e : 24 + t = 24 + i
    · rw [if_pos e, if_pos (show (2 : Nat) = 2 ∧ t = i by omega)]
    · rw [if_neg e, if_neg (show ¬ ((2 : Nat) = 2 ∧ t = i) by omega)]; exact (h4 t ht).1
  · show (if 30 + t = 24 + i then x else f (30 + t)) = kU p 2 i x 3 t
    unfold kU
    by_cases e : 30 + t = 24 + i
    · rw [if_pos e, if_pos (show (3 : Nat) = 2 ∧ t = i by omega)]
    · rw [if_neg e, if_neg (show ¬ ((3 : Nat) = 2 ∧ t = i) by omega)]; exact (h4 t ht).2.1
  · show (if 36 + t = 24 + i then x else f (36 + t)) = kU p 2 i x 4 t
    unfold kU
    by_cases e : 36 + t = 24 + i
    · rw [if_pos e, if_pos (show (4 : Nat) = 2 ∧ t = i by omega)]
    · rw [if_neg e, if_neg (show ¬ ((4 : Nat) = 2 ∧ t = i) by omega)]; exact (h4 t ht).2.2
  · show (if 42 + t = 24 + i then x else f (42 + t)) = kU p 2 i x 5 t
    unfold kU
    by_cases e : 42 + t = 24 + i
    · rw [if_pos e, if_pos (show (5 : Nat) = 2 ∧ t = i by omega)]
    · rw [if_neg e, if_neg (show ¬ ((5 : Nat) = 2 ∧ t = i) by omega)]; exact (h5 t ht).1
  · show (if 50 + t = 24 + i then x else f (50 + t)) = kU p 2 i x 6 t
    unfold kU
    by_cases e : 50 + t = 24 + i
    · rw [if_pos e, if_pos (show (6 : Nat) = 2 ∧ t = i by omega)]
    · rw [if_neg e, if_neg (show ¬ ((6 : Nat) = 2 ∧ t = i) by omega)]; exact (h5 t ht).2.1
  · show (if 58 + t = 24 + i then x else f (58 + t)) = kU p 2 i x 7 t
    unfold kU
    by_cases e : 58 + t = 24 + i
    · rw [if_pos e, if_pos (show (7 : Nat) = 2 ∧ t = i by omega)]
    · rw [if_neg e, if_neg (show ¬ ((7 : Nat) = 2 ∧ t = i) by omega)]; exact (h5 t ht).2.2
theorem kPm_j2 {m : jm} {c : kC} {p : kP} {i : Nat} {x : Int} (hv : kV c) (hi : i < 6) (h : kPm (fun j => ja m 89 j) c p) : kPm (fun j => ja (js m 89 (24 + i) x) 89 j) c (kU p 2 i (jw x)) := by
  rw [ja_f1]
  exact kPm_u2 ⟨hv.1.2.1, hv.1.2.2.1, hv.1.2.2.2⟩ hi h
theorem kM_u2 {m : jm} {c : kC} {p : kP} {cl : List Int} {i : Nat} {x : Int} (H : kM m c p cl) (hi : i < 6) (hv : kVp c (kU p 2 i (jw x))) : kM (js m 89 (24 + i) x) c (kU p 2 i (jw x)) cl := kM_p H hv (fun k j hk => ja_jsk hk) (kPm_j2 H.1 hi H.2.2.2.2.1)
theorem kPm_u3 {f : Nat → Int} {c : kC} {p : kP} {i : Nat} {x : Int} (hn : c 11 1 ≤ 12 ∧ c 11 2 ≤ 6 ∧ c 11 3 ≤ 8) (hi : i < 6) (h : kPm f c p) : kPm (fun j => if j = 30 + i then x else f j) c (kU p 3 i x) := by
  obtain ⟨h1, h2, h3, h4, h5⟩ := h
  refine ⟨?_, ?_, fun t ht => ⟨?_, ?_⟩, fun t ht => ⟨?_, ?_, ?_⟩, fun t ht => ⟨?_, ?_, ?_⟩⟩
  · show (if 66 = 30 + i then x else f (66)) = kU p 3 i x 8 0
    unfold kU
    by_cases e : 66 = 30 + i
    · rw [if_pos e, if_pos (show (8 : Nat) = 3 ∧ 0 = i by omega)]
    · rw [if_neg e, if_neg (show ¬ ((8 : Nat) = 3 ∧ 0 = i) by omega)]; exact h1
  · show (if 67 = 30 + i then x else f (67)) = kU p 3 i x 8 1
    unfold kU
    by_cases e : 67 = 30 + i
    · rw [if_pos e, if_pos (show (8 : Nat) = 3 ∧ 1 = i by omega)]
    · rw [if_neg e, if_neg (show ¬ ((8 : Nat) = 3 ∧ 1 = i) by omega)]; exact h2
  · show (if t = 30 + i then x else f (t)) = kU p 3 i x 0 t
    unfold kU
    by_cases e : t = 30 + i
    · rw [if_pos e, if_pos (show (0 : Nat) = 3 ∧ t = i by omega)]
    · rw [if_neg e, if_neg (show ¬ ((0 : Nat) = 3 ∧ t = i) by omega)]; exact (h3 t ht).1
  · show (if 12 + t = 30 + i then x else f (12 + t)) = kU p 3 i x 1 t
    unfold kU
    by_cases e : 12 + t = 30 + i
    · rw [if_pos e, if_pos (show (1 : Nat) = 3 ∧ t = i by omega)]
    · rw [if_neg e, if_neg (show ¬ ((1 : Nat) = 3 ∧ t = i) by omega)]; exact (h3 t ht).2
  · show (if 24 + t = 30 + i then x else f (24 + t)) = kU p 3 i x 2 t
    unfold kU
    by_cases e : 24 + t = 30 + i
    · rw [if_pos e, if_pos (show (2 : Nat) = 3 ∧ t = i by omega)]
    · rw [if_neg e, if_neg (show ¬ ((2 : Nat) = 3 ∧ t = i) by omega)]; exact (h4 t ht).1
  · show (if 30 + t = 30 + i then x else f (30 + t)) = kU p 3 i x 3 t
    unfold kU
    by_cases e : 30 + t = 30 + i
    · rw [if_pos e, if_pos (show (3 : Nat) = 3 ∧ t = i by omega)]
    · rw [if_neg e, if_neg (show ¬ ((3 : Nat) = 3 ∧ t = i) by omega)]; exact (h4 t ht).2.1
  · show (if 36 + t = 30 + i then x else f (36 + t)) = kU p 3 i x 4 t
    unfold kU
    by_cases e : 36 + t = 30 + i
    · rw [if_pos e, if_pos (show (4 : Nat) = 3 ∧ t = i by omega)]
    · rw [if_neg e, if_neg (show ¬ ((4 : Nat) = 3 ∧ t = i) by omega)]; exact (h4 t ht).2.2
  · show (if 42 + t = 30 + i then x else f (42 + t)) = kU p 3 i x 5 t
    unfold kU
    by_cases e : 42 + t = 30 + i
    · rw [if_pos e, if_pos (show (5 : Nat) = 3 ∧ t = i by omega)]
    · rw [if_neg e, if_neg (show ¬ ((5 : Nat) = 3 ∧ t = i) by omega)]; exact (h5 t ht).1
  · show (if 50 + t = 30 + i then x else f (50 + t)) = kU p 3 i x 6 t
    unfold kU
    by_cases e : 50 + t = 30 + i
    · rw [if_pos e, if_pos (show (6 : Nat) = 3 ∧ t = i by omega)]
    · rw [if_neg e, if_neg (show ¬ ((6 : Nat) = 3 ∧ t = i) by omega)]; exact (h5 t ht).2.1
  · show (if 58 + t = 30 + i then x else f (58 + t)) = kU p 3 i x 7 t
    unfold kU
    by_cases e : 58 + t = 30 + i
    · rw [if_pos e, if_pos (show (7 : Nat) = 3 ∧ t = i by omega)]
    · rw [if_neg e, if_neg (show ¬ ((7 : Nat) = 3 ∧ t = i) by omega)]; exact (h5 t ht).2.2
theorem kPm_j3 {m : jm} {c : kC} {p : kP} {i : Nat} {x : Int} (hv : kV c) (hi : i < 6) (h : kPm (fun j => ja m 89 j) c p) : kPm (fun j => ja (js m 89 (30 + i) x) 89 j) c (kU p 3 i (jw x)) := by
  rw [ja_f1]
  exact kPm_u3 ⟨hv.1.2.1, hv.1.2.2.1, hv.1.2.2.2⟩ hi h
theorem kM_u3 {m : jm} {c : kC} {p : kP} {cl : List Int} {i : Nat} {x : Int} (H : kM m c p cl) (hi : i < 6) (hv : kVp c (kU p 3 i (jw x))) : kM (js m 89 (30 + i) x) c (kU p 3 i (jw x)) cl := kM_p H hv (fun k j hk => ja_jsk hk) (kPm_j3 H.1 hi H.2.2.2.2.1)
theorem kPm_u4 {f : Nat → Int} {c : kC} {p : kP} {i : Nat} {x : Int} (hn : c 11 1 ≤ 12 ∧ c 11 2 ≤ 6 ∧ c 11 3 ≤ 8) (hi : i < 6) (h : kPm f c p) : kPm (fun j => if j = 36 + i then x else f j) c (kU p 4 i x) := by
  obtain ⟨h1, h2, h3, h4, h5⟩ := h
  refine ⟨?_, ?_, fun t ht => ⟨?_, ?_⟩, fun t ht => ⟨?_, ?_, ?_⟩, fun t ht => ⟨?_, ?_, ?_⟩⟩
  · show (if 66 = 36 + i then x else f (66)) = kU p 4 i x 8 0
    unfold kU
    by_cases e : 66 = 36 + i
    · rw [if_pos e, if_pos (show (8 : Nat) = 4 ∧ 0 = i by omega)]
    · rw [if_neg e, if_neg (show ¬ ((8 : Nat) = 4 ∧ 0 = i) by omega)]; exact h1
  · show (if 67 = 36 + i then x else f (67)) = kU p 4 i x 8 1
    unfold kU
    by_cases e : 67 = 36 + i
    · rw [if_pos e, if_pos (show (8 : Nat) = 4 ∧ 1 = i by omega)]
    · rw [if_neg e, if_neg (show ¬ ((8 : Nat) = 4 ∧ 1 = i) by omega)]; exact h2
  · show (if t = 36 + i then x else f (t)) = kU p 4 i x 0 t
    unfold kU
    by_cases e : t = 36 + i
    · rw [if_pos e, if_pos (show (0 : Nat) = 4 ∧ t = i by omega)]
    · rw [if_neg e, if_neg (show ¬ ((0 : Nat) = 4 ∧ t = i) by omega)]; exact (h3 t ht).1
  · show (if 12 + t = 36 + i then x else f (12 + t)) = kU p 4 i x 1 t
    unfold kU
    by_cases e : 12 + t = 36 + i
    · rw [if_pos e, if_pos (show (1 : Nat) = 4 ∧ t = i by omega)]
    · rw [if_neg e, if_neg (show ¬ ((1 : Nat) = 4 ∧ t = i) by omega)]; exact (h3 t ht).2
  · show (if 24 + t = 36 + i then x else f (24 + t)) = kU p 4 i x 2 t
    unfold kU
    by_cases e : 24 + t = 36 + i
    · rw [if_pos e, if_pos (show (2 : Nat) = 4 ∧ t = i by omega)]
    · rw [if_neg e, if_neg (show ¬ ((2 : Nat) = 4 ∧ t = i) by omega)]; exact (h4 t ht).1
  · show (if 30 + t = 36 + i then x else f (30 + t)) = kU p 4 i x 3 t
    unfold kU
    by_cases e : 30 + t = 36 + i
    · rw [if_pos e, if_pos (show (3 : Nat) = 4 ∧ t = i by omega)]
    · rw [if_neg e, if_neg (show ¬ ((3 : Nat) = 4 ∧ t = i) by omega)]; exact (h4 t ht).2.1
  · show (if 36 + t = 36 + i then x else f (36 + t)) = kU p 4 i x 4 t
    unfold kU
    by_cases e : 36 + t = 36 + i
    · rw [if_pos e, if_pos (show (4 : Nat) = 4 ∧ t = i by omega)]
    · rw [if_neg e, if_neg (show ¬ ((4 : Nat) = 4 ∧ t = i) by omega)]; exact (h4 t ht).2.2
  · show (if 42 + t = 36 + i then x else f (42 + t)) = kU p 4 i x 5 t
    unfold kU
    by_cases e : 42 + t = 36 + i
    · rw [if_pos e, if_pos (show (5 : Nat) = 4 ∧ t = i by omega)]
    · rw [if_neg e, if_neg (show ¬ ((5 : Nat) = 4 ∧ t = i) by omega)]; exact (h5 t ht).1
  · show (if 50 + t = 36 + i then x else f (50 + t)) = kU p 4 i x 6 t
    unfold kU
    by_cases e : 50 + t = 36 + i
    · rw [if_pos e, if_pos (show (6 : Nat) = 4 ∧ t = i by omega)]
    · rw [if_neg e, if_neg (show ¬ ((6 : Nat) = 4 ∧ t = i) by omega)]; exact (h5 t ht).2.1
  · show (if 58 + t = 36 + i then x else f (58 + t)) = kU p 4 i x 7 t
    unfold kU
    by_cases e : 58 + t = 36 + i
    · rw [if_pos e, if_pos (show (7 : Nat) = 4 ∧ t = i by omega)]
    · rw [if_neg e, if_neg (show ¬ ((7 : Nat) = 4 ∧ t = i) by omega)]; exact (h5 t ht).2.2
theorem kPm_j4 {m : jm} {c : kC} {p : kP} {i : Nat} {x : Int} (hv : kV c) (hi : i < 6) (h : kPm (fun j => ja m 89 j) c p) : kPm (fun j => ja (js m 89 (36 + i) x) 89 j) c (kU p 4 i (jw x)) := by
  rw [ja_f1]
  exact kPm_u4 ⟨hv.1.2.1, hv.1.2.2.1, hv.1.2.2.2⟩ hi h
theorem kM_u4 {m : jm} {c : kC} {p : kP} {cl : List Int} {i : Nat} {x : Int} (H : kM m c p cl) (hi : i < 6) (hv : kVp c (kU p 4 i (jw x))) : kM (js m 89 (36 + i) x) c (kU p 4 i (jw x)) cl := kM_p H hv (fun k j hk => ja_jsk hk) (kPm_j4 H.1 hi H.2.2.2.2.1)
theorem kPm_u5 {f : Nat → Int} {c : kC} {p : kP} {i : Nat} {x : Int} (hn : c 11 1 ≤ 12 ∧ c 11 2 ≤ 6 ∧ c 11 3 ≤ 8) (hi : i < 8) (h : kPm f c p) : kPm (fun j => if j = 42 + i then x else f j) c (kU p 5 i x) := by
  obtain ⟨h1, h2, h3, h4, h5⟩ := h
  refine ⟨?_, ?_, fun t ht => ⟨?_, ?_⟩, fun t ht => ⟨?_, ?_, ?_⟩, fun t ht => ⟨?_, ?_, ?_⟩⟩
  · show (if 66 = 42 + i then x else f (66)) = kU p 5 i x 8 0
    unfold kU
    by_cases e : 66 = 42 + i
    · rw [if_pos e, if_pos (show (8 : Nat) = 5 ∧ 0 = i by omega)]
    · rw [if_neg e, if_neg (show ¬ ((8 : Nat) = 5 ∧ 0 = i) by omega)]; exact h1
  · show (if 67 = 42 + i then x else f (67)) = kU p 5 i x 8 1
    unfold kU
    by_cases e : 67 = 42 + i
    · rw [if_pos e, if_pos (show (8 : Nat) = 5 ∧ 1 = i by omega)]
    · rw [if_neg e, if_neg (show ¬ ((8 : Nat) = 5 ∧ 1 = i) by omega)]; exact h2
  · show (if t = 42 + i then x else f (t)) = kU p 5 i x 0 t
    unfold kU
    by_cases e : t = 42 + i
    · rw [if_pos e, if_pos (show (0 : Nat) = 5 ∧ t = i by omega)]
    · rw [if_neg e, if_neg (show ¬ ((0 : Nat) = 5 ∧ t = i) by omega)]; exact (h3 t ht).1
  · show (if 12 + t = 42 + i then x else f (12 + t)) = kU p 5 i x 1 t
    unfold kU
    by_cases e : 12 + t = 42 + i
    · rw [if_pos e, if_pos (show (1 : Nat) = 5 ∧ t = i by omega)]
    · rw [if_neg e, if_neg (show ¬ ((1 : Nat) = 5 ∧ t = i) by omega)]; exact (h3 t ht).2
  · show (if 24 + t = 42 + i then x else f (24 + t)) = kU p 5 i x 2 t
    unfold kU
    by_cases e : 24 + t = 42 + i
    · rw [if_pos e, if_pos (show (2 : Nat) = 5 ∧ t = i by omega)]
    · rw [if_neg e, if_neg (show ¬ ((2 : Nat) = 5 ∧ t = i) by omega)]; exact (h4 t ht).1
  · show (if 30 + t = 42 + i then x else f (30 + t)) = kU p 5 i x 3 t
    unfold kU
    by_cases e : 30 + t = 42 + i
    · rw [if_pos e, if_pos (show (3 : Nat) = 5 ∧ t = i by omega)]
    · rw [if_neg e, if_neg (show ¬ ((3 : Nat) = 5 ∧ t = i) by omega)]; exact (h4 t ht).2.1
  · show (if 36 + t = 42 + i then x else f (36 + t)) = kU p 5 i x 4 t
    unfold kU
    by_cases e : 36 + t = 42 + i
    · rw [if_pos e, if_pos (show (4 : Nat) = 5 ∧ t = i by omega)]
    · rw [if_neg e, if_neg (show ¬ ((4 : Nat) = 5 ∧ t = i) by omega)]; exact (h4 t ht).2.2
  · show (if 42 + t = 42 + i then x else f (42 + t)) = kU p 5 i x 5 t
    unfold kU
    by_cases e : 42 + t = 42 + i
    · rw [if_pos e, if_pos (show (5 : Nat) = 5 ∧ t = i by omega)]
    · rw [if_neg e, if_neg (show ¬ ((5 : Nat) = 5 ∧ t = i) by omega)]; exact (h5 t ht).1
  · show (if 50 + t = 42 + i then x else f (50 + t)) = kU p 5 i x 6 t
    unfold kU
    by_cases e : 50 + t = 42 + i
    · rw [if_pos e, if_pos (show (6 : Nat) = 5 ∧ t = i by omega)]
    · rw [if_neg e, if_neg (show ¬ ((6 : Nat) = 5 ∧ t = i) by omega)]; exact (h5 t ht).2.1
  · show (if 58 + t = 42 + i then x else f (58 + t)) = kU p 5 i x 7 t
    unfold kU
    by_cases e : 58 + t = 42 + i
    · rw [if_pos e, if_pos (show (7 : Nat) = 5 ∧ t = i by omega)]
    · rw [if_neg e, if_neg (show ¬ ((7 : Nat) = 5 ∧ t = i) by omega)]; exact (h5 t ht).2.2
theorem kPm_j5 {m : jm} {c : kC} {p : kP} {i : Nat} {x : Int} (hv : kV c) (hi : i < 8) (h : kPm (fun j => ja m 89 j) c p) : kPm (fun j => ja (js m 89 (42 + i) x) 89 j) c (kU p 5 i (jw x)) := by
  rw [ja_f1]
  exact kPm_u5 ⟨hv.1.2.1, hv.1.2.2.1, hv.1.2.2.2⟩ hi h
theorem kM_u5 {m : jm} {c : kC} {p : kP} {cl : List Int} {i : Nat} {x : Int} (H : kM m c p cl) (hi : i < 8) (hv : kVp c (kU p 5 i (jw x))) : kM (js m 89 (42 + i) x) c (kU p 5 i (jw x)) cl := kM_p H hv (fun k j hk => ja_jsk hk) (kPm_j5 H.1 hi H.2.2.2.2.1)
theorem kPm_u6 {f : Nat → Int} {c : kC} {p : kP} {i : Nat} {x : Int} (hn : c 11 1 ≤ 12 ∧ c 11 2 ≤ 6 ∧ c 11 3 ≤ 8) (hi : i < 8) (h : kPm f c p) : kPm (fun j => if j = 50 + i then x else f j) c (kU p 6 i x) := by
  obtain ⟨h1, h2, h3, h4, h5⟩ := h
  refine ⟨?_, ?_, fun t ht => ⟨?_, ?_⟩, fun t ht => ⟨?_, ?_, ?_⟩, fun t ht => ⟨?_, ?_, ?_⟩⟩
  · show (if 66 = 50 + i then x else f (66)) = kU p 6 i x 8 0
    unfold kU
    by_cases e : 66 = 50 + i
    · rw [if_pos e, if_pos (show (8 : Nat) = 6 ∧ 0 = i by omega)]
    · rw [if_neg e, if_neg (show ¬ ((8 : Nat) = 6 ∧ 0 = i) by omega)]; exact h1
  · show (if 67 = 50 + i then x else f (67)) = kU p 6 i x 8 1
    unfold kU
    by_cases e : 67 = 50 + i
    · rw [if_pos e, if_pos (show (8 : Nat) = 6 ∧ 1 = i by omega)]
    · rw [if_neg e, if_neg (show ¬ ((8 : Nat) = 6 ∧ 1 = i) by omega)]; exact h2
  · show (if t = 50 + i then x else f (t)) = kU p 6 i x 0 t
    unfold kU
    by_cases e : t = 50 + i
    · rw [if_pos e, if_pos (show (0 : Nat) = 6 ∧ t = i by omega)]
    · rw [if_neg e, if_neg (show ¬ ((0 : Nat) = 6 ∧ t = i) by omega)]; exact (h3 t ht).1
  · show (if 12 + t = 50 + i then x else f (12 + t)) = kU p 6 i x 1 t
    unfold kU
    by_cases e : 12 + t = 50 + i
    · rw [if_pos e, if_pos (show (1 : Nat) = 6 ∧ t = i by omega)]
    · rw [if_neg e, if_neg (show ¬ ((1 : Nat) = 6 ∧ t = i) by omega)]; exact (h3 t ht).2
  · show (if 24 + t = 50 + i then x else f (24 + t)) = kU p 6 i x 2 t
    unfold kU
    by_cases e : 24 + t = 50 + i
    · rw [if_pos e, if_pos (show (2 : Nat) = 6 ∧ t = i by omega)]
    · rw [if_neg e, if_neg (show ¬ ((2 : Nat) = 6 ∧ t = i) by omega)]; exact (h4 t ht).1
  · show (if 30 + t = 50 + i then x else f (30 + t)) = kU p 6 i x 3 t
    unfold kU
    by_cases e : 30 + t = 50 + i
    · rw [if_pos e, if_pos (show (3 : Nat) = 6 ∧ t = i by omega)]
    · rw [if_neg e, if_neg (show ¬ ((3 : Nat) = 6 ∧ t = i) by omega)]; exact (h4 t ht).2.1
  · show (if 36 + t = 50 + i then x else f (36 + t)) = kU p 6 i x 4 t
    unfold kU
    by_cases e : 36 + t = 50 + i
    · rw [if_pos e, if_pos (show (4 : Nat) = 6 ∧ t = i by omega)]
    · rw [if_neg e, if_neg (show ¬ ((4 : Nat) = 6 ∧ t = i) by omega)]; exact (h4 t ht).2.2
  · show (if 42 + t = 50 + i then x else f (42 + t)) = kU p 6 i x 5 t
    unfold kU
    by_cases e : 42 + t = 50 + i
    · rw [if_pos e, if_pos (show (5 : Nat) = 6 ∧ t = i by omega)]
    · rw [if_neg e, if_neg (show ¬ ((5 : Nat) = 6 ∧ t = i) by omega)]; exact (h5 t ht).1
  · show (if 50 + t = 50 + i then x else f (50 + t)) = kU p 6 i x 6 t
    unfold kU
    by_cases e : 50 + t = 50 + i
    · rw [if_pos e, if_pos (show (6 : Nat) = 6 ∧ t = i by omega)]
    · rw [if_neg e, if_neg (show ¬ ((6 : Nat) = 6 ∧ t = i) by omega)]; exact (h5 t ht).2.1
  · show (if 58 + t = 50 + i then x else f (58 + t)) = kU p 6 i x 7 t
    unfold kU
    by_cases e : 58 + t = 50 + i
    · rw [if_pos e, if_pos (show (7 : Nat) = 6 ∧ t = i by omega)]
    · rw [if_neg e, if_neg (show ¬ ((7 : Nat) = 6 ∧ t = i) by omega)]; exact (h5 t ht).2.2
theorem kPm_j6 {m : jm} {c : kC} {p : kP} {i : Nat} {x : Int} (hv : kV c) (hi : i < 8) (h : kPm (fun j => ja m 89 j) c p) : kPm (fun j => ja (js m 89 (50 + i) x) 89 j) c (kU p 6 i (jw x)) := by
  rw [ja_f1]
  exact kPm_u6 ⟨hv.1.2.1, hv.1.2.2.1, hv.1.2.2.2⟩ hi h
theorem kM_u6 {m : jm} {c : kC} {p : kP} {cl : List Int} {i : Nat} {x : Int} (H : kM m c p cl) (hi : i < 8) (hv : kVp c (kU p 6 i (jw x))) : kM (js m 89 (50 + i) x) c (kU p 6 i (jw x)) cl := kM_p H hv (fun k j hk => ja_jsk hk) (kPm_j6 H.1 hi H.2.2.2.2.1)
theorem kPm_u7 {f : Nat → Int} {c : kC} {p : kP} {i : Nat} {x : Int} (hn : c 11 1 ≤ 12 ∧ c 11 2 ≤ 6 ∧ c 11 3 ≤ 8) (hi : i < 8) (h : kPm f c p) : kPm (fun j => if j = 58 + i then x else f j) c (kU p 7 i x) := by
  obtain ⟨h1, h2, h3, h4, h5⟩ := h
  refine ⟨?_, ?_, fun t ht => ⟨?_, ?_⟩, fun t ht => ⟨?_, ?_, ?_⟩, fun t ht => ⟨?_, ?_, ?_⟩⟩
  · show (if 66 = 58 + i then x else f (66)) = kU p 7 i x 8 0
    unfold kU
    by_cases e : 66 = 58 + i
    · rw [if_pos e, if_pos (show (8 : Nat) = 7 ∧ 0 = i by omega)]
    · rw [if_neg e, if_neg (show ¬ ((8 : Nat) = 7 ∧ 0 = i) by omega)]; exact h1
  · show (if 67 = 58 + i then x else f (67)) = kU p 7 i x 8 1
    unfold kU
    by_cases e : 67 = 58 + i
    · rw [if_pos e, if_pos (show (8 : Nat) = 7 ∧ 1 = i by omega)]
    · rw [if_neg e, if_neg (show ¬ ((8 : Nat) = 7 ∧ 1 = i) by omega)]; exact h2
  · show (if t = 58 + i then x else f (t)) = kU p 7 i x 0 t
    unfold kU
    by_cases e : t = 58 + i
    · rw [if_pos e, if_pos (show (0 : Nat) = 7 ∧ t = i by omega)]
    · rw [if_neg e, if_neg (show ¬ ((0 : Nat) = 7 ∧ t = i) by omega)]; exact (h3 t ht).1
  · show (if 12 + t = 58 + i then x else f (12 + t)) = kU p 7 i x 1 t
    unfold kU
    by_cases e : 12 + t = 58 + i
    · rw [if_pos e, if_pos (show (1 : Nat) = 7 ∧ t = i by omega)]
    · rw [if_neg e, if_neg (show ¬ ((1 : Nat) = 7 ∧ t = i) by omega)]; exact (h3 t ht).2
  · show (if 24 + t = 58 + i then x else f (24 + t)) = kU p 7 i x 2 t
    unfold kU
    by_cases e : 24 + t = 58 + i
    · rw [if_pos e, if_pos (show (2 : Nat) = 7 ∧ t = i by omega)]
    · rw [if_neg e, if_neg (show ¬ ((2 : Nat) = 7 ∧ t = i) by omega)]; exact (h4 t ht).1
  · show (if 30 + t = 58 + i then x else f (30 + t)) = kU p 7 i x 3 t
    unfold kU
    by_cases e : 30 + t = 58 + i
    · rw [if_pos e, if_pos (show (3 : Nat) = 7 ∧ t = i by omega)]
    · rw [if_neg e, if_neg (show ¬ ((3 : Nat) = 7 ∧ t = i) by omega)]; exact (h4 t ht).2.1
  · show (if 36 + t = 58 + i then x else f (36 + t)) = kU p 7 i x 4 t
    unfold kU
    by_cases e : 36 + t = 58 + i
    · rw [if_pos e, if_pos (show (4 : Nat) = 7 ∧ t = i by omega)]
    · rw [if_neg e, if_neg (show ¬ ((4 : Nat) = 7 ∧ t = i) by omega)]; exact (h4 t ht).2.2
  · show (if 42 + t = 58 + i then x else f (42 + t)) = kU p 7 i x 5 t
    unfold kU
    by_cases e : 42 + t = 58 + i
    · rw [if_pos e, if_pos (show (5 : Nat) = 7 ∧ t = i by omega)]
    · rw [if_neg e, if_neg (show ¬ ((5 : Nat) = 7 ∧ t = i) by omega)]; exact (h5 t ht).1
  · show (if 50 + t = 58 + i then x else f (50 + t)) = kU p 7 i x 6 t
    unfold kU
    by_cases e : 50 + t = 58 + i
    · rw [if_pos e, if_pos (show (6 : Nat) = 7 ∧ t = i by omega)]
    · rw [if_neg e, if_neg (show ¬ ((6 : Nat) = 7 ∧ t = i) by omega)]; exact (h5 t ht).2.1
  · show (if 58 + t = 58 + i then x else f (58 + t)) = kU p 7 i x 7 t
    unfold kU
    by_cases e : 58 + t = 58 + i
    · rw [if_pos e, if_pos (show (7 : Nat) = 7 ∧ t = i by omega)]
    · rw [if_neg e, if_neg (show ¬ ((7 : Nat) = 7 ∧ t = i) by omega)]; exact (h5 t ht).2.2
theorem kPm_j7 {m : jm} {c : kC} {p : kP} {i : Nat} {x : Int} (hv : kV c) (hi : i < 8) (h : kPm (fun j => ja m 89 j) c p) : kPm (fun j => ja (js m 89 (58 + i) x) 89 j) c (kU p 7 i (jw x)) := by
  rw [ja_f1]
  exact kPm_u7 ⟨hv.1.2.1, hv.1.2.2.1, hv.1.2.2.2⟩ hi h
theorem kM_u7 {m : jm} {c : kC} {p : kP} {cl : List Int} {i : Nat} {x : Int} (H : kM m c p cl) (hi : i < 8) (hv : kVp c (kU p 7 i (jw x))) : kM (js m 89 (58 + i) x) c (kU p 7 i (jw x)) cl := kM_p H hv (fun k j hk => ja_jsk hk) (kPm_j7 H.1 hi H.2.2.2.2.1)
theorem kPm_u8 {f : Nat → Int} {c : kC} {p : kP} {i : Nat} {x : Int} (hn : c 11 1 ≤ 12 ∧ c 11 2 ≤ 6 ∧ c 11 3 ≤ 8) (hi : i < 2) (h : kPm f c p) : kPm (fun j => if j = 66 + i then x else f j) c (kU p 8 i x) := by
  obtain ⟨h1, h2, h3, h4, h5⟩ := h
  refine ⟨?_, ?_, fun t ht => ⟨?_, ?_⟩, fun t ht => ⟨?_, ?_, ?_⟩, fun t ht => ⟨?_, ?_, ?_⟩⟩
  · show (if 66 = 66 + i then x else f (66)) = kU p 8 i x 8 0
    unfold kU
    by_cases e : 66 = 66 + i
    · rw [if_pos e, if_pos (show (8 : Nat) = 8 ∧ 0 = i by omega)]
    · rw [if_neg e, if_neg (show ¬ ((8 : Nat) = 8 ∧ 0 = i) by omega)]; exact h1
  · show (if 67 = 66 + i then x else f (67)) = kU p 8 i x 8 1
    unfold kU
    by_cases e : 67 = 66 + i
    · rw [if_pos e, if_pos (show (8 : Nat) = 8 ∧ 1 = i by omega)]
    · rw [if_neg e, if_neg (show ¬ ((8 : Nat) = 8 ∧ 1 = i) by omega)]; exact h2
  · show (if t = 66 + i then x else f (t)) = kU p 8 i x 0 t
    unfold kU
    by_cases e : t = 66 + i
    · rw [if_pos e, if_pos (show (0 : Nat) = 8 ∧ t = i by omega)]
    · rw [if_neg e, if_neg (show ¬ ((0 : Nat) = 8 ∧ t = i) by omega)]; exact (h3 t ht).1
  · show (if 12 + t = 66 + i then x else f (12 + t)) = kU p 8 i x 1 t
    unfold kU
    by_cases e : 12 + t = 66 + i
    · rw [if_pos e, if_pos (show (1 : Nat) = 8 ∧ t = i by omega)]
    · rw [if_neg e, if_neg (show ¬ ((1 : Nat) = 8 ∧ t = i) by omega)]; exact (h3 t ht).2
  · show (if 24 + t = 66 + i then x else f (24 + t)) = kU p 8 i x 2 t
    unfold kU
    by_cases e : 24 + t = 66 + i
    · rw [if_pos e, if_pos (show (2 : Nat) = 8 ∧ t = i by omega)]
    · rw [if_neg e, if_neg (show ¬ ((2 : Nat) = 8 ∧ t = i) by omega)]; exact (h4 t ht).1
  · show (if 30 + t = 66 + i then x else f (30 + t)) = kU p 8 i x 3 t
    unfold kU
    by_cases e : 30 + t = 66 + i
    · rw [if_pos e, if_pos (show (3 : Nat) = 8 ∧ t = i by omega)]
    · rw [if_neg e, if_neg (show ¬ ((3 : Nat) = 8 ∧ t = i) by omega)]; exact (h4 t ht).2.1
  · show (if 36 + t = 66 + i then x else f (36 + t)) = kU p 8 i x 4 t
    unfold kU
    by_cases e : 36 + t = 66 + i
    · rw [if_pos e, if_pos (show (4 : Nat) = 8 ∧ t = i by omega)]
    · rw [if_neg e, if_neg (show ¬ ((4 : Nat) = 8 ∧ t = i) by omega)]; exact (h4 t ht).2.2
  · show (if 42 + t = 66 + i then x else f (42 + t)) = kU p 8 i x 5 t
    unfold kU
    by_cases e : 42 + t = 66 + i
    · rw [if_pos e, if_pos (show (5 : Nat) = 8 ∧ t = i by omega)]
    · rw [if_neg e, if_neg (show ¬ ((5 : Nat) = 8 ∧ t = i) by omega)]; exact (h5 t ht).1
  · show (if 50 + t = 66 + i then x else f (50 + t)) = kU p 8 i x 6 t
    unfold kU
    by_cases e : 50 + t = 66 + i
    · rw [if_pos e, if_pos (show (6 : Nat) = 8 ∧ t = i by omega)]
    · rw [if_neg e, if_neg (show ¬ ((6 : Nat) = 8 ∧ t = i) by omega)]; exact (h5 t ht).2.1
  · show (if 58 + t = 66 + i then x else f (58 + t)) = kU p 8 i x 7 t
    unfold kU
    by_cases e : 58 + t = 66 + i
    · rw [if_pos e, if_pos (show (7 : Nat) = 8 ∧ t = i by omega)]
    · rw [if_neg e, if_neg (show ¬ ((7 : Nat) = 8 ∧ t = i) by omega)]; exact (h5 t ht).2.2
theorem kPm_j8 {m : jm} {c : kC} {p : kP} {i : Nat} {x : Int} (hv : kV c) (hi : i < 2) (h : kPm (fun j => ja m 89 j) c p) : kPm (fun j => ja (js m 89 (66 + i) x) 89 j) c (kU p 8 i (jw x)) := by
  rw [ja_f1]
  exact kPm_u8 ⟨hv.1.2.1, hv.1.2.2.1, hv.1.2.2.2⟩ hi h
theorem kM_u8 {m : jm} {c : kC} {p : kP} {cl : List Int} {i : Nat} {x : Int} (H : kM m c p cl) (hi : i < 2) (hv : kVp c (kU p 8 i (jw x))) : kM (js m 89 (66 + i) x) c (kU p 8 i (jw x)) cl := kM_p H hv (fun k j hk => ja_jsk hk) (kPm_j8 H.1 hi H.2.2.2.2.1)
