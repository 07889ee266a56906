/-! THE START: nothing told yet. -/
theorem kV_0 : kV (fun _ _ => 0) := ⟨⟨by decide, by decide, by decide, by decide⟩, fun t h => absurd h (Nat.not_lt_zero _), fun e h => absurd h (Nat.not_lt_zero _), fun e f h => absurd h (Nat.not_lt_zero _), fun w h => absurd h (Nat.not_lt_zero _), fun l h => absurd h (Nat.not_lt_zero _)⟩
theorem kN_0 {k : Nat} : kN (fun _ _ => 0) k = 0 := by
  unfold kN
  split
  · rfl
  · split
    · rfl
    · split <;> rfl
theorem k_init0 {A : jm} (a1 : kLc A 27 kWo) (a2 : ∀ e, e < 12 → ja A 34 e = -1) (a3 : ∀ k j, (k = 3 ∨ k = 33 ∨ k = 50 ∨ k = 0 ∨ k = 48 ∨ (k = 67 ∧ j ≠ 8) ∨ k = 68 ∨ (k = 1 ∧ j ≠ 6)) → ja A k j = 0) (a4 : ja A 1 6 = -1) (a5 : ja A 67 8 = -1) (a6 : A.2 = fun _ _ => 0) : jo ((jf_188 A).bind jf_189) (fun p => p.2 = (fun _ _ => 0) ∧ Inv p) := by
  rw [show jf_188 A = some (js (js (js (js A 67 20 0) 67 21 0) 67 22 0) 67 23 0) from rfl, jsb]
  have e67 : ∀ k j, ¬ (k = 67 ∧ 20 ≤ j ∧ j ≤ 23) → ja (js (js (js (js A 67 20 0) 67 21 0) 67 22 0) 67 23 0) k j = ja A k j := fun k j h => by
    rw [ja_js, if_neg (by omega), ja_js, if_neg (by omega), ja_js, if_neg (by omega), ja_js, if_neg (by omega)]
  have z67 : ∀ i, i < 4 → ja (js (js (js (js A 67 20 0) 67 21 0) 67 22 0) 67 23 0) 67 (20 + i) = 0 := fun i hi => by
    rcases (by omega : i = 0 ∨ i = 1 ∨ i = 2 ∨ i = 3) with rfl | rfl | rfl | rfl
    · rw [ja_jsj (by decide), ja_jsj (by decide), ja_jsj (by decide), ja_js1]; exact wz0
    · rw [ja_jsj (by decide), ja_jsj (by decide), ja_js1]; exact wz0
    · rw [ja_jsj (by decide), ja_js1]; exact wz0
    · rw [ja_js1]; exact wz0
  have l2 : (js (js (js (js A 67 20 0) 67 21 0) 67 22 0) 67 23 0).2 = fun _ _ => 0 := a6
  generalize js (js (js (js A 67 20 0) 67 21 0) 67 22 0) 67 23 0 = M at e67 z67 l2
  have C0 : kCm M 20 70 (fun _ _ => 0) := ⟨fun i hi => z67 i hi, fun t h => absurd h (Nat.not_lt_zero _), fun e h => absurd h (Nat.not_lt_zero _), fun w h => absurd h (Nat.not_lt_zero _), fun l h => absurd h (Nat.not_lt_zero _)⟩
  refine jo_mono (sl_189 kV_0 C0) (fun r hr => ?_)
  obtain ⟨⟨u1, u2, u3, u4, u5, u6, u7, u8⟩, hf⟩ := hr
  have q : ∀ k j, ¬ (k = 67 ∧ 20 ≤ j ∧ j ≤ 23) → ¬ jW_189 k j → ja r k j = ja A k j := fun k j h h2 => by rw [ja_fr hf h2]; exact e67 k j h
  refine ⟨by rw [hf.2 rfl]; exact l2, Inv_new (c := fun _ _ => 0) kV_0 ⟨fun i hi => ?_, fun k i hk hi => ?_⟩ u1 ⟨?_, ?_, fun e h => absurd h (Nat.not_lt_zero _), fun w h => absurd h (Nat.not_lt_zero _), fun l h => absurd h (Nat.not_lt_zero _)⟩ u2 (kLc_e ?_ (fun j => ?_) a1) u4 ?_ u5 (fun e he => ?_) u3 ?_ u6 ?_ u7 ?_ u8 ?_ ?_ ?_ ⟨?_, ?_⟩⟩
  · rw [q 3 i (by omega) (by unfold jW_189; omega)]; exact a3 3 i (by omega)
  · rw [kN_0] at hi; exact absurd hi (Nat.not_lt_zero _)
  · show ja r 48 0 = 0
    rw [q 48 0 (by omega) (by unfold jW_189; omega)]; exact a3 48 0 (by omega)
  · show ja r 48 1 = 0
    rw [q 48 1 (by omega) (by unfold jW_189; omega)]; exact a3 48 1 (by omega)
  · exact q 27 1 (by omega) (by unfold jW_189; omega)
  · exact q 28 j (by omega) (by unfold jW_189; omega)
  · rw [q 33 1 (by omega) (by unfold jW_189; omega)]; exact a3 33 1 (by omega)
  · rw [q 34 e (by omega) (by unfold jW_189; omega)]; exact a2 e he
  · rw [q 50 1 (by omega) (by unfold jW_189; omega)]; exact a3 50 1 (by omega)
  · rw [q 50 5 (by omega) (by unfold jW_189; omega)]; exact a3 50 5 (by omega)
  · rw [q 0 14 (by omega) (by unfold jW_189; omega)]; exact a3 0 14 (by omega)
  · rw [q 1 1 (by omega) (by unfold jW_189; omega)]; exact a3 1 1 (by omega)
  · rw [q 67 2 (by omega) (by unfold jW_189; omega)]; exact a3 67 2 (by omega)
  · rw [q 1 6 (by omega) (by unfold jW_189; omega), q 67 8 (by omega) (by unfold jW_189; omega), a4, a5]
  · rw [q 0 15 (by omega) (by unfold jW_189; omega), q 68 0 (by omega) (by unfold jW_189; omega), a3 0 15 (by omega), a3 68 0 (by omega)]
  · rw [q 0 16 (by omega) (by unfold jW_189; omega), q 68 1 (by omega) (by unfold jW_189; omega), a3 0 16 (by omega), a3 68 1 (by omega)]
theorem ja_jfl {m : jm} {a k j : Nat} {x : Int} (h : k ≠ a) : ja (jfl m a x) k j = ja m k j := by unfold ja jfl; dsimp only; rw [if_neg (fun z => h z.1)]
/-- with Z the empty memory -/
theorem k_init1 {Z : jm} (hZ : ∀ k j, ja Z k j = 0) (hL : Z.2 = fun _ _ => 0) : jo ((jf_188 (js (jfl (jfl (jcp (js (jcp (js (js Z 1 6 (-1)) 27 1 (7)) jwo 28 0 0 7) 30 1 (7)) jwo 31 0 0 7) 34 (-1)) 38 (-1)) 67 8 (-1))).bind jf_189) (fun p => p.2 = (fun _ _ => 0) ∧ Inv p) := by
  have g : ∀ k j, k ≠ 67 → k ≠ 38 → k ≠ 34 → k ≠ 31 → k ≠ 30 → ja (js (jfl (jfl (jcp (js (jcp (js (js Z 1 6 (-1)) 27 1 (7)) jwo 28 0 0 7) 30 1 (7)) jwo 31 0 0 7) 34 (-1)) 38 (-1)) 67 8 (-1)) k j = ja (jcp (js (js Z 1 6 (-1)) 27 1 (7)) jwo 28 0 0 7) k j := fun k j z1 z2 z3 z4 z5 => by
    rw [ja_jsk z1, ja_jfl z2, ja_jfl z3, ja_jcp, if_neg (fun e => z4 e.1), ja_jsk z5]
  refine k_init0 ⟨?_, fun i hi => ?_⟩ (fun e he => ?_) (fun k j h => ?_) ?_ ?_ hL
  · rw [g _ _ (by decide) (by decide) (by decide) (by decide) (by decide), ja_jcp, if_neg (by omega), ja_js1]; exact jwi (by decide) (by decide)
  · have hi' : i < 7 := hi
    rw [g _ _ (by decide) (by decide) (by decide) (by decide) (by decide), ja_jcp, if_pos ⟨rfl, Nat.zero_le _, by omega⟩]
    rcases (by omega : i = 0 ∨ i = 1 ∨ i = 2 ∨ i = 3 ∨ i = 4 ∨ i = 5 ∨ i = 6) with rfl | rfl | rfl | rfl | rfl | rfl | rfl <;> rfl
  · rw [ja_jsk (by decide), ja_jfl (by decide)]
    show (if 34 = 34 ∧ e < px_ln 34 then Int32.ofInt (-1) else _).toInt = -1
    rw [if_pos ⟨rfl, he⟩]; rfl
  · by_cases e : k = 67
    · subst e
      rw [ja_jsj (by omega), ja_jfl (by decide), ja_jfl (by decide), ja_jcp, if_neg (by omega), ja_jsk (by decide), ja_jcp, if_neg (by omega), ja_jsk (by decide), ja_jsk (by decide)]; exact hZ _ _
    · rw [g _ _ e (by omega) (by omega) (by omega) (by omega), ja_jcp, if_neg (by omega), ja_jsk (by omega), ja_js, if_neg (by omega)]; exact hZ _ _
  · rw [g _ _ (by decide) (by decide) (by decide) (by decide) (by decide), ja_jcp, if_neg (by omega), ja_jsk (by decide), ja_js1]; exact wm1
  · rw [ja_js1]; exact wm1
