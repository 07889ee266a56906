/-! SEASON, SPAN: the operations. -/
theorem jo_x {α : Type} {x : Option α} {P : α → Prop} (h : jo x P) : ∃ a, P a := by
  cases x with
  | none => exact h.elim
  | some a => exact ⟨a, h⟩
theorem kZc_jg {m : jm} {c : kC} {cl : List Int} {z : kZt5} (h : kZc m c cl z) : jg z.2.1 ∧ jg z.2.2.1 ∧ jg z.2.2.2.1 := by
  obtain ⟨-, -, h2, h3, h4⟩ := h
  exact ⟨by rw [← h2]; exact jg_a, by rw [← h3]; exact jg_a, by rw [← h4]; exact jg_a⟩
def kSea (x1 x2 : Int) : Prop := (0 ≤ x1 ∧ x1 ≤ 16) ∧ (1 ≤ x2 ∧ x2 ≤ 96)
theorem sp_184y {x1 x2 : Int} {m : jm} (h : kSea x1 x2) : jf_184 x1 x2 m = some (0, m) := by
  unfold jf_184
  rw [sp_153, if_pos h.1, jsb, if_neg Int.one_ne_zero, sp_153, if_pos h.2, jsb, if_neg Int.one_ne_zero, jsb, sp_154, if_neg Int.one_ne_zero, jsb, if_pos rfl]
theorem sp_184n {x1 x2 : Int} {m : jm} (h : ¬ kSea x1 x2) : jf_184 x1 x2 m = some (2, kA m) := by
  unfold jf_184
  rw [sp_153, jsb]
  by_cases h1 : 0 ≤ x1 ∧ x1 ≤ 16
  · rw [if_pos h1, if_neg Int.one_ne_zero, sp_153, if_neg (fun e => h ⟨h1, e⟩), jsb, if_pos rfl, jsb, sp_154, if_pos rfl, jsb, if_neg (by simp)]
  · rw [if_neg h1, if_pos rfl, jsb, sp_154, if_pos rfl, jsb, if_neg (by simp)]
theorem sp_294y {x1 x2 : Int} {m : jm} (h : kSea x1 x2) : jf_294 x1 x2 m = some 1 := by
  unfold jf_294 
  rw [if_neg (show ¬ x1 < 0 by have := h.1; omega), if_neg (show ¬ 16 < x1 by have := h.1; omega), if_neg (show ¬ x2 < 1 by have := h.2; omega), if_neg (show ¬ 96 < x2 by have := h.2; omega), jsb]
theorem sp_294n {x1 x2 : Int} {m : jm} (h : ¬ kSea x1 x2) : jf_294 x1 x2 m = some 0 := by
  unfold jf_294
  unfold kSea at h
  by_cases a : x1 < 0
  · rw [if_pos a, jsb]
  · rw [if_neg a]
    by_cases b : 16 < x1
    · rw [if_pos b, jsb]
    · rw [if_neg b]
      by_cases d : x2 < 1
      · rw [if_pos d, jsb]
      · rw [if_neg d, if_pos (show 96 < x2 by omega), jsb]
def kAns (c : kC) (z : kZt5) (x : Int) : Int := if x = 0 then ((kB (fun l => decide (z.2.2.2.2 7 l = 1)) (c 11 3) : Nat) : Int) else if x = 1 then z.2.1 else if x = 2 then z.2.2.1 else z.2.2.2.1
theorem sy_31 {m : jm} {x0 x1 x2 x3 : Int} (hx0 : jg x0) (hx1 : jg x1) (hx2 : jg x2) (hx3 : jg x3) (h : Inv m) : kSy (fun m => jf_330 x0 x1 x2 x3 m) (fun m => jf_293 x0 x1 x2 x3 m) m := by
  obtain ⟨c, p, cl, HK, hC, hP, hL, hB⟩ := Inv_K h
  have hn := HK.1.1
  by_cases hS : kSea x1 x2
  · by_cases hR : 0 ≤ x3 ∧ x3 ≤ 3
    · obtain ⟨N, rfl⟩ := Int.eq_ofNat_of_zero_le (show 0 ≤ x2 by have := hS.2; omega)
      have hN : N ≤ 96 := by have := hS.2; omega
      obtain ⟨a, ha⟩ := jo_x (sl_109 (fog := x1) HK hx0 hN)
      have hj := kZc_jg ha
      refine q_ok (W := jW_109) (W' := jW_295) (kAns c (kZr c cl x1 (x0, 0, 0, 0, p) N) x3) h (jgl_g ?_) ?_ (fun k j h => by unfold jW_109 at h; unfold kQ kQS kQT kQR; omega) (fun M hM => ?_) (fun k j h => by unfold jW_295 at h; unfold kQ kQS kQT kQR; omega)
      · unfold kAns
        by_cases e0 : x3 = 0
        · rw [if_pos e0]
          have := kB_lt (f := fun l => decide ((kZr c cl x1 (x0, 0, 0, 0, p) N).2.2.2.2 7 l = 1)) (c 11 3)
          have h8 : 2 ^ c 11 3 ≤ 2 ^ 8 := Nat.pow_le_pow_right (by decide) hn.2.2.2
          exact ⟨by omega, by omega⟩
        · rw [if_neg e0]
          by_cases e1 : x3 = 1
          · rw [if_pos e1]; exact hj.1
          · rw [if_neg e1]
            by_cases e2 : x3 = 2
            · rw [if_pos e2]; exact hj.2.1
            · rw [if_neg e2]; exact hj.2.2
      · show jo (jf_330 _ _ _ _ m) _
        unfold jf_330
        refine wr0 ?_
        unfold jf_183
        rw [sp_184y hS, jsb, if_pos rfl, ck_R hR]
        refine jo_c (jo_and (sl_109 (fog := x1) HK hx0 hN) jx_109) (fun r hr => ?_)
        obtain ⟨hz, hf⟩ := hr
        unfold kAns
        by_cases e0 : x3 = 0
        · rw [if_pos e0, if_pos e0]
          unfold jf_112
          rw [sp_85 hz.1, jsb]
          exact ⟨rfl, rfl, hf⟩
        · rw [if_neg e0, if_neg e0]
          by_cases e1 : x3 = 1
          · rw [if_pos e1, if_pos e1]; exact ⟨hz.2.2.1, rfl, hf⟩
          · rw [if_neg e1, if_neg e1]
            by_cases e2 : x3 = 2
            · rw [if_pos e2, if_pos e2]; exact ⟨hz.2.2.2.1, rfl, hf⟩
            · rw [if_neg e2, if_neg e2]; exact ⟨hz.2.2.2.2, rfl, hf⟩
      · show jo (jf_293 _ _ _ _ M) _
        unfold jf_293
        have hC' := kCm_Q hM hC
        have hP' := kPm_Q hM hP
        have H' := kM_T0 HK.1 HK.2.1 HK.2.2.1 hC' hP' (kLm_Q hM hL)
        rw [jle_eq, sp_294y hS, jsb, if_neg Int.one_ne_zero, sp_247, if_pos hR, jsb, if_neg Int.one_ne_zero, jsb, mk_A th0 (jg_c rfl) (by decide) Int.one_ne_zero]
        refine jo_c (jo_and (sl_295 (fog := x1) H' hx0 hN) jx_295) (fun r hr => ?_)
        obtain ⟨hz, hf⟩ := hr
        unfold kAns
        by_cases e0 : x3 = 0
        · rw [if_pos e0, if_pos e0, sp_248 hz.1, jsb, jsb]
          exact ⟨rfl, hf⟩
        · rw [if_neg e0, if_neg e0]
          by_cases e1 : x3 = 1
          · rw [if_pos e1, if_pos e1]; exact ⟨hz.2.2.1, hf⟩
          · rw [if_neg e1, if_neg e1]
            by_cases e2 : x3 = 2
            · rw [if_pos e2, if_pos e2]; exact ⟨hz.2.2.2.1, hf⟩
            · rw [if_neg e2, if_neg e2]; exact ⟨hz.2.2.2.2, hf⟩
    · refine rf_A (w := 1) h (jg_c rfl) (by decide) ?_ (fun M hM => ?_)
      · show jf_330 _ _ _ _ m = _
        unfold jf_330 jf_183
        rw [sp_184y hS, jsb, if_pos rfl, ck_Rr hR]; rfl
      · show jf_293 _ _ _ _ M = _
        unfold jf_293
        rw [jle_eq, sp_294y hS, jsb, if_neg Int.one_ne_zero, sp_247, if_neg hR, jsb, if_pos rfl, jsb, mk_Ar th0 (jg_c rfl) (by decide) rfl]
  · refine rf_A (w := 1) h (jg_c rfl) (by decide) ?_ (fun M hM => ?_)
    · show jf_330 _ _ _ _ m = _
      unfold jf_330 jf_183
      rw [sp_184n hS, jsb, if_neg (by simp)]; rfl
    · show jf_293 _ _ _ _ M = _
      unfold jf_293
      rw [jle_eq, sp_294n hS, jsb, if_pos rfl, jsb, mk_Ar th0 (jg_c rfl) (by decide) rfl]
