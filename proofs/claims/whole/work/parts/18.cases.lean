/-! THE CASES OF THE LAW'S SWITCH, out of: class and model answer alike (written by wip/whole/gen/ops.py) -/
theorem jcmp0 {x y : Int} (h : x = y) : jcmp x y = 0 := by
  unfold jcmp; rw [if_neg (by omega), if_pos h]
theorem kop_w {A B : jm → Option (Int × jm)} {s : Int × jm} {i : Int} (hi : i = s.1 + 10) (h : kSy A B s.2) : jo ((A s.2).bind fun p => (B p.2).bind fun p' => (jf_186 p'.2).bind fun t => if t = p.1 then if p.1 = 0 then if jcmp (jal p'.2 102 0) p'.1 = 0 then some (Sum.inl (i, p'.2)) else some (Sum.inr ((0 : Int), p'.2)) else some (Sum.inl (i, p'.2)) else some (Sum.inr ((0 : Int), p'.2))) (jcase (fun b => b.1 = s.1 + 10 ∧ Inv b.2) (fun _ : Int × jm => False)) := by
  rw [jo_bind]
  refine jo_mono h (fun p hp => ?_)
  rw [jo_bind]
  refine jo_mono hp (fun p' hp' => ?_)
  obtain ⟨a, b, g, c⟩ := hp'
  unfold jf_186
  show jo (if ja p'.2 67 0 = p.1 then _ else _) _
  rw [if_pos a]
  by_cases h0 : p.1 = 0
  · rw [if_pos h0, if_pos (jcmp0 (b h0))]; exact ⟨hi, c⟩
  · rw [if_neg h0]; exact ⟨hi, c⟩
theorem kop_b {A B : jm → Option (Int × jm)} {s : Int × jm} {i : Int} (hi : i = s.1 + 10) (h : kSb A B s.2) : jo ((A s.2).bind fun p => (B p.2).bind fun p' => (jf_186 p'.2).bind fun t => if t = p.1 then if p.1 = 0 then if p'.1 = 0 then if jcmp (jal p'.2 102 0) (0 : Int) = 0 then some (Sum.inl (i, p'.2)) else some (Sum.inr ((0 : Int), p'.2)) else if jcmp (jal p'.2 102 0) (1 : Int) = 0 then some (Sum.inl (i, p'.2)) else some (Sum.inr ((0 : Int), p'.2)) else some (Sum.inl (i, p'.2)) else some (Sum.inr ((0 : Int), p'.2))) (jcase (fun b => b.1 = s.1 + 10 ∧ Inv b.2) (fun _ : Int × jm => False)) := by
  rw [jo_bind]
  refine jo_mono h (fun p hp => ?_)
  rw [jo_bind]
  refine jo_mono hp (fun p' hp' => ?_)
  obtain ⟨a, b, g, c⟩ := hp'
  unfold jf_186
  show jo (if ja p'.2 67 0 = p.1 then _ else _) _
  rw [if_pos a]
  by_cases h0 : p.1 = 0
  · rw [if_pos h0]
    rcases g with g | g
    · rw [if_pos g, if_pos (jcmp0 (by rw [b h0, g]))]; exact ⟨hi, c⟩
    · rw [if_neg (by rw [g]; decide), if_pos (jcmp0 (by rw [b h0, g]))]; exact ⟨hi, c⟩
  · rw [if_neg h0]; exact ⟨hi, c⟩
theorem kop_e {A B : jm → Option (Int × jm)} {s : Int × jm} {i : Int} (hi : i = s.1 + 10) (h : kSe A B s.2) : jo ((A s.2).bind fun p => (B p.2).bind fun p' => if p.1 = p'.1 then some (Sum.inl (i, p'.2)) else some (Sum.inr ((0 : Int), p'.2))) (jcase (fun b => b.1 = s.1 + 10 ∧ Inv b.2) (fun _ : Int × jm => False)) := by
  rw [jo_bind]
  refine jo_mono h (fun p hp => ?_)
  rw [jo_bind]
  refine jo_mono hp (fun p' hp' => ?_)
  rw [if_pos hp'.1]; exact ⟨hi, hp'.2⟩
theorem kop_p {A : jm → Option Int} {B : jm → Option (Int × jm)} {s : Int × jm} {i : Int} (hi : i = s.1 + 10) (h : kSp A B s.2) : jo ((A s.2).bind fun p => (B s.2).bind fun p' => if p = p'.1 then some (Sum.inl (i, p'.2)) else some (Sum.inr ((0 : Int), p'.2))) (jcase (fun b => b.1 = s.1 + 10 ∧ Inv b.2) (fun _ : Int × jm => False)) := by
  rw [jo_bind]
  refine jo_mono h (fun p hp => ?_)
  rw [jo_bind]
  refine jo_mono hp (fun p' hp' => ?_)
  rw [if_pos hp'.1]; exact ⟨hi, hp'.2⟩
theorem kop_0 {X : Nat × (Nat → Int32)} {s : Int × jm} (h1 : 0 ≤ s.1) (h2 : s.1 + 10 ≤ X.1) (h3 : X.1 ≤ 5120) (h : ∀ x0 x1 x2 x3 x4 : Int, jg x0 → jg x1 → jg x2 → jg x3 → jg x4 → kSe (fun m => jf_141 x0 x1 x2 x3 x4 m) (fun m => jf_191 x0 x1 x2 x3 x4 m) s.2) : kOp jfM_0 X s := by
  unfold kOp jfM_0
  simp (disch := omega) only [jwi, jif]
  exact kop_e (A := fun m => jf_141 _ _ _ _ _ m) (B := fun m => jf_191 _ _ _ _ _ m) rfl (h _ _ _ _ _ jg_i jg_i jg_i jg_i jg_i)
theorem kop_1 {X : Nat × (Nat → Int32)} {s : Int × jm} (h1 : 0 ≤ s.1) (h2 : s.1 + 10 ≤ X.1) (h3 : X.1 ≤ 5120) (h : ∀ x0 : Int, jg x0 → kSy (fun m => jf_304 x0 m) (fun m => jf_193 x0 m) s.2) : kOp jfM_1 X s := by
  unfold kOp jfM_1
  simp (disch := omega) only [jwi, jif]
  exact kop_w (A := fun m => jf_304 _ m) (B := fun m => jf_193 _ m) rfl (h _ jg_i)
theorem kop_2 {X : Nat × (Nat → Int32)} {s : Int × jm} (h1 : 0 ≤ s.1) (h2 : s.1 + 10 ≤ X.1) (h3 : X.1 ≤ 5120) (h : ∀ x0 : Int, jg x0 → kSy (fun m => jf_305 x0 m) (fun m => jf_213 x0 m) s.2) : kOp jfM_2 X s := by
  unfold kOp jfM_2
  simp (disch := omega) only [jwi, jif]
  exact kop_w (A := fun m => jf_305 _ m) (B := fun m => jf_213 _ m) rfl (h _ jg_i)
theorem kop_3 {X : Nat × (Nat → Int32)} {s : Int × jm} (h1 : 0 ≤ s.1) (h2 : s.1 + 10 ≤ X.1) (h3 : X.1 ≤ 5120) (h : ∀ x0 : Int, jg x0 → kSy (fun m => jf_306 x0 m) (fun m => jf_222 x0 m) s.2) : kOp jfM_3 X s := by
  unfold kOp jfM_3
  simp (disch := omega) only [jwi, jif]
  exact kop_w (A := fun m => jf_306 _ m) (B := fun m => jf_222 _ m) rfl (h _ jg_i)
theorem kop_4 {X : Nat × (Nat → Int32)} {s : Int × jm} (h1 : 0 ≤ s.1) (h2 : s.1 + 10 ≤ X.1) (h3 : X.1 ≤ 5120) (h : ∀ x0 : Int, jg x0 → kSy (fun m => jf_307 x0 m) (fun m => jf_244 x0 m) s.2) : kOp jfM_4 X s := by
  unfold kOp jfM_4
  simp (disch := omega) only [jwi, jif]
  exact kop_w (A := fun m => jf_307 _ m) (B := fun m => jf_244 _ m) rfl (h _ jg_i)
theorem kop_5 {X : Nat × (Nat → Int32)} {s : Int × jm} (h1 : 0 ≤ s.1) (h2 : s.1 + 10 ≤ X.1) (h3 : X.1 ≤ 5120) (h : kSp (fun m => jf_142 m) (fun m => jf_192 m) s.2) : kOp jfM_5 X s := by
  unfold kOp jfM_5
  simp (disch := omega) only [jwi, jif]
  exact kop_p (A := fun m => jf_142 m) (B := fun m => jf_192 m) rfl (h)
theorem kop_6 {X : Nat × (Nat → Int32)} {s : Int × jm} (h1 : 0 ≤ s.1) (h2 : s.1 + 10 ≤ X.1) (h3 : X.1 ≤ 5120) (h : kSe (fun m => jf_143 m) (fun m => jf_245 m) s.2) : kOp jfM_6 X s := by
  unfold kOp jfM_6
  simp (disch := omega) only [jwi, jif]
  exact kop_e (A := fun m => jf_143 m) (B := fun m => jf_245 m) rfl (h)
theorem kop_7 {X : Nat × (Nat → Int32)} {s : Int × jm} (h1 : 0 ≤ s.1) (h2 : s.1 + 10 ≤ X.1) (h3 : X.1 ≤ 5120) (h : ∀ x0 : Int, jg x0 → kSy (fun m => jf_308 x0 m) (fun m => jf_246 x0 m) s.2) : kOp jfM_7 X s := by
  unfold kOp jfM_7
  simp (disch := omega) only [jwi, jif]
  exact kop_w (A := fun m => jf_308 _ m) (B := fun m => jf_246 _ m) rfl (h _ jg_i)
theorem kop_8 {X : Nat × (Nat → Int32)} {s : Int × jm} (h1 : 0 ≤ s.1) (h2 : s.1 + 10 ≤ X.1) (h3 : X.1 ≤ 5120) (h : ∀ x0 x1 : Int, jg x0 → jg x1 → kSy (fun m => jf_309 x0 x1 m) (fun m => jf_251 x0 x1 m) s.2) : kOp jfM_8 X s := by
  unfold kOp jfM_8
  simp (disch := omega) only [jwi, jif]
  exact kop_w (A := fun m => jf_309 _ _ m) (B := fun m => jf_251 _ _ m) rfl (h _ _ jg_i jg_i)
theorem kop_9 {X : Nat × (Nat → Int32)} {s : Int × jm} (h1 : 0 ≤ s.1) (h2 : s.1 + 10 ≤ X.1) (h3 : X.1 ≤ 5120) (h : ∀ x0 x1 : Int, jg x0 → jg x1 → kSy (fun m => jf_310 x0 x1 m) (fun m => jf_253 x0 x1 m) s.2) : kOp jfM_9 X s := by
  unfold kOp jfM_9
  simp (disch := omega) only [jwi, jif]
  exact kop_w (A := fun m => jf_310 _ _ m) (B := fun m => jf_253 _ _ m) rfl (h _ _ jg_i jg_i)
theorem kop_10 {X : Nat × (Nat → Int32)} {s : Int × jm} (h1 : 0 ≤ s.1) (h2 : s.1 + 10 ≤ X.1) (h3 : X.1 ≤ 5120) (h : ∀ x0 x1 : Int, jg x0 → jg x1 → kSy (fun m => jf_311 x0 x1 m) (fun m => jf_255 x0 x1 m) s.2) : kOp jfM_10 X s := by
  unfold kOp jfM_10
  simp (disch := omega) only [jwi, jif]
  exact kop_w (A := fun m => jf_311 _ _ m) (B := fun m => jf_255 _ _ m) rfl (h _ _ jg_i jg_i)
theorem kop_11 {X : Nat × (Nat → Int32)} {s : Int × jm} (h1 : 0 ≤ s.1) (h2 : s.1 + 10 ≤ X.1) (h3 : X.1 ≤ 5120) (h : ∀ x0 x1 : Int, jg x0 → jg x1 → kSy (fun m => jf_312 x0 x1 m) (fun m => jf_257 x0 x1 m) s.2) : kOp jfM_11 X s := by
  unfold kOp jfM_11
  simp (disch := omega) only [jwi, jif]
  exact kop_w (A := fun m => jf_312 _ _ m) (B := fun m => jf_257 _ _ m) rfl (h _ _ jg_i jg_i)
theorem kop_12 {X : Nat × (Nat → Int32)} {s : Int × jm} (h1 : 0 ≤ s.1) (h2 : s.1 + 10 ≤ X.1) (h3 : X.1 ≤ 5120) (h : ∀ x0 x1 : Int, jg x0 → jg x1 → kSy (fun m => jf_313 x0 x1 m) (fun m => jf_259 x0 x1 m) s.2) : kOp jfM_12 X s := by
  unfold kOp jfM_12
  simp (disch := omega) only [jwi, jif]
  exact kop_w (A := fun m => jf_313 _ _ m) (B := fun m => jf_259 _ _ m) rfl (h _ _ jg_i jg_i)
theorem kop_13 {X : Nat × (Nat → Int32)} {s : Int × jm} (h1 : 0 ≤ s.1) (h2 : s.1 + 10 ≤ X.1) (h3 : X.1 ≤ 5120) (h : ∀ x0 x1 x2 : Int, jg x0 → jg x1 → jg x2 → kSy (fun m => jf_314 x0 x1 x2 m) (fun m => jf_260 x0 x1 x2 m) s.2) : kOp jfM_13 X s := by
  unfold kOp jfM_13
  simp (disch := omega) only [jwi, jif]
  exact kop_w (A := fun m => jf_314 _ _ _ m) (B := fun m => jf_260 _ _ _ m) rfl (h _ _ _ jg_i jg_i jg_i)
theorem kop_14 {X : Nat × (Nat → Int32)} {s : Int × jm} (h1 : 0 ≤ s.1) (h2 : s.1 + 10 ≤ X.1) (h3 : X.1 ≤ 5120) (h : ∀ x0 x1 x2 x3 x4 x5 x6 x7 x8 : Int, jg x0 → jg x1 → jg x2 → jg x3 → jg x4 → jg x5 → jg x6 → jg x7 → jg x8 → kSy (fun m => jf_315 x0 x1 x2 x3 x4 x5 x6 x7 x8 m) (fun m => jf_262 x0 x1 x2 x3 x4 x5 x6 x7 x8 m) s.2) : kOp jfM_14 X s := by
  unfold kOp jfM_14
  simp (disch := omega) only [jwi, jif]
  exact kop_w (A := fun m => jf_315 _ _ _ _ _ _ _ _ _ m) (B := fun m => jf_262 _ _ _ _ _ _ _ _ _ m) rfl (h _ _ _ _ _ _ _ _ _ jg_i jg_i jg_i jg_i jg_i jg_i jg_i jg_i jg_i)
theorem kop_15 {X : Nat × (Nat → Int32)} {s : Int × jm} (h1 : 0 ≤ s.1) (h2 : s.1 + 10 ≤ X.1) (h3 : X.1 ≤ 5120) (h : ∀ x0 x1 x2 : Int, jg x0 → jg x1 → jg x2 → kSb (fun m => jf_316 x0 x1 x2 m) (fun m => jf_261 x0 x1 x2 m) s.2) : kOp jfM_15 X s := by
  unfold kOp jfM_15
  simp (disch := omega) only [jwi, jif]
  exact kop_b (A := fun m => jf_316 _ _ _ m) (B := fun m => jf_261 _ _ _ m) rfl (h _ _ _ jg_i jg_i jg_i)
theorem kop_16 {X : Nat × (Nat → Int32)} {s : Int × jm} (h1 : 0 ≤ s.1) (h2 : s.1 + 10 ≤ X.1) (h3 : X.1 ≤ 5120) (h : ∀ x0 : Int, jg x0 → kSy (fun m => jf_317 x0 m) (fun m => jf_263 x0 m) s.2) : kOp jfM_16 X s := by
  unfold kOp jfM_16
  simp (disch := omega) only [jwi, jif]
  exact kop_w (A := fun m => jf_317 _ m) (B := fun m => jf_263 _ m) rfl (h _ jg_i)
theorem kop_17 {X : Nat × (Nat → Int32)} {s : Int × jm} (h1 : 0 ≤ s.1) (h2 : s.1 + 10 ≤ X.1) (h3 : X.1 ≤ 5120) (h : ∀ x0 x1 x2 : Int, jg x0 → jg x1 → jg x2 → kSy (fun m => jf_318 x0 x1 x2 m) (fun m => jf_267 x0 x1 x2 m) s.2) : kOp jfM_17 X s := by
  unfold kOp jfM_17
  simp (disch := omega) only [jwi, jif]
  exact kop_w (A := fun m => jf_318 _ _ _ m) (B := fun m => jf_267 _ _ _ m) rfl (h _ _ _ jg_i jg_i jg_i)
theorem kop_18 {X : Nat × (Nat → Int32)} {s : Int × jm} (h1 : 0 ≤ s.1) (h2 : s.1 + 10 ≤ X.1) (h3 : X.1 ≤ 5120) (h : ∀ x0 x1 : Int, jg x0 → jg x1 → kSy (fun m => jf_319 x0 x1 m) (fun m => jf_269 x0 x1 m) s.2) : kOp jfM_18 X s := by
  unfold kOp jfM_18
  simp (disch := omega) only [jwi, jif]
  exact kop_w (A := fun m => jf_319 _ _ m) (B := fun m => jf_269 _ _ m) rfl (h _ _ jg_i jg_i)
theorem kop_19 {X : Nat × (Nat → Int32)} {s : Int × jm} (h1 : 0 ≤ s.1) (h2 : s.1 + 10 ≤ X.1) (h3 : X.1 ≤ 5120) (h : ∀ x0 x1 x2 : Int, jg x0 → jg x1 → jg x2 → kSy (fun m => jf_320 x0 x1 x2 m) (fun m => jf_273 x0 x1 x2 m) s.2) : kOp jfM_19 X s := by
  unfold kOp jfM_19
  simp (disch := omega) only [jwi, jif]
  exact kop_w (A := fun m => jf_320 _ _ _ m) (B := fun m => jf_273 _ _ _ m) rfl (h _ _ _ jg_i jg_i jg_i)
theorem kop_20 {X : Nat × (Nat → Int32)} {s : Int × jm} (h1 : 0 ≤ s.1) (h2 : s.1 + 10 ≤ X.1) (h3 : X.1 ≤ 5120) (h : ∀ x0 : Int, jg x0 → kSy (fun m => jf_321 x0 m) (fun m => jf_275 x0 m) s.2) : kOp jfM_20 X s := by
  unfold kOp jfM_20
  simp (disch := omega) only [jwi, jif]
  exact kop_w (A := fun m => jf_321 _ m) (B := fun m => jf_275 _ m) rfl (h _ jg_i)
theorem kop_21 {X : Nat × (Nat → Int32)} {s : Int × jm} (h1 : 0 ≤ s.1) (h2 : s.1 + 10 ≤ X.1) (h3 : X.1 ≤ 5120) (h : kSp (fun m => jf_144 m) (fun m => jf_277 m) s.2) : kOp jfM_21 X s := by
  unfold kOp jfM_21
  simp (disch := omega) only [jwi, jif]
  exact kop_p (A := fun m => jf_144 m) (B := fun m => jf_277 m) rfl (h)
theorem kop_22 {X : Nat × (Nat → Int32)} {s : Int × jm} (h1 : 0 ≤ s.1) (h2 : s.1 + 10 ≤ X.1) (h3 : X.1 ≤ 5120) (h : ∀ x0 : Int, jg x0 → kSy (fun m => jf_322 x0 m) (fun m => jf_278 x0 m) s.2) : kOp jfM_22 X s := by
  unfold kOp jfM_22
  simp (disch := omega) only [jwi, jif]
  exact kop_w (A := fun m => jf_322 _ m) (B := fun m => jf_278 _ m) rfl (h _ jg_i)
theorem kop_23 {X : Nat × (Nat → Int32)} {s : Int × jm} (h1 : 0 ≤ s.1) (h2 : s.1 + 10 ≤ X.1) (h3 : X.1 ≤ 5120) (h : ∀ x0 x1 : Int, jg x0 → jg x1 → kSy (fun m => jf_323 x0 x1 m) (fun m => jf_280 x0 x1 m) s.2) : kOp jfM_23 X s := by
  unfold kOp jfM_23
  simp (disch := omega) only [jwi, jif]
  exact kop_w (A := fun m => jf_323 _ _ m) (B := fun m => jf_280 _ _ m) rfl (h _ _ jg_i jg_i)
theorem kop_24 {X : Nat × (Nat → Int32)} {s : Int × jm} (h1 : 0 ≤ s.1) (h2 : s.1 + 10 ≤ X.1) (h3 : X.1 ≤ 5120) (h : ∀ x0 x1 : Int, jg x0 → jg x1 → kSy (fun m => jf_324 x0 x1 m) (fun m => jf_283 x0 x1 m) s.2) : kOp jfM_24 X s := by
  unfold kOp jfM_24
  simp (disch := omega) only [jwi, jif]
  exact kop_w (A := fun m => jf_324 _ _ m) (B := fun m => jf_283 _ _ m) rfl (h _ _ jg_i jg_i)
theorem kop_25 {X : Nat × (Nat → Int32)} {s : Int × jm} (h1 : 0 ≤ s.1) (h2 : s.1 + 10 ≤ X.1) (h3 : X.1 ≤ 5120) (h : kSe (fun m => jf_145 m) (fun m => jf_284 m) s.2) : kOp jfM_25 X s := by
  unfold kOp jfM_25
  simp (disch := omega) only [jwi, jif]
  exact kop_e (A := fun m => jf_145 m) (B := fun m => jf_284 m) rfl (h)
theorem kop_26 {X : Nat × (Nat → Int32)} {s : Int × jm} (h1 : 0 ≤ s.1) (h2 : s.1 + 10 ≤ X.1) (h3 : X.1 ≤ 5120) (h : ∀ x0 : Int, jg x0 → kSy (fun m => jf_325 x0 m) (fun m => jf_286 x0 m) s.2) : kOp jfM_26 X s := by
  unfold kOp jfM_26
  simp (disch := omega) only [jwi, jif]
  exact kop_w (A := fun m => jf_325 _ m) (B := fun m => jf_286 _ m) rfl (h _ jg_i)
theorem kop_27 {X : Nat × (Nat → Int32)} {s : Int × jm} (h1 : 0 ≤ s.1) (h2 : s.1 + 10 ≤ X.1) (h3 : X.1 ≤ 5120) (h : ∀ x0 x1 x2 x3 : Int, jg x0 → jg x1 → jg x2 → jg x3 → kSy (fun m => jf_326 x0 x1 x2 x3 m) (fun m => jf_287 x0 x1 x2 x3 m) s.2) : kOp jfM_27 X s := by
  unfold kOp jfM_27
  simp (disch := omega) only [jwi, jif]
  exact kop_w (A := fun m => jf_326 _ _ _ _ m) (B := fun m => jf_287 _ _ _ _ m) rfl (h _ _ _ _ jg_i jg_i jg_i jg_i)
theorem kop_28 {X : Nat × (Nat → Int32)} {s : Int × jm} (h1 : 0 ≤ s.1) (h2 : s.1 + 10 ≤ X.1) (h3 : X.1 ≤ 5120) (h : ∀ x0 x1 x2 x3 : Int, jg x0 → jg x1 → jg x2 → jg x3 → kSy (fun m => jf_327 x0 x1 x2 x3 m) (fun m => jf_289 x0 x1 x2 x3 m) s.2) : kOp jfM_28 X s := by
  unfold kOp jfM_28
  simp (disch := omega) only [jwi, jif]
  exact kop_w (A := fun m => jf_327 _ _ _ _ m) (B := fun m => jf_289 _ _ _ _ m) rfl (h _ _ _ _ jg_i jg_i jg_i jg_i)
theorem kop_29 {X : Nat × (Nat → Int32)} {s : Int × jm} (h1 : 0 ≤ s.1) (h2 : s.1 + 10 ≤ X.1) (h3 : X.1 ≤ 5120) (h : ∀ x0 x1 x2 : Int, jg x0 → jg x1 → jg x2 → kSy (fun m => jf_328 x0 x1 x2 m) (fun m => jf_291 x0 x1 x2 m) s.2) : kOp jfM_29 X s := by
  unfold kOp jfM_29
  simp (disch := omega) only [jwi, jif]
  exact kop_w (A := fun m => jf_328 _ _ _ m) (B := fun m => jf_291 _ _ _ m) rfl (h _ _ _ jg_i jg_i jg_i)
theorem kop_30 {X : Nat × (Nat → Int32)} {s : Int × jm} (h1 : 0 ≤ s.1) (h2 : s.1 + 10 ≤ X.1) (h3 : X.1 ≤ 5120) (h : ∀ x0 : Int, jg x0 → kSy (fun m => jf_329 x0 m) (fun m => jf_292 x0 m) s.2) : kOp jfM_30 X s := by
  unfold kOp jfM_30
  simp (disch := omega) only [jwi, jif]
  exact kop_w (A := fun m => jf_329 _ m) (B := fun m => jf_292 _ m) rfl (h _ jg_i)
theorem kop_31 {X : Nat × (Nat → Int32)} {s : Int × jm} (h1 : 0 ≤ s.1) (h2 : s.1 + 10 ≤ X.1) (h3 : X.1 ≤ 5120) (h : ∀ x0 x1 x2 x3 : Int, jg x0 → jg x1 → jg x2 → jg x3 → kSy (fun m => jf_330 x0 x1 x2 x3 m) (fun m => jf_293 x0 x1 x2 x3 m) s.2) : kOp jfM_31 X s := by
  unfold kOp jfM_31
  simp (disch := omega) only [jwi, jif]
  exact kop_w (A := fun m => jf_330 _ _ _ _ m) (B := fun m => jf_293 _ _ _ _ m) rfl (h _ _ _ _ jg_i jg_i jg_i jg_i)
theorem kop_32 {X : Nat × (Nat → Int32)} {s : Int × jm} (h1 : 0 ≤ s.1) (h2 : s.1 + 10 ≤ X.1) (h3 : X.1 ≤ 5120) (h : ∀ x0 x1 x2 x3 x4 : Int, jg x0 → jg x1 → jg x2 → jg x3 → jg x4 → kSy (fun m => jf_331 x0 x1 x2 x3 x4 m) (fun m => jf_297 x0 x1 x2 x3 x4 m) s.2) : kOp jfM_32 X s := by
  unfold kOp jfM_32
  simp (disch := omega) only [jwi, jif]
  exact kop_w (A := fun m => jf_331 _ _ _ _ _ m) (B := fun m => jf_297 _ _ _ _ _ m) rfl (h _ _ _ _ _ jg_i jg_i jg_i jg_i jg_i)
theorem kop_33 {X : Nat × (Nat → Int32)} {s : Int × jm} (h1 : 0 ≤ s.1) (h2 : s.1 + 10 ≤ X.1) (h3 : X.1 ≤ 5120) (h : kSe (fun m => jf_146 m) (fun m => jf_298 m) s.2) : kOp jfM_33 X s := by
  unfold kOp jfM_33
  simp (disch := omega) only [jwi, jif]
  exact kop_e (A := fun m => jf_146 m) (B := fun m => jf_298 m) rfl (h)
theorem kop_34 {X : Nat × (Nat → Int32)} {s : Int × jm} (h1 : 0 ≤ s.1) (h2 : s.1 + 10 ≤ X.1) (h3 : X.1 ≤ 5120) (h : kSe (fun m => jf_147 m) (fun m => jf_301 m) s.2) : kOp jfM_34 X s := by
  unfold kOp jfM_34
  simp (disch := omega) only [jwi, jif]
  exact kop_e (A := fun m => jf_147 m) (B := fun m => jf_301 m) rfl (h)
theorem kop_35 {X : Nat × (Nat → Int32)} {s : Int × jm} (h1 : 0 ≤ s.1) (h2 : s.1 + 10 ≤ X.1) (h3 : X.1 ≤ 5120) (h : ∀ x0 : Int, jg x0 → kSp (fun m => jf_148 x0 m) (fun m => jf_302 x0 m) s.2) : kOp jfM_35 X s := by
  unfold kOp jfM_35
  simp (disch := omega) only [jwi, jif]
  exact kop_p (A := fun m => jf_148 _ m) (B := fun m => jf_302 _ m) rfl (h _ jg_i)
theorem kop_36 {X : Nat × (Nat → Int32)} {s : Int × jm} (h1 : 0 ≤ s.1) (h2 : s.1 + 10 ≤ X.1) (h3 : X.1 ≤ 5120) (h : ∀ x0 : Int, jg x0 → kSp (fun m => jf_149 x0 m) (fun m => jf_303 x0 m) s.2) : kOp jfM_36 X s := by
  unfold kOp jfM_36
  simp (disch := omega) only [jwi, jif]
  exact kop_p (A := fun m => jf_149 _ m) (B := fun m => jf_303 _ m) rfl (h _ jg_i)
