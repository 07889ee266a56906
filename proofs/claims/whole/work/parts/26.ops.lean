/-! OPERATIONS: how refusals and answers are put together. -/
theorem th0 {m : jm} : ja (js m 67 0 0) 67 0 = 0 := by rw [ja_js1]; rfl
theorem jw_m1' {n : Nat} (h : n < 100) : jw ((n : Int) - 1) = (n : Int) - 1 := jwi (by omega) (by omega)
theorem kTh_t {m : jm} {t : Int} {k : Nat} (ht : jg t) : ja (kTh m t k) 67 0 = t := by
  unfold kTh; rw [ja_jsk (by decide), ja_js1, jw_id ht]
theorem jgl_0 : jgl 0 := ⟨by decide, by decide⟩
theorem rf_A {A B : jm → Option (Int × jm)} {m : jm} {w : Int} (h : Inv m) (hw : jg w) (hw0 : w ≠ 0) (hA : A m = some (w, kA m)) (hB : ∀ M, kEq kQS m M → B M = some (0, kTh (js M 67 0 0) w 1)) : kSy A B m := by
  unfold kSy; rw [hA]
  show jo (B (kA m)) _
  rw [hB (kA m) (by unfold kA; exact kEq_js kEq_r (by unfold kQS; omega))]
  exact ⟨kTh_t hw, fun e => absurd e hw0, jgl_0, Inv_A h⟩
theorem rf_E {A B : jm → Option (Int × jm)} {m : jm} {w : Int} (h : Inv m) (hw : jg w) (hw0 : w ≠ 0) (hA : A m = some (w, kE m)) (hB : ∀ M, kEq kQS m M → B M = some (0, kTh (js M 67 0 0) w 0)) : kSy A B m := by
  unfold kSy; rw [hA]
  show jo (B (kE m)) _
  rw [hB (kE m) (by unfold kE; exact kEq_js kEq_r (by unfold kQS; omega))]
  exact ⟨kTh_t hw, fun e => absurd e hw0, jgl_0, Inv_E h⟩
theorem rf_Ab {A B : jm → Option (Int × jm)} {m : jm} {w : Int} (h : Inv m) (hw : jg w) (hw0 : w ≠ 0) (hA : A m = some (w, kA m)) (hB : ∀ M, kEq kQS m M → B M = some (0, kTh (js M 67 0 0) w 1)) : kSb A B m := by
  unfold kSb; rw [hA]
  show jo (B (kA m)) _
  rw [hB (kA m) (by unfold kA; exact kEq_js kEq_r (by unfold kQS; omega))]
  exact ⟨kTh_t hw, fun e => absurd e hw0, Or.inl rfl, Inv_A h⟩
theorem rf_Eb {A B : jm → Option (Int × jm)} {m : jm} {w : Int} (h : Inv m) (hw : jg w) (hw0 : w ≠ 0) (hA : A m = some (w, kE m)) (hB : ∀ M, kEq kQS m M → B M = some (0, kTh (js M 67 0 0) w 0)) : kSb A B m := by
  unfold kSb; rw [hA]
  show jo (B (kE m)) _
  rw [hB (kE m) (by unfold kE; exact kEq_js kEq_r (by unfold kQS; omega))]
  exact ⟨kTh_t hw, fun e => absurd e hw0, Or.inl rfl, Inv_E h⟩
/-- a place that lasts -/
def kQ (k j : Nat) : Prop := kQS k j ∨ kQT k j ∨ kQR k j
theorem Inv_fr {m m' : jm} {b : Bool} {W : Nat → Nat → Prop} (h : Inv m) (hf : jfr b W m m') (hW : ∀ k j, W k j → ¬ kQ k j) : Inv m' :=
  Inv_eq h (kEq_fr hf (fun k j hk hw => hW k j hw (Or.inl hk))) (kEq_fr hf (fun k j hk hw => hW k j hw (Or.inr (Or.inl hk)))) (kEq_fr hf (fun k j hk hw => hW k j hw (Or.inr (Or.inr hk))))
theorem q_ok {A B : jm → Option (Int × jm)} {m : jm} {W W' : Nat → Nat → Prop} (r : Int) (h : Inv m) (hr : jgl r) (hA : jo (A m) (fun p => p.1 = 0 ∧ ∃ m1, p.2 = jsl m1 102 0 r ∧ jfr true W m m1)) (hW : ∀ k j, W k j → ¬ kQ k j) (hB : ∀ M, kEq kQS m M → jo (B M) (fun p => p.1 = r ∧ jfr true W' (js M 67 0 0) p.2)) (hW' : ∀ k j, W' k j → ¬ kQ k j ∧ ¬ (k = 67 ∧ j = 0)) : kSy A B m := by
  unfold kSy
  refine jo_mono hA (fun p hp => ?_)
  obtain ⟨p0, m1, p1, hf⟩ := hp
  have hI : Inv m1 := Inv_fr h hf hW
  rw [p1]
  refine jo_mono (hB (jsl m1 102 0 r) (kEq_jsl (kEq_fr hf (fun k j hk hw => hW k j hw (Or.inl hk))))) (fun p' hp' => ?_)
  obtain ⟨b1, b2⟩ := hp'
  refine ⟨?_, fun _ => ?_, by rw [b1]; exact hr, Inv_fr (Inv_th (Inv_jsl hI)) b2 (fun k j hk => (hW' k j hk).1)⟩
  · have : ja p'.2 67 0 = ja (js (jsl m1 102 0 r) 67 0 0) 67 0 := by
      unfold ja; rw [b2.1 67 0 (fun e => (hW' _ _ e).2 ⟨rfl, rfl⟩)]
    rw [this, th0, p0]
  · unfold jal
    rw [b2.2 rfl, b1]
    show (if (102 : Nat) = 102 ∧ (0 : Nat) = 0 then Int64.ofInt r else m1.2 102 0).toInt = r
    rw [if_pos ⟨rfl, rfl⟩, jt_gl hr]
theorem q_okb {A B : jm → Option (Int × jm)} {m : jm} {W W' : Nat → Nat → Prop} (r : Int) (h : Inv m) (hr : jb r) (hA : jo (A m) (fun p => p.1 = 0 ∧ ∃ m1, p.2 = jsl m1 102 0 r ∧ jfr true W m m1)) (hW : ∀ k j, W k j → ¬ kQ k j) (hB : ∀ M, kEq kQS m M → jo (B M) (fun p => p.1 = r ∧ jfr true W' (js M 67 0 0) p.2)) (hW' : ∀ k j, W' k j → ¬ kQ k j ∧ ¬ (k = 67 ∧ j = 0)) : kSb A B m := by
  have hs := q_ok r h (jgl_g (jg_b hr)) hA hW hB hW'
  unfold kSy at hs
  unfold kSb
  refine jo_mono (jo_same hs hA) (fun p hp => ?_)
  obtain ⟨hp, -, m1, p1, hf⟩ := hp
  have := hB p.2 (by rw [p1]; exact kEq_jsl (kEq_fr hf (fun k j hk hw => hW k j hw (Or.inl hk))))
  refine jo_mono (jo_same hp this) (fun p' hp' => ?_)
  obtain ⟨⟨a1, a2, a3, a4⟩, b1, -⟩ := hp'
  exact ⟨a1, a2, by rw [b1]; exact hr, a4⟩
theorem wr0 {x : Option (Int × Nat × jm)} {r : Int} {W : Nat → Nat → Prop} {m : jm} {F : Int × Nat × jm → Option (Int × jm)} (h : jo x (fun p => p.1 = r ∧ p.2.1 = 0 ∧ jfr true W m p.2.2)) : jo (x.bind fun p1 => if p1.2.1 = 0 then jle (jsl p1.2.2 102 0 p1.1) fun m2 => some ((0 : Int), m2) else F p1) (fun p => p.1 = 0 ∧ ∃ m1, p.2 = jsl m1 102 0 r ∧ jfr true W m m1) := by
  rw [jo_bind]
  refine jo_mono h (fun p hp => ?_)
  rw [if_pos hp.2.1]
  exact ⟨rfl, p.2.2, by rw [← hp.1], hp.2.2⟩
/-! checks that pass, checks that don't -/
theorem ck_E {β : Type} {w N : Nat} {n : Int} {m : jm} {Fa Fb : Nat × jm → Option β} (hn : n = N) (hN : N < 100) (hw : w < N) : (jf_160 (w : Int) n m).bind (fun p1 => if p1.1 = 0 then Fa p1 else Fb p1) = Fa (0, m) := by
  rw [sp_160, hn, jw_m1' hN, if_pos (by omega), jsb, if_pos rfl]
theorem ck_Er {β : Type} {x : Int} {N : Nat} {n : Int} {m : jm} {Fa Fb : Nat × jm → Option β} (hn : n = N) (hN : N < 100) (hx : ¬ (0 ≤ x ∧ x < N)) : (jf_160 x n m).bind (fun p1 => if p1.1 = 0 then Fa p1 else Fb p1) = Fb (1, kE m) := by
  rw [sp_160, hn, jw_m1' hN, if_neg (by omega), jsb, if_neg (by simp)]
theorem ck_R {β : Type} {x a b : Int} {m : jm} {Fa Fb : Nat × jm → Option β} (hx : a ≤ x ∧ x ≤ b) : (jf_152 x a b m).bind (fun p1 => if p1.1 = 0 then Fa p1 else Fb p1) = Fa (0, m) := by
  rw [sp_152, if_pos hx, jsb, if_pos rfl]
theorem ck_Rr {β : Type} {x a b : Int} {m : jm} {Fa Fb : Nat × jm → Option β} (hx : ¬ (a ≤ x ∧ x ≤ b)) : (jf_152 x a b m).bind (fun p1 => if p1.1 = 0 then Fa p1 else Fb p1) = Fb (2, kA m) := by
  rw [sp_152, if_neg hx, jsb, if_neg (by simp)]
theorem ck_A {β : Type} {x : Int} {m : jm} {Fa Fb : Nat × jm → Option β} (hx : x ≠ 0) : (jf_154 x m).bind (fun p1 => if p1.1 = 0 then Fa p1 else Fb p1) = Fa (0, m) := by
  rw [sp_154, if_neg hx, jsb, if_pos rfl]
theorem ck_Ar {β : Type} {x : Int} {m : jm} {Fa Fb : Nat × jm → Option β} (hx : x = 0) : (jf_154 x m).bind (fun p1 => if p1.1 = 0 then Fa p1 else Fb p1) = Fb (2, kA m) := by
  rw [sp_154, if_pos hx, jsb, if_neg (by simp)]
theorem sp_165 {x y n k : Int} {m : jm} : jf_165 x n y k m = some (if 0 ≤ x ∧ x ≤ jw (n - 1) then (if 0 ≤ y ∧ y ≤ jw (k - 1) then (0, m) else (1, kE m)) else (1, kE m)) := by
  unfold jf_165
  rw [sp_160, jsb]
  by_cases h : 0 ≤ x ∧ x ≤ jw (n - 1)
  · rw [if_pos h, if_pos h, if_pos rfl, sp_160, jsb, jpr]
  · rw [if_neg h, if_neg h, if_neg (by simp)]
theorem ck_B {β : Type} {w v N K : Nat} {n k : Int} {m : jm} {Fa Fb : Nat × jm → Option β} (hn : n = N) (hN : N < 100) (hk : k = K) (hK : K < 100) (hw : w < N) (hv : v < K) : (jf_165 (w : Int) n (v : Int) k m).bind (fun p1 => if p1.1 = 0 then Fa p1 else Fb p1) = Fa (0, m) := by
  rw [sp_165, hn, hk, jw_m1' hN, jw_m1' hK, if_pos (by omega), if_pos (by omega), jsb, if_pos rfl]
theorem ck_Br {β : Type} {x y : Int} {N K : Nat} {n k : Int} {m : jm} {Fa Fb : Nat × jm → Option β} (hn : n = N) (hN : N < 100) (hk : k = K) (hK : K < 100) (hx : ¬ ((0 ≤ x ∧ x < N) ∧ (0 ≤ y ∧ y < K))) : (jf_165 x n y k m).bind (fun p1 => if p1.1 = 0 then Fa p1 else Fb p1) = Fb (1, kE m) := by
  rw [sp_165, hn, hk, jw_m1' hN, jw_m1' hK]
  by_cases h : 0 ≤ x ∧ x ≤ (N : Int) - 1
  · rw [if_pos h, if_neg (by omega), jsb, if_neg (by simp)]
  · rw [if_neg h, jsb, if_neg (by simp)]
/-! the model's checks -/
theorem sp_252 {x t : Int} {m : jm} (h0 : ja m 67 0 = 0) (ht : jg t) (ht0 : t ≠ 0) : jf_252 x t m = some (if 0 ≤ x ∧ x ≤ jw (ja m 67 24 - 1) then (1, m) else (0, kTh m t 0)) := by
  unfold jf_252
  rw [sp_247, jsb, show (0 : Int) = ((0 : Nat) : Int) from rfl, sp_194 (by decide) h0 ht ht0, jsb]
  by_cases h : ((0 : Nat) : Int) ≤ x ∧ x ≤ jw (ja m 67 24 - 1)
  · rw [if_pos h, if_pos h]; rfl
  · rw [if_neg h, if_neg h]; rfl
theorem sp_254 {x t : Int} {m : jm} (h0 : ja m 67 0 = 0) (ht : jg t) (ht0 : t ≠ 0) : jf_254 x t m = some (if 0 ≤ x ∧ x ≤ jw (ja m 67 25 - 1) then (1, m) else (0, kTh m t 0)) := by
  unfold jf_254
  rw [sp_247, jsb, show (0 : Int) = ((0 : Nat) : Int) from rfl, sp_194 (by decide) h0 ht ht0, jsb]
  by_cases h : ((0 : Nat) : Int) ≤ x ∧ x ≤ jw (ja m 67 25 - 1)
  · rw [if_pos h, if_pos h]; rfl
  · rw [if_neg h, if_neg h]; rfl
theorem sp_256 {x t : Int} {m : jm} (h0 : ja m 67 0 = 0) (ht : jg t) (ht0 : t ≠ 0) : jf_256 x t m = some (if 0 ≤ x ∧ x ≤ jw (ja m 67 26 - 1) then (1, m) else (0, kTh m t 0)) := by
  unfold jf_256
  rw [sp_247, jsb, show (0 : Int) = ((0 : Nat) : Int) from rfl, sp_194 (by decide) h0 ht ht0, jsb]
  by_cases h : ((0 : Nat) : Int) ≤ x ∧ x ≤ jw (ja m 67 26 - 1)
  · rw [if_pos h, if_pos h]; rfl
  · rw [if_neg h, if_neg h]; rfl
theorem sp_258 {x t : Int} {m : jm} (h0 : ja m 67 0 = 0) (ht : jg t) (ht0 : t ≠ 0) : jf_258 x t m = some (if 0 ≤ x ∧ x ≤ jw (ja m 67 27 - 1) then (1, m) else (0, kTh m t 0)) := by
  unfold jf_258
  rw [sp_247, jsb, show (0 : Int) = ((0 : Nat) : Int) from rfl, sp_194 (by decide) h0 ht ht0, jsb]
  by_cases h : ((0 : Nat) : Int) ≤ x ∧ x ≤ jw (ja m 67 27 - 1)
  · rw [if_pos h, if_pos h]; rfl
  · rw [if_neg h, if_neg h]; rfl
theorem mk_252 {β : Type} {w N : Nat} {t : Int} {m : jm} {Fa Fb : Int × jm → Option β} (h0 : ja m 67 0 = 0) (hn : ja m 67 24 = N) (hN : N < 100) (ht : jg t) (ht0 : t ≠ 0) (hw : w < N) : (jf_252 (w : Int) t m).bind (fun p1 => if p1.1 = 0 then Fb p1 else Fa p1) = Fa (1, m) := by
  rw [sp_252 h0 ht ht0, hn, jw_m1' hN, if_pos (by omega), jsb, if_neg Int.one_ne_zero]
theorem mk_252r {β : Type} {x : Int} {N : Nat} {t : Int} {m : jm} {Fa Fb : Int × jm → Option β} (h0 : ja m 67 0 = 0) (hn : ja m 67 24 = N) (hN : N < 100) (ht : jg t) (ht0 : t ≠ 0) (hx : ¬ (0 ≤ x ∧ x < N)) : (jf_252 x t m).bind (fun p1 => if p1.1 = 0 then Fb p1 else Fa p1) = Fb (0, kTh m t 0) := by
  rw [sp_252 h0 ht ht0, hn, jw_m1' hN, if_neg (by omega), jsb, if_pos rfl]
theorem mk_254 {β : Type} {w N : Nat} {t : Int} {m : jm} {Fa Fb : Int × jm → Option β} (h0 : ja m 67 0 = 0) (hn : ja m 67 25 = N) (hN : N < 100) (ht : jg t) (ht0 : t ≠ 0) (hw : w < N) : (jf_254 (w : Int) t m).bind (fun p1 => if p1.1 = 0 then Fb p1 else Fa p1) = Fa (1, m) := by
  rw [sp_254 h0 ht ht0, hn, jw_m1' hN, if_pos (by omega), jsb, if_neg Int.one_ne_zero]
theorem mk_254r {β : Type} {x : Int} {N : Nat} {t : Int} {m : jm} {Fa Fb : Int × jm → Option β} (h0 : ja m 67 0 = 0) (hn : ja m 67 25 = N) (hN : N < 100) (ht : jg t) (ht0 : t ≠ 0) (hx : ¬ (0 ≤ x ∧ x < N)) : (jf_254 x t m).bind (fun p1 => if p1.1 = 0 then Fb p1 else Fa p1) = Fb (0, kTh m t 0) := by
  rw [sp_254 h0 ht ht0, hn, jw_m1' hN, if_neg (by omega), jsb, if_pos rfl]
theorem mk_256 {β : Type} {w N : Nat} {t : Int} {m : jm} {Fa Fb : Int × jm → Option β} (h0 : ja m 67 0 = 0) (hn : ja m 67 26 = N) (hN : N < 100) (ht : jg t) (ht0 : t ≠ 0) (hw : w < N) : (jf_256 (w : Int) t m).bind (fun p1 => if p1.1 = 0 then Fb p1 else Fa p1) = Fa (1, m) := by
  rw [sp_256 h0 ht ht0, hn, jw_m1' hN, if_pos (by omega), jsb, if_neg Int.one_ne_zero]
theorem mk_256r {β : Type} {x : Int} {N : Nat} {t : Int} {m : jm} {Fa Fb : Int × jm → Option β} (h0 : ja m 67 0 = 0) (hn : ja m 67 26 = N) (hN : N < 100) (ht : jg t) (ht0 : t ≠ 0) (hx : ¬ (0 ≤ x ∧ x < N)) : (jf_256 x t m).bind (fun p1 => if p1.1 = 0 then Fb p1 else Fa p1) = Fb (0, kTh m t 0) := by
  rw [sp_256 h0 ht ht0, hn, jw_m1' hN, if_neg (by omega), jsb, if_pos rfl]
theorem mk_258 {β : Type} {w N : Nat} {t : Int} {m : jm} {Fa Fb : Int × jm → Option β} (h0 : ja m 67 0 = 0) (hn : ja m 67 27 = N) (hN : N < 100) (ht : jg t) (ht0 : t ≠ 0) (hw : w < N) : (jf_258 (w : Int) t m).bind (fun p1 => if p1.1 = 0 then Fb p1 else Fa p1) = Fa (1, m) := by
  rw [sp_258 h0 ht ht0, hn, jw_m1' hN, if_pos (by omega), jsb, if_neg Int.one_ne_zero]
theorem mk_258r {β : Type} {x : Int} {N : Nat} {t : Int} {m : jm} {Fa Fb : Int × jm → Option β} (h0 : ja m 67 0 = 0) (hn : ja m 67 27 = N) (hN : N < 100) (ht : jg t) (ht0 : t ≠ 0) (hx : ¬ (0 ≤ x ∧ x < N)) : (jf_258 x t m).bind (fun p1 => if p1.1 = 0 then Fb p1 else Fa p1) = Fb (0, kTh m t 0) := by
  rw [sp_258 h0 ht ht0, hn, jw_m1' hN, if_neg (by omega), jsb, if_pos rfl]
theorem mk_R {β : Type} {x a b t : Int} {m : jm} {Fa Fb : Int × jm → Option β} (h0 : ja m 67 0 = 0) (ht : jg t) (ht0 : t ≠ 0) (hx : a ≤ x ∧ x ≤ b) : (jf_247 x a b m).bind (fun p1 => (jf_194 p1 t 1 m).bind (fun p2 => if p2.1 = 0 then Fb p2 else Fa p2)) = Fa (1, m) := by
  rw [sp_247, jsb, if_pos hx, show jf_194 1 t 1 m = jf_194 1 t ((1 : Nat) : Int) m from rfl, sp_194 (by decide) h0 ht ht0, if_neg Int.one_ne_zero, jsb, if_neg Int.one_ne_zero]
theorem mk_Rr {β : Type} {x a b t : Int} {m : jm} {Fa Fb : Int × jm → Option β} (h0 : ja m 67 0 = 0) (ht : jg t) (ht0 : t ≠ 0) (hx : ¬ (a ≤ x ∧ x ≤ b)) : (jf_247 x a b m).bind (fun p1 => (jf_194 p1 t 1 m).bind (fun p2 => if p2.1 = 0 then Fb p2 else Fa p2)) = Fb (0, kTh m t 1) := by
  rw [sp_247, jsb, if_neg hx, show jf_194 0 t 1 m = jf_194 0 t ((1 : Nat) : Int) m from rfl, sp_194 (by decide) h0 ht ht0, if_pos rfl, jsb, if_pos rfl]
theorem mk_A {β : Type} {g t : Int} {m : jm} {Fa Fb : Int × jm → Option β} (h0 : ja m 67 0 = 0) (ht : jg t) (ht0 : t ≠ 0) (hx : g ≠ 0) : (jf_194 g t 1 m).bind (fun p2 => if p2.1 = 0 then Fb p2 else Fa p2) = Fa (1, m) := by
  rw [show jf_194 g t 1 m = jf_194 g t ((1 : Nat) : Int) m from rfl, sp_194 (by decide) h0 ht ht0, if_neg hx, jsb, if_neg Int.one_ne_zero]
theorem mk_Ar {β : Type} {g t : Int} {m : jm} {Fa Fb : Int × jm → Option β} (h0 : ja m 67 0 = 0) (ht : jg t) (ht0 : t ≠ 0) (hx : g = 0) : (jf_194 g t 1 m).bind (fun p2 => if p2.1 = 0 then Fb p2 else Fa p2) = Fb (0, kTh m t 1) := by
  rw [show jf_194 g t 1 m = jf_194 g t ((1 : Nat) : Int) m from rfl, sp_194 (by decide) h0 ht ht0, if_pos hx, jsb, if_pos rfl]
/-! what the invariant gives -/
def kC0 (m : jm) (c : kC) : Prop := kCm m 24 75 c
theorem Inv_K {m : jm} (h : Inv m) : ∃ (c : kC) (p : kP) (cl : List Int), kK 0 m c p cl ∧ kCm m 24 75 c ∧ kPm (fun j => ja m 88 j) c p ∧ kLm m cl ∧ kBk m c := by
  obtain ⟨⟨c, cl, h1, h2, h3, ⟨p, h4, h5, h6, -⟩, h7, h8, h9, h10, -⟩, -⟩ := h
  exact ⟨c, p, cl, ⟨h1, h6, h7, h2, h4, h8⟩, h3, h5, h9, h10⟩
/-- the same on what the class left, thrown cleared -/
theorem kCm_Q {m M : jm} {c : kC} (h : kEq kQS m M) (H : kCm m 24 75 c) : kCm (js M 67 0 0) 24 75 c := by
  have h' : kEq kQS m (js M 67 0 0) := kEq_js h (by unfold kQS; omega)
  refine ⟨fun i hi => ?_, fun t ht => ?_, fun e he => ?_, fun w hw => ?_, fun l hl => ?_⟩
  · rw [h' _ _ (by unfold kQS; omega)]; exact H.1 i hi
  · rw [h' _ _ (by unfold kQS; omega)]; exact H.2.1 t ht
  · rw [h' _ _ (by unfold kQS; omega), h' _ _ (by unfold kQS; omega), h' _ _ (by unfold kQS; omega)]; exact H.2.2.1 e he
  · rw [h' _ _ (by unfold kQS; omega), h' _ _ (by unfold kQS; omega), h' _ _ (by unfold kQS; omega)]; exact H.2.2.2.1 w hw
  · rw [h' _ _ (by unfold kQS; omega), h' _ _ (by unfold kQS; omega), h' _ _ (by unfold kQS; omega), h' _ _ (by unfold kQS; omega)]; exact H.2.2.2.2 l hl
theorem kPm_Q {m M : jm} {c : kC} {p : kP} (h : kEq kQS m M) (H : kPm (fun j => ja m 88 j) c p) : kPm (fun j => ja (js M 67 0 0) 88 j) c p := kPm_eq (fun j => (kEq_js h (by unfold kQS; omega)) _ _ (by unfold kQS; omega)) H
theorem kLm_Q {m M : jm} {cl : List Int} (h : kEq kQS m M) (H : kLm m cl) : kLm (js M 67 0 0) cl := by
  have h' : kEq kQS m (js M 67 0 0) := kEq_js h (by unfold kQS; omega)
  unfold kLm at *
  rw [h' 67 34 (by unfold kQS; omega)]
  rcases H with h7 | h7
  · exact Or.inl h7
  · refine Or.inr ⟨h7.1, h7.2.1, fun i hi => ?_⟩
    rw [h' 82 i (by unfold kQS; omega), h' 83 i (by unfold kQS; omega)]; exact h7.2.2 i hi
/-- the model's picture once its working copy is made -/
theorem kM_T0 {M : jm} {c : kC} {p : kP} {cl : List Int} (hv : kV c) (hq : kVp c p) (hW : kWL cl) (h1 : kCm M 24 75 c) (h2 : kPm (fun j => ja M 88 j) c p) (h3 : kLm M cl) : kM (kT0 M) c p cl := by
  have e : ∀ k j, k ≠ 89 → ja (kT0 M) k j = ja M k j := fun k j hk => ja_T0 hk
  refine ⟨hv, hq, hW, ⟨fun i hi => ?_, fun t ht => ?_, fun f he => ?_, fun w hw => ?_, fun l hl => ?_⟩, kPm_T0 hv h2, ?_⟩
  · rw [e _ _ (by omega)]; exact h1.1 i hi
  · rw [e _ _ (by omega)]; exact h1.2.1 t ht
  · rw [e _ _ (by omega), e _ _ (by omega), e _ _ (by omega)]; exact h1.2.2.1 f he
  · rw [e _ _ (by omega), e _ _ (by omega), e _ _ (by omega)]; exact h1.2.2.2.1 w hw
  · rw [e _ _ (by omega), e _ _ (by omega), e _ _ (by omega), e _ _ (by omega)]; exact h1.2.2.2.2 l hl
  · unfold kLm at *
    rw [e 67 34 (by decide)]
    rcases h3 with h7 | h7
    · exact Or.inl h7
    · refine Or.inr ⟨h7.1, h7.2.1, fun i hi => ?_⟩
      rw [e 82 i (by decide), e 83 i (by decide)]; exact h7.2.2 i hi
theorem jfr_T0 {M : jm} : jfr true jW_226 M (kT0 M) := jx_226 (m := M) _ sp_226
