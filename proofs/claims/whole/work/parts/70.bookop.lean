/-! BOOK: the operation. -/
def kOc (m : jm) (X : Nat) : jm := js (js (js (js (js (js m 1 2 X) 1 1 0) 1 3 0) 1 4 0) 1 5 0) 1 6 (-1)
theorem sp_115 {m : jm} {X : Nat} (h : X ≤ 600) : jf_115 X m = some (kOc m X) := by
  unfold jf_115
  rw [show jmin (X : Int) 600 = X by unfold jmin; rw [if_neg (by omega)]]; rfl
theorem kOc_fr {m : jm} {X : Nat} : jfr true (fun k j => k = 1 ∧ 1 ≤ j ∧ j ≤ 6) m (kOc m X) := jfr_js (jfr_js (jfr_js (jfr_js (jfr_js (jfr_js jfr_r (by omega)) (by omega)) (by omega)) (by omega)) (by omega)) (by omega)
theorem kOc_T {m : jm} {f : Nat → Int} {X : Nat} (h : X ≤ 600) (hf : ∀ j, j < X → ja m 2 j = f j ∧ 0 ≤ f j ∧ f j ≤ 255) : kTc (kOc m X) f X 0 ∧ ja (kOc m X) 1 1 = 0 ∧ ja (kOc m X) 1 6 = -1 := by
  unfold kOc
  refine ⟨⟨⟨h, Nat.zero_le _, fun j hj => (hf j hj).2⟩, fun j hj => ?_, ?_, ?_⟩, ?_, ?_⟩
  · rw [ja_jsk (by decide), ja_jsk (by decide), ja_jsk (by decide), ja_jsk (by decide), ja_jsk (by decide), ja_jsk (by decide)]; exact (hf j hj).1
  · rw [ja_jsj (by decide), ja_jsj (by decide), ja_jsj (by decide), ja_jsj (by decide), ja_jsj (by decide), ja_js1, jwi (by omega) (by omega)]
  · rw [ja_jsj (by decide), ja_jsj (by decide), ja_jsj (by decide), ja_js1]; exact wz0
  · rw [ja_jsj (by decide), ja_jsj (by decide), ja_jsj (by decide), ja_jsj (by decide), ja_js1]; exact wz0
  · rw [ja_js1]; exact wm1
def kOm (m : jm) (X : Nat) : jm := js (js (js (js (js (js m 67 2 0) 67 8 (-1)) 67 3 X) 67 4 0) 67 5 (-1)) 67 7 0
theorem sp_195 {m : jm} {X : Nat} : jf_195 X m = some (kOm m X) := rfl
def kWom (k j : Nat) : Prop := k = 67 ∧ (j = 2 ∨ j = 8 ∨ j = 3 ∨ j = 4 ∨ j = 5 ∨ j = 7)
theorem kOm_fr {m : jm} {X : Nat} : jfr true kWom m (kOm m X) := jfr_js (jfr_js (jfr_js (jfr_js (jfr_js (jfr_js jfr_r (by unfold kWom; omega)) (by unfold kWom; omega)) (by unfold kWom; omega)) (by unfold kWom; omega)) (by unfold kWom; omega)) (by unfold kWom; omega)
theorem kOm_T {m : jm} {f : Nat → Int} {X : Nat} (h : X ≤ 600) (hf : ∀ j, j < X → ja m 69 j = f j ∧ 0 ≤ f j ∧ f j ≤ 255) : kTm (kOm m X) f X 0 ∧ ja (kOm m X) 67 2 = 0 ∧ ja (kOm m X) 67 5 = -1 ∧ ja (kOm m X) 67 7 = 0 ∧ ja (kOm m X) 67 8 = -1 := by
  unfold kOm
  refine ⟨⟨⟨h, Nat.zero_le _, fun j hj => (hf j hj).2⟩, fun j hj => ?_, ?_, ?_⟩, ?_, ?_, ?_, ?_⟩
  · rw [ja_jsk (by decide), ja_jsk (by decide), ja_jsk (by decide), ja_jsk (by decide), ja_jsk (by decide), ja_jsk (by decide)]; exact (hf j hj).1
  · rw [ja_jsj (by decide), ja_jsj (by decide), ja_jsj (by decide), ja_js1, jwi (by omega) (by omega)]
  · rw [ja_jsj (by decide), ja_jsj (by decide), ja_js1]; exact wz0
  · rw [ja_jsj (by decide), ja_jsj (by decide), ja_jsj (by decide), ja_jsj (by decide), ja_jsj (by decide), ja_js1]; exact wz0
  · rw [ja_jsj (by decide), ja_js1]; exact wm1
  · rw [ja_js1]; exact wz0
  · rw [ja_jsj (by decide), ja_jsj (by decide), ja_jsj (by decide), ja_jsj (by decide), ja_js1]; exact wm1
theorem sl_244 {m : jm} {f : Nat → Int} {X N L : Nat} (hL : ja m 67 2 = (L : Int)) (hX : X ≤ L) (hX1 : X ≤ 100) (hf : ∀ j, j < X → ja m 69 j = f j ∧ 0 ≤ f j ∧ f j ≤ 255) (hc : ja m 67 25 = N) (hN : N ≤ 12) : ∃ r, kRun (kBst f X ((N : Int) - 1)) jfu ((0 : Nat), (0 : Nat), fun _ => (-1 : Int)) = some r ∧ jo (jf_244 X m) (fun b => ∃ m3, kBqm m3 b r ∧ jfr true (fun k j => kWom k j ∨ k = 91) (js m 67 0 0) m3 ∧ ja m3 67 2 = 0 ∧ ja m3 67 25 = N) := by
  have hm : ∀ j, j < X → ja (js m 67 0 0) 69 j = f j ∧ 0 ≤ f j ∧ f j ≤ 255 := fun j hj => by rw [ja_jsk (by decide)]; exact hf j hj
  obtain ⟨T1, T2, T3, -, -⟩ := kOm_T (m := js m 67 0 0) (f := f) (X := X) (by omega) hm
  have F1 : jfr true kWom (js m 67 0 0) (kOm (js m 67 0 0) X) := kOm_fr
  have key : jo (jlp (α := Int × jm) (β := jm) (fun s16 => if s16.1 < 12 then if 0 ≤ s16.1 ∧ s16.1 < 12 then jle (js s16.2 91 s16.1.toNat (-1)) fun m23 => some (Sum.inl (jw (s16.1 + 1), m23)) else none else some (Sum.inr s16.2)) jfu (0, kOm (js m 67 0 0) X)) (fun M => (∀ w, w < 12 → ja M 91 w = -1) ∧ jfr true (fun k _ => k = 91) (kOm (js m 67 0 0) X) M) := by
    refine jo_for 12 jfu (fun i (s : Int × jm) => s.1 = (i : Int) ∧ (∀ w, w < i → ja s.2 91 w = -1) ∧ jfr true (fun k _ => k = 91) (kOm (js m 67 0 0) X) s.2) (jfu_lt (by decide)) (fun i hi s hs => ?_) (fun s hs => ?_) _ ⟨rfl, fun w hw => absurd hw (Nat.not_lt_zero _), jfr_r⟩
    · obtain ⟨a1, a2, a3⟩ := hs
      rw [a1, if_pos (show (i : Int) < 12 by omega), if_pos (show 0 ≤ (i : Int) ∧ (i : Int) < 12 by omega), jle_eq, Int.toNat_natCast, jwn (by omega)]
      refine ⟨rfl, fun w hw => ?_, jfr_js a3 rfl⟩
      show ja (js s.2 91 i (-1)) 91 w = -1
      by_cases e : w = i
      · rw [e, ja_js1]; exact wm1
      · rw [ja_jsj e]; exact a2 w (by omega)
    · obtain ⟨a1, a2, a3⟩ := hs
      rw [a1, if_neg (show ¬ ((12 : Nat) : Int) < 12 by decide)]
      exact ⟨a2, a3⟩
  obtain ⟨M, hM, k1, k2⟩ := jo_ex.1 key
  have F2 : jfr true (fun k j => kWom k j ∨ k = 91) (js m 67 0 0) M := jfr_t (jfr_t jfr_r F1 (fun e => e) (fun k j h => Or.inl h)) k2 (fun e => e) (fun k j h => Or.inr h)
  have c25 : ja M 67 25 = N := by rw [ja_fr F2 (by unfold kWom; omega), ja_jsj (by decide)]; exact hc
  obtain ⟨r, r1, r2⟩ := sl_244l (m := M) (kTm_fr T1 k2 (fun k j h => by omega)) hN c25 k1 (by rw [ja_fr k2 (by omega)]; exact T3)
  refine ⟨r, r1, ?_⟩
  unfold jf_244
  rw [jle_eq, ja_jsj (show (2 : Nat) ≠ 0 by decide), hL, if_neg (show ¬ (X : Int) < 0 by omega), if_neg (show ¬ (L : Int) < (X : Int) by omega), if_neg (show ¬ 100 < (X : Int) by omega), jsb, mk_A th0 (jg_c rfl) (by decide) Int.one_ne_zero]
  dsimp only
  rw [sp_195, jsb, hM, jsb]
  exact jo_mono r2 (fun b hb => ⟨M, hb, F2, by rw [ja_fr k2 (by omega)]; exact T2, c25⟩)
/-- the invariant after a text was read, where nothing else that lasts has changed -/
theorem Inv_tx {m F : jm} (h : Inv m) (hq : kEq kQS m F) (h1 : ja F 1 1 = 0) (h2 : ja F 67 2 = 0) (h3 : ja F 1 6 = ja F 67 8) (hr : kEq kQR m F) : Inv F :=
  ⟨kS_congr hq h.1, ⟨0, by decide, h1, h2, fun i hi => absurd hi (Nat.not_lt_zero _), h3⟩, kR_congr hr h.2.2⟩
theorem rf_At {A B : jm → Option (Int × jm)} {m : jm} {w : Int} (h : Inv m) (hw : jg w) (hw0 : w ≠ 0) (hA : A m = some (w, kA m)) (hB : B (kA m) = some (0, kTh (js (kA m) 67 0 0) w 1)) : kSy A B m := by
  unfold kSy; rw [hA]
  show jo (B (kA m)) _
  rw [hB]
  exact ⟨kTh_t hw, fun e => absurd e hw0, jgl_0, Inv_A h⟩
theorem sy_4 {m : jm} {x0 : Int} (hx0 : jg x0) (h : Inv m) : kSy (fun m => jf_307 x0 m) (fun m => jf_244 x0 m) m := by
  obtain ⟨⟨c, cl, h1, h2, h3, h4, h5, h6, h7, h8, h9, h10, h11⟩, ⟨L, t1, t2, t3, t4, t5⟩, hR⟩ := id h
  have hn := h1.1
  by_cases hX : 0 ≤ x0 ∧ x0 ≤ jmin 100 (ja m 1 1)
  · obtain ⟨X, rfl⟩ := Int.eq_ofNat_of_zero_le hX.1
    have hj : jmin 100 (L : Int) ≤ 100 ∧ jmin 100 (L : Int) ≤ L := by unfold jmin; split <;> omega
    have hXL : X ≤ L ∧ X ≤ 100 := by have := hX.2; rw [t2] at this; omega
    obtain ⟨T1, T2, T3⟩ := kOc_T (m := m) (f := fun j => ja m 69 j) (X := X) (by omega) (fun j hj => ⟨(t4 j (by omega)).1, (t4 j (by omega)).2.1, (t4 j (by omega)).2.2⟩)
    have FO : jfr true (fun k j => k = 1 ∧ 1 ≤ j ∧ j ≤ 6) m (kOc m X) := kOc_fr
    obtain ⟨r, r1, r2⟩ := sl_2 (m := kOc m X) (N := c 11 1) T1 hn.2.1
    have c31 : ja (kOc m X) 3 1 = (c 11 1 : Int) := by rw [ja_fr FO (by omega)]; exact h2.1 1 (by decide)
    unfold kSy
    show jo (jf_307 X m) (fun p => jo (jf_244 X p.2) _)
    unfold jf_307 jf_157
    rw [sp_151, if_pos hX, jsb, if_pos rfl, sp_115 (by omega), jsb, c31]
    rw [jo_bind, jo_bind]
    refine jo_mono r2 (fun b hb => ?_)
    obtain ⟨hf, hb⟩ := hb
    have FB : jfr true (fun k j => (k = 1 ∧ 1 ≤ j ∧ j ≤ 6) ∨ jW_2 k j) m b.2 := jfr_t (jfr_t jfr_r FO (fun e => e) (fun k j h => Or.inl h)) hf (fun e => e) (fun k j h => Or.inr h)
    have W2k : ∀ k j, (k = 1 ∧ 1 ≤ j ∧ j ≤ 6) ∨ jW_2 k j → (k = 1 ∧ 1 ≤ j ∧ j ≤ 6) ∨ k = 37 ∨ k = 38 := fun k j h => by unfold jW_2 at h; omega
    have b11 : ja b.2 1 1 = 0 := by rw [ja_fr hf (by unfold jW_2; omega)]; exact T2
    cases r with
    | inl e =>
      obtain ⟨kd, at'⟩ := e
      obtain ⟨q1, q2, q3, q4⟩ := hb
      rw [q1, if_pos rfl, q2]
      show jo (jf_244 X (jsl b.2 102 0 (jw (-10 + kd)))) _
      obtain ⟨r', s1, s2⟩ := sl_244 (m := jsl b.2 102 0 (jw (-10 + kd))) (f := fun j => ja m 69 j) (X := X) (N := c 11 1) (L := L) (by show ja b.2 67 2 = _; rw [ja_fr FB (by unfold jW_2; omega)]; exact t3) hXL.1 hXL.2 (fun j hj => ⟨by show ja b.2 69 j = _; rw [ja_fr FB (by unfold jW_2; omega)], (t4 j (by omega)).2.1, (t4 j (by omega)).2.2⟩) (by show ja b.2 67 25 = _; rw [ja_fr FB (by unfold jW_2; omega)]; exact h3.1 1 (by decide)) hn.2.1
      rw [r1] at s1
      cases s1
      refine jo_mono s2 (fun p' hp' => ?_)
      obtain ⟨m3, ⟨u1, u2, u3⟩, u4, u5, u6⟩ := hp'
      have FF : jfr true (fun k j => kWom k j ∨ k = 91 ∨ kW44 k j) (js (jsl b.2 102 0 (jw (-10 + kd))) 67 0 0) p'.2 := jfr_t (jfr_t jfr_r u4 (fun e => e) (fun k j h => h.elim (fun e => Or.inl e) (fun e => Or.inr (Or.inl e)))) u3 (fun e => e) (fun k j h => Or.inr (Or.inr h))
      have q : ∀ k j, ¬ (k = 1 ∧ 1 ≤ j ∧ j ≤ 6) → k ≠ 37 → k ≠ 38 → k ≠ 91 → ¬ (k = 67 ∧ j ≤ 8) → ja p'.2 k j = ja m k j := fun k j z1 z2 z3 z4 z5 => by
        rw [ja_fr FF (by unfold kWom kW44; omega), ja_js, if_neg (by omega)]
        show ja b.2 k j = _
        exact ja_fr FB (fun e => by have := W2k k j e; omega)
      refine ⟨?_, fun _ => ?_, ?_, Inv_tx h (fun k j hk => q k j (by unfold kQS at hk; omega) (by unfold kQS at hk; omega) (by unfold kQS at hk; omega) (by unfold kQS at hk; omega) (by unfold kQS at hk; omega)) ?_ ?_ ?_ (fun k j hk => q k j (by unfold kQR at hk; omega) (by unfold kQR at hk; omega) (by unfold kQR at hk; omega) (by unfold kQR at hk; omega) (by unfold kQR at hk; omega))⟩
      · rw [ja_fr FF (by unfold kWom kW44; omega)]; exact th0
      · unfold jal
        rw [FF.2 rfl, u1]
        show (if (102 : Nat) = 102 ∧ (0 : Nat) = 0 then Int64.ofInt (jw (-10 + kd)) else b.2.2 102 0).toInt = jw (kd - 10)
        rw [if_pos ⟨rfl, rfl⟩, jt_gl (jgl_g jg_w), show -10 + kd = kd - 10 by omega]
      · rw [u1]; exact jgl_g jg_w
      · rw [ja_fr FF (by unfold kWom kW44; omega), ja_jsk (by decide)]; exact b11
      · rw [ja_fr u3 (by unfold kW44; omega)]; exact u5
      · rw [u2, ja_fr FF (by unfold kWom kW44; omega), ja_jsk (by decide)]; exact q3
    | inr e =>
      obtain ⟨k, g⟩ := e
      obtain ⟨q1, q2, q3, q4⟩ := hb
      rw [q1, if_neg Int.one_ne_zero, show jf_3 b.2 = some (js (jcp b.2 (b.2.1 38) 34 0 0 12) 33 1 (ja (jcp b.2 (b.2.1 38) 34 0 0 12) 37 1)) from rfl, jsb, show ja (jcp b.2 (b.2.1 38) 34 0 0 12) 37 1 = (k : Int) by rw [ja_jcp, if_neg (by omega)]; exact q3]
      have FC : jfr true (fun k j => ((k = 1 ∧ 1 ≤ j ∧ j ≤ 6) ∨ jW_2 k j) ∨ k = 34 ∨ (k = 33 ∧ j = 1)) m (js (jcp b.2 (b.2.1 38) 34 0 0 12) 33 1 (k : Int)) := jfr_js (jfr_jcp (jfr_t jfr_r FB (fun e => e) (fun k j h => Or.inl h)) (fun j => Or.inr (Or.inl rfl))) (Or.inr (Or.inr ⟨rfl, rfl⟩))
      have c34 : ∀ w, w < 12 → ja (js (jcp b.2 (b.2.1 38) 34 0 0 12) 33 1 (k : Int)) 34 w = g w := fun w hw => by
        rw [ja_jsk (by decide), ja_jcp, if_pos (by omega)]
        show ja b.2 38 (0 + (w - 0)) = g w
        rw [Nat.zero_add, Nat.sub_zero]; exact q2 w hw
      have hk12 : jw (k : Int) = k := by rw [← q3]; exact jw_a
      have c33 : ja (js (jcp b.2 (b.2.1 38) 34 0 0 12) 33 1 (k : Int)) 33 1 = (k : Int) := by rw [ja_js1, hk12]
      have c11 : ja (js (jcp b.2 (b.2.1 38) 34 0 0 12) 33 1 (k : Int)) 1 1 = 0 := by rw [ja_jsk (by decide), ja_jcp, if_neg (by omega)]; exact b11
      have c16 : ja (js (jcp b.2 (b.2.1 38) 34 0 0 12) 33 1 (k : Int)) 1 6 = -1 := by rw [ja_jsk (by decide), ja_jcp, if_neg (by omega), q4]; exact T3
      generalize js (jcp b.2 (b.2.1 38) 34 0 0 12) 33 1 (k : Int) = C at FC c34 c33 c11 c16
      rw [c33]
      show jo (jf_244 X (jsl C 102 0 (k : Int))) _
      obtain ⟨r', s1, s2⟩ := sl_244 (m := jsl C 102 0 (k : Int)) (f := fun j => ja m 69 j) (X := X) (N := c 11 1) (L := L) (by show ja C 67 2 = _; rw [ja_fr FC (by unfold jW_2; omega)]; exact t3) hXL.1 hXL.2 (fun j hj => ⟨by show ja C 69 j = _; rw [ja_fr FC (by unfold jW_2; omega)], (t4 j (by omega)).2.1, (t4 j (by omega)).2.2⟩) (by show ja C 67 25 = _; rw [ja_fr FC (by unfold jW_2; omega)]; exact h3.1 1 (by decide)) hn.2.1
      rw [r1] at s1
      cases s1
      refine jo_mono s2 (fun p' hp' => ?_)
      obtain ⟨m3, ⟨u1, u2, u7, u8, u9, u3⟩, u4, u5, u6⟩ := hp'
      rw [u6, Int.toNat_natCast] at u9
      have FF : jfr true (fun k j => kWom k j ∨ k = 91 ∨ (kW44 k j ∨ k = 92 ∨ (k = 67 ∧ j = 52))) (js (jsl C 102 0 (k : Int)) 67 0 0) p'.2 := jfr_t (jfr_t jfr_r u4 (fun e => e) (fun k j h => h.elim (fun e => Or.inl e) (fun e => Or.inr (Or.inl e)))) u3 (fun e => e) (fun k j h => Or.inr (Or.inr h))
      have qC : ∀ k j, k ≠ 91 → k ≠ 92 → ¬ (k = 67 ∧ (j ≤ 8 ∨ j = 52)) → ja p'.2 k j = ja C k j := fun k j z1 z2 z3 => by
        rw [ja_fr FF (by unfold kWom kW44; omega), ja_js, if_neg (by omega)]; rfl
      have q : ∀ k j, ¬ (k = 1 ∧ 1 ≤ j ∧ j ≤ 6) → k ≠ 37 → k ≠ 38 → k ≠ 91 → k ≠ 92 → k ≠ 34 → ¬ (k = 33 ∧ j = 1) → ¬ (k = 67 ∧ (j ≤ 8 ∨ j = 52)) → ja p'.2 k j = ja m k j := fun k j z1 z2 z3 z4 z5 z6 z7 z8 => by
        rw [qC k j z4 z5 z8]
        exact ja_fr FC (fun e => e.elim (fun e => by have := W2k k j e; omega) (fun e => by omega))
      have g6 : ja p'.2 67 8 = -1 := u2
      refine ⟨?_, fun _ => ?_, ?_, ⟨⟨c, cl, h1, kCc_e (fun k j a b => q k j (by omega) (by omega) (by omega) (by omega) (by omega) (by omega) (by omega) (by omega)) h2, kCm_e (fun j a b => q _ j (by omega) (by omega) (by omega) (by omega) (by omega) (by omega) (by omega) (by omega)) (fun k j a b => q k j (by omega) (by omega) (by omega) (by omega) (by omega) (by omega) (by omega) (by omega)) h3, kPost_e (fun j => q _ j (by omega) (by omega) (by omega) (by omega) (by omega) (by omega) (by omega) (by omega)) (fun j => q _ j (by omega) (by omega) (by omega) (by omega) (by omega) (by omega) (by omega) (by omega)) h4, h5, kLc_e (q _ _ (by omega) (by omega) (by omega) (by omega) (by omega) (by omega) (by omega) (by omega)) (fun j => q _ j (by omega) (by omega) (by omega) (by omega) (by omega) (by omega) (by omega) (by omega)) h6, kLm_e (q _ _ (by omega) (by omega) (by omega) (by omega) (by omega) (by omega) (by omega) (by omega)) (fun j => q _ j (by omega) (by omega) (by omega) (by omega) (by omega) (by omega) (by omega) (by omega)) (fun j => q _ j (by omega) (by omega) (by omega) (by omega) (by omega) (by omega) (by omega) (by omega)) h7, ?_, kPast_e (q _ _ (by omega) (by omega) (by omega) (by omega) (by omega) (by omega) (by omega) (by omega)) (q _ _ (by omega) (by omega) (by omega) (by omega) (by omega) (by omega) (by omega) (by omega)) (fun j => q _ j (by omega) (by omega) (by omega) (by omega) (by omega) (by omega) (by omega) (by omega)) (fun j => q _ j (by omega) (by omega) (by omega) (by omega) (by omega) (by omega) (by omega) (by omega)) h9, kImg_e (q _ _ (by omega) (by omega) (by omega) (by omega) (by omega) (by omega) (by omega) (by omega)) (q _ _ (by omega) (by omega) (by omega) (by omega) (by omega) (by omega) (by omega) (by omega)) (fun k j a b => q k j (by omega) (by omega) (by omega) (by omega) (by omega) (by omega) (by omega) (by omega)) (fun j => q _ j (by omega) (by omega) (by omega) (by omega) (by omega) (by omega) (by omega) (by omega)) h10, ?_⟩, ⟨0, by decide, ?_, ?_, fun i hi => absurd hi (Nat.not_lt_zero _), ?_⟩, kR_congr (fun k j hk => q k j (by unfold kQR at hk; omega) (by unfold kQR at hk; omega) (by unfold kQR at hk; omega) (by unfold kQR at hk; omega) (by unfold kQR at hk; omega) (by unfold kQR at hk; omega) (by unfold kQR at hk; omega) (by unfold kQR at hk; omega)) hR⟩⟩
      · rw [ja_fr FF (by unfold kWom kW44; omega)]; exact th0
      · unfold jal
        rw [FF.2 rfl, u1]
        show (if (102 : Nat) = 102 ∧ (0 : Nat) = 0 then Int64.ofInt (k : Int) else C.2 102 0).toInt = (k : Int)
        rw [if_pos ⟨rfl, rfl⟩, jt_gl (jgl_g (by rw [← hk12]; exact jg_w))]
      · rw [u1]; exact jgl_g (by rw [← hk12]; exact jg_w)
      · refine ⟨?_, fun e he => ⟨?_, ?_, ?_, fun hc => ?_⟩⟩
        · rw [qC 33 1 (by decide) (by decide) (by omega), c33, u8]
        · rw [qC 34 e (by decide) (by decide) (by omega), c34 e he, u7 e he]
        · rw [u7 e he]; exact (u9.1 e he).1
        · rw [u7 e he]; exact (u9.1 e he).2
        · rw [u7 e he]; exact u9.2.1 e he hc
      · rw [q 0 14 (by omega) (by omega) (by omega) (by omega) (by omega) (by omega) (by omega) (by omega), q 67 40 (by omega) (by omega) (by omega) (by omega) (by omega) (by omega) (by omega) (by omega)]; exact h11
      · rw [qC 1 1 (by decide) (by decide) (by omega)]; exact c11
      · rw [ja_fr u3 (by unfold kW44; omega)]; exact u5
      · rw [qC 1 6 (by decide) (by decide) (by omega), c16, g6]
  · refine rf_At (w := 1) h (jg_c rfl) (by decide) ?_ ?_
    · show jf_307 _ m = _
      unfold jf_307 jf_157
      rw [sp_151, if_neg hX, jsb, if_neg (by simp)]; rfl
    · show jf_244 _ (kA m) = _
      unfold jf_244
      have e2 : ja (js (kA m) 67 0 0) 67 2 = (L : Int) := by rw [ja_jsj (by decide)]; unfold kA; rw [ja_jsk (by decide)]; exact t3
      have hz : (if x0 < 0 then some (0 : Int) else if (L : Int) < x0 then some 0 else if 100 < x0 then some 0 else some 1) = some 0 := by
        by_cases z1 : x0 < 0
        · rw [if_pos z1]
        · rw [if_neg z1]
          by_cases z2 : (L : Int) < x0
          · rw [if_pos z2]
          · rw [if_neg z2, if_pos]
            rw [t2] at hX
            unfold jmin at hX
            split at hX <;> omega
      rw [jle_eq, e2, hz, jsb, mk_Ar th0 (jg_c rfl) (by decide) rfl]
