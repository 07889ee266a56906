/-! CITY: the operation. -/
def kWyo (k j : Nat) : Prop := kWom k j ∨ (k = 67 ∧ 20 ≤ j ∧ j ≤ 23)
theorem sl_193 {m : jm} {f : Nat → Int} {X L : Nat} (hL : ja m 67 2 = (L : Int)) (hX : X ≤ L) (hX1 : X ≤ 600) (hf : ∀ j, j < X → ja m 69 j = f j ∧ 0 ≤ f j ∧ f j ≤ 255) : ∃ r, kRun (kYst f X) jfu ((0 : Nat), (0 : Nat), fun _ _ => (0 : Nat)) = some r ∧ jo (jf_193 X m) (fun b => ∃ m3, kYqm m3 b r ∧ jfr true kWyo (js m 67 0 0) m3 ∧ ja m3 67 2 = 0) := by
  have hm : ∀ j, j < X → ja (js m 67 0 0) 69 j = f j ∧ 0 ≤ f j ∧ f j ≤ 255 := fun j hj => by rw [ja_jsk (by decide)]; exact hf j hj
  obtain ⟨T1, T2, T3, -, -⟩ := kOm_T (m := js m 67 0 0) (f := f) (X := X) (by omega) hm
  have F1 : jfr true kWom (js m 67 0 0) (kOm (js m 67 0 0) X) := kOm_fr
  have e188 : ∀ K : jm, jf_188 K = some (js (js (js (js K 67 20 0) 67 21 0) 67 22 0) 67 23 0) := fun K => rfl
  have F2 : jfr true kWyo (js m 67 0 0) (js (js (js (js (kOm (js m 67 0 0) X) 67 20 0) 67 21 0) 67 22 0) 67 23 0) := jfr_js (jfr_js (jfr_js (jfr_js (jfr_t jfr_r F1 (fun e => e) (fun k j h => Or.inl h)) (Or.inr (by omega))) (Or.inr (by omega))) (Or.inr (by omega))) (Or.inr (by omega))
  have H2 : kMz (js (js (js (js (kOm (js m 67 0 0) X) 67 20 0) 67 21 0) 67 22 0) 67 23 0) f X (Sum.inr 0) := kMz_js (kMz_js (kMz_js (kMz_js ⟨T1, T3⟩ (by omega)) (by omega)) (by omega)) (by omega)
  have C2 : kCm (js (js (js (js (kOm (js m 67 0 0) X) 67 20 0) 67 21 0) 67 22 0) 67 23 0) 20 70 (fun _ _ => 0) := by
    refine ⟨fun i hi => ?_, fun t h => absurd h (Nat.not_lt_zero _), fun t h => absurd h (Nat.not_lt_zero _), fun t h => absurd h (Nat.not_lt_zero _), fun t h => absurd h (Nat.not_lt_zero _)⟩
    have : i = 0 ∨ i = 1 ∨ i = 2 ∨ i = 3 := by omega
    rcases this with rfl | rfl | rfl | rfl
    · rw [ja_jsj (by decide), ja_jsj (by decide), ja_jsj (by decide), ja_js1]; exact wz0
    · rw [ja_jsj (by decide), ja_jsj (by decide), ja_js1]; exact wz0
    · rw [ja_jsj (by decide), ja_js1]; exact wz0
    · rw [ja_js1]; exact wz0
  have t2 : ja (js (js (js (js (kOm (js m 67 0 0) X) 67 20 0) 67 21 0) 67 22 0) 67 23 0) 67 2 = 0 := by rw [ja_jsj (by decide), ja_jsj (by decide), ja_jsj (by decide), ja_jsj (by decide)]; exact T2
  have e := e188 (kOm (js m 67 0 0) X)
  generalize js (js (js (js (kOm (js m 67 0 0) X) 67 20 0) 67 21 0) 67 22 0) 67 23 0 = M at *
  obtain ⟨r, r1, r2⟩ := sl_193l H2 C2
  refine ⟨r, r1, ?_⟩
  unfold jf_193
  rw [jle_eq, ja_jsj (show (2 : Nat) ≠ 0 by decide), hL, if_neg (show ¬ (X : Int) < 0 by omega), if_neg (show ¬ (L : Int) < (X : Int) by omega), jsb, mk_A th0 (jg_c rfl) (by decide) Int.one_ne_zero]
  dsimp only
  rw [sp_195, jsb, e, jsb]
  exact jo_mono r2 (fun b hb => ⟨M, hb, F2, t2⟩)
theorem jW_11_o {k j : Nat} (h : jW_11 k j) : (k = 15 ∧ j ≤ 3) ∨ (k = 1 ∧ 3 ≤ j ∧ j ≤ 6) ∨ (16 ≤ k ∧ k ≤ 26) := by
  unfold jW_11 at h
  rcases h with ⟨rfl, rfl⟩ | ⟨rfl, rfl⟩ | ⟨rfl, rfl⟩ | ⟨rfl, rfl⟩ | ⟨rfl, rfl⟩ | ⟨rfl, rfl⟩ | ⟨rfl, rfl⟩ | ⟨rfl, rfl⟩ | rfl | rfl | rfl | rfl | rfl | rfl | rfl | rfl | rfl | rfl | rfl <;> simp
/-- where the class's reader of a city writes -/
def kWyc (k j : Nat) : Prop := (k = 1 ∧ 1 ≤ j ∧ j ≤ 6) ∨ (15 ≤ k ∧ k ≤ 26)
theorem sy_1 {m : jm} {x0 : Int} (hx0 : jg x0) (h : Inv m) : kSy (fun m => jf_304 x0 m) (fun m => jf_193 x0 m) m := by
  obtain ⟨⟨c, cl, h1, h2, h3, h4, h5, h6, h7, h8, h9, h10, h11⟩, ⟨L, t1, t2, t3, t4, t5⟩, hR⟩ := id h
  by_cases hX : 0 ≤ x0 ∧ x0 ≤ jmin 600 (ja m 1 1)
  · obtain ⟨X, rfl⟩ := Int.eq_ofNat_of_zero_le hX.1
    have hj : jmin 600 (L : Int) ≤ 600 ∧ jmin 600 (L : Int) ≤ L := by unfold jmin; split <;> omega
    have hXL : X ≤ L ∧ X ≤ 600 := by have := hX.2; rw [t2] at this; omega
    obtain ⟨T1, T2, T3⟩ := kOc_T (m := m) (f := fun j => ja m 69 j) (X := X) (by omega) (fun j hj => ⟨(t4 j (by omega)).1, (t4 j (by omega)).2.1, (t4 j (by omega)).2.2⟩)
    have FO : jfr true (fun k j => k = 1 ∧ 1 ≤ j ∧ j ≤ 6) m (kOc m X) := kOc_fr
    obtain ⟨r, r1, r2⟩ := sl_11 (m := kOc m X) T1
    unfold kSy
    show jo (jf_304 X m) (fun p => jo (jf_193 X p.2) _)
    unfold jf_304 jf_150
    rw [sp_151, if_pos hX, jsb, if_pos rfl, sp_115 (by omega), jsb]
    rw [jo_bind, jo_bind]
    refine jo_mono r2 (fun b hb => ?_)
    obtain ⟨hf, hb⟩ := hb
    have FB : jfr true kWyc m b.2 := jfr_t (jfr_t jfr_r FO (fun e => e) (fun k j h => Or.inl h)) hf (fun e => e) (fun k j h => by have := jW_11_o h; unfold kWyc; omega)
    have b11 : ja b.2 1 1 = 0 := by rw [ja_fr hf (fun z => by have := jW_11_o z; omega)]; exact T2
    cases r with
    | inl e =>
      obtain ⟨kd, at'⟩ := e
      obtain ⟨q1, q2, q3, q4⟩ := hb
      dsimp only at q2 q3 q4
      rw [q1, if_pos rfl, q2]
      show jo (jf_193 X (jsl b.2 102 0 (jw (-10 + kd)))) _
      obtain ⟨r', s1, s2⟩ := sl_193 (m := jsl b.2 102 0 (jw (-10 + kd))) (f := fun j => ja m 69 j) (X := X) (L := L) (by show ja b.2 67 2 = _; rw [ja_fr FB (by unfold kWyc; omega)]; exact t3) hXL.1 hXL.2 (fun j hj => ⟨by show ja b.2 69 j = _; rw [ja_fr FB (by unfold kWyc; omega)], (t4 j (by omega)).2.1, (t4 j (by omega)).2.2⟩)
      rw [r1] at s1
      cases s1
      refine jo_mono s2 (fun p' hp' => ?_)
      obtain ⟨m3, ⟨u1, u2, u3⟩, u4, u5⟩ := hp'
      have FF : jfr true (fun k j => kWyo k j ∨ kWym k j) (js (jsl b.2 102 0 (jw (-10 + kd))) 67 0 0) p'.2 := jfr_t (jfr_t jfr_r u4 (fun e => e) (fun k j h => Or.inl h)) u3 (fun e => e) (fun k j h => Or.inr h)
      have q : ∀ k j, ¬ (k = 1 ∧ 1 ≤ j ∧ j ≤ 6) → ¬ (15 ≤ k ∧ k ≤ 26) → ¬ (k = 67 ∧ j ≤ 23) → ¬ (70 ≤ k ∧ k ≤ 74) → ja p'.2 k j = ja m k j := fun k j z1 z2 z3 z4 => by
        rw [ja_fr FF (by unfold kWyo kWom kWym; omega), ja_js, if_neg (by omega)]
        show ja b.2 k j = _
        exact ja_fr FB (fun e => by unfold kWyc at e; omega)
      refine ⟨?_, fun _ => ?_, ?_, Inv_tx h (fun k j hk => q k j (by unfold kQS at hk; omega) (by unfold kQS at hk; omega) (by unfold kQS at hk; omega) (by unfold kQS at hk; omega)) ?_ ?_ ?_ (fun k j hk => q k j (by unfold kQR at hk; omega) (by unfold kQR at hk; omega) (by unfold kQR at hk; omega) (by unfold kQR at hk; omega))⟩
      · rw [ja_fr FF (by unfold kWyo kWom kWym; omega)]; exact th0
      · unfold jal
        rw [FF.2 rfl, u1]
        show (if (102 : Nat) = 102 ∧ (0 : Nat) = 0 then Int64.ofInt (jw (-10 + kd)) else b.2.2 102 0).toInt = jw (kd - 10)
        rw [if_pos ⟨rfl, rfl⟩, jt_gl (jgl_g jg_w), show -10 + kd = kd - 10 by omega]
      · rw [u1]; exact jgl_g jg_w
      · rw [ja_fr FF (by unfold kWyo kWom kWym; omega), ja_jsk (by decide)]; exact b11
      · rw [ja_fr u3 (by unfold kWym; omega)]; exact u5
      · rw [u2, ja_fr FF (by unfold kWyo kWom kWym; omega), ja_jsk (by decide)]; exact q3
    | inr c' =>
      obtain ⟨q1, q2, q3, q4⟩ := hb
      rw [q1, if_neg Int.one_ne_zero]
      refine jo_mono (sl_newc q3 q2) (fun r hr => ?_)
      obtain ⟨d1, d2, d3, d4, d5, d6, d7, d8, d9, d10, d11⟩ := hr
      obtain ⟨ra, rb, C⟩ := r
      dsimp only at d1 d2 d3 d4 d5 d6 d7 d8 d9 d10 d11
      subst d1 d2
      have FC : jfr true (fun k j => kWyc k j ∨ kWnc k j) m C := jfr_t (jfr_t jfr_r FB (fun e => e) (fun k j h => Or.inl h)) d11 (fun e => e) (fun k j h => Or.inr h)
      show jo (jf_193 X (jsl C 102 0 (c' 11 3 : Int))) _
      obtain ⟨r', s1, s2⟩ := sl_193 (m := jsl C 102 0 (c' 11 3 : Int)) (f := fun j => ja m 69 j) (X := X) (L := L) (by show ja C 67 2 = _; rw [ja_fr FC (by unfold kWyc kWnc; omega)]; exact t3) hXL.1 hXL.2 (fun j hj => ⟨by show ja C 69 j = _; rw [ja_fr FC (by unfold kWyc kWnc; omega)], (t4 j (by omega)).2.1, (t4 j (by omega)).2.2⟩)
      rw [r1] at s1
      cases s1
      refine jo_mono s2 (fun p' hp' => ?_)
      obtain ⟨m3, ⟨u1, u2, ⟨y1, y2, y3, y4, y5, y6, y7, y8⟩, u3⟩, u4, u5⟩ := hp'
      have FF : jfr true (fun k j => kWyo k j ∨ (kWym k j ∨ jW_189 k j)) (js (jsl C 102 0 (c' 11 3 : Int)) 67 0 0) p'.2 := jfr_t (jfr_t jfr_r u4 (fun e => e) (fun k j h => Or.inl h)) u3 (fun e => e) (fun k j h => Or.inr h)
      have qC : ∀ k j, k < 67 → ja p'.2 k j = ja C k j := fun k j z => by
        rw [ja_fr FF (by unfold kWyo kWom kWym jW_189; omega), ja_js, if_neg (by omega)]; rfl
      have qR : ∀ k j, kQR k j → ja p'.2 k j = ja m k j := fun k j z => by
        unfold kQR at z
        rw [ja_fr FF (by unfold kWyo kWom kWym jW_189; omega), ja_js, if_neg (by omega)]
        show ja C k j = _
        exact ja_fr FC (by unfold kWyc kWnc; omega)
      have c48 : (fun j => ja p'.2 48 j) = fun j => ja C 48 j := funext (fun j => qC 48 j (by decide))
      have h8' : c' 11 3 ≤ 8 := q3.1.2.2.2
      refine ⟨?_, fun _ => ?_, ?_, Inv_new (F := p'.2) q3 (kCc_e (fun k j a b => qC k j (by omega)) d3) y1 (by rw [c48]; exact d4) y2 (kLc_e (qC _ _ (by decide)) (fun j => qC _ _ (by decide)) d5) y4 ?_ y5 (fun e he => ?_) y3 ?_ y6 ?_ y7 ?_ y8 ?_ ?_ ?_ (kR_congr qR hR)⟩
      · rw [ja_fr FF (by unfold kWyo kWom kWym jW_189; omega)]; exact th0
      · unfold jal
        rw [FF.2 rfl, u1]
        show (if (102 : Nat) = 102 ∧ (0 : Nat) = 0 then Int64.ofInt (c' 11 3 : Int) else C.2 102 0).toInt = (c' 11 3 : Int)
        rw [if_pos ⟨rfl, rfl⟩, jt_gl (jgl_g ⟨by omega, by omega⟩)]
      · rw [u1]; exact jgl_g ⟨by omega, by omega⟩
      · rw [qC 33 1 (by decide)]; exact d6
      · rw [qC 34 e (by decide)]; exact d7 e he
      · rw [qC 50 1 (by decide)]; exact d8
      · rw [qC 50 5 (by decide)]; exact d9
      · rw [qC 0 14 (by decide)]; exact d10
      · rw [qC 1 1 (by decide), ja_fr d11 (by unfold kWnc; omega)]; exact b11
      · rw [ja_fr u3 (by unfold kWym jW_189; omega)]; exact u5
      · rw [qC 1 6 (by decide), u2, ja_fr d11 (by unfold kWnc; omega), q4]; exact T3
  · refine rf_At (w := 1) h (jg_c rfl) (by decide) ?_ ?_
    · show jf_304 _ m = _
      unfold jf_304 jf_150
      rw [sp_151, if_neg hX, jsb, if_neg (by simp)]; rfl
    · show jf_193 _ (kA m) = _
      unfold jf_193
      have e2 : ja (js (kA m) 67 0 0) 67 2 = (L : Int) := by rw [ja_jsj (by decide)]; unfold kA; rw [ja_jsk (by decide)]; exact t3
      have hz : (if x0 < 0 then some (0 : Int) else if (L : Int) < x0 then some 0 else some 1) = some 0 := by
        by_cases z1 : x0 < 0
        · rw [if_pos z1]
        · rw [if_neg z1, if_pos]
          rw [t2] at hX
          unfold jmin at hX
          split at hX <;> omega
      rw [jle_eq, e2, hz, jsb, mk_Ar th0 (jg_c rfl) (by decide) rfl]
