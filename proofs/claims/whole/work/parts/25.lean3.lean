/-! LEAN in the model. -/
theorem kM_n {m : jm} {c : kC} {p : kP} {cl : List Int} (H : kM m c p cl) {i : Nat} (hi : i < 4) : ja m 67 (24 + i) = c 11 i := H.2.2.2.1.1 i hi
theorem kM_ht {m : jm} {c : kC} {p : kP} {cl : List Int} (H : kM m c p cl) {i : Nat} (hi : i < c 11 0) : ja m 75 i = c 0 i := H.2.2.2.1.2.1 i hi
theorem kM_A {m : jm} {c : kC} {p : kP} {cl : List Int} (H : kM m c p cl) {i : Nat} (hi : i < c 11 1) : ja m 76 (2 * i) = c 1 i := (H.2.2.2.1.2.2.1 i hi).1
theorem kM_B {m : jm} {c : kC} {p : kP} {cl : List Int} (H : kM m c p cl) {i : Nat} (hi : i < c 11 1) : ja m 76 (2 * i + 1) = c 2 i := (H.2.2.2.1.2.2.1 i hi).2.1
theorem kM_hm {m : jm} {c : kC} {p : kP} {cl : List Int} (H : kM m c p cl) {i : Nat} (hi : i < c 11 2) : ja m 78 (3 * i) = c 4 i := (H.2.2.2.1.2.2.2.1 i hi).1
theorem kM_nv {m : jm} {c : kC} {p : kP} {cl : List Int} (H : kM m c p cl) {i : Nat} (hi : i < c 11 2) : ja m 78 (3 * i + 1) = c 5 i := (H.2.2.2.1.2.2.2.1 i hi).2.1
theorem kM_tk {m : jm} {c : kC} {p : kP} {cl : List Int} (H : kM m c p cl) {i : Nat} (hi : i < c 11 2) : ja m 78 (3 * i + 2) = c 6 i := (H.2.2.2.1.2.2.2.1 i hi).2.2
theorem kM_F {m : jm} {c : kC} {p : kP} {cl : List Int} (H : kM m c p cl) {i : Nat} (hi : i < c 11 3) : ja m 79 (4 * i) = c 7 i := (H.2.2.2.1.2.2.2.2 i hi).1
theorem kM_T {m : jm} {c : kC} {p : kP} {cl : List Int} (H : kM m c p cl) {i : Nat} (hi : i < c 11 3) : ja m 79 (4 * i + 1) = c 8 i := (H.2.2.2.1.2.2.2.2 i hi).2.1
theorem kM_kd {m : jm} {c : kC} {p : kP} {cl : List Int} (H : kM m c p cl) {i : Nat} (hi : i < c 11 3) : ja m 79 (4 * i + 2) = c 9 i := (H.2.2.2.1.2.2.2.2 i hi).2.2.1
theorem kM_wt {m : jm} {c : kC} {p : kP} {cl : List Int} (H : kM m c p cl) {i : Nat} (hi : i < c 11 3) : ja m 79 (4 * i + 3) = c 10 i := (H.2.2.2.1.2.2.2.2 i hi).2.2.2
theorem kM_s0 {m : jm} {c : kC} {p : kP} {cl : List Int} (H : kM m c p cl) {i : Nat} (hi : i < c 11 1) : ja m 89 i = p 0 i := (H.2.2.2.2.1.2.2.1 i hi).1
theorem kM_s1 {m : jm} {c : kC} {p : kP} {cl : List Int} (H : kM m c p cl) {i : Nat} (hi : i < c 11 1) : ja m 89 (12 + i) = p 1 i := (H.2.2.2.2.1.2.2.1 i hi).2
theorem kM_s2 {m : jm} {c : kC} {p : kP} {cl : List Int} (H : kM m c p cl) {i : Nat} (hi : i < c 11 2) : ja m 89 (24 + i) = p 2 i := (H.2.2.2.2.1.2.2.2.1 i hi).1
theorem kM_s3 {m : jm} {c : kC} {p : kP} {cl : List Int} (H : kM m c p cl) {i : Nat} (hi : i < c 11 2) : ja m 89 (30 + i) = p 3 i := (H.2.2.2.2.1.2.2.2.1 i hi).2.1
theorem kM_s4 {m : jm} {c : kC} {p : kP} {cl : List Int} (H : kM m c p cl) {i : Nat} (hi : i < c 11 2) : ja m 89 (36 + i) = p 4 i := (H.2.2.2.2.1.2.2.2.1 i hi).2.2
theorem kM_s5 {m : jm} {c : kC} {p : kP} {cl : List Int} (H : kM m c p cl) {i : Nat} (hi : i < c 11 3) : ja m 89 (42 + i) = p 5 i := (H.2.2.2.2.1.2.2.2.2 i hi).1
theorem kM_s6 {m : jm} {c : kC} {p : kP} {cl : List Int} (H : kM m c p cl) {i : Nat} (hi : i < c 11 3) : ja m 89 (50 + i) = p 6 i := (H.2.2.2.2.1.2.2.2.2 i hi).2.1
theorem kM_s7 {m : jm} {c : kC} {p : kP} {cl : List Int} (H : kM m c p cl) {i : Nat} (hi : i < c 11 3) : ja m 89 (58 + i) = p 7 i := (H.2.2.2.2.1.2.2.2.2 i hi).2.2
theorem kM_dy {m : jm} {c : kC} {p : kP} {cl : List Int} (H : kM m c p cl) : ja m 89 66 = p 8 0 := H.2.2.2.2.1.1
theorem kM_fg {m : jm} {c : kC} {p : kP} {cl : List Int} (H : kM m c p cl) : ja m 89 67 = p 8 1 := H.2.2.2.2.1.2.1
/-- places reckoned -/
theorem jwk {a k : Nat} (h : a + k < 2147483648) : jw ((a : Int) + (k : Int)) = ((a + k : Nat) : Int) := by rw [jwi (by omega) (by omega)]; omega
theorem jwm {a k : Nat} (h : a * k < 2147483648) : jw ((a : Int) * (k : Int)) = ((a * k : Nat) : Int) := by rw [← Int.natCast_mul]; exact jwi (by omega) (by omega)
theorem sp_241 {w x y : Int} {m : jm} (h1 : 1 < w) (h2 : w ≤ 7) : jf_241 w x y m = some (kAp (1998 + w) x y) := by
  unfold jf_241 kAp
  by_cases a : w = 2
  · rw [if_pos a, if_pos (show 1998 + w = 2000 by omega)]
  rw [if_neg a, if_neg (show ¬ 1998 + w = 2000 by omega)]
  by_cases b : w = 3
  · rw [if_pos b, if_pos (show 1998 + w = 2001 by omega)]
  rw [if_neg b, if_neg (show ¬ 1998 + w = 2001 by omega)]
  by_cases d : w = 4
  · rw [if_pos d, if_pos (show 1998 + w = 2002 by omega)]
  rw [if_neg d, if_neg (show ¬ 1998 + w = 2002 by omega)]
  by_cases e : w = 5
  · rw [if_pos e, if_pos (show 1998 + w = 2003 by omega)]
    by_cases h : y = 0
    · rw [if_pos h, if_pos h]; rfl
    · rw [if_neg h, if_neg h, if_pos h]; rfl
  rw [if_neg e, if_neg (show ¬ 1998 + w = 2003 by omega)]
  unfold jmin jmax
  by_cases f : w = 6
  · rw [if_pos f, if_pos (show 1998 + w = 2004 by omega)]
    by_cases hx : x < y
    · rw [if_pos hx, if_neg (by omega)]; rfl
    · rw [if_neg hx]
      show some y = _
      congr 1; split <;> omega
  · rw [if_neg f, if_neg (show ¬ 1998 + w = 2004 by omega)]
    by_cases hx : x < y
    · rw [if_pos hx, if_pos hx]; rfl
    · rw [if_neg hx, if_neg hx]; rfl
theorem sl_240 {m : jm} {cl : List Int} (hL : ja m 67 34 = cl.length ∧ 0 < cl.length ∧ ∀ i, i < cl.length → 0 ≤ ja m 82 i ∧ ja m 82 i ≤ 7 ∧ (ja m 82 i = 0 → 0 ≤ ja m 83 i ∧ ja m 83 i ≤ 999) ∧ (ja m 82 i = 1 → 0 ≤ ja m 83 i ∧ ja m 83 i ≤ 8) ∧ kEn (ja m 82 i) (ja m 83 i) = cl.getD i 0) (hW : kWL cl) : jo (jf_240 m) (fun r => r.1 = (kEv (fun i => ja m 85 i) cl cl.length).2 0) := by
  obtain ⟨hl, hc, ht⟩ := hW
  have hg : ∀ j, jg (ja m 85 j) := fun j => jg_a
  unfold jf_240
  refine jo_c (R := fun r => ja r 84 0 = (kEv (fun i => ja m 85 i) cl cl.length).2 0) ?_ ?_
  · refine jo_for cl.length jfu (fun i (s : Int × Int × jm) => s.2.1 = i ∧ s.1 = ((kEv (fun i => ja m 85 i) cl i).1 : Nat) ∧ (∀ j, j < (kEv (fun i => ja m 85 i) cl i).1 → ja s.2.2 84 j = (kEv (fun i => ja m 85 i) cl i).2 j) ∧ (∀ k j, k ≠ 84 → ja s.2.2 k j = ja m k j)) (jfu_lt (by omega)) ?_ ?_ _ ⟨rfl, rfl, fun j hj => absurd hj (Nat.not_lt_zero j), fun _ _ _ => rfl⟩
    · intro i hi s hs
      obtain ⟨top, at_, m'⟩ := s
      obtain ⟨h1, h2, h3, h4⟩ := hs
      dsimp only at h1 h2 h3 h4 ⊢
      subst h1 h2
      have hst := kHt_st (v := fun i => ja m 85 i) ht hi
      have hle := kHt_le (v := fun i => ja m 85 i) ht i (by omega)
      have hgi := kEv_g hg hc i (by omega)
      have hm := hc _ (getD_mem' hi)
      have e27 : ja m' 67 34 = cl.length := by rw [h4 _ _ (by decide)]; exact hL.1
      have e82 : ja m' 82 i = ja m 82 i := h4 _ _ (by decide)
      have e83 : ja m' 83 i = ja m 83 i := h4 _ _ (by decide)
      have hi2 := hL.2.2 i hi
      have eS : kEv (fun i => ja m 85 i) cl (i + 1) = kSt (fun i => ja m 85 i) (cl.getD i 0) (kEv (fun i => ja m 85 i) cl i) := rfl
      rw [e27, Int.toNat_natCast, e82, e83]
      rw [if_pos (show (i : Int) < (cl.length : Int) by omega), if_pos (show 0 ≤ (i : Int) ∧ (i : Int) < 150 by omega)]
      rw [jwn (n := i) (by omega)]
      generalize ja m 82 i = w at hi2
      have e830 : ja m' 85 (ja m 83 i).toNat = ja m 85 (ja m 83 i).toNat := h4 _ _ (by decide)
      rw [e830]
      generalize ja m 83 i = o at hi2
      obtain ⟨b1, b2, b3, b4, b5⟩ := hi2
      unfold kEn at b5
      by_cases hlt : 1 < w
      · rw [if_neg (by omega), if_neg (by omega)] at b5
        have h2 := hst.2 (by omega)
        rw [if_pos hlt]
        have e1 : jw ((((kEv (fun i => ja m 85 i) cl i).1 : Nat) : Int) + -1) = (((kEv (fun i => ja m 85 i) cl i).1 - 1 : Nat) : Int) := by rw [jwi (by omega) (by omega)]; omega
        have e2 : jw ((((kEv (fun i => ja m 85 i) cl i).1 - 1 : Nat) : Int) - 1) = (((kEv (fun i => ja m 85 i) cl i).1 - 2 : Nat) : Int) := by rw [jwi (by omega) (by omega)]; omega
        rw [e1, e2, Int.toNat_natCast, Int.toNat_natCast, if_pos (by omega), if_pos (by omega), sp_241 hlt (by omega), jsb, if_pos (by omega), jle_eq, jsb, h3 _ (by omega), h3 _ (by omega), b5]
        rw [jo_some, jcase_l, eS]
        unfold kSt
        rw [if_neg (show ¬ cl.getD i 0 < 2000 by omega)]
        refine ⟨rfl, rfl, fun j hj => ?_, fun k j hk => ?_⟩
        · dsimp only at hj ⊢
          rw [ja_js]
          by_cases hj2 : j = (kEv (fun i => ja m 85 i) cl i).1 - 2
          · rw [if_pos ⟨rfl, hj2⟩, if_pos hj2]
            exact jw_id (kAp_g (hgi _) (hgi _))
          · rw [if_neg (fun e => hj2 e.2), if_neg hj2]; exact h3 j (by omega)
        · dsimp only
          rw [ja_jsk hk]; exact h4 k j hk
      · have hlt2 : cl.getD i 0 < 2000 := by
          by_cases w0 : w = 0
          · rw [if_pos w0] at b5; have := b3 w0; omega
          · rw [if_neg w0, if_pos (by omega)] at b5; have := b4 (by omega); omega
        have h21 := hst.1 hlt2
        rw [if_neg hlt]
        have eV : (if w = 0 then if 0 ≤ (i : Int) ∧ (i : Int) < 150 then some o else none else if 0 ≤ (i : Int) ∧ (i : Int) < 150 then if 0 ≤ o ∧ o < 9 then some (ja m 85 o.toNat) else none else none) = some (if cl.getD i 0 < 1000 then cl.getD i 0 else ja m 85 (cl.getD i 0 - 1000).toNat) := by
          by_cases w0 : w = 0
          · rw [if_pos w0] at b5; have := b3 w0
            rw [if_pos w0, if_pos (by omega), if_pos (by omega), b5]
          · rw [if_neg w0, if_pos (by omega)] at b5; have := b4 (by omega)
            rw [if_neg w0, if_pos (by omega), if_pos (by omega), if_neg (by omega), ← b5]
            congr 2; omega
        rw [eV, jsb, if_pos (by omega), jle_eq, jsb, jwn (by omega), Int.toNat_natCast]
        rw [jo_some, jcase_l, eS]
        unfold kSt
        rw [if_pos hlt2]
        refine ⟨rfl, rfl, fun j hj => ?_, fun k j hk => ?_⟩
        · dsimp only at hj ⊢
          rw [ja_js]
          by_cases hj2 : j = (kEv (fun i => ja m 85 i) cl i).1
          · rw [if_pos ⟨rfl, hj2⟩, if_pos hj2]
            refine jw_id ?_
            split
            · unfold jg; omega
            · exact jg_a
          · rw [if_neg (fun e => hj2 e.2), if_neg hj2]; exact h3 j (by omega)
        · dsimp only
          rw [ja_jsk hk]; exact h4 k j hk
    · intro s hs
      obtain ⟨top, at_, m'⟩ := s
      obtain ⟨h1, h2, h3, h4⟩ := hs
      dsimp only at h1 h2 h3 h4 ⊢
      have hen := kHt_en (v := fun i => ja m 85 i) ht
      have e27 : ja m' 67 34 = cl.length := by rw [h4 _ _ (by decide)]; exact hL.1
      refine jo_q (by omega) ?_
      exact h3 0 (by omega)
  · intro r hr
    rw [if_pos (by decide)]
    exact hr
theorem kEv_wo {v : Nat → Int} (hv : ∀ j, jg (v j)) : (kEv v kWo 7).2 0 = jw (jw (jw (2 * v 0) + v 2) + v 3) := by
  have : (kEv v kWo 7).2 0 = jw (jw (jw (v 0 * 2) + v 2) + v 3) := rfl
  rw [this, Int.mul_comm (v 0) 2]
theorem sl_239 {m : jm} {cl : List Int} (hL : kLm m cl) (hW : kWL cl) : jo (jf_239 m) (fun r => r.1 = kLean cl (fun i => ja m 85 i)) := by
  unfold jf_239
  refine jo_c (R := fun r => r.1 = (kEv (fun i => ja m 85 i) cl cl.length).2 0) ?_ ?_
  · rcases hL with ⟨h0, hc⟩ | h
    · rw [if_pos h0, if_pos (by decide), if_pos (by decide), if_pos (by decide), hc]
      exact (kEv_wo (v := fun i => ja m 85 i) (fun j => jg_a)).symm
    · rw [if_neg (by omega), jo_bind]
      exact jo_mono (sl_240 h hW) (fun r hr => hr)
  · intro r hr
    unfold kLean kClamp
    rw [← hr]
    by_cases h1 : r.1 < -99
    · rw [if_pos h1, if_pos h1]; rfl
    · rw [if_neg h1, if_neg h1]
      by_cases h2 : 99 < r.1
      · rw [if_pos h2, if_pos h2]; rfl
      · rw [if_neg h2, if_neg h2]; rfl
theorem kVals5 {m' : jm} {a0 a1 a2 a3 a4 a5 a6 a7 a8 : Int} (h0 : ja m' 85 0 = a0) (h1 : ja m' 85 1 = a1) (h2 : ja m' 85 2 = a2) (h3 : ja m' 85 3 = a3) (h4 : ja m' 85 4 = a4) (h5 : ja m' 85 5 = a5) (h6 : ja m' 85 6 = a6) (h7 : ja m' 85 7 = a7) (h8 : ja m' 85 8 = a8) : ∀ i, i < 9 → ja m' 85 i = kV9 a0 a1 a2 a3 a4 a5 a6 a7 a8 i
  | 0, _ => h0
  | 1, _ => h1
  | 2, _ => h2
  | 3, _ => h3
  | 4, _ => h4
  | 5, _ => h5
  | 6, _ => h6
  | 7, _ => h7
  | 8, _ => h8
  | n + 9, h => by omega
theorem kLm_js {m : jm} {cl : List Int} {j : Nat} {x : Int} (h : kLm m cl) : kLm (js m 85 j x) cl := kLm_eq (kEq_js kEq_r (by unfold kQM; omega)) h
theorem sl_238 {m : jm} {cl : List Int} {x0 x1 x2 x3 x4 x5 x6 x7 x8 : Int} (hL : kLm m cl) (hW : kWL cl) (g0 : jg x0) (g1 : jg x1) (g2 : jg x2) (g3 : jg x3) (g4 : jg x4) (g5 : jg x5) (g6 : jg x6) (g7 : jg x7) (g8 : jg x8) : jo (jf_238 x0 x1 x2 x3 x4 x5 x6 x7 x8 m) (fun r => r.1 = kLean cl (kV9 x0 x1 x2 x3 x4 x5 x6 x7 x8) ∧ jfr true jW_238 m r.2) := by
  refine jo_and ?_ jx_238
  show jo ((jf_239 (js (js (js (js (js (js (js (js (js m 85 0 x0) 85 1 x1) 85 2 x2) 85 3 x3) 85 4 x4) 85 5 x5) 85 6 x6) 85 7 x7) 85 8 x8)).bind _) _
  rw [jo_bind]
  refine jo_mono (sl_239 (cl := cl) (kLm_js (kLm_js (kLm_js (kLm_js (kLm_js (kLm_js (kLm_js (kLm_js (kLm_js hL))))))))) hW) (fun r hr => hr.trans ?_)
  refine kLean_ext hW (kVals5 ?_ ?_ ?_ ?_ ?_ ?_ ?_ ?_ ?_)
  all_goals simp [ja_js]
  all_goals first | exact jw_id g0 | exact jw_id g1 | exact jw_id g2 | exact jw_id g3 | exact jw_id g4 | exact jw_id g5 | exact jw_id g6 | exact jw_id g7 | exact jw_id g8
theorem sl_237 {m : jm} {c : kC} {p : kP} {cl : List Int} {w e : Nat} {how fog : Int} (H : kM m c p cl) (hw : w < c 11 2) (he : e < c 11 1) (hf : jg fog) : jo (jf_237 w e how fog m) (fun r => r.1 = kLn c p cl w e how fog (ja m 67 47, ja m 67 48, ja m 67 49) ∧ jfr true jW_237 m r.2) := by
  refine jo_and ?_ jx_237
  have hn := H.1.1
  have h1 := H.1.2.2.1 e he
  have h2 := H.1.2.1 _ h1.1
  have h3 := H.1.2.1 _ h1.2.1
  have hr := kRise_g (how := how) H.1 he
  unfold jf_237
  have eR : (if how = 0 then some (jw ((c 0 (c 2 e) : Int) - (c 0 (c 1 e) : Int))) else some (jw (-jw ((c 0 (c 2 e) : Int) - (c 0 (c 1 e) : Int))))) = some (kRise c e how) := by
    unfold kRise
    by_cases h : how = 0
    · rw [if_pos h, if_pos h, jwi (by omega) (by omega)]
    · rw [if_neg h, if_neg h, jwi (x := _ - _) (by omega) (by omega), jwi (by omega) (by omega)]; congr 1; omega
  have e0 : jw ((2 : Int) * (e : Int)) = ((2 * e : Nat) : Int) := jwm (a := 2) (by omega)
  have e1 : jw (((2 * e : Nat) : Int) + 1) = ((2 * e + 1 : Nat) : Int) := jwn (by omega)
  have e2 : jw ((0 : Int) + (e : Int)) = (e : Int) := by rw [Int.zero_add]; exact jwi (by omega) (by omega)
  have e3 : jw ((12 : Int) + (e : Int)) = ((12 + e : Nat) : Int) := jwk (a := 12) (by omega)
  have e4 : jw ((30 : Int) + (w : Int)) = ((30 + w : Nat) : Int) := jwk (a := 30) (by omega)
  rw [e0, e1, e2, e3, e4, Int.toNat_natCast, Int.toNat_natCast, Int.toNat_natCast, Int.toNat_natCast, Int.toNat_natCast, kM_A H he, kM_B H he, Int.toNat_natCast, Int.toNat_natCast, kM_ht H h1.1, kM_ht H h1.2.1, eR, kM_s0 H he, kM_s1 H he, kM_s3 H hw]
  rw [if_pos (by omega), if_pos (by omega), if_pos (by omega), if_pos (by omega), if_pos (by omega), jsb, if_pos (by omega), if_pos (by omega), if_pos (by decide), jo_bind]
  rw [show ja m 89 (66 : Int).toNat = p 8 0 from kM_dy H]
  have g0 : jg (p 0 e) := by rw [← kM_s0 H he]; exact jg_a
  have g1 : jg (p 1 e) := by rw [← kM_s1 H he]; exact jg_a
  have g3 : jg (p 3 w) := by rw [← kM_s3 H hw]; exact jg_a
  have g8 : jg (p 8 0) := by rw [← kM_dy H]; exact jg_a
  exact jo_mono (sl_238 H.2.2.2.2.2 H.2.2.1 g0 ⟨by omega, by omega⟩ jg_a jg_a jg_a g1 hf g3 g8) (fun r hr => hr.1)
