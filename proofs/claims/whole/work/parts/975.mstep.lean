/-! WORK: the model does a step. -/
set_option maxRecDepth 20000 in
theorem sl_228 {M : jm} {c : kC} {p : kP} {cl : List Int} {e : wE} (H : kM M c p cl) (ho : wOk c e) (h8 : 0 ≤ p 8 0 ∧ p 8 0 ≤ 700) : jo (jf_228 e.1 e.2.1 e.2.2 M) (fun r => (r.1 = b2i (wDo c cl e p).1 ∧ kM r.2 c (wDo c cl e p).2 cl) ∧ jfr true jW_228 M r.2) := by
  refine jo_and ?_ jx_228
  have hn := H.1.1
  obtain ⟨op, x', y'⟩ := e
  obtain ⟨⟨o1, o2⟩, o3, o4, o5, o6, o7, o8⟩ := ho
  dsimp only at o1 o2 o3 o4 o5 o6 o7 o8
  obtain ⟨x, rfl⟩ := Int.eq_ofNat_of_zero_le o3
  obtain ⟨y, rfl⟩ := Int.eq_ofNat_of_zero_le o4
  unfold wH1 at o7
  unfold wH2 at o8
  unfold jf_228 wDo
  dsimp only
  rw [Int.toNat_natCast, Int.toNat_natCast]
  by_cases h0 : op = 0
  · have a := o7 (by omega); have b := o8 (by omega)
    rw [if_neg (by omega)] at a
    rw [if_neg (by omega), if_neg (by omega)] at b
    rw [if_pos h0, if_pos h0]
    exact jo_c (sl_229 H (by omega) (by omega)) (fun r hr => hr)
  rw [if_neg h0, if_neg h0]
  by_cases h1 : op = 1
  · have a := o7 (by omega); have b := o8 (by omega)
    rw [if_neg (by omega)] at a
    rw [if_neg (by omega), if_neg (by omega)] at b
    rw [if_pos h1, if_pos h1]
    exact jo_c (sl_232 H (by omega) (by omega)) (fun r hr => hr)
  rw [if_neg h1, if_neg h1]
  by_cases h2 : op = 2
  · have a := o7 (by omega); have b := o8 (by omega)
    rw [if_neg (by omega)] at a
    rw [if_pos h2] at b
    rw [if_pos h2, if_pos h2]
    exact jo_c (sl_234 H (by omega) (by omega)) (fun r hr => hr)
  rw [if_neg h2, if_neg h2]
  by_cases h3 : op = 3
  · have a := o7 (by omega); have b := o8 (by omega)
    rw [if_pos h3] at a
    rw [if_neg h2, if_pos h3] at b
    have hx : x < c 11 1 := by omega
    have e0 : jw ((0 : Int) + (x : Int)) = (x : Int) := by rw [Int.zero_add]; exact jwi (by omega) (by omega)
    rw [if_pos h3, if_pos h3, e0, if_pos (show 0 ≤ (x : Int) ∧ (x : Int) < 68 by omega), if_pos (show 0 ≤ (x : Int) ∧ (x : Int) < 68 by omega), Int.toNat_natCast, kM_s0 H hx]
    unfold kPs
    by_cases z : p 0 x = (y : Int)
    · rw [if_pos z, if_pos z]; exact ⟨rfl, H⟩
    · rw [if_neg z, if_neg z, jle_eq]
      have H1 := kM_u0 (i := x) (x := (y : Int)) H (by omega) (by rw [jwi (by omega) (by omega)]; exact kVp_ux H.2.1 (Or.inl ⟨rfl, by omega, by omega⟩))
      rw [jwi (by omega) (by omega)] at H1
      exact ⟨rfl, H1⟩
  rw [if_neg h3, if_neg h3]
  by_cases h4 : op = 4
  · have a := o7 (by omega)
    rw [if_neg h3] at a
    have hx : x < c 11 2 := by omega
    have hq := (H.2.1.2.2.1 _ hx).2.2
    obtain ⟨a1, a2⟩ := pmi (a := 24) (i := x) (by omega)
    obtain ⟨b1, b2⟩ := pmi (a := 30) (i := x) (by omega)
    rw [if_pos h4, if_pos h4, show (24 : Int) = ((24 : Nat) : Int) from rfl, show (30 : Int) = ((30 : Nat) : Int) from rfl, a1, b1, if_pos a2, if_pos b2, if_pos b2, if_pos b2, Int.toNat_natCast, Int.toNat_natCast, kM_s2 H hx, kM_s3 H hx]
    unfold kPr
    by_cases z1 : p 2 x = -1
    · rw [if_pos z1, if_pos (Or.inl z1)]; exact ⟨rfl, H⟩
    rw [if_neg z1]
    by_cases z2 : p 3 x = 9
    · rw [if_pos z2, if_pos (Or.inr z2)]; exact ⟨rfl, H⟩
    rw [if_neg z2, if_neg (fun z => z.elim z1 z2), jle_eq]
    have e1 : jw (p 3 x + 1) = p 3 x + 1 := jwi (by omega) (by omega)
    have H1 := kM_u3 (i := x) (x := jw (p 3 x + 1)) H (by omega) (by rw [jw_w, e1]; exact kVp_ux H.2.1 (Or.inr (Or.inl ⟨rfl, by omega, by omega⟩)))
    rw [jw_w] at H1
    rw [e1] at H1 ⊢
    exact ⟨rfl, H1⟩
  rw [if_neg h4, if_neg h4]
  by_cases h5 : op = 5
  · have hf := H.2.1.1
    have e1 : jw (1 - p 8 1) = 1 - p 8 1 := jwi (by omega) (by omega)
    rw [if_pos h5, if_pos h5, if_pos (by decide), if_pos (by decide), show ja M 89 (67 : Int).toNat = p 8 1 from kM_fg H, jle_eq]
    have H1 := kM_u8 (i := 1) (x := jw (1 - p 8 1)) H (by decide) (by rw [jw_w, e1]; exact kVp_fo H.2.1)
    rw [jw_w] at H1
    rw [e1] at H1 ⊢
    exact ⟨rfl, H1⟩
  rw [if_neg h5, if_neg h5, if_pos (by decide), show ja M 89 (66 : Int).toNat = p 8 0 from kM_dy H]
  by_cases h7 : p 8 0 < 700
  · rw [if_neg (show ¬ p 8 0 = 700 by omega), if_pos h7]
    exact jo_c (sl_243 H) (fun r hr => ⟨rfl, hr⟩)
  · rw [if_pos (show p 8 0 = 700 by omega), if_neg h7]
    exact ⟨rfl, H⟩
