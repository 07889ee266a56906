/-! WORK: the operation in the model. -/
def jWt (k j : Nat) : Prop := (k = 67 ∧ ((4 ≤ j ∧ j ≤ 7) ∨ j = 38)) ∨ k = 86
set_option maxRecDepth 20000 in
theorem wMt_fr {M : jm} : jD (jlp wMt jfu M) (fun b => jfr true jWt M b) := by
  refine jD_lp (fun s => jfr true jWt M s) jfr_r (fun s hs => ?_)
  unfold wMt
  refine jD_b (R := fun _ => True) (fun _ _ => trivial) (fun p24 _ => jD_i (jD_s hs) (jD_b jx_197 (fun p25 h25 => ?_)))
  have h2 : jfr true jWt M p25.2 := jfr_t hs h25 (fun e => e) (fun k j h => by unfold jW_197 at h; unfold jWt; omega)
  exact jD_i (jD_s h2) (jD_b jxG_S (fun p26 h26 => jD_s (jfr_t h2 h26 (fun e => e) (fun k j h => by unfold jWG_S at h; unfold jWt; omega))))
noncomputable def wTail (t21 : jm) : Option (Int × jm) := Option.bind (α := Int × jm) (jf_212 (0 : Int) t21) fun p37 => if (ja p37.2 67 5) = (-1 : Int) then Option.bind (α := jm) (jf_190 86 87 (ja p37.2 67 38) p37.2) fun p38 => Option.bind (α := jm) (jlp (α := Int × jm) (β := jm) (fun s39 => if s39.1 < (68 : Int) then if 0 ≤ s39.1 ∧ s39.1 < 68 then if 0 ≤ (jw ((jw ((68 : Int) * (ja s39.2 67 39))) + s39.1)) ∧ (jw ((jw ((68 : Int) * (ja s39.2 67 39))) + s39.1)) < 1088 then jle (js s39.2 90 (jw ((jw ((68 : Int) * (ja s39.2 67 39))) + s39.1)).toNat (ja s39.2 88 s39.1.toNat)) fun m46 => some (Sum.inl (jw (s39.1 + 1), m46)) else none else none else some (Sum.inr (s39.2))) jfu ((0 : Int), p38)) fun t42 => jle (js t42 67 39 (jw ((ja t42 67 39) + (1 : Int)))) fun m57 => Option.bind (α := jm) (jf_226 m57) fun p58 => jle (js p58 67 41 (0 : Int)) fun m59 => jle (js m59 67 42 (0 : Int)) fun m60 => jle (js m60 67 43 (0 : Int)) fun m61 => Option.bind (α := jm) (jG_G 20 0 (0 : Int) (ja m61 67 38) m61) fun p62 => Option.bind (α := jm) (jf_190 89 88 (68 : Int) p62) fun p63 => jle (js p63 67 40 (ja p63 67 43)) fun m64 => some (ja m64 67 42, m64) else some (p37.1, p37.2)
set_option maxRecDepth 20000 in
theorem jf_222_e {m : jm} {X L : Nat} (hL : ja m 67 2 = (L : Int)) (hX : X ≤ L) (hX1 : X ≤ 150) : jf_222 X m = if ja (kOm (js m 67 0 0) X) 67 39 = (16 : Int) then Option.bind (α := Int × jm) (jf_212 (0 : Int) (kOm (js m 67 0 0) X)) (fun p16 => some ((-20 : Int), p16.2)) else Option.bind (α := jm) (jlp wMt jfu (js (kOm (js m 67 0 0) X) 67 38 (0 : Int))) wTail := by
  unfold jf_222
  rw [jle_eq, ja_jsj (show (2 : Nat) ≠ 0 by decide), hL, if_neg (show ¬ (X : Int) < 0 by omega), if_neg (show ¬ (L : Int) < (X : Int) by omega), if_neg (show ¬ 150 < (X : Int) by omega), jsb, mk_A th0 (jg_c rfl) (by decide) Int.one_ne_zero]
  dsimp only
  rw [sp_195, jsb]
  rfl
/-- where the model's reader of work writes -/
def kWrq (k j : Nat) : Prop := (k = 67 ∧ (j ≤ 8 ∨ j = 38)) ∨ k = 86
theorem kOm_q {m : jm} {X : Nat} : jfr true kWrq m (kOm (js m 67 0 0) X) := jfr_t (jfr_js jfr_r (by unfold kWrq; omega)) kOm_fr (fun e => e) (fun k j h => by unfold kWom at h; unfold kWrq; omega)
theorem sl_222f {m : jm} {f : Nat → Int} {X L : Nat} (hL : ja m 67 2 = (L : Int)) (hX : X ≤ L) (hX1 : X ≤ 150) (hf : ∀ j, j < X → ja m 69 j = f j ∧ 0 ≤ f j ∧ f j ≤ 255) (h39 : ja m 67 39 = 16) : jo (jf_222 X m) (fun b => b.1 = -20 ∧ ja b.2 67 8 = -1 ∧ ja b.2 67 2 = 0 ∧ ja b.2 67 0 = 0 ∧ jfr true kWrq m b.2) := by
  have hm : ∀ j, j < X → ja (js m 67 0 0) 69 j = f j ∧ 0 ≤ f j ∧ f j ≤ 255 := fun j hj => by rw [ja_jsk (by decide)]; exact hf j hj
  obtain ⟨T1, T2, T3, T4, -⟩ := kOm_T (m := js m 67 0 0) (f := f) (X := X) (by omega) hm
  have F0 : jfr true kWrq m (kOm (js m 67 0 0) X) := kOm_q
  have e39 : ja (kOm (js m 67 0 0) X) 67 39 = 16 := by rw [ja_fr F0 (by unfold kWrq; omega)]; exact h39
  have e0 : ja (kOm (js m 67 0 0) X) 67 0 = 0 := by rw [ja_fr (kOm_fr (m := js m 67 0 0)) (by unfold kWom; omega)]; exact th0
  rw [jf_222_e hL hX hX1, if_pos e39, sp_212y T3, jsb]
  refine ⟨rfl, ?_, ?_, ?_, jfr_js F0 (by unfold kWrq; omega)⟩
  · show ja (js _ 67 8 (-1)) 67 8 = -1
    rw [ja_js1]; exact wm1
  · show ja (js _ 67 8 (-1)) 67 2 = 0
    rw [ja_jsj (by decide)]; exact T2
  · show ja (js _ 67 8 (-1)) 67 0 = 0
    rw [ja_jsj (by decide)]; exact e0
/-- where the model's doing of work writes -/
def kWv2 (k j : Nat) : Prop := (k = 67 ∧ (j = 8 ∨ (39 ≤ j ∧ j ≤ 43) ∨ (47 ≤ j ∧ j ≤ 49))) ∨ (84 ≤ k ∧ k ≤ 90)
set_option maxRecDepth 20000 in
theorem wTl_y {t : jm} {c : kC} {p : kP} {cl : List Int} {l : List (wT 6)} {Cd : List wE} {n : Nat} (hv : kV c) (hCd : Cd = wFl (wM 6) (wCn 6) 0 l) (hl : wAll (wV c 6) l) (hLn : 3 * Cd.length ≤ 150) (Hq : kCx t Cd) (h5 : ja t 67 5 = -1) (hM : kCm t 24 75 c) (hP : kPm (fun j => ja t 88 j) c p) (hvp : kVp c p) (h8 : 0 ≤ p 8 0 ∧ p 8 0 ≤ 700) (hW : kWL cl) (hLm : kLm t cl) (hn : n < 16) (h39 : ja t 67 39 = (n : Int)) : jo (wTail t) (fun b => b.1 = ((wSL (wSe c cl 6) l ((0 : Nat), (0 : Nat), (0 : Nat), p)).2.1 : Int) ∧ ja b.2 67 8 = -1 ∧ kPm (fun j => ja b.2 88 j) c (wSL (wSe c cl 6) l ((0 : Nat), (0 : Nat), (0 : Nat), p)).2.2.2 ∧ ja b.2 67 40 = ((wSL (wSe c cl 6) l ((0 : Nat), (0 : Nat), (0 : Nat), p)).2.2.1 : Int) ∧ ja b.2 67 39 = ((n + 1 : Nat) : Int) ∧ (∀ j, ja b.2 90 j = if 68 * n ≤ j ∧ j < 68 * n + 68 then ja t 88 (j - 68 * n) else ja t 90 j) ∧ jfr true kWv2 t b.2) := by
  have hI : wI c ((0 : Nat), (0 : Nat), (0 : Nat), p) := ⟨hvp, h8, Nat.zero_le _, Nat.le_refl _⟩
  have hI2 := wI_L (P := wV c 6) (fun t s h1 h2 h3 => wI_e (cl := cl) hv 6 t s h1 h2 h3) l _ hl hI
  have hs : wSeg Cd 0 (wFl (wM 6) (wCn 6) 0 l) := fun u hu => by
    rw [← hCd] at hu ⊢
    rw [Nat.zero_add]; exact ⟨hu, rfl⟩
  have K := fun G HG => wGT (cl := cl) hv hLn 6 20 (by decide) l hl 0 ((0 : Nat), (0 : Nat), (0 : Nat), p) G hs HG hI
  have elen : Cd.length = 0 + wSm (wCn 6) l := by rw [hCd, wFl_len (wM_len 6), Nat.zero_add]
  generalize wSL (wSe c cl 6) l ((0 : Nat), (0 : Nat), (0 : Nat), p) = s at hI2 K ⊢
  have a5 : ja (js t 67 8 (-1)) 67 5 = -1 := by rw [ja_jsj (by decide)]; exact h5
  have a38 : ja (js t 67 8 (-1)) 67 38 = ((3 * Cd.length : Nat) : Int) := by rw [ja_jsj (by decide)]; exact Hq.1
  unfold wTail
  rw [sp_212y h5, jsb]
  dsimp only
  rw [if_pos a5, a38, sp_190 (a := 86) (b := 87) (n := 3 * Cd.length) (by decide) (by show 3 * Cd.length ≤ 150; exact hLn) (by show 3 * Cd.length ≤ 150; exact hLn), jsb]
  have rB : ∀ k j, ja (jcp (js t 67 8 (-1)) ((js t 67 8 (-1)).1 86) 87 0 0 (3 * Cd.length)) k j = if k = 87 ∧ j < 3 * Cd.length then ja t 86 j else if k = 67 ∧ j = 8 then -1 else ja t k j := fun k j => by
    rw [ja_jcp]
    by_cases q : k = 87 ∧ j < 3 * Cd.length
    · rw [if_pos (show k = 87 ∧ 0 ≤ j ∧ j < 0 + 3 * Cd.length by omega), if_pos q]
      show ja (js t 67 8 (-1)) 86 (0 + (j - 0)) = _
      rw [ja_jsk (by decide), Nat.zero_add, Nat.sub_zero]
    · rw [if_neg (show ¬ (k = 87 ∧ 0 ≤ j ∧ j < 0 + 3 * Cd.length) by omega), if_neg q, ja_js, wm1]
  have FB : jfr true kWv2 t (jcp (js t 67 8 (-1)) ((js t 67 8 (-1)).1 86) 87 0 0 (3 * Cd.length)) := jfr_jcp (jfr_js jfr_r (by unfold kWv2; omega)) (fun j => by unfold kWv2; omega)
  generalize jcp (js t 67 8 (-1)) ((js t 67 8 (-1)).1 86) 87 0 0 (3 * Cd.length) = B at rB FB ⊢
  have b39 : ja B 67 39 = (n : Int) := by rw [rB, if_neg (by omega), if_neg (by omega)]; exact h39
  rw [jlp_fr (a := ((0 : Int), B)) (c := jcp B (B.1 88) 90 0 (68 * n) 68) 68 (fun i => ((i : Int), jcp B (B.1 88) 90 0 (68 * n) i)) (by decide) (by rw [jcp_0]; rfl) ?hs ?he]
  case he => rfl
  case hs =>
    intro i hi
    dsimp only
    have g1 : ja (jcp B (B.1 88) 90 0 (68 * n) i) 67 39 = (n : Int) := by rw [ja_jcp, if_neg (by omega)]; exact b39
    have g2 : jw (jw ((68 : Int) * (n : Int)) + (i : Int)) = ((68 * n + i : Nat) : Int) := by rw [jwi (x := 68 * _) (by omega) (by omega), jwi (by omega) (by omega)]; omega
    have := jcp_st (m := B) (s := 88) (d := 90) (sp := 0) (dp := 68 * n) (i := i) (by decide)
    rw [Nat.zero_add] at this
    rw [if_pos (show (i : Int) < 68 by omega), if_pos (show 0 ≤ (i : Int) ∧ (i : Int) < 68 by omega), g1, g2, if_pos (show 0 ≤ ((68 * n + i : Nat) : Int) ∧ ((68 * n + i : Nat) : Int) < 1088 by omega), jle_eq, Int.toNat_natCast, Int.toNat_natCast, jwn (n := i) (by omega), this]
  rw [jsb]
  have rC : ∀ k j, ja (jcp B (B.1 88) 90 0 (68 * n) 68) k j = if k = 90 ∧ 68 * n ≤ j ∧ j < 68 * n + 68 then ja B 88 (j - 68 * n) else ja B k j := fun k j => by
    rw [ja_jcp]
    by_cases q : k = 90 ∧ 68 * n ≤ j ∧ j < 68 * n + 68
    · rw [if_pos q, if_pos q]
      show ja B 88 (0 + (j - 68 * n)) = _
      rw [Nat.zero_add]
    · rw [if_neg q, if_neg q]
  have FC : jfr true kWv2 t (jcp B (B.1 88) 90 0 (68 * n) 68) := jfr_jcp FB (fun j => by unfold kWv2; omega)
  generalize jcp B (B.1 88) 90 0 (68 * n) 68 = C at rC FC ⊢
  have c39 : ja C 67 39 = (n : Int) := by rw [rC, if_neg (by omega)]; exact b39
  have q : ∀ k j, k ≠ 87 → k ≠ 90 → ¬ (k = 67 ∧ (j = 8 ∨ j = 39)) → ja (js C 67 39 ((n + 1 : Nat) : Int)) k j = ja t k j := fun k j z1 z2 z3 => by
    rw [ja_js, if_neg (by omega), rC, if_neg (by omega), rB, if_neg (by omega), if_neg (by omega)]
  have d39 : ja (js C 67 39 ((n + 1 : Nat) : Int)) 67 39 = ((n + 1 : Nat) : Int) := by rw [ja_js1, jwi (by omega) (by omega)]
  have d8 : ja (js C 67 39 ((n + 1 : Nat) : Int)) 67 8 = -1 := by rw [ja_jsj (by decide), rC, if_neg (by omega), rB, if_neg (by omega), if_pos ⟨rfl, rfl⟩]
  have d87 : ∀ j, j < 3 * Cd.length → ja (js C 67 39 ((n + 1 : Nat) : Int)) 87 j = ja t 86 j := fun j hj => by rw [ja_jsk (by decide), rC, if_neg (by omega), rB, if_pos ⟨rfl, hj⟩]
  have d90 : ∀ j, ja (js C 67 39 ((n + 1 : Nat) : Int)) 90 j = if 68 * n ≤ j ∧ j < 68 * n + 68 then ja t 88 (j - 68 * n) else ja t 90 j := fun j => by
    rw [ja_jsk (by decide), rC, rB, rB]
    by_cases z : 68 * n ≤ j ∧ j < 68 * n + 68
    · rw [if_pos ⟨rfl, z⟩, if_pos z, if_neg (by omega), if_neg (by omega)]
    · rw [if_neg (fun e => z e.2), if_neg z, if_neg (by omega), if_neg (by omega)]
  have FD : jfr true kWv2 t (js C 67 39 ((n + 1 : Nat) : Int)) := jfr_js FC (by unfold kWv2; omega)
  rw [jle_eq, c39, jwn (by omega)]
  generalize js C 67 39 ((n + 1 : Nat) : Int) = D at q d39 d8 d87 d90 FD ⊢
  rw [sp_226, jsb, jle_eq, jle_eq, jle_eq]
  have HD : kM (kT0 D) c p cl := kM_T0 hv hvp hW (kCm_e (fun j a b => q _ _ (by omega) (by omega) (by omega)) (fun k j a b => q _ _ (by omega) (by omega) (by omega)) hM) (kPm_eq (fun j => q _ _ (by omega) (by omega) (by omega)) hP) (kLm_e (q _ _ (by omega) (by omega) (by omega)) (fun j => q _ _ (by omega) (by omega) (by omega)) (fun j => q _ _ (by omega) (by omega) (by omega)) hLm)
  have HG0 : kM (js (js (js (kT0 D) 67 41 0) 67 42 0) 67 43 0) c p cl := kM_js (kM_js (kM_js HD (by unfold kQM; omega)) (by unfold kQM; omega)) (by unfold kQM; omega)
  have qG : ∀ k j, k ≠ 89 → ¬ (k = 67 ∧ (j = 41 ∨ j = 42 ∨ j = 43)) → ja (js (js (js (kT0 D) 67 41 0) 67 42 0) 67 43 0) k j = ja D k j := fun k j z1 z2 => by
    rw [ja_js, if_neg (by omega), ja_js, if_neg (by omega), ja_js, if_neg (by omega)]; exact ja_T0 z1
  have e38 : ja (js (js (js (kT0 D) 67 41 0) 67 42 0) 67 43 0) 67 38 = ((3 * (0 + wSm (wCn 6) l) : Nat) : Int) := by
    rw [qG _ _ (by omega) (by omega), q _ _ (by omega) (by omega) (by omega), ← elen]; exact Hq.1
  have HG : qRm c cl Cd (js (js (js (kT0 D) 67 41 0) 67 42 0) 67 43 0) ((0 : Nat), (0 : Nat), (0 : Nat), p) := by
    refine ⟨HG0, fun t' ht' => ?_, ?_, ?_, ?_⟩
    · rw [qG _ _ (by omega) (by omega), qG _ _ (by omega) (by omega), qG _ _ (by omega) (by omega), d87 _ (by omega), d87 _ (by omega), d87 _ (by omega)]
      exact Hq.2 t' ht'
    · rw [ja_jsj (by decide), ja_jsj (by decide), ja_js1]; exact wz0
    · rw [ja_jsj (by decide), ja_js1]; exact wz0
    · rw [ja_js1]; exact wz0
  have FG : jfr true kWv2 t (js (js (js (kT0 D) 67 41 0) 67 42 0) 67 43 0) := jfr_js (jfr_js (jfr_js (jfr_t FD jfr_T0 (fun e => e) (fun k j h => by unfold jW_226 at h; unfold kWv2; omega)) (by unfold kWv2; omega)) (by unfold kWv2; omega)) (by unfold kWv2; omega)
  have K1 := K _ HG
  rw [e38]
  generalize js (js (js (kT0 D) 67 41 0) 67 42 0) 67 43 0 = G at HG FG qG K1 ⊢
  refine jo_c (jo_and (show jo (jG_G 20 0 (0 : Int) ((3 * (0 + wSm (wCn 6) l) : Nat) : Int) G) _ from K1) jxG_G) (fun r hr => ?_)
  obtain ⟨⟨r1, r2, r3, r4, r5⟩, r6⟩ := hr
  have e9 : jf_190 89 88 (68 : Int) r = some (jcp r (r.1 89) 88 0 0 68) := sp_190 (a := 89) (b := 88) (n := 68) (by decide) (by decide) (by decide)
  rw [e9, jsb, jle_eq]
  have rR : ∀ k j, ja (jcp r (r.1 89) 88 0 0 68) k j = if k = 88 ∧ j < 68 then ja r 89 j else ja r k j := fun k j => by
    rw [ja_jcp]
    by_cases z : k = 88 ∧ j < 68
    · rw [if_pos (show k = 88 ∧ 0 ≤ j ∧ j < 0 + 68 by omega), if_pos z]
      show ja r 89 (0 + (j - 0)) = _
      rw [Nat.zero_add, Nat.sub_zero]
    · rw [if_neg (show ¬ (k = 88 ∧ 0 ≤ j ∧ j < 0 + 68) by omega), if_neg z]
  have FR : jfr true kWv2 t (jcp r (r.1 89) 88 0 0 68) := jfr_jcp (jfr_t FG r6 (fun e => e) (fun k j h => by unfold jWG_G at h; unfold kWv2; omega)) (fun j => by unfold kWv2; omega)
  generalize jcp r (r.1 89) 88 0 0 68 = R at rR FR ⊢
  have R43 : ja R 67 43 = (s.2.2.1 : Int) := by rw [rR, if_neg (by omega)]; exact r5
  have i3 := hI2.2.2.1
  have i4 := hI2.2.2.2
  have qR : ∀ k j, k ≠ 88 → k ≠ 89 → k ≠ 84 → k ≠ 85 → ¬ (k = 67 ∧ (j = 40 ∨ j = 41 ∨ j = 42 ∨ j = 43 ∨ j = 47 ∨ j = 48 ∨ j = 49)) → ja (js R 67 40 (ja R 67 43)) k j = ja D k j := fun k j z1 z2 z3 z4 z5 => by
    rw [ja_js, if_neg (by omega), rR, if_neg (by omega), ja_fr r6 (by unfold jWG_G; omega)]; exact qG k j z2 (by omega)
  refine ⟨?_, ?_, ?_, ?_, ?_, fun j => ?_, jfr_js FR (by unfold kWv2; omega)⟩
  · show ja (js R 67 40 (ja R 67 43)) 67 42 = _
    rw [ja_jsj (by decide), rR, if_neg (by omega)]; exact r4
  · show ja (js R 67 40 (ja R 67 43)) 67 8 = -1
    rw [qR _ _ (by omega) (by omega) (by omega) (by omega) (by omega)]; exact d8
  · show kPm (fun j => ja (js R 67 40 (ja R 67 43)) 88 j) c s.2.2.2
    exact kPm_lt hv (fun j hj => by show ja (js R 67 40 (ja R 67 43)) 88 j = ja r 89 j; rw [ja_jsk (by decide), rR, if_pos ⟨rfl, hj⟩]) r1.2.2.2.2.1
  · show ja (js R 67 40 (ja R 67 43)) 67 40 = _
    rw [ja_js1, R43, jwi (by omega) (by omega)]
  · show ja (js R 67 40 (ja R 67 43)) 67 39 = _
    rw [qR _ _ (by omega) (by omega) (by omega) (by omega) (by omega)]; exact d39
  · show ja (js R 67 40 (ja R 67 43)) 90 j = _
    rw [qR _ _ (by omega) (by omega) (by omega) (by omega) (by omega)]; exact d90 j
theorem wTl_n {t : jm} {f : Nat → Int} {n : Nat} {e : Int × Nat} (H : kMz t f n (Sum.inl e)) : wTail t = some (jw (e.1 - 10), js t 67 8 (e.2 : Int)) ∧ e.2 ≤ 600 := by
  obtain ⟨-, h5, h7, h8⟩ := H
  refine ⟨?_, h8⟩
  have a5 : ja (js t 67 8 (e.2 : Int)) 67 5 = (e.2 : Int) := by rw [ja_jsj (by decide)]; exact h5
  unfold wTail
  rw [sp_212n h5 h7 h8, jsb]
  dsimp only
  rw [a5, if_neg (show ¬ (e.2 : Int) = -1 by omega)]
def kWrv (k j : Nat) : Prop := kWrq k j ∨ kWv2 k j
set_option maxRecDepth 20000 in
theorem sl_222 {m0 m : jm} {f : Nat → Int} {X L n : Nat} {c : kC} {p : kP} {cl : List Int} (hE : ∀ k j, 67 ≤ k → ja m k j = ja m0 k j) (hL : ja m0 67 2 = (L : Int)) (hX : X ≤ L) (hX1 : X ≤ 150) (hf : ∀ j, j < X → ja m0 69 j = f j ∧ 0 ≤ f j ∧ f j ≤ 255) (hn : n < 16) (h39 : ja m0 67 39 = (n : Int)) (hv : kV c) (hM : kCm m0 24 75 c) (hP : kPm (fun j => ja m0 88 j) c p) (hvp : kVp c p) (h8 : 0 ≤ p 8 0 ∧ p 8 0 ≤ 700) (hW : kWL cl) (hLm : kLm m0 cl) : jo (jf_222 X m) (fun b => (match wTop f X c with
    | Sum.inl e => b.1 = jw (e.1 - 10) ∧ ja b.2 67 8 = (e.2 : Int) ∧ jfr true kWrq m b.2
    | Sum.inr l => b.1 = ((wSL (wSe c cl 6) l ((0 : Nat), (0 : Nat), (0 : Nat), p)).2.1 : Int) ∧ ja b.2 67 8 = -1 ∧ kPm (fun j => ja b.2 88 j) c (wSL (wSe c cl 6) l ((0 : Nat), (0 : Nat), (0 : Nat), p)).2.2.2 ∧ ja b.2 67 40 = ((wSL (wSe c cl 6) l ((0 : Nat), (0 : Nat), (0 : Nat), p)).2.2.1 : Int) ∧ ja b.2 67 39 = ((n + 1 : Nat) : Int) ∧ (∀ j, ja b.2 90 j = if 68 * n ≤ j ∧ j < 68 * n + 68 then ja m0 88 (j - 68 * n) else ja m0 90 j) ∧ jfr true kWrv m b.2) ∧ ja b.2 67 2 = 0 ∧ ja b.2 67 0 = 0) := by
  have hL' : ja m 67 2 = (L : Int) := by rw [hE 67 2 (by decide)]; exact hL
  have hm : ∀ j, j < X → ja (js m 67 0 0) 69 j = f j ∧ 0 ≤ f j ∧ f j ≤ 255 := fun j hj => by rw [ja_jsk (by decide), hE 69 j (by decide)]; exact hf j hj
  obtain ⟨T1, T2, T3, T4, -⟩ := kOm_T (m := js m 67 0 0) (f := f) (X := X) (by omega) hm
  have F0 : jfr true kWrq m (kOm (js m 67 0 0) X) := kOm_q
  have e39 : ja (kOm (js m 67 0 0) X) 67 39 = (n : Int) := by rw [ja_fr F0 (by unfold kWrq; omega), hE 67 39 (by decide)]; exact h39
  have e0 : ja (kOm (js m 67 0 0) X) 67 0 = 0 := by rw [ja_fr (kOm_fr (m := js m 67 0 0)) (by unfold kWom; omega)]; exact th0
  rw [jf_222_e hL' hX hX1, e39, if_neg (show ¬ (n : Int) = 16 by omega)]
  have FM : jfr true kWrq m (js (kOm (js m 67 0 0) X) 67 38 0) := jfr_js F0 (by unfold kWrq; omega)
  have M2 : ja (js (kOm (js m 67 0 0) X) 67 38 0) 67 2 = 0 := by rw [ja_jsj (by decide)]; exact T2
  have M0 : ja (js (kOm (js m 67 0 0) X) 67 38 0) 67 0 = 0 := by rw [ja_jsj (by decide)]; exact e0
  have H0 : qMr f X c 0 (js (kOm (js m 67 0 0) X) 67 38 0) (Sum.inr 0) [] := ⟨kMz_js ⟨T1, T3⟩ (by omega), ⟨by rw [ja_js1]; exact wz0, fun t ht => absurd ht (Nat.not_lt_zero _)⟩, fun k hk => by rw [ja_fr FM (by unfold kWrq; omega), hE 67 _ (by decide)]; exact hM.1 k hk, fun i hi => ⟨by rw [ja_jsj (by decide)]; exact T4, Nat.zero_le _⟩⟩
  generalize js (kOm (js m 67 0 0) X) 67 38 0 = M at FM M2 M0 H0 ⊢
  refine jo_c (jo_and (sl_222r hX1 hv H0) wMt_fr) (fun t ht => ?_)
  obtain ⟨H1, F1⟩ := ht
  have Ft : jfr true kWrq m t := jfr_t FM F1 (fun e => e) (fun k j h => by unfold jWt at h; unfold kWrq; omega)
  have t2 : ja t 67 2 = 0 := by rw [ja_fr F1 (by unfold jWt; omega)]; exact M2
  have t0 : ja t 67 0 = 0 := by rw [ja_fr F1 (by unfold jWt; omega)]; exact M0
  have qt : ∀ k j, 67 ≤ k → ¬ kWrq k j → ja t k j = ja m0 k j := fun k j a b => by rw [ja_fr Ft b]; exact hE k j a
  cases hr : wTop f X c with
  | inl e =>
    rw [hr] at H1
    obtain ⟨w1, w2⟩ := wTl_n (show kMz t f X (Sum.inl e) from H1)
    rw [w1]
    refine ⟨⟨rfl, ?_, jfr_js Ft (by unfold kWrq; omega)⟩, ?_, ?_⟩
    · show ja (js t 67 8 (e.2 : Int)) 67 8 = (e.2 : Int)
      rw [ja_js1, jwi (by omega) (by omega)]
    · show ja (js t 67 8 (e.2 : Int)) 67 2 = 0
      rw [ja_jsj (by decide)]; exact t2
    · show ja (js t 67 8 (e.2 : Int)) 67 0 = 0
      rw [ja_jsj (by decide)]; exact t0
  | inr l =>
    rw [hr] at H1
    obtain ⟨j', H2⟩ := H1
    have tp := (wTop_r (f := f) (n := X) (c := c) (by omega) hv).2
    rw [hr] at tp
    have tp1 : wSm (wWt 6) l ≤ X := tp.1
    have tp2 : wAll (wV c 6) l := tp.2
    have l3 : 3 * (wFl (wM 6) (wCn 6) 0 l).length ≤ 150 := by
      rw [wFl_len (wM_len 6)]
      have := wSm_3 (wCn_le 6) l
      omega
    have c1 : kCm t 24 75 c := kCm_e (fun j a b => qt 67 j (by decide) (by unfold kWrq; omega)) (fun k j a b => qt k j (by omega) (by unfold kWrq; omega)) hM
    have c2 : kPm (fun j => ja t 88 j) c p := kPm_eq (fun j => qt 88 j (by decide) (by unfold kWrq; omega)) hP
    have c3 : kLm t cl := kLm_e (qt 67 34 (by decide) (by unfold kWrq; omega)) (fun j => qt 82 j (by decide) (by unfold kWrq; omega)) (fun j => qt 83 j (by decide) (by unfold kWrq; omega)) hLm
    have c4 : ja t 67 39 = (n : Int) := by rw [qt 67 39 (by decide) (by unfold kWrq; omega)]; exact h39
    refine jo_mono (wTl_y (t := t) (p := p) (cl := cl) (n := n) hv rfl tp2 l3 H2.2.1 H2.1.2 c1 c2 hvp h8 hW c3 hn c4) (fun b hb => ?_)
    obtain ⟨b1, b2, b3, b4, b5, b6, b7⟩ := hb
    refine ⟨⟨b1, b2, b3, b4, b5, fun j => ?_, jfr_t (jfr_t jfr_r Ft (fun e => e) (fun k j h => Or.inl h)) b7 (fun e => e) (fun k j h => Or.inr h)⟩, ?_, ?_⟩
    · rw [b6 j, qt 88 _ (by decide) (by unfold kWrq; omega), qt 90 _ (by decide) (by unfold kWrq; omega)]
    · rw [ja_fr b7 (by unfold kWv2; omega)]; exact t2
    · rw [ja_fr b7 (by unfold kWv2; omega)]; exact t0
