/-! LIKELY: the class, the model, the operation. -/
theorem kK_jsl {q : Nat} {m : jm} {c : kC} {p : kP} {cl : List Int} {k j : Nat} {x : Int} (H : kK q m c p cl) : kK q (jsl m k j x) c p cl := kK_eq (kEq_jsl kEq_r) H
theorem kG_jo {c : kC} {p : kP} {cl : List Int} {w : Nat} {a : Int × Int × Int} {u v : Nat} (h : kG c p cl w a u v = true) : ∃ e, e < c 11 1 ∧ kJo c u v = (e : Int) := by
  unfold kG at h
  have h1 := of_decide_eq_true (Bool.and_eq_true_iff.1 h).1
  rcases kJo_cs (c := c) (u := u) (v := v) with ⟨h2, -⟩ | ⟨e, h2, h3, -⟩
  · exact absurd h2 h1
  · exact ⟨e, h2, h3⟩
theorem jg_q {q : Nat} (h : q ≤ 16) : jg (q : Int) := ⟨by omega, by omega⟩
theorem sl_139 {m : jm} {c : kC} {p : kP} {cl : List Int} {w u v q : Nat} (H : kK 0 m c p cl) (hw : w < c 11 2) (hq : q ≤ 16) (hg : kG c p cl w (kHw c p w) u v = true) : jo (jf_139 w u v q m) (fun r => r.1 = ((kPa c p cl w (kHw c p w) q u v : Nat) : Int) ∧ jfr true jW_139 m r.2) := by
  refine jo_and ?_ jx_139
  have hn := H.1.1
  obtain ⟨e, he, hJ⟩ := kG_jo hg
  unfold jf_139 kPa
  rw [if_neg (show ¬ (u : Int) = -1 by omega), if_neg (show ¬ (v : Int) = -1 by omega), sp_16 H, jsb, jsb, hJ, if_neg (show ¬ (e : Int) = -1 by omega), if_pos (show 0 ≤ (e : Int) ∧ (e : Int) < 12 by omega), Int.toNat_natCast, kK_A H he, jite_some, jsb]
  generalize (if (c 1 e : Int) = (u : Int) then (0 : Int) else 1) = how
  refine jo_c (sl_78 (how := how) (fog := 0) H hw he jg_0) (fun r hr => ?_)
  obtain ⟨hr, hf⟩ := hr
  have H1 := kK_fr H hf (fun k j hk => by unfold jW_78 at hk; unfold kQK; omega)
  rw [sp_73 H1 hw (by rw [hr]; exact kLean_b), jsb, hr]
  show jo ((if (if kOv c w (kLn c p cl w e how 0 (kHw c p w)) = true then (1 : Int) else 0) = 0 then some (0 : Int) else some (jw (16 - (q : Int)))).bind _) _
  have e1 : (if (if kOv c w (kLn c p cl w e how 0 (kHw c p w)) = true then (1 : Int) else 0) = 0 then some (0 : Int) else some (jw (16 - (q : Int)))) = some (((if kOv c w (kLn c p cl w e how 0 (kHw c p w)) = true then 16 - q else 0 : Nat)) : Int) := by
    cases kOv c w (kLn c p cl w e how 0 (kHw c p w))
    · rfl
    · rw [if_pos (rfl : true = true), if_neg (by decide), if_pos (rfl : true = true), jwi (by omega) (by omega)]; congr 1; omega
  rw [e1, jsb]
  refine jo_c (sl_78 (how := how) (fog := 1) H1 hw he (jg_c rfl)) (fun r2 hr2 => ?_)
  obtain ⟨hr2, hf2⟩ := hr2
  have H2 := kK_fr H1 hf2 (fun k j hk => by unfold jW_78 at hk; unfold kQK; omega)
  rw [sp_73 H2 hw (by rw [hr2]; exact kLean_b), jsb, hr2]
  show jo ((if (if kOv c w (kLn c p cl w e how 1 (kHw c p w)) = true then (1 : Int) else 0) = 0 then some (0 : Int) else some (q : Int)).bind _) _
  have e2 : (if (if kOv c w (kLn c p cl w e how 1 (kHw c p w)) = true then (1 : Int) else 0) = 0 then some (0 : Int) else some (q : Int)) = some (((if kOv c w (kLn c p cl w e how 1 (kHw c p w)) = true then q else 0 : Nat)) : Int) := by
    cases kOv c w (kLn c p cl w e how 1 (kHw c p w))
    · rfl
    · rfl
  rw [e2, jsb]
  have hb := kPa_a (b1 := kOv c w (kLn c p cl w e how 0 (kHw c p w))) (b2 := kOv c w (kLn c p cl w e how 1 (kHw c p w))) hq
  show jw (_ + _) = _
  rw [← Int.natCast_add, jw_nat (by omega)]
theorem kNR_fr {b : Bool} {W : Nat → Nat → Prop} {m m' : jm} {G : Nat → Nat → Bool} {T : Nat} (h : kNR m G T) (hf : jfr b W m m') (hz : ∀ k j, W k j → k ≠ 57 ∧ ¬ (k = 3 ∧ j = 0)) : kNR m' G T :=
  ⟨by rw [ja_fr hf (fun e => (hz _ _ e).2 ⟨rfl, rfl⟩)]; exact h.1, h.2.1, fun t ht => by rw [ja_fr hf (fun e => (hz _ _ e).1 rfl)]; exact h.2.2 t ht⟩
/-- the factor at step k of the way -/
def kFa (c : kC) (p : kP) (cl : List Int) (w q t : Nat) (k : Nat) : Nat := kPa c p cl w (kHw c p w) q (kPos (kG c p cl w (kHw c p w)) (c 11 0) (p 2 w).toNat t k) (kPos (kG c p cl w (kHw c p w)) (c 11 0) (p 2 w).toNat t (k + 1))
/-- above and below -/
def kLy (c : kC) (p : kP) (cl : List Int) (w q t : Nat) : Nat × Nat := if kWy c p cl w t = -1 then (0, 1) else kHv 32 (kUp (kFa c p cl w q t) (kWy c p cl w t).toNat, 16 ^ (kWy c p cl w t).toNat)
theorem kFa_b {c : kC} {p : kP} {cl : List Int} {w q t : Nat} (hq : q ≤ 16) (k : Nat) : kFa c p cl w q t k ≤ 16 := kPa_b hq
theorem kUp_s {c : kC} {p : kP} {cl : List Int} {w q t k : Nat} (hq : q ≤ 16) (hk : k < 8) : kUp (kFa c p cl w q t) k ≤ 268435456 := Nat.le_trans (kUp_b (kFa_b hq) k) (p16 hk)
theorem jfr_fl {b : Bool} {W : Nat → Nat → Prop} {m m' : jm} (h : jfr b W m m') : jfr false W m m' := ⟨h.1, fun e => by cases e⟩
/-- one step of the way -/
theorem kPos_st {c : kC} {p : kP} {cl : List Int} {w t k : Nat} (hT : c 11 0 ≤ 8) (hq : kVp c p) (hw : w < c 11 2) (ht : t < c 11 0) (hf : p 2 w ≠ -1) (hk : (k : Int) < kWy c p cl w t) :
    kPos (kG c p cl w (kHw c p w)) (c 11 0) (p 2 w).toNat t k < c 11 0 ∧ kPos (kG c p cl w (kHw c p w)) (c 11 0) (p 2 w).toNat t (k + 1) < c 11 0 ∧ 0 < kDs (kG c p cl w (kHw c p w)) (c 11 0) (kPos (kG c p cl w (kHw c p w)) (c 11 0) (p 2 w).toNat t k) t ∧ kFh (kG c p cl w (kHw c p w)) (c 11 0) (kPos (kG c p cl w (kHw c p w)) (c 11 0) (p 2 w).toNat t k) t = ((kPos (kG c p cl w (kHw c p w)) (c 11 0) (p 2 w).toNat t (k + 1) : Nat) : Int) ∧ kG c p cl w (kHw c p w) (kPos (kG c p cl w (kHw c p w)) (c 11 0) (p 2 w).toNat t k) (kPos (kG c p cl w (kHw c p w)) (c 11 0) (p 2 w).toNat t (k + 1)) = true := by
  obtain ⟨h1, h2⟩ := kP2_b hq hw hf
  have e : kWy c p cl w t = kDs (kG c p cl w (kHw c p w)) (c 11 0) (p 2 w).toNat t := by unfold kWy; rw [if_neg hf]
  rw [e] at hk
  obtain ⟨q1, q2⟩ := kPos_d (G := kG c p cl w (kHw c p w)) hT h2 ht k (by omega)
  obtain ⟨v, r1, r2, r3, r4⟩ := kFh_ok (G := kG c p cl w (kHw c p w)) hT q1 ht (by omega)
  have ev : kPos (kG c p cl w (kHw c p w)) (c 11 0) (p 2 w).toNat t (k + 1) = v := by
    show (kFh _ _ (kPos _ _ _ _ k) _).toNat = v
    rw [r2]; rfl
  rw [ev]
  exact ⟨q1, r1, by omega, r2, r3⟩
theorem sl_138 {m : jm} {c : kC} {p : kP} {cl : List Int} {w q t : Nat} (H : kK 0 m c p cl) (hw : w < c 11 2) (ht : t < c 11 0) (hq : q ≤ 16) : jo (jf_138 w t q m) (fun r => jal r 56 4 = ((kLy c p cl w q t).1 : Nat) ∧ jal r 56 5 = ((kLy c p cl w q t).2 : Nat) ∧ jfr false jW_138 m r) := by
  have hn := H.1.1
  have hj : ∀ {P : jm → Prop}, jo (jf_138 w t q m) P → jo (jf_138 w t q m) (fun r => P r ∧ jfr false jW_138 m r) := fun h => jo_and h jx_138
  refine jo_mono (hj (P := fun r => jal r 56 4 = ((kLy c p cl w q t).1 : Nat) ∧ jal r 56 5 = ((kLy c p cl w q t).2 : Nat)) ?_) (fun r hr => ⟨hr.1.1, hr.1.2, hr.2⟩)
  have hwb := kWy_b (c := c) (p := p) (cl := cl) (w := w) (t := t)
  unfold jf_138
  refine jo_c (sl_131 H hw) (fun r hr => ?_)
  have H1 := kK_127 H hr.2
  have e128 : jf_128 (p 2 w) (t : Int) r = some (kWy c p cl w t) := by
    unfold kWy
    by_cases h : p 2 w = -1
    · rw [h, sp_128n, if_pos rfl]
    · obtain ⟨q1, q2⟩ := kP2_b H.2.1 hw h
      rw [if_neg h, ← sp_128 hr.1 q2 ht, ← q1]
  rw [sp_59 H1 hw, jsb, e128, jsb, jite_some, jsb, jle_eq, jle_eq]
  -- the loop over the wires
  refine jo_c (R := fun t22 => ∃ x y : Nat, jal t22 56 4 = x ∧ jal t22 56 5 = y ∧ x ≤ 268435456 ∧ y ≤ 268435456 ∧ kHv 32 (x, y) = kLy c p cl w q t) ?_ (fun t22 ht22 => ?_)
  · by_cases hd : kWy c p cl w t = -1
    · rw [hd]
      refine jo_for 0 jfu (fun i (s : Int × Int × jm) => s = (p 2 w, (0 : Int), jsl (jsl r 56 4 0) 56 5 1)) (jfu_lt (by decide)) (fun i hi => absurd hi (Nat.not_lt_zero _)) ?_ _ rfl
      intro s hs
      subst hs
      dsimp only
      rw [if_neg (by decide)]
      refine ⟨0, 1, ?_, ?_, by decide, by decide, ?_⟩
      · show jal (jsl (jsl r 56 4 0) 56 5 1) 56 4 = 0
        rw [jal_jsl, if_neg (by decide), jal_jsl, if_pos (by decide)]; rfl
      · show jal (jsl (jsl r 56 4 0) 56 5 1) 56 5 = 1
        rw [jal_jsl, if_pos (by decide)]; rfl
      · unfold kLy
        rw [if_pos hd]; rfl
    · have hf : p 2 w ≠ -1 := fun e => hd (by unfold kWy; rw [if_pos e])
      obtain ⟨q1, q2⟩ := kP2_b H.2.1 hw hf
      have ewt : kWy c p cl w t = (((kWy c p cl w t).toNat : Nat) : Int) := by omega
      rw [if_neg hd]
      refine jo_for (kWy c p cl w t).toNat jfu (fun k (s : Int × Int × jm) => s.2.1 = k ∧ s.1 = ((kPos (kG c p cl w (kHw c p w)) (c 11 0) (p 2 w).toNat t k : Nat) : Int) ∧ jal s.2.2 56 4 = ((kUp (kFa c p cl w q t) k : Nat) : Int) ∧ jal s.2.2 56 5 = ((16 ^ k : Nat) : Int) ∧ jfr false (fun k _ => k = 49 ∨ k = 29) r s.2.2) (jfu_lt (by omega)) ?_ ?_ _ ⟨rfl, q1, ?_, ?_, jfr_jsl (jfr_jsl jfr_r)⟩
      · intro k hk s hs
        obtain ⟨at_, x, m'⟩ := s
        obtain ⟨h1, h2, h3, h4, h5⟩ := hs
        dsimp only at h1 h2 h3 h4 h5 ⊢
        subst h1 h2
        obtain ⟨s1, s2, s3, s4, s5⟩ := kPos_st (cl := cl) hn.1 H.2.1 hw ht hf (show (k : Int) < kWy c p cl w t by omega)
        have H2 := kK_fr H1 h5 (fun k j hk => by unfold kQK; omega)
        have hN := kNR_fr hr.1 h5 (fun k j hk => by omega)
        have hu := kUp_s (c := c) (p := p) (cl := cl) (w := w) (t := t) (k := k) hq (by omega)
        have hu1 := kUp_s (c := c) (p := p) (cl := cl) (w := w) (t := t) (k := k + 1) hq (by omega)
        have hp := p16 (k := k) (by omega)
        have hp1 : 16 ^ (k + 1) = 16 ^ k * 16 := rfl
        rw [if_pos (show (k : Int) < kWy c p cl w t by omega), sp_134 hN s1 ht, jsb, s4, jwn (n := k) (by omega)]
        refine jo_c (sl_139 H2 hw hq s5) (fun r2 hr2 => ?_)
        rw [jle_eq, jle_eq, hr2.1, h3]
        have e5 : jal (jsl r2.2 56 4 (jwl (((kUp (kFa c p cl w q t) k : Nat) : Int) * ((kPa c p cl w (kHw c p w) q (kPos (kG c p cl w (kHw c p w)) (c 11 0) (p 2 w).toNat t k) (kPos (kG c p cl w (kHw c p w)) (c 11 0) (p 2 w).toNat t (k + 1)) : Nat) : Int)))) 56 5 = ((16 ^ k : Nat) : Int) := by
          rw [jal_jsl, if_neg (by decide)]
          unfold jal; rw [hr2.2.2 rfl]; exact h4
        rw [e5]
        refine ⟨rfl, rfl, ?_, ?_, jfr_jsl (jfr_jsl (jfr_t h5 (jfr_fl hr2.2) (fun e => e) (fun k j hk => hk)))⟩
        · show jal (jsl (jsl r2.2 56 4 _) 56 5 _) 56 4 = ((kUp (kFa c p cl w q t) k * kFa c p cl w q t k : Nat) : Int)
          have hu1' : kUp (kFa c p cl w q t) k * kFa c p cl w q t k ≤ 268435456 := hu1
          rw [jal_jsl, if_neg (by decide), jal_jsl, if_pos (by decide), ← Int.natCast_mul]
          show jwl (jwl ((kUp (kFa c p cl w q t) k * kFa c p cl w q t k : Nat) : Int)) = _
          rw [jwl_n (by omega), jwl_n (by omega)]
        · show jal (jsl (jsl r2.2 56 4 _) 56 5 _) 56 5 = ((16 ^ (k + 1) : Nat) : Int)
          rw [jal_jsl, if_pos (by decide), show ((16 ^ k : Nat) : Int) * 16 = ((16 ^ k * 16 : Nat) : Int) from (Int.natCast_mul _ 16).symm, jwl_n (by omega), jwl_n (by omega), hp1]
      · intro s hs
        obtain ⟨at_, x, m'⟩ := s
        obtain ⟨h1, h2, h3, h4, h5⟩ := hs
        dsimp only at h1 h2 h3 h4 h5 ⊢
        rw [if_neg (by omega)]
        refine ⟨_, _, h3, h4, kUp_s hq (by omega), p16 (by omega), ?_⟩
        unfold kLy
        rw [if_neg hd]
      · show jal (jsl (jsl r 56 4 1) 56 5 1) 56 4 = 1
        rw [jal_jsl, if_neg (by decide), jal_jsl, if_pos (by decide)]; rfl
      · show jal (jsl (jsl r 56 4 1) 56 5 1) 56 5 = 1
        rw [jal_jsl, if_pos (by decide)]; rfl
  · obtain ⟨x, y, hx, hy, hxb, hyb, hv⟩ := ht22
    refine jo_c (R := fun (t45 : jm) => jal t45 56 4 = ((kLy c p cl w q t).1 : Nat) ∧ jal t45 56 5 = ((kLy c p cl w q t).2 : Nat)) ?_ (fun r hr => hr)
    refine jo_for 32 jfu (fun k (s : Int × jm) => s.1 = k ∧ ∃ x y : Nat, jal s.2 56 4 = x ∧ jal s.2 56 5 = y ∧ x ≤ 268435456 ∧ y ≤ 268435456 ∧ kHv (32 - k) (x, y) = kLy c p cl w q t) (jfu_lt (by decide)) ?_ ?_ _ ⟨rfl, x, y, hx, hy, hxb, hyb, hv⟩
    · intro k hk s hs
      obtain ⟨z, m'⟩ := s
      obtain ⟨h1, x, y, hx, hy, hxb, hyb, hv⟩ := hs
      dsimp only at h1 hx hy ⊢
      subst h1
      rw [hx, hy, if_pos (show (k : Int) < 32 by omega)]
      have c1 : 0 < jcmp (y : Int) 1 ↔ 1 < y := (jcmp_n (a := y) (b := 1)).2
      have c2 : jcmp (jreml (x : Int) 2) 0 = 0 ↔ x % 2 = 0 := by
        rw [show jreml (x : Int) 2 = ((x % 2 : Nat) : Int) from jreml_n (b := 2) (by omega) (by decide)]
        exact (jcmp_n (a := x % 2) (b := 0)).1
      have es : kHv (32 - k) (x, y) = if 1 < y ∧ x % 2 = 0 then kHv (32 - (k + 1)) (x / 2, y / 2) else (x, y) := by
        rw [show 32 - k = (32 - (k + 1)) + 1 by omega, kHv_s]
      rw [es] at hv
      by_cases d1 : 1 < y
      · rw [if_pos (c1.2 d1)]
        by_cases d2 : x % 2 = 0
        · rw [if_pos ⟨d1, d2⟩] at hv
          rw [if_pos (c2.2 d2), jle_eq, jle_eq, jwn (n := k) (by omega), show jdivl (x : Int) 2 = ((x / 2 : Nat) : Int) from jdivl_n (b := 2) (by omega) (by decide)]
          have e5 : jal (jsl m' 56 4 ((x / 2 : Nat) : Int)) 56 5 = (y : Int) := by rw [jal_jsl, if_neg (by decide)]; exact hy
          rw [e5, show jdivl (y : Int) 2 = ((y / 2 : Nat) : Int) from jdivl_n (b := 2) (by omega) (by decide)]
          refine ⟨rfl, x / 2, y / 2, ?_, ?_, by omega, by omega, hv⟩
          · show jal (jsl (jsl m' 56 4 _) 56 5 _) 56 4 = _
            rw [jal_jsl, if_neg (by decide), jal_jsl, if_pos (by decide), jwl_n (by omega)]
          · show jal (jsl (jsl m' 56 4 _) 56 5 _) 56 5 = _
            rw [jal_jsl, if_pos (by decide), jwl_n (by omega)]
        · rw [if_neg (fun e => d2 e.2)] at hv
          rw [if_neg (fun e => d2 (c2.1 e))]
          show jal m' 56 4 = _ ∧ jal m' 56 5 = _
          rw [hx, hy, ← hv]; exact ⟨rfl, rfl⟩
      · rw [if_neg (fun e => d1 e.1)] at hv
        rw [if_neg (fun e => d1 (c1.1 e))]
        show jal m' 56 4 = _ ∧ jal m' 56 5 = _
        rw [hx, hy, ← hv]; exact ⟨rfl, rfl⟩
    · intro s hs
      obtain ⟨z, m'⟩ := s
      obtain ⟨h1, x, y, hx, hy, hxb, hyb, hv⟩ := hs
      dsimp only at h1 hx hy ⊢
      rw [if_neg (by omega)]
      show jal m' 56 4 = _ ∧ jal m' 56 5 = _
      rw [hx, hy, ← hv]; exact ⟨rfl, rfl⟩
