/-! MEET. -/
def kMt (c : kC) (p : kP) (cl : List Int) (w o t : Nat) : Int := if kWy c p cl w t = -1 then -1 else if kWy c p cl o t = -1 then -1 else kWy c p cl w t + kWy c p cl o t
theorem kMt_b {c : kC} {p : kP} {cl : List Int} {w o t : Nat} : -1 ≤ kMt c p cl w o t ∧ kMt c p cl w o t < 16 := by
  have h1 := kWy_b (c := c) (p := p) (cl := cl) (w := w) (t := t)
  have h2 := kWy_b (c := c) (p := p) (cl := cl) (w := o) (t := t)
  unfold kMt
  repeat' split
  all_goals omega
theorem sl_137 {m : jm} {c : kC} {p : kP} {cl : List Int} {w : Nat} {A : Nat → Int} (H : kK 0 m c p cl) (hw : w < c 11 2) (hA : ∀ t, t < c 11 0 → ja m 58 t = A t) (hb : ∀ t, t < c 11 0 → -1 ≤ A t ∧ A t < 100) : jo (jf_137 w m) (fun r => (∀ t, t < c 11 0 → ja r 58 t = if kWy c p cl w t = -1 then -1 else if A t = -1 then -1 else A t + kWy c p cl w t) ∧ jfr true jW_137 m r) := by
  refine jo_and ?_ jx_137
  have hn := H.1.1
  unfold jf_137
  rw [sp_60 H, jsb]
  have h127 := sl_127n (b := kB (fun l => decide (p 6 l = (w : Int))) (c 11 3)) H hw (kB_lt _)
  rw [kCar_h] at h127
  refine jo_c h127 (fun r hr => ?_)
  obtain ⟨hNR, hf⟩ := hr
  refine jo_c (R := fun r => ∀ t, t < c 11 0 → ja r 58 t = if kWy c p cl w t = -1 then -1 else if A t = -1 then -1 else A t + kWy c p cl w t) ?_ (fun r hr => hr)
  refine jo_for (c 11 0) jfu (fun i (s : Int × jm) => s.1 = i ∧ (∀ t, t < i → ja s.2 58 t = if kWy c p cl w t = -1 then -1 else if A t = -1 then -1 else A t + kWy c p cl w t) ∧ jfr true (fun k j => k = 58 ∧ j < i) r s.2) (jfu_lt (by omega)) ?_ ?_ _ ⟨rfl, fun t ht => absurd ht (Nat.not_lt_zero _), jfr_r⟩
  · intro i hi s hs
    obtain ⟨x, m'⟩ := s
    obtain ⟨h1, h2, h3⟩ := hs
    dsimp only at h1 h2 h3 ⊢
    subst h1
    have H1 := kK_fr (kK_127 H hf) h3 (fun k j hk => by unfold kQK; omega)
    have hN1 : kNR m' (kG c p cl w (kHw c p w)) (c 11 0) := ⟨kK_n H1 (by decide), hn.1, fun t ht => by rw [ja_fr h3 (by omega)]; exact hNR.2.2 t ht⟩
    have e58 : ja m' 58 i = A i := by rw [ja_fr h3 (by omega), ja_fr hf (by unfold jW_127; omega)]; exact hA i hi
    have e128 : jf_128 (p 2 w) (i : Int) m' = some (kWy c p cl w i) := by
      unfold kWy
      by_cases h : p 2 w = -1
      · rw [h, sp_128n, if_pos rfl]
      · obtain ⟨q1, q2⟩ := kP2_b H.2.1 hw h
        rw [if_neg h, ← sp_128 hN1 q2 hi, ← q1]
    have b1 := kWy_b (c := c) (p := p) (cl := cl) (w := w) (t := i)
    have b2 := hb i hi
    have fin : ∀ y : Int, jg y → y = (if kWy c p cl w i = -1 then -1 else if A i = -1 then -1 else A i + kWy c p cl w i) → jo (if 0 ≤ (i : Int) ∧ (i : Int) < 8 then jle (js m' 58 i y) fun m26 => some (Sum.inl (((i + 1 : Nat) : Int), m26)) else none) (jcase (fun (s : Int × jm) => s.1 = ((i + 1 : Nat) : Int) ∧ (∀ t, t < i + 1 → ja s.2 58 t = if kWy c p cl w t = -1 then -1 else if A t = -1 then -1 else A t + kWy c p cl w t) ∧ jfr true (fun k j => k = 58 ∧ j < i + 1) r s.2) (fun r => ∀ t, t < c 11 0 → ja r 58 t = if kWy c p cl w t = -1 then -1 else if A t = -1 then -1 else A t + kWy c p cl w t)) := fun y hy hy2 => by
      rw [if_pos (show 0 ≤ (i : Int) ∧ (i : Int) < 8 by omega), jle_eq]
      refine ⟨rfl, fun t ht => ?_, jfr_js (jfr_t jfr_r h3 (fun e => e) (fun k j hk => ⟨hk.1, by omega⟩)) ⟨rfl, Nat.lt_succ_self i⟩⟩
      show ja (js m' 58 i y) 58 t = _
      rw [ja_js]
      by_cases e : t = i
      · rw [if_pos ⟨rfl, e⟩, e, jw_id hy]; exact hy2
      · rw [if_neg (fun f => e f.2)]; exact h2 t (by omega)
    rw [kK_n H1 (i := 0) (by decide), if_pos (show (i : Int) < (c 11 0 : Int) by omega), sp_59 H1 hw, jsb, e128, jsb, Int.toNat_natCast, e58, jwn (n := i) (by omega)]
    by_cases d1 : kWy c p cl w i = -1
    · rw [if_pos d1, jsb]; exact fin (-1) (jg_c rfl) (by rw [if_pos d1])
    · rw [if_neg d1, if_pos (show 0 ≤ (i : Int) ∧ (i : Int) < 8 by omega)]
      by_cases d2 : A i = -1
      · rw [if_pos d2, jsb]; exact fin (-1) (jg_c rfl) (by rw [if_neg d1, if_pos d2])
      · rw [if_neg d2, if_pos (show 0 ≤ (i : Int) ∧ (i : Int) < 8 by omega), jsb, jwi (x := _ + _) (by omega) (by omega)]
        exact fin _ ⟨by omega, by omega⟩ (by rw [if_neg d1, if_neg d2])
  · intro s hs
    obtain ⟨x, m'⟩ := s
    obtain ⟨h1, h2, h3⟩ := hs
    dsimp only at h1 h2 h3 ⊢
    have H1 := kK_fr (kK_127 H hf) h3 (fun k j hk => by unfold kQK; omega)
    rw [kK_n H1 (i := 0) (by decide), if_neg (by omega)]
    exact h2
theorem sl_136 {m : jm} {c : kC} {p : kP} {cl : List Int} {w o : Nat} (H : kK 0 m c p cl) (hw : w < c 11 2) (ho : o < c 11 2) : jo (jf_136 w o m) (fun r => r.1 = (kBs (kMt c p cl w o) (c 11 0)).1 ∧ (∀ t, t < c 11 0 → ja r.2 58 t = kMt c p cl w o t) ∧ jfr true jW_136 m r.2) := by
  have hn := H.1.1
  have hb := fun t => kWy_b (c := c) (p := p) (cl := cl) (w := w) (t := t)
  have hj : ∀ {P : Int × jm → Prop}, jo (jf_136 w o m) P → jo (jf_136 w o m) (fun r => P r ∧ jfr true jW_136 m r.2) := fun h => jo_and h jx_136
  refine jo_mono (hj (P := fun r => r.1 = (kBs (kMt c p cl w o) (c 11 0)).1 ∧ (∀ t, t < c 11 0 → ja r.2 58 t = kMt c p cl w o t)) ?_) (fun r hr => ⟨hr.1.1, hr.1.2, hr.2⟩)
  unfold jf_136
  refine jo_c (R := fun r => (∀ t, t < c 11 0 → ja r 58 t = 0) ∧ jfr true (fun k _ => k = 58) m r) ?_ (fun r hr => ?_)
  · refine jo_for (c 11 0) jfu (fun i (s : Int × jm) => s.1 = i ∧ (∀ t, t < i → ja s.2 58 t = 0) ∧ jfr true (fun k _ => k = 58) m s.2) (jfu_lt (by omega)) ?_ ?_ _ ⟨rfl, fun t ht => absurd ht (Nat.not_lt_zero _), jfr_r⟩
    · intro i hi s hs
      obtain ⟨x, m'⟩ := s
      obtain ⟨h1, h2, h3⟩ := hs
      dsimp only at h1 h2 h3 ⊢
      subst h1
      have H1 := kK_fr H h3 (fun k j hk => by unfold kQK; omega)
      rw [kK_n H1 (i := 0) (by decide), if_pos (show (i : Int) < (c 11 0 : Int) by omega), if_pos (show 0 ≤ (i : Int) ∧ (i : Int) < 8 by omega), jle_eq, Int.toNat_natCast, jwn (n := i) (by omega)]
      refine ⟨rfl, fun t ht => ?_, jfr_js h3 rfl⟩
      show ja (js m' 58 i 0) 58 t = 0
      rw [ja_js]
      by_cases e : t = i
      · rw [if_pos ⟨rfl, e⟩]; rfl
      · rw [if_neg (fun f => e f.2)]; exact h2 t (by omega)
    · intro s hs
      obtain ⟨x, m'⟩ := s
      obtain ⟨h1, h2, h3⟩ := hs
      dsimp only at h1 h2 h3 ⊢
      have H1 := kK_fr H h3 (fun k j hk => by unfold kQK; omega)
      rw [kK_n H1 (i := 0) (by decide), if_neg (by omega)]
      exact ⟨h2, h3⟩
  obtain ⟨hr, hf⟩ := hr
  have H1 := kK_fr H hf (fun k j hk => by unfold kQK; omega)
  refine jo_c (sl_137 (A := fun _ => 0) H1 hw hr (fun t _ => ⟨by decide, by decide⟩)) (fun r2 hr2 => ?_)
  obtain ⟨hr2, hf2⟩ := hr2
  have H2 := kK_fr H1 hf2 (fun k j hk => by unfold jW_137 at hk; unfold kQK; omega)
  have hA : ∀ t, t < c 11 0 → ja r2 58 t = kWy c p cl w t := fun t ht => by
    rw [hr2 t ht]
    by_cases h : kWy c p cl w t = -1
    · rw [if_pos h, h]
    · rw [if_neg h, if_neg (by decide), Int.zero_add]
  refine jo_c (sl_137 (A := fun t => kWy c p cl w t) H2 ho hA (fun t _ => ⟨(hb t).1, by have := (hb t).2; omega⟩)) (fun r3 hr3 => ?_)
  obtain ⟨hr3, hf3⟩ := hr3
  have H3 := kK_fr H2 hf3 (fun k j hk => by unfold jW_137 at hk; unfold kQK; omega)
  have hM : ∀ t, t < c 11 0 → ja r3 58 t = kMt c p cl w o t := fun t ht => by
    rw [hr3 t ht]
    unfold kMt
    by_cases h1 : kWy c p cl w t = -1
    · by_cases h2 : kWy c p cl o t = -1
      · simp [h1, h2]
      · simp [h1, h2]
    · by_cases h2 : kWy c p cl o t = -1
      · simp [h1, h2]
      · simp [h1, h2]
  rw [jlp_fr (a := ((-1 : Int), (0 : Int))) (c := (kBs (kMt c p cl w o) (c 11 0)).1) (c 11 0) (fun i => ((kBs (kMt c p cl w o) i).1, (i : Int))) (by omega) rfl ?hs ?he]
  case he =>
    dsimp only
    rw [kK_n H3 (i := 0) (by decide), if_neg (by omega)]
  case hs =>
    intro i hi
    dsimp only
    rw [kK_n H3 (i := 0) (by decide), if_pos (show (i : Int) < (c 11 0 : Int) by omega), if_pos (show 0 ≤ (i : Int) ∧ (i : Int) < 8 by omega), Int.toNat_natCast, hM i hi, jwn (n := i) (by omega), kBs_s]
    rcases kBs_c (f := kMt c p cl w o) i with ⟨a1, a2⟩ | ⟨e, a1, a2, a3⟩
    · by_cases h1 : kMt c p cl w o i = -1
      · rw [if_pos h1, jsb, if_neg (fun e => e.1 h1)]
      · rw [if_neg h1, if_pos a1, jsb, if_pos ⟨h1, Or.inl a1⟩]
    · by_cases h1 : kMt c p cl w o i = -1
      · rw [if_pos h1, jsb, if_neg (fun e => e.1 h1)]
      · rw [if_neg h1, if_neg (show ¬ (kBs (kMt c p cl w o) i).1 = -1 by omega), if_pos (show 0 ≤ (i : Int) ∧ (i : Int) < 8 by omega), if_pos (show 0 ≤ (kBs (kMt c p cl w o) i).1 ∧ (kBs (kMt c p cl w o) i).1 < 8 by omega)]
        have et : (kBs (kMt c p cl w o) i).1.toNat = e := by omega
        rw [et, hM e (by omega), ← a3]
        by_cases h3 : kMt c p cl w o i < (kBs (kMt c p cl w o) i).2
        · rw [if_pos h3, jsb, if_pos ⟨h1, Or.inr h3⟩]
        · rw [if_neg h3, jsb, if_neg (fun x => x.2.elim (by omega) h3)]
  rw [jsb]
  exact ⟨rfl, hM⟩
theorem kMt_st {c : kC} {p : kP} {cl : List Int} {w o k : Nat} : (if kWy c p cl w k = -1 then some ((kBs (kMt c p cl w o) k).1, (kBs (kMt c p cl w o) k).2) else if kWy c p cl o k = -1 then some ((kBs (kMt c p cl w o) k).1, (kBs (kMt c p cl w o) k).2) else if (kBs (kMt c p cl w o) k).1 = -1 then some ((k : Int), jw (kWy c p cl w k + kWy c p cl o k)) else if jw (kWy c p cl w k + kWy c p cl o k) < (kBs (kMt c p cl w o) k).2 then some ((k : Int), jw (kWy c p cl w k + kWy c p cl o k)) else some ((kBs (kMt c p cl w o) k).1, (kBs (kMt c p cl w o) k).2)) = some (kBs (kMt c p cl w o) (k + 1)) := by
  have h1 := kWy_b (c := c) (p := p) (cl := cl) (w := w) (t := k)
  have h2 := kWy_b (c := c) (p := p) (cl := cl) (w := o) (t := k)
  rw [← kBs_st (f := kMt c p cl w o)]
  by_cases d1 : kWy c p cl w k = -1
  · rw [if_pos d1, if_pos (show kMt c p cl w o k = -1 by unfold kMt; rw [if_pos d1])]
  · rw [if_neg d1]
    by_cases d2 : kWy c p cl o k = -1
    · rw [if_pos d2, if_pos (show kMt c p cl w o k = -1 by unfold kMt; rw [if_neg d1, if_pos d2])]
    · have e : kMt c p cl w o k = kWy c p cl w k + kWy c p cl o k := by unfold kMt; rw [if_neg d1, if_neg d2]
      rw [if_neg d2, jwi (by omega) (by omega), ← e, if_neg (show ¬ kMt c p cl w o k = -1 by omega)]
theorem sy_19 {m : jm} {x0 x1 x2 : Int} (hx0 : jg x0) (hx1 : jg x1) (hx2 : jg x2) (h : Inv m) : kSy (fun m => jf_320 x0 x1 x2 m) (fun m => jf_273 x0 x1 x2 m) m := by
  obtain ⟨c, p, cl, HK, hC, hP, hL, hB⟩ := Inv_K h
  have hn := HK.1.1
  have n0 := kK_n HK (i := 0) (by decide)
  have n1 := kK_n HK (i := 1) (by decide)
  have n2 := kK_n HK (i := 2) (by decide)
  have n3 := kK_n HK (i := 3) (by decide)
  by_cases hE : (0 ≤ x0 ∧ x0 < (c 11 2 : Int)) ∧ (0 ≤ x1 ∧ x1 < (c 11 2 : Int))
  · obtain ⟨v0, rfl⟩ := Int.eq_ofNat_of_zero_le hE.1.1
    have hv0 : v0 < c 11 2 := by omega
    obtain ⟨v1, rfl⟩ := Int.eq_ofNat_of_zero_le hE.2.1
    have hv1 : v1 < c 11 2 := by omega
    by_cases hR : 0 ≤ x2 ∧ x2 ≤ 1
    · skip
      have h4 : x2 = 0 ∨ x2 = 1 := by omega
      have hbs := kBs_c (f := (kMt c p cl v0 v1)) (c 11 0)
      have gl1 : jgl (kBs (kMt c p cl v0 v1) (c 11 0)).1 := by
        rcases hbs with ⟨a, b⟩ | ⟨e, a, b, d⟩
        · rw [a]; exact ⟨by decide, by decide⟩
        · rw [b]; exact ⟨by omega, by omega⟩
      have gl2 : jgl (kBs (kMt c p cl v0 v1) (c 11 0)).2 := by
        rcases hbs with ⟨a, b⟩ | ⟨e, a, b, d⟩
        · rw [b]; exact ⟨by decide, by decide⟩
        · have := kMt_b (c := c) (p := p) (cl := cl) (w := v0) (o := v1) (t := e)
          rw [d]; exact ⟨by omega, by omega⟩
      rcases h4 with rfl | rfl
      · refine q_ok (W := jW_136) (W' := (fun k j => jW_226 k j ∨ jW_274 k j)) ((kBs (kMt c p cl v0 v1) (c 11 0)).1) h (gl1) ?_ (fun k j h => by unfold jW_136 at h; unfold kQ kQS kQT kQR; omega) (fun M hM => ?_) (fun k j h => by unfold jW_226 jW_274 at h; unfold kQ kQS kQT kQR; omega)
        · show jo (jf_320 _ _ _ m) _
          unfold jf_320
          refine wr0 ?_
          unfold jf_172
          rw [ck_B n2 (by omega) n2 (by omega) hv0 hv1, ck_R hR]
          dsimp only
          refine jo_c (sl_136 HK hv0 hv1) (fun r hr => ?_)
          rw [if_pos rfl]
          exact ⟨hr.1, rfl, hr.2.2⟩
        · show jo (jf_273 _ _ _ M) _
          unfold jf_273
          have hC' := kCm_Q hM hC
          have hP' := kPm_Q hM hP
          rw [jle_eq, mk_256 th0 (hC'.1 2 (by decide)) (by omega) (jg_c rfl) (by decide) hv0, mk_256 th0 (hC'.1 2 (by decide)) (by omega) (jg_c rfl) (by decide) hv1, mk_R th0 (jg_c rfl) (by decide) hR]
          have H' := kM_T0 HK.1 HK.2.1 HK.2.2.1 hC' hP' (kLm_Q hM hL)
          dsimp only
          rw [sp_226, jsb]
          refine jo_c (R := fun (t : Int × Int × jm) => t.1 = (kBs (kMt c p cl v0 v1) (c 11 0)).1 ∧ t.2.1 = (kBs (kMt c p cl v0 v1) (c 11 0)).2 ∧ jfr true (fun k j => jW_226 k j ∨ jW_274 k j) (js M 67 0 0) t.2.2) ?_ (fun t ht => ?_)
          · refine jo_for (c 11 0) jfu (fun k (s : Int × Int × Int × jm) => s.2.2.1 = k ∧ s.1 = (kBs (kMt c p cl v0 v1) k).1 ∧ s.2.1 = (kBs (kMt c p cl v0 v1) k).2 ∧ jfr true jW_274 (kT0 (js M 67 0 0)) s.2.2.2) (jfu_lt (by omega)) ?_ ?_ _ ⟨rfl, rfl, rfl, jfr_r⟩
            · intro k hk s hs
              obtain ⟨best, bl, x, m'⟩ := s
              obtain ⟨h1, h2, h3, h4⟩ := hs
              dsimp only at h1 h2 h3 h4 ⊢
              subst h1 h2 h3
              have H1 := kM_fr H' h4 (fun k j hk => by unfold jW_274 at hk; unfold kQM; omega)
              rw [show ja m' 67 24 = (c 11 0 : Int) from kM_n H1 (i := 0) (by decide), if_pos (show (k : Int) < (c 11 0 : Int) by omega), jwn (n := k) (by omega)]
              refine jo_c (sl_274 H1 hv0 hk) (fun r hr => ?_)
              have H2 := kM_fr H1 hr.2 (fun k j hk => by unfold jW_274 at hk; unfold kQM; omega)
              refine jo_c (sl_274 H2 hv1 hk) (fun r2 hr2 => ?_)
              rw [hr.1, hr2.1, kMt_st, jsb]
              exact ⟨rfl, rfl, rfl, jfr_tr (jfr_tr h4 hr.2) hr2.2⟩
            · intro s hs
              obtain ⟨best, bl, x, m'⟩ := s
              obtain ⟨h1, h2, h3, h4⟩ := hs
              dsimp only at h1 h2 h3 h4 ⊢
              have H1 := kM_fr H' h4 (fun k j hk => by unfold jW_274 at hk; unfold kQM; omega)
              rw [show ja m' 67 24 = (c 11 0 : Int) from kM_n H1 (i := 0) (by decide), if_neg (by omega)]
              exact ⟨h2, h3, jfr_t (jfr_t jfr_r jfr_T0 (fun e => e) (fun k j hk => Or.inl hk)) h4 (fun e => e) (fun k j hk => Or.inr hk)⟩
          · obtain ⟨b1, b2, b3⟩ := ht
            rw [if_pos rfl]
            exact ⟨b1, b3⟩
      · refine q_ok (W := jW_136) (W' := (fun k j => jW_226 k j ∨ jW_274 k j)) ((kBs (kMt c p cl v0 v1) (c 11 0)).2) h (gl2) ?_ (fun k j h => by unfold jW_136 at h; unfold kQ kQS kQT kQR; omega) (fun M hM => ?_) (fun k j h => by unfold jW_226 jW_274 at h; unfold kQ kQS kQT kQR; omega)
        · show jo (jf_320 _ _ _ m) _
          unfold jf_320
          refine wr0 ?_
          unfold jf_172
          rw [ck_B n2 (by omega) n2 (by omega) hv0 hv1, ck_R hR]
          dsimp only
          refine jo_c (sl_136 HK hv0 hv1) (fun r hr => ?_)
          rw [if_neg (by decide), hr.1]
          rcases hbs with ⟨a, b⟩ | ⟨e, a, b, d⟩
          · rw [if_pos a, a, b]; exact ⟨rfl, rfl, hr.2.2⟩
          · rw [if_neg (by omega), b, d, if_pos (show 0 ≤ (e : Int) ∧ (e : Int) < 8 by omega), Int.toNat_natCast, hr.2.1 e a]; exact ⟨rfl, rfl, hr.2.2⟩
        · show jo (jf_273 _ _ _ M) _
          unfold jf_273
          have hC' := kCm_Q hM hC
          have hP' := kPm_Q hM hP
          rw [jle_eq, mk_256 th0 (hC'.1 2 (by decide)) (by omega) (jg_c rfl) (by decide) hv0, mk_256 th0 (hC'.1 2 (by decide)) (by omega) (jg_c rfl) (by decide) hv1, mk_R th0 (jg_c rfl) (by decide) hR]
          have H' := kM_T0 HK.1 HK.2.1 HK.2.2.1 hC' hP' (kLm_Q hM hL)
          dsimp only
          rw [sp_226, jsb]
          refine jo_c (R := fun (t : Int × Int × jm) => t.1 = (kBs (kMt c p cl v0 v1) (c 11 0)).1 ∧ t.2.1 = (kBs (kMt c p cl v0 v1) (c 11 0)).2 ∧ jfr true (fun k j => jW_226 k j ∨ jW_274 k j) (js M 67 0 0) t.2.2) ?_ (fun t ht => ?_)
          · refine jo_for (c 11 0) jfu (fun k (s : Int × Int × Int × jm) => s.2.2.1 = k ∧ s.1 = (kBs (kMt c p cl v0 v1) k).1 ∧ s.2.1 = (kBs (kMt c p cl v0 v1) k).2 ∧ jfr true jW_274 (kT0 (js M 67 0 0)) s.2.2.2) (jfu_lt (by omega)) ?_ ?_ _ ⟨rfl, rfl, rfl, jfr_r⟩
            · intro k hk s hs
              obtain ⟨best, bl, x, m'⟩ := s
              obtain ⟨h1, h2, h3, h4⟩ := hs
              dsimp only at h1 h2 h3 h4 ⊢
              subst h1 h2 h3
              have H1 := kM_fr H' h4 (fun k j hk => by unfold jW_274 at hk; unfold kQM; omega)
              rw [show ja m' 67 24 = (c 11 0 : Int) from kM_n H1 (i := 0) (by decide), if_pos (show (k : Int) < (c 11 0 : Int) by omega), jwn (n := k) (by omega)]
              refine jo_c (sl_274 H1 hv0 hk) (fun r hr => ?_)
              have H2 := kM_fr H1 hr.2 (fun k j hk => by unfold jW_274 at hk; unfold kQM; omega)
              refine jo_c (sl_274 H2 hv1 hk) (fun r2 hr2 => ?_)
              rw [hr.1, hr2.1, kMt_st, jsb]
              exact ⟨rfl, rfl, rfl, jfr_tr (jfr_tr h4 hr.2) hr2.2⟩
            · intro s hs
              obtain ⟨best, bl, x, m'⟩ := s
              obtain ⟨h1, h2, h3, h4⟩ := hs
              dsimp only at h1 h2 h3 h4 ⊢
              have H1 := kM_fr H' h4 (fun k j hk => by unfold jW_274 at hk; unfold kQM; omega)
              rw [show ja m' 67 24 = (c 11 0 : Int) from kM_n H1 (i := 0) (by decide), if_neg (by omega)]
              exact ⟨h2, h3, jfr_t (jfr_t jfr_r jfr_T0 (fun e => e) (fun k j hk => Or.inl hk)) h4 (fun e => e) (fun k j hk => Or.inr hk)⟩
          · obtain ⟨b1, b2, b3⟩ := ht
            rw [if_neg (by decide)]
            exact ⟨b2, b3⟩
    · refine rf_A (w := 2) h (jg_c rfl) (by decide) ?_ (fun M hM => ?_)
      · show jf_320 _ _ _ m = _
        unfold jf_320 jf_172
        rw [ck_B n2 (by omega) n2 (by omega) hv0 hv1, ck_Rr hR]; rfl
      · show jf_273 _ _ _ M = _
        unfold jf_273
        have hC' := kCm_Q hM hC
        rw [jle_eq, mk_256 th0 (hC'.1 2 (by decide)) (by omega) (jg_c rfl) (by decide) hv0, mk_256 th0 (hC'.1 2 (by decide)) (by omega) (jg_c rfl) (by decide) hv1, mk_Rr th0 (jg_c rfl) (by decide) hR]
  · refine rf_E (w := 1) h (jg_c rfl) (by decide) ?_ (fun M hM => ?_)
    · show jf_320 _ _ _ m = _
      unfold jf_320 jf_172
      rw [ck_Br n2 (by omega) n2 (by omega) hE]; rfl
    · show jf_273 _ _ _ M = _
      unfold jf_273
      have hC' := kCm_Q hM hC
      by_cases hE1 : 0 ≤ x0 ∧ x0 < (c 11 2 : Int)
      · obtain ⟨v0, rfl⟩ := Int.eq_ofNat_of_zero_le hE1.1
        have hv0 : v0 < c 11 2 := by omega
        rw [jle_eq, mk_256 th0 (hC'.1 2 (by decide)) (by omega) (jg_c rfl) (by decide) hv0, mk_256r th0 (hC'.1 2 (by decide)) (by omega) (jg_c rfl) (by decide) (by omega)]
      · rw [jle_eq, mk_256r th0 (hC'.1 2 (by decide)) (by omega) (jg_c rfl) (by decide) hE1]
