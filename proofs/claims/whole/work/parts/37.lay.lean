/-! WAYS in the model. -/
theorem sl_266 {m : jm} {c : kC} {p : kP} {cl : List Int} {w u v : Nat} (H : kM m c p cl) (hw : w < c 11 2) : jo (jf_266 w u v m) (fun r => r.1 = b2i (kG c p cl w (ja m 67 47, ja m 67 48, ja m 67 49) u v) ∧ jfr true jW_266 m r.2) := by
  refine jo_and ?_ jx_266
  have hn := H.1.1
  unfold jf_266 kG
  rw [sp_235 H, jsb]
  rcases kJo_cs (c := c) (u := u) (v := v) with ⟨h1, h2⟩ | ⟨e, h1, h2, h3⟩
  · rw [h1, if_pos rfl]; rfl
  · have g8 : jg (p 8 1) := by rw [← kM_fg H]; exact jg_a
    have d1 : jw ((2 : Int) * (e : Int)) = (2 : Int) * (e : Int) := jwi (by omega) (by omega)
    have t1 : ((2 : Int) * (e : Int)).toNat = 2 * e := by omega
    rw [h2, if_neg (show ¬ (e : Int) = -1 by omega), d1, t1, if_pos (show 0 ≤ (2 : Int) * (e : Int) ∧ (2 : Int) * (e : Int) < 24 by omega), kM_A H h1, Int.toNat_natCast, jite_some, jsb, if_pos (by decide), show ja m 89 (67 : Int).toNat = p 8 1 from kM_fg H, jo_bind, jo_bind]
    refine jo_mono (sl_236 H hw h1 g8) (fun r hr => ?_)
    obtain ⟨hr, -⟩ := hr
    have hne : decide ((e : Int) ≠ -1) = true := decide_eq_true (by omega)
    rw [hr, hne, Bool.true_and]
    cases kOv c w (kLn c p cl w e (if (c 1 e : Int) = (u : Int) then 0 else 1) (p 8 1) (ja m 67 47, ja m 67 48, ja m 67 49))
    · rw [if_neg nft, if_pos rfl]; rfl
    · rw [if_pos (rfl : true = true), if_neg (by decide)]; rfl
/-- the model's picture with what is carried -/
def kMa (m : jm) (c : kC) (p : kP) (cl : List Int) (a : Int × Int × Int) : Prop := kM m c p cl ∧ (ja m 67 47, ja m 67 48, ja m 67 49) = a
theorem kMa_fr {b : Bool} {W : Nat → Nat → Prop} {m m' : jm} {c : kC} {p : kP} {cl : List Int} {a : Int × Int × Int} (H : kMa m c p cl a) (h : jfr b W m m') (hz : ∀ k j, W k j → ¬ kQM k j ∧ ¬ (k = 67 ∧ 47 ≤ j ∧ j ≤ 49)) : kMa m' c p cl a :=
  ⟨kM_fr H.1 h (fun k j hk => (hz k j hk).1), by rw [ja_fr h (fun e => (hz _ _ e).2 ⟨rfl, by decide, by decide⟩), ja_fr h (fun e => (hz _ _ e).2 ⟨rfl, by decide, by decide⟩), ja_fr h (fun e => (hz _ _ e).2 ⟨rfl, by decide, by decide⟩)]; exact H.2⟩
theorem sl_266a {m : jm} {c : kC} {p : kP} {cl : List Int} {a : Int × Int × Int} {w u v : Nat} (H : kMa m c p cl a) (hw : w < c 11 2) : jo (jf_266 w u v m) (fun r => r.1 = b2i (kG c p cl w a u v) ∧ jfr true jW_266 m r.2) := by
  have := sl_266 (u := u) (v := v) H.1 hw
  rw [H.2] at this; exact this
theorem kLb_cmp {G : Nat → Nat → Bool} {T b r t v : Nat} (hr : r < 100) (hv : v < T) (hb : b < T) : (if v < t then kLb G T b (r + 1) v else kLb G T b r v) = (r : Int) ↔ kLb G T b r v = (r : Int) := by
  by_cases h : v < t
  · rw [if_pos h]
    by_cases h2 : kLb G T b r v = 100000
    · rw [kLb_new hr hv hb h2, h2]
      split <;> omega
    · rw [kLb_old h2]
  · rw [if_neg h]
theorem sl_265 {m : jm} {c : kC} {p : kP} {cl : List Int} {a : Int × Int × Int} {w b : Nat} (H : kMa m c p cl a) (hw : w < c 11 2) (hb : b < c 11 0) : jo (jf_265 w b m) (fun r => (∀ t, t < c 11 0 → ja r 93 t = kLb (kG c p cl w a) (c 11 0) b (c 11 0 - 1) t) ∧ jfr true jW_265 m r) := by
  refine jo_and ?_ jx_265
  have hn := H.1.1.1
  unfold jf_265
  refine jo_c (R := fun r => (∀ t, t < c 11 0 → ja r 93 t = kLb (kG c p cl w a) (c 11 0) b 0 t) ∧ jfr true jW_265 m r) ?_ (fun r hr => ?_)
  · refine jo_for (c 11 0) jfu (fun i (s : Int × jm) => s.1 = i ∧ (∀ t, t < i → ja s.2 93 t = kLb (kG c p cl w a) (c 11 0) b 0 t) ∧ jfr true jW_265 m s.2) (jfu_lt (by omega)) ?_ ?_ _ ⟨rfl, fun t ht => absurd ht (Nat.not_lt_zero _), jfr_r⟩
    · intro i hi s hs
      obtain ⟨x, m'⟩ := s
      obtain ⟨h1, h2, h3⟩ := hs
      dsimp only at h1 h2 h3 ⊢
      subst h1
      have H1 := kMa_fr H h3 (fun k j hk => by unfold jW_265 at hk; unfold kQM; omega)
      rw [show ja m' 67 24 = (c 11 0 : Int) from kM_n H1.1 (i := 0) (by decide), if_pos (show (i : Int) < (c 11 0 : Int) by omega), jite_some, jsb, if_pos (show 0 ≤ (i : Int) ∧ (i : Int) < 8 by omega), jle_eq, jwn (n := i) (by omega), Int.toNat_natCast]
      refine ⟨rfl, fun t ht => ?_, jfr_js h3 (Or.inl rfl)⟩
      show ja (js m' 93 i _) 93 t = _
      rw [ja_js]
      by_cases e : t = i
      · rw [if_pos ⟨rfl, e⟩, kLb_0, e]
        by_cases eb : i = b
        · rw [if_pos (show (i : Int) = (b : Int) by omega), if_pos eb]; rfl
        · rw [if_neg (show ¬ (i : Int) = (b : Int) by omega), if_neg eb]; rfl
      · rw [if_neg (fun f => e f.2)]; exact h2 t (by omega)
    · intro s hs
      obtain ⟨x, m'⟩ := s
      obtain ⟨h1, h2, h3⟩ := hs
      dsimp only at h1 h2 h3 ⊢
      have H1 := kMa_fr H h3 (fun k j hk => by unfold jW_265 at hk; unfold kQM; omega)
      rw [show ja m' 67 24 = (c 11 0 : Int) from kM_n H1.1 (i := 0) (by decide), if_neg (by omega)]
      exact ⟨h2, h3⟩
  · obtain ⟨hr1, hr2⟩ := hr
    refine jo_c (R := fun r => ∀ t, t < c 11 0 → ja r 93 t = kLb (kG c p cl w a) (c 11 0) b (c 11 0 - 1) t) ?_ (fun r hr => hr)
    refine jo_for (c 11 0 - 1) jfu (fun i (s : Int × jm) => s.1 = ((i + 1 : Nat) : Int) ∧ (∀ t, t < c 11 0 → ja s.2 93 t = kLb (kG c p cl w a) (c 11 0) b i t) ∧ jfr true jW_265 m s.2) (jfu_lt (by omega)) ?_ ?_ _ ⟨rfl, hr1, hr2⟩
    · intro i hi s hs
      obtain ⟨x, m'⟩ := s
      obtain ⟨h1, h2, h3⟩ := hs
      dsimp only at h1 h2 h3 ⊢
      subst h1
      have H1 := kMa_fr H h3 (fun k j hk => by unfold jW_265 at hk; unfold kQM; omega)
      rw [show ja m' 67 24 = (c 11 0 : Int) from kM_n H1.1 (i := 0) (by decide), if_pos (show ((i + 1 : Nat) : Int) < (c 11 0 : Int) by omega), jwn (n := i + 1) (by omega)]
      have ei : jw (((i + 1 : Nat) : Int) - 1) = (i : Int) := by rw [jwi (by omega) (by omega)]; omega
      rw [ei]
      refine jo_c (R := fun r => (∀ t, t < c 11 0 → ja r 93 t = kLb (kG c p cl w a) (c 11 0) b (i + 1) t) ∧ jfr true jW_265 m r) ?_ (fun r hr => ⟨rfl, hr.1, hr.2⟩)
      refine jo_for (c 11 0) jfu (fun t (s : Int × jm) => s.1 = t ∧ (∀ v, v < c 11 0 → ja s.2 93 v = if v < t then kLb (kG c p cl w a) (c 11 0) b (i + 1) v else kLb (kG c p cl w a) (c 11 0) b i v) ∧ jfr true jW_265 m s.2) (jfu_lt (by omega)) ?_ ?_ _ ⟨rfl, fun v hv => by rw [if_neg (Nat.not_lt_zero _)]; exact h2 v hv, h3⟩
      · intro t ht s hs
        obtain ⟨y, m2⟩ := s
        obtain ⟨g1, g2, g3⟩ := hs
        dsimp only at g1 g2 g3 ⊢
        subst g1
        have H2 := kMa_fr H g3 (fun k j hk => by unfold jW_265 at hk; unfold kQM; omega)
        rw [show ja m2 67 24 = (c 11 0 : Int) from kM_n H2.1 (i := 0) (by decide), if_pos (show (t : Int) < (c 11 0 : Int) by omega), jwn (n := t) (by omega), Int.toNat_natCast]
        refine jo_c (R := fun r => (∀ v, v < c 11 0 → ja r 93 v = if v < t + 1 then kLb (kG c p cl w a) (c 11 0) b (i + 1) v else kLb (kG c p cl w a) (c 11 0) b i v) ∧ jfr true jW_265 m r) ?_ (fun r hr => ⟨rfl, hr.1, hr.2⟩)
        have g2t := g2 t ht
        rw [if_neg (Nat.lt_irrefl t)] at g2t
        refine jo_for (c 11 0) jfu (fun on (s : Int × jm) => s.1 = on ∧ (∀ v, v < c 11 0 → v ≠ t → ja s.2 93 v = if v < t then kLb (kG c p cl w a) (c 11 0) b (i + 1) v else kLb (kG c p cl w a) (c 11 0) b i v) ∧ ja s.2 93 t = (if kLb (kG c p cl w a) (c 11 0) b i t = 100000 then (if kEx (fun v => decide (kLb (kG c p cl w a) (c 11 0) b i v = (i : Int)) && kG c p cl w a t v) on = true then ((i + 1 : Nat) : Int) else 100000) else kLb (kG c p cl w a) (c 11 0) b i t) ∧ jfr true jW_265 m s.2) (jfu_lt (by omega)) ?_ ?_ _ ⟨rfl, fun v hv _ => g2 v hv, ?_, g3⟩
        · intro on hon s hs
          obtain ⟨z, m3⟩ := s
          obtain ⟨k1, k2, k3, k4⟩ := hs
          dsimp only at k1 k2 k3 k4 ⊢
          subst k1
          have H3 := kMa_fr H k4 (fun k j hk => by unfold jW_265 at hk; unfold kQM; omega)
          rw [show ja m3 67 24 = (c 11 0 : Int) from kM_n H3.1 (i := 0) (by decide), if_pos (show (on : Int) < (c 11 0 : Int) by omega), if_pos (show 0 ≤ (t : Int) ∧ (t : Int) < 8 by omega), jwn (n := on) (by omega), Int.toNat_natCast]
          by_cases hF : ja m3 93 t = 100000
          · have hL : kLb (kG c p cl w a) (c 11 0) b i t = 100000 := by
              rw [k3] at hF
              by_cases h : kLb (kG c p cl w a) (c 11 0) b i t = 100000
              · exact h
              · rw [if_neg h] at hF; exact hF
            have hEx : kEx (fun v => decide (kLb (kG c p cl w a) (c 11 0) b i v = (i : Int)) && kG c p cl w a t v) on = false := by
              rw [k3, if_pos hL] at hF
              cases h : kEx (fun v => decide (kLb (kG c p cl w a) (c 11 0) b i v = (i : Int)) && kG c p cl w a t v) on
              · rfl
              · rw [h, if_pos rfl] at hF; omega
            have hcmp : ja m3 93 on = (i : Int) ↔ kLb (kG c p cl w a) (c 11 0) b i on = (i : Int) := by
              by_cases e : on = t
              · rw [e, hF, hL]
              · rw [k2 on hon e]; exact kLb_cmp (by omega) hon hb
            rw [if_pos hF, if_pos (show 0 ≤ (on : Int) ∧ (on : Int) < 8 by omega)]
            by_cases hc2 : ja m3 93 on = (i : Int)
            · rw [if_pos hc2, jo_bind, jo_bind]
              refine jo_mono (sl_266a H3 hw) (fun r hr => ?_)
              obtain ⟨hr, hf⟩ := hr
              have hf2 : jfr true jW_265 m r.2 := jfr_t k4 hf (fun e => e) (fun k j hk => Or.inr hk)
              have es := kEx_s (f := fun v => decide (kLb (kG c p cl w a) (c 11 0) b i v = (i : Int)) && kG c p cl w a t v) (n := on)
              rw [hEx, Bool.false_or, decide_eq_true (hcmp.1 hc2), Bool.true_and] at es
              rw [hr]
              cases hg : kG c p cl w a t on
              · rw [if_pos (show b2i false = 0 from rfl)]
                refine ⟨rfl, fun v hv hvt => ?_, ?_, hf2⟩
                · show ja r.2 93 v = _
                  rw [ja_fr hf (by unfold jW_266; omega)]; exact k2 v hv hvt
                · show ja r.2 93 t = _
                  rw [ja_fr hf (by unfold jW_266; omega), hF, es, hg, if_neg nft, if_pos hL]
              · rw [if_neg (show ¬ b2i true = 0 by decide), if_pos (show 0 ≤ (t : Int) ∧ (t : Int) < 8 by omega), jle_eq]
                refine ⟨rfl, fun v hv hvt => ?_, ?_, jfr_js hf2 (Or.inl rfl)⟩
                · show ja (js r.2 93 t _) 93 v = _
                  rw [ja_jsj hvt, ja_fr hf (by unfold jW_266; omega)]; exact k2 v hv hvt
                · show ja (js r.2 93 t _) 93 t = _
                  rw [ja_js1, es, hg, if_pos hL, if_pos rfl, jw_nat (by omega)]
            · rw [if_neg hc2, jsb]
              have es := kEx_s (f := fun v => decide (kLb (kG c p cl w a) (c 11 0) b i v = (i : Int)) && kG c p cl w a t v) (n := on)
              rw [decide_eq_false (fun h => hc2 (hcmp.2 h)), Bool.false_and, Bool.or_false] at es
              refine ⟨rfl, k2, ?_, k4⟩
              show ja m3 93 t = _
              rw [es]; exact k3
          · rw [if_neg hF]
            refine ⟨fun v hv => ?_, k4⟩
            by_cases e : v = t
            · subst e
              rw [if_pos (Nat.lt_succ_self v)]
              by_cases h : kLb (kG c p cl w a) (c 11 0) b i v = 100000
              · rw [if_pos h] at k3
                cases hx : kEx (fun u => decide (kLb (kG c p cl w a) (c 11 0) b i u = (i : Int)) && kG c p cl w a v u) on
                · rw [hx, if_neg nft] at k3; exact absurd k3 hF
                · have hx2 : kEx (fun u => decide (kLb (kG c p cl w a) (c 11 0) b i u = (i : Int)) && kG c p cl w a v u) (c 11 0) = true := by
                    obtain ⟨u, q1, q2⟩ := kEx_iff.1 hx
                    exact kEx_iff.2 ⟨u, by omega, q2⟩
                  rw [kLb_new (by omega) hv hb h, if_pos hx2, k3, hx, if_pos rfl]
              · rw [if_neg h] at k3
                rw [kLb_old h]; exact k3
            · rw [k2 v hv e]
              by_cases hvt : v < t
              · rw [if_pos hvt, if_pos (by omega)]
              · rw [if_neg hvt, if_neg (by omega)]
        · intro s hs
          obtain ⟨z, m3⟩ := s
          obtain ⟨k1, k2, k3, k4⟩ := hs
          dsimp only at k1 k2 k3 k4 ⊢
          have H3 := kMa_fr H k4 (fun k j hk => by unfold jW_265 at hk; unfold kQM; omega)
          rw [show ja m3 67 24 = (c 11 0 : Int) from kM_n H3.1 (i := 0) (by decide), if_neg (by omega)]
          refine ⟨fun v hv => ?_, k4⟩
          by_cases e : v = t
          · subst e
            rw [if_pos (Nat.lt_succ_self v), k3]
            by_cases h : kLb (kG c p cl w a) (c 11 0) b i v = 100000
            · rw [if_pos h, kLb_new (by omega) hv hb h]
            · rw [if_neg h, kLb_old h]
          · rw [k2 v hv e]
            by_cases hvt : v < t
            · rw [if_pos hvt, if_pos (by omega)]
            · rw [if_neg hvt, if_neg (by omega)]
        · show ja m2 93 t = _
          rw [g2t]
          by_cases h : kLb (kG c p cl w a) (c 11 0) b i t = 100000
          · rw [if_pos h, h]; rfl
          · rw [if_neg h]
      · intro s hs
        obtain ⟨y, m2⟩ := s
        obtain ⟨g1, g2, g3⟩ := hs
        dsimp only at g1 g2 g3 ⊢
        have H2 := kMa_fr H g3 (fun k j hk => by unfold jW_265 at hk; unfold kQM; omega)
        rw [show ja m2 67 24 = (c 11 0 : Int) from kM_n H2.1 (i := 0) (by decide), if_neg (by omega)]
        exact ⟨fun v hv => by rw [g2 v hv, if_pos hv], g3⟩
    · intro s hs
      obtain ⟨x, m'⟩ := s
      obtain ⟨h1, h2, h3⟩ := hs
      dsimp only at h1 h2 h3 ⊢
      have H1 := kMa_fr H h3 (fun k j hk => by unfold jW_265 at hk; unfold kQM; omega)
      rw [show ja m' 67 24 = (c 11 0 : Int) from kM_n H1.1 (i := 0) (by decide), if_neg (by omega)]
      exact h2
/-- labels stand -/
def kLbs (m : jm) (G : Nat → Nat → Bool) (T b : Nat) : Prop := ∀ t, t < T → ja m 93 t = if kDs G T t b = -1 then 100000 else kDs G T t b
theorem sl_264 {m : jm} {c : kC} {p : kP} {cl : List Int} {a : Int × Int × Int} {w u b : Nat} (H : kMa m c p cl a) (hw : w < c 11 2) (hu : u < c 11 0) (hb : b < c 11 0) : jo (jf_264 w u b m) (fun r => r.1 = kDs (kG c p cl w a) (c 11 0) u b ∧ kLbs r.2 (kG c p cl w a) (c 11 0) b ∧ jfr true jW_265 m r.2) := by
  have hn := H.1.1.1
  have hd := kDs_b (G := kG c p cl w a) (T := c 11 0) (a := u) (b := b)
  unfold jf_264
  refine jo_c (sl_265 H hw hb) (fun r hr => ?_)
  have hl : kLbs r (kG c p cl w a) (c 11 0) b := fun t ht => by rw [hr.1 t ht]; exact kLb_end hn.1 ht hb
  rw [if_pos (show 0 ≤ (u : Int) ∧ (u : Int) < 8 by omega), Int.toNat_natCast, hl u hu]
  by_cases h : kDs (kG c p cl w a) (c 11 0) u b = -1
  · rw [if_pos h, if_pos rfl, jsb]
    exact ⟨h.symm, hl, hr.2⟩
  · rw [if_neg h, if_neg (show ¬ kDs (kG c p cl w a) (c 11 0) u b = 100000 by omega), if_pos (show 0 ≤ (u : Int) ∧ (u : Int) < 8 by omega), jsb]
    exact ⟨rfl, hl, hr.2⟩
theorem sl_268 {m : jm} {c : kC} {p : kP} {cl : List Int} {a : Int × Int × Int} {w u b : Nat} (H : kMa m c p cl a) (hw : w < c 11 2) (hu : u < c 11 0) (hl : kLbs m (kG c p cl w a) (c 11 0) b) (hd : 0 < kDs (kG c p cl w a) (c 11 0) u b) : jo (jf_268 w u m) (fun r => r.1 = kFh (kG c p cl w a) (c 11 0) u b ∧ jfr true jW_268 m r.2) := by
  refine jo_and ?_ jx_268
  have hn := H.1.1.1
  have hdb := kDs_b (G := kG c p cl w a) (T := c 11 0) (a := u) (b := b)
  unfold jf_268 kFh
  rw [if_pos hd]
  refine jo_for (c 11 0) jfu (fun i (s : Int × jm) => s.1 = i ∧ (∀ j, j < i → (kG c p cl w a u j && decide (kDs (kG c p cl w a) (c 11 0) j b = kDs (kG c p cl w a) (c 11 0) u b - 1)) = false) ∧ jfr true jW_268 m s.2) (jfu_lt (by omega)) ?_ ?_ _ ⟨rfl, fun t ht => absurd ht (Nat.not_lt_zero _), jfr_r⟩
  · intro i hi s hs
    obtain ⟨x, m'⟩ := s
    obtain ⟨h1, h2, h3⟩ := hs
    dsimp only at h1 h2 h3 ⊢
    subst h1
    have hib := kDs_b (G := kG c p cl w a) (T := c 11 0) (a := i) (b := b)
    have H1 := kMa_fr H h3 (fun k j hk => by unfold jW_268 at hk; unfold kQM; omega)
    have eu : ja m' 93 u = kDs (kG c p cl w a) (c 11 0) u b := by rw [ja_fr h3 (by unfold jW_268; omega), hl u hu, if_neg (by omega)]
    have ei : ja m' 93 i = if kDs (kG c p cl w a) (c 11 0) i b = -1 then 100000 else kDs (kG c p cl w a) (c 11 0) i b := by rw [ja_fr h3 (by unfold jW_268; omega), hl i hi]
    have hcmp : ja m' 93 i = kDs (kG c p cl w a) (c 11 0) u b - 1 ↔ kDs (kG c p cl w a) (c 11 0) i b = kDs (kG c p cl w a) (c 11 0) u b - 1 := by
      rw [ei]; split <;> omega
    rw [show ja m' 67 24 = (c 11 0 : Int) from kM_n H1.1 (i := 0) (by decide), if_pos (show (i : Int) < (c 11 0 : Int) by omega), if_pos (show 0 ≤ (i : Int) ∧ (i : Int) < 8 by omega), if_pos (show 0 ≤ (u : Int) ∧ (u : Int) < 8 by omega), Int.toNat_natCast, Int.toNat_natCast, eu, jwi (x := _ - 1) (by omega) (by omega), jwn (n := i) (by omega)]
    by_cases hc : ja m' 93 i = kDs (kG c p cl w a) (c 11 0) u b - 1
    · rw [if_pos hc, jo_bind]
      refine jo_mono (sl_266a H1 hw) (fun r hr => ?_)
      obtain ⟨hr, hf⟩ := hr
      rw [hr]
      cases hg : kG c p cl w a u i
      · rw [if_pos (show b2i false = 0 from rfl)]
        refine ⟨rfl, fun j hj => ?_, jfr_tr h3 hf⟩
        by_cases e : j = i
        · rw [e, hg]; rfl
        · exact h2 j (by omega)
      · rw [if_neg (show ¬ b2i true = 0 by decide)]
        show (i : Int) = _
        exact (kFs_yes (f := fun k => kG c p cl w a u k && decide (kDs (kG c p cl w a) (c 11 0) k b = kDs (kG c p cl w a) (c 11 0) u b - 1)) (by rw [hg, decide_eq_true (hcmp.1 hc)]; rfl) h2 _ hi).symm
    · rw [if_neg hc]
      refine ⟨rfl, fun j hj => ?_, h3⟩
      by_cases e : j = i
      · rw [e, decide_eq_false (fun h => hc (hcmp.2 h)), Bool.and_false]
      · exact h2 j (by omega)
  · intro s hs
    obtain ⟨x, m'⟩ := s
    obtain ⟨h1, h2, h3⟩ := hs
    dsimp only at h1 h2 h3 ⊢
    have H1 := kMa_fr H h3 (fun k j hk => by unfold jW_268 at hk; unfold kQM; omega)
    rw [show ja m' 67 24 = (c 11 0 : Int) from kM_n H1.1 (i := 0) (by decide), if_neg (by omega)]
    exact (kFs_no _ h2).symm
