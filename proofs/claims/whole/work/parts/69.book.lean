/-! BOOK: the model's reader. -/
theorem sp_212n {m : jm} {x kd : Int} {a : Nat} (h5 : ja m 67 5 = (a : Int)) (h6 : ja m 67 6 = kd) (ha : a ≤ 600) : jf_212 x m = some (jw (kd - 10), js m 67 8 a) := by
  have e : ja (js m 67 8 (a : Int)) 67 5 = (a : Int) := by rw [ja_jsj (by decide)]; exact h5
  unfold jf_212
  rw [h5, jle_eq, sp_196, e, if_neg (show ¬ (a : Int) = -1 by omega), jsb, if_pos rfl, ja_jsj (by decide), h6, jsb]
theorem sp_212y {m : jm} {x : Int} (h5 : ja m 67 5 = -1) : jf_212 x m = some (x, js m 67 8 (-1)) := by
  have e : ja (js m 67 8 (-1)) 67 5 = -1 := by rw [ja_jsj (by decide)]; exact h5
  unfold jf_212
  rw [h5, jle_eq, sp_196, e, if_pos rfl, jsb, if_neg Int.one_ne_zero, jsb]
def kW44 (k j : Nat) : Prop := (k = 67 ∧ (j = 4 ∨ j = 5 ∨ j = 6 ∨ j = 8)) ∨ k = 91
def kBqm (m : jm) (b : Int × jm) (r : kBres) : Prop := match r with
  | Sum.inl (kd, at') => b.1 = jw (kd - 10) ∧ ja b.2 67 8 = (at' : Int) ∧ jfr true kW44 m b.2
  | Sum.inr (k, g) => b.1 = k ∧ ja b.2 67 8 = -1 ∧ (∀ w, w < 12 → ja b.2 92 w = g w) ∧ ja b.2 67 52 = k ∧ kBgd (ja m 67 25).toNat k g ∧ jfr true (fun k j => kW44 k j ∨ k = 92 ∨ (k = 67 ∧ j = 52)) m b.2
def kBrm (m : jm) (f : Nat → Int) (n N : Nat) (a : Int × jm) (s : kBsta) : Prop := a.1 = s.1 ∧ kTm a.2 f n s.2.1 ∧ (∀ w, w < 12 → ja a.2 91 w = s.2.2 w) ∧ ja a.2 67 5 = -1 ∧ kBgd N s.1 s.2.2 ∧ jfr true kW44 m a.2
noncomputable def kBbd (s34 : Int × jm) : Option ((Int × jm) ⊕ (Int × jm)) := (jf_196 s34.2).bind fun p40 => if p40 = 0 then (jf_212 s34.1 s34.2).bind fun p41 => if (ja p41.2 67 5) = -1 then jle (js p41.2 67 52 s34.1) fun m42 => (jf_190 91 92 12 m42).bind fun p43 => some (Sum.inr (p41.1, p43)) else some (Sum.inr (p41.1, p41.2)) else (jf_197 s34.2).bind fun p44 => if p44.1 = 0 then (jf_212 s34.1 p44.2).bind fun p45 => if (ja p45.2 67 5) = -1 then jle (js p45.2 67 52 s34.1) fun m46 => (jf_190 91 92 12 m46).bind fun p47 => some (Sum.inr (p45.1, p47)) else some (Sum.inr (p45.1, p45.2)) else (jf_207 0 (jw ((ja p44.2 67 25) - 1)) p44.2).bind fun p48 => (jf_196 p48.2).bind fun p49 => (if p49 = 0 then some (p48.2) else if 0 ≤ p48.1 ∧ p48.1 < 12 then if (ja p48.2 91 p48.1.toNat) = -1 then some (p48.2) else (jf_203 2 (ja p44.2 67 4) p48.2).bind fun p52 => some (p52) else none).bind fun t50 => (jf_207 0 99 t50).bind fun p63 => (jf_211 59 p63.2).bind fun p64 => (jf_196 p64).bind fun p65 => if p65 = 0 then (jf_212 s34.1 p64).bind fun p66 => if (ja p66.2 67 5) = -1 then jle (js p66.2 67 52 s34.1) fun m67 => (jf_190 91 92 12 m67).bind fun p68 => some (Sum.inr (p66.1, p68)) else some (Sum.inr (p66.1, p66.2)) else if 0 ≤ p48.1 ∧ p48.1 < 12 then jle (js p64 91 p48.1.toNat p63.1) fun m69 => some (Sum.inl (jw (s34.1 + 1), m69)) else none
/-- a fault is told -/
theorem kBft {m M : jm} {x kd v : Int} {a : Nat} {P : Option ((Int × jm) ⊕ (Int × jm))} (h5 : ja M 67 5 = (a : Int)) (h6 : ja M 67 6 = kd) (ha : a ≤ 600) (hf : jfr true kW44 m M) : jo ((jf_207 0 99 M).bind fun p63 => (jf_211 59 p63.2).bind fun p64 => (jf_196 p64).bind fun p65 => if p65 = 0 then (jf_212 x p64).bind fun p66 => if (ja p66.2 67 5) = -1 then jle (js p66.2 67 52 x) fun m67 => (jf_190 91 92 12 m67).bind fun p68 => some (Sum.inr (p66.1, p68)) else some (Sum.inr (p66.1, p66.2)) else if 0 ≤ v ∧ v < 12 then jle (js p64 91 v.toNat p63.1) fun m69 => some (Sum.inl (jw (x + 1), m69)) else none) (jcase (fun (_ : Int × jm) => False) (fun b => kBqm m b (Sum.inl (kd, a)))) := by
  have hn : ja M 67 5 ≠ -1 := by omega
  have e : ja (js M 67 8 (a : Int)) 67 5 = (a : Int) := by rw [ja_jsj (by decide)]; exact h5
  rw [sp_207n hn, jsb, sp_211n hn, jsb, sp_196, if_neg hn, jsb, if_pos rfl, sp_212n h5 h6 ha, jsb, e, if_neg (show ¬ (a : Int) = -1 by omega)]
  refine ⟨rfl, ?_, jfr_js hf (by unfold kW44; omega)⟩
  show ja (js M 67 8 (a : Int)) 67 8 = _
  rw [ja_js1, jwi (by omega) (by omega)]
theorem kBft2 {m M : jm} {x kd v y : Int} {a : Nat} (h5 : ja M 67 5 = (a : Int)) (h6 : ja M 67 6 = kd) (ha : a ≤ 600) (hf : jfr true kW44 m M) : jo ((jf_211 59 M).bind fun p64 => (jf_196 p64).bind fun p65 => if p65 = 0 then (jf_212 x p64).bind fun p66 => if (ja p66.2 67 5) = -1 then jle (js p66.2 67 52 x) fun m67 => (jf_190 91 92 12 m67).bind fun p68 => some (Sum.inr (p66.1, p68)) else some (Sum.inr (p66.1, p66.2)) else if 0 ≤ v ∧ v < 12 then jle (js p64 91 v.toNat y) fun m69 => some (Sum.inl (jw (x + 1), m69)) else none) (jcase (fun (_ : Int × jm) => False) (fun b => kBqm m b (Sum.inl (kd, a)))) := by
  have hn : ja M 67 5 ≠ -1 := by omega
  have e : ja (js M 67 8 (a : Int)) 67 5 = (a : Int) := by rw [ja_jsj (by decide)]; exact h5
  rw [sp_211n hn, jsb, sp_196, if_neg hn, jsb, if_pos rfl, sp_212n h5 h6 ha, jsb, e, if_neg (show ¬ (a : Int) = -1 by omega)]
  refine ⟨rfl, ?_, jfr_js hf (by unfold kW44; omega)⟩
  show ja (js M 67 8 (a : Int)) 67 8 = _
  rw [ja_js1, jwi (by omega) (by omega)]
theorem kBft3 {m M : jm} {x kd v y : Int} {a : Nat} (h5 : ja M 67 5 = (a : Int)) (h6 : ja M 67 6 = kd) (ha : a ≤ 600) (hf : jfr true kW44 m M) : jo ((jf_196 M).bind fun p65 => if p65 = 0 then (jf_212 x M).bind fun p66 => if (ja p66.2 67 5) = -1 then jle (js p66.2 67 52 x) fun m67 => (jf_190 91 92 12 m67).bind fun p68 => some (Sum.inr (p66.1, p68)) else some (Sum.inr (p66.1, p66.2)) else if 0 ≤ v ∧ v < 12 then jle (js M 91 v.toNat y) fun m69 => some (Sum.inl (jw (x + 1), m69)) else none) (jcase (fun (_ : Int × jm) => False) (fun b => kBqm m b (Sum.inl (kd, a)))) := by
  have hn : ja M 67 5 ≠ -1 := by omega
  have e : ja (js M 67 8 (a : Int)) 67 5 = (a : Int) := by rw [ja_jsj (by decide)]; exact h5
  rw [sp_196, if_neg hn, jsb, if_pos rfl, sp_212n h5 h6 ha, jsb, e, if_neg (show ¬ (a : Int) = -1 by omega)]
  refine ⟨rfl, ?_, jfr_js hf (by unfold kW44; omega)⟩
  show ja (js M 67 8 (a : Int)) 67 8 = _
  rw [ja_js1, jwi (by omega) (by omega)]
theorem sl_244l {m : jm} {f : Nat → Int} {n N : Nat} (H : kTm m f n 0) (hN : N ≤ 12) (hc : ja m 67 25 = N) (h91 : ∀ w, w < 12 → ja m 91 w = -1) (h5 : ja m 67 5 = -1) : ∃ r, kRun (kBst f n ((N : Int) - 1)) jfu ((0 : Nat), (0 : Nat), fun _ => (-1 : Int)) = some r ∧ jo (jlp kBbd jfu ((0 : Int), m)) (fun b => kBqm m b r) := by
  have hn6 := H.1.1
  have h0 : kBrm m f n N ((0 : Int), m) ((0 : Nat), (0 : Nat), fun _ => (-1 : Int)) := ⟨rfl, H, h91, h5, ⟨fun w hw => ⟨(by decide : (-1 : Int) ≤ -1), (by decide : (-1 : Int) ≤ 99)⟩, fun w hw _ => rfl, kCnt_z 12 (fun w hw => rfl)⟩, jfr_r⟩
  refine jo_run (kBrm m f n N) (fun s => n - s.2.1) (Q := kBqm m) (fun a s hs => ?_) jfu _ _ (jfu_lt (by show n - 0 < 4000000; omega)) h0
  obtain ⟨k, i, g⟩ := s
  obtain ⟨x, M⟩ := a
  obtain ⟨b1, b2, b3, b4, b5, b6⟩ := hs
  dsimp only at b1 b2 b3 b4 b5 b6
  have hk12 : k ≤ 12 := by have := kCnt_le (S := fun w => decide (g w ≠ -1)) 12; have := b5.2.2; omega
  have hin := b2.1.2.1
  have hsk := kSkp_le (f := f) hin
  have hw1 : jw ((N : Int) - 1) = (N : Int) - 1 := jwi (by omega) (by omega)
  have W8 : ∀ k j, jW_198 k j → kW44 k j := fun k j h => by unfold jW_198 at h; unfold kW44; omega
  have W7 : ∀ k j, jW_207 k j → kW44 k j := fun k j h => by unfold jW_207 at h; unfold kW44; omega
  have W1 : ∀ k j, jW_211 k j → kW44 k j := fun k j h => by unfold jW_211 at h; unfold kW44; omega
  unfold kBbd
  dsimp only
  rw [b1, sp_196, if_pos b4, jsb, if_neg Int.one_ne_zero]
  by_cases c1 : kSkp f n i < n
  · have first : ∀ (P : (Int × jm) ⊕ (Int × jm) → Prop) (F : Int × jm → Int × jm → Option ((Int × jm) ⊕ (Int × jm))) (G : Int × jm → Option ((Int × jm) ⊕ (Int × jm))), (∀ r1 r2 : Int × jm, kTm r1.2 f n (kSkp f n i) → ((∃ e, kTm r2.2 f n e) ∧ (kNok f n i 0 ((N : Int) - 1) → r2.1 = kDv f n i ∧ kTm r2.2 f n (kDe f n i) ∧ ja r2.2 67 5 = -1) ∧ (¬ kNok f n i 0 ((N : Int) - 1) → r2.1 = 0 ∧ ja r2.2 67 5 = (kSkp f n i : Int) ∧ ja r2.2 67 6 = kNkd f n i)) → jfr true kW44 m r2.2 → (∀ w, w < 12 → ja r2.2 91 w = g w) → jo (F r1 r2) P) → jo ((jf_197 M).bind fun p44 => if p44.1 = 0 then G p44 else (jf_207 0 (jw ((ja p44.2 67 25) - 1)) p44.2).bind (F p44)) P := fun P F G hF => by
      refine jo_c (sl_197 b2) (fun r1 hr1 => ?_)
      obtain ⟨p1, p2, p3⟩ := hr1
      have hf1 := jfr_t b6 p3 (fun e => e) W8
      have hc1 : ja r1.2 67 25 = (N : Int) := by rw [ja_fr hf1 (by unfold kW44; omega)]; exact hc
      have hf5 : ja r1.2 67 5 = -1 := by rw [ja_fr p3 (by unfold jW_198; omega)]; exact b4
      rw [p1, if_pos c1, if_neg Int.one_ne_zero, hc1, hw1]
      refine jo_c (sl_207s p2 hf5 (by omega)) (fun r2 hr2 => ?_)
      exact hF r1 r2 p2 hr2.1 (jfr_t hf1 hr2.2 (fun e => e) W7) (fun w hw => by rw [ja_fr hr2.2 (by unfold jW_207; omega), ja_fr p3 (by unfold jW_198; omega)]; exact b3 w hw)
    by_cases c2 : kNb f n i 0 ((N : Int) - 1) = false
    · refine Or.inl ⟨Sum.inl (kNkd f n i, kSkp f n i), by unfold kBst; dsimp only; rw [if_neg (fun z => z c1), if_pos c2], ?_⟩
      refine first _ _ _ (fun r1 r2 e1 e2 e3 e4 => ?_)
      obtain ⟨q1, q2, q3⟩ := e2.2.2 (kNb_f c2)
      rw [sp_196, if_neg (show ¬ ja r2.2 67 5 = -1 by omega), jsb, if_pos rfl, jsb]
      exact kBft (P := none) q2 q3 (by omega) e3
    · have c2' : kNb f n i 0 ((N : Int) - 1) = true := by simpa using c2
      have hok := kNb_t c2'
      obtain ⟨w, hw⟩ := Int.eq_ofNat_of_zero_le hok.2.1
      have hwN : w < N := by have := hok.2.2; omega
      have hwi : kBwi f n (k, i, g) = w := by unfold kBwi; dsimp only; rw [hw]; rfl
      have hde := kDe_le (f := f) (n := n) (i := i) hin
      have hge := kDe_ge (f := f) (n := n) (i := i)
      have hgi := kSkp_ge (f := f) (n := n) (i := i)
      by_cases c3 : g w = -1
      · have hk := kBgd_12 b5 (show w < 12 by omega) c3
        by_cases c4 : kNb f n (kDe f n i) 0 99 = false
        · refine Or.inl ⟨Sum.inl (kNkd f n (kDe f n i), kSkp f n (kDe f n i)), by unfold kBst; dsimp only; rw [if_neg (fun z => z c1), if_neg c2, hwi, if_neg (fun z => z c3), if_pos c4], ?_⟩
          refine first _ _ _ (fun r1 r2 e1 e2 e3 e4 => ?_)
          obtain ⟨q1, q2, q3⟩ := e2.2.1 hok
          have hv : r2.1 = (w : Int) := by rw [q1, hw]
          rw [sp_196, if_pos q3, jsb, if_neg Int.one_ne_zero, hv, if_pos (show 0 ≤ (w : Int) ∧ (w : Int) < 12 by omega), Int.toNat_natCast, e4 w (by omega), if_pos c3, jsb]
          refine jo_c (sl_207 q2 q3 (by decide)) (fun r3 hr3 => ?_)
          obtain ⟨⟨-, -, t2⟩, t3⟩ := hr3
          obtain ⟨t4, t5, t6⟩ := t2 (kNb_f c4)
          have := kSkp_le (f := f) hde
          have hkk := kBft2 (m := m) (M := r3.2) (x := (k : Int)) (v := (w : Int)) (y := r3.1) t5 t6 (by omega) (jfr_t e3 t3 (fun e => e) W7)
          rw [Int.toNat_natCast] at hkk
          exact hkk
        · have c4' : kNb f n (kDe f n i) 0 99 = true := by simpa using c4
          have hok2 := kNb_t c4'
          have hde2 := kDe_le (f := f) (n := n) (i := kDe f n i) hde
          have hge2 := kDe_ge (f := f) (n := n) (i := kDe f n i)
          have hgi2 := kSkp_ge (f := f) (n := n) (i := kDe f n i)
          have hgi3 := kSkp_ge (f := f) (n := n) (i := kDe f n (kDe f n i))
          have h99 := hok2.2
          by_cases c5 : kGb f n (kDe f n (kDe f n i)) 59 = false
          · refine Or.inl ⟨Sum.inl (1, kSkp f n (kDe f n (kDe f n i))), by unfold kBst; dsimp only; rw [if_neg (fun z => z c1), if_neg c2, hwi, if_neg (fun z => z c3), if_neg c4, if_pos c5], ?_⟩
            refine first _ _ _ (fun r1 r2 e1 e2 e3 e4 => ?_)
            obtain ⟨q1, q2, q3⟩ := e2.2.1 hok
            have hv : r2.1 = (w : Int) := by rw [q1, hw]
            rw [sp_196, if_pos q3, jsb, if_neg Int.one_ne_zero, hv, if_pos (show 0 ≤ (w : Int) ∧ (w : Int) < 12 by omega), Int.toNat_natCast, e4 w (by omega), if_pos c3, jsb]
            refine jo_c (sl_207 q2 q3 (by decide)) (fun r3 hr3 => ?_)
            obtain ⟨⟨-, t1, -⟩, t3⟩ := hr3
            obtain ⟨t4, t5, t6⟩ := t1 hok2
            refine jo_c (sl_211 t5 t6 (by decide)) (fun r4 hr4 => ?_)
            obtain ⟨⟨-, -, s2⟩, s3⟩ := hr4
            obtain ⟨s4, s5⟩ := s2 (kGb_f c5)
            have := kSkp_le (f := f) hde2
            have hkk := kBft3 (m := m) (M := r4) (x := (k : Int)) (v := (w : Int)) (y := r3.1) s4 s5 (by omega) (jfr_t (jfr_t e3 t3 (fun e => e) W7) s3 (fun e => e) W1)
            rw [Int.toNat_natCast] at hkk
            exact hkk
          · have c5' : kGb f n (kDe f n (kDe f n i)) 59 = true := by simpa using c5
            have hsg := kGb_t c5'
            have hlt := hsg.1
            refine Or.inr ⟨(k + 1, kSkp f n (kDe f n (kDe f n i)) + 1, fun u => if u = w then kDv f n (kDe f n i) else g u), by unfold kBst; dsimp only; rw [if_neg (fun z => z c1), if_neg c2, hwi, if_neg (fun z => z c3), if_neg c4, if_neg c5], by show n - (kSkp f n (kDe f n (kDe f n i)) + 1) < n - i; omega, ?_⟩
            refine first _ _ _ (fun r1 r2 e1 e2 e3 e4 => ?_)
            obtain ⟨q1, q2, q3⟩ := e2.2.1 hok
            have hv : r2.1 = (w : Int) := by rw [q1, hw]
            rw [sp_196, if_pos q3, jsb, if_neg Int.one_ne_zero, hv, if_pos (show 0 ≤ (w : Int) ∧ (w : Int) < 12 by omega), Int.toNat_natCast, e4 w (by omega), if_pos c3, jsb]
            refine jo_c (sl_207 q2 q3 (by decide)) (fun r3 hr3 => ?_)
            obtain ⟨⟨-, t1, -⟩, t3⟩ := hr3
            obtain ⟨t4, t5, t6⟩ := t1 hok2
            refine jo_c (sl_211 t5 t6 (by decide)) (fun r4 hr4 => ?_)
            obtain ⟨⟨-, s1, -⟩, s3⟩ := hr4
            obtain ⟨s4, s5⟩ := s1 hsg
            rw [sp_196, if_pos s5, jsb, if_neg Int.one_ne_zero, if_pos (show 0 ≤ (w : Int) ∧ (w : Int) < 12 by omega), jle_eq, t4, jwn (n := k) (by omega)]
            refine ⟨rfl, kTm_js s4 (by omega), fun u hu => ?_, ?_, kBgd_s b5 hN hwN c3 h99, jfr_js (jfr_t (jfr_t e3 t3 (fun e => e) W7) s3 (fun e => e) W1) (Or.inr rfl)⟩
            · show ja (js r4 91 w _) 91 u = if u = w then kDv f n (kDe f n i) else g u
              by_cases e : u = w
              · rw [e, ja_js1, if_pos rfl, jwi (by omega) (by omega)]
              · rw [ja_jsj e, if_neg e, ja_fr s3 (by unfold jW_211; omega), ja_fr t3 (by unfold jW_207; omega)]; exact e4 u hu
            · show ja (js r4 91 w _) 67 5 = -1
              rw [ja_jsk (by decide)]; exact s5
      · refine Or.inl ⟨Sum.inl (2, kSkp f n i), by unfold kBst; dsimp only; rw [if_neg (fun z => z c1), if_neg c2, hwi, if_pos c3], ?_⟩
        refine first _ _ _ (fun r1 r2 e1 e2 e3 e4 => ?_)
        obtain ⟨q1, q2, q3⟩ := e2.2.1 hok
        have hv : r2.1 = (w : Int) := by rw [q1, hw]
        rw [sp_196, if_pos q3, jsb, if_neg Int.one_ne_zero, hv, if_pos (show 0 ≤ (w : Int) ∧ (w : Int) < 12 by omega), Int.toNat_natCast, e4 w (by omega), if_neg c3, e1.2.2.2, sp_203 q3, jsb, jsb]
        have hkk := kBft (P := none) (m := m) (M := js (js r2.2 67 5 (kSkp f n i : Int)) 67 6 2) (x := (k : Int)) (v := (w : Int)) (kd := 2) (a := kSkp f n i) (by rw [ja_jsj (by decide), ja_js1, jwi (by omega) (by omega)]) (by rw [ja_js1]; exact jwi (by decide) (by decide)) (by omega) (jfr_js (jfr_js e3 (by unfold kW44; omega)) (by unfold kW44; omega))
        rw [Int.toNat_natCast] at hkk
        exact hkk
  · refine Or.inl ⟨Sum.inr (k, g), by unfold kBst; dsimp only; rw [if_pos c1], ?_⟩
    refine jo_c (sl_197 b2) (fun r1 hr1 => ?_)
    obtain ⟨p1, p2, p3⟩ := hr1
    have hf5 : ja r1.2 67 5 = -1 := by rw [ja_fr p3 (by unfold jW_198; omega)]; exact b4
    have e : ja (js r1.2 67 8 (-1)) 67 5 = -1 := by rw [ja_jsj (by decide)]; exact hf5
    rw [p1, if_neg c1, if_pos rfl, sp_212y hf5, jsb, e, if_pos rfl, jle_eq, show (12 : Int) = ((12 : Nat) : Int) from rfl, sp_190 (by decide) (by decide) (by decide), jsb]
    have hz : ∀ u, u < 12 → ja r1.2 91 u = g u := fun u hu => by rw [ja_fr p3 (by unfold jW_198; omega)]; exact b3 u hu
    refine ⟨rfl, ?_, fun u hu => ?_, ?_, by rw [hc]; exact b5, ?_⟩
    · show ja (jcp _ _ 92 0 0 12) 67 8 = -1
      rw [ja_jcp, if_neg (by omega), ja_jsj (by decide), ja_js1]; exact wm1
    · show ja (jcp _ _ 92 0 0 12) 92 u = g u
      rw [ja_jcp, if_pos (by omega)]
      show ja (js (js r1.2 67 8 (-1)) 67 52 (k : Int)) 91 (0 + (u - 0)) = _
      rw [ja_jsk (by decide), ja_jsk (by decide), Nat.zero_add, Nat.sub_zero]; exact hz u hu
    · show ja (jcp _ _ 92 0 0 12) 67 52 = k
      rw [ja_jcp, if_neg (by omega), ja_js1, jwi (by omega) (by omega)]
    · refine jfr_jcp (jfr_js (jfr_js (jfr_t (jfr_t jfr_r b6 (fun e => e) (fun k j h => Or.inl h)) p3 (fun e => e) (fun k j h => Or.inl (W8 k j h))) (Or.inl (by unfold kW44; omega))) (Or.inr (Or.inr ⟨rfl, rfl⟩))) (fun j => Or.inr (Or.inl rfl))
