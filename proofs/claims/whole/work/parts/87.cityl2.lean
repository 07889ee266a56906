/-! CITY: the model's loop. -/
noncomputable def kYbd (s17 : Int × jm) : Option ((Int × jm) ⊕ (Int × jm)) := Option.bind (α := Int) (jf_196 s17.2) fun p21 => if p21 = 0 then Option.bind (α := Int × jm) (jf_212 (ja s17.2 67 23) s17.2) fun p22 => Option.bind (α := jm) (if (ja p22.2 67 5) = (-1 : Int) then Option.bind (α := jm) (jf_189 p22.2) fun p25 => some (p25) else some (p22.2)) fun t23 => some (Sum.inr (p22.1, t23)) else Option.bind (α := Int × jm) (jf_197 s17.2) fun p37 => if p37.1 = 0 then Option.bind (α := Int × jm) (jf_212 (ja p37.2 67 23) p37.2) fun p38 => Option.bind (α := jm) (if (ja p38.2 67 5) = (-1 : Int) then Option.bind (α := jm) (jf_189 p38.2) fun p41 => some (p41) else some (p38.2)) fun t39 => some (Sum.inr (p38.1, t39)) else Option.bind (α := Int × jm) (jf_199 p37.2) fun p53 => Option.bind (α := Int) (jf_201 p53.1 p53.2) fun p54 => Option.bind (α := jm) (if p54 = 0 then Option.bind (α := jm) (jf_203 (1 : Int) (ja p53.2 67 4) p53.2) fun p57 => some (p57) else if s17.1 = (60 : Int) then Option.bind (α := jm) (jf_203 (3 : Int) (ja p53.2 67 4) p53.2) fun p58 => some (p58) else Option.bind (α := Int) (jf_204 p53.1 p53.2) fun p59 => if p59 = 0 then some (p53.2) else Option.bind (α := jm) (jf_203 (3 : Int) (ja p53.2 67 4) p53.2) fun p60 => some (p60)) fun t55 => Option.bind (α := Int) (jf_196 t55) fun p71 => if p71 = 0 then Option.bind (α := Int × jm) (jf_212 (ja t55 67 23) t55) fun p72 => Option.bind (α := jm) (if (ja p72.2 67 5) = (-1 : Int) then Option.bind (α := jm) (jf_189 p72.2) fun p75 => some (p75) else some (p72.2)) fun t73 => some (Sum.inr (p72.1, t73)) else Option.bind (α := jm) (jf_205 t55) fun p87 => Option.bind (α := jm) (jf_206 p53.1 p87) fun p88 => Option.bind (α := jm) (jf_211 (59 : Int) p88) fun p89 => some (Sum.inl (jw (s17.1 + 1), p89))
def kWym (k j : Nat) : Prop := (k = 67 ∧ ((4 ≤ j ∧ j ≤ 6) ∨ j = 8 ∨ (20 ≤ j ∧ j ≤ 23))) ∨ (70 ≤ k ∧ k ≤ 74)
def kYrm (m : jm) (f : Nat → Int) (n : Nat) (a : Int × jm) (s : kYsta) : Prop := a.1 = s.1 ∧ s.1 ≤ 60 ∧ kMz a.2 f n (Sum.inr s.2.1) ∧ kCm a.2 20 70 s.2.2 ∧ kV s.2.2 ∧ jfr true kWym m a.2
def kYqm (m : jm) (b : Int × jm) (r : kYres) : Prop := match r with
  | Sum.inl e => b.1 = jw (e.1 - 10) ∧ ja b.2 67 8 = (e.2 : Int) ∧ jfr true kWym m b.2
  | Sum.inr c => b.1 = (c 11 3 : Int) ∧ ja b.2 67 8 = -1 ∧ (kCm b.2 24 75 c ∧ kPm (fun j => ja b.2 88 j) c (kP0 c) ∧ (∀ e, e < 12 → ja b.2 92 e = -1) ∧ ja b.2 67 34 = 0 ∧ ja b.2 67 52 = 0 ∧ ja b.2 67 39 = 0 ∧ ja b.2 67 66 = 0 ∧ ja b.2 67 40 = 0) ∧ jfr true (fun k j => kWym k j ∨ jW_189 k j) m b.2
theorem kCm_fr2 {b : Bool} {W : Nat → Nat → Prop} {m m' : jm} {c : kC} (H : kCm m 20 70 c) (h : jfr b W m m') (hz : ∀ k j, W k j → ¬ ((k = 67 ∧ 20 ≤ j ∧ j ≤ 23) ∨ (70 ≤ k ∧ k ≤ 74))) : kCm m' 20 70 c := by
  obtain ⟨q0, q1, q2, q3, q4⟩ := H
  have E : ∀ k j, ((k = 67 ∧ 20 ≤ j ∧ j ≤ 23) ∨ (70 ≤ k ∧ k ≤ 74)) → ja m' k j = ja m k j := fun k j z => ja_fr h (fun e => hz _ _ e z)
  exact ⟨fun i hi => by rw [E _ _ (by omega)]; exact q0 i hi, fun i hi => by rw [E _ _ (by omega)]; exact q1 i hi, fun i hi => by rw [E _ _ (by omega), E _ _ (by omega), E _ _ (by omega)]; exact q2 i hi, fun i hi => by rw [E _ _ (by omega), E _ _ (by omega), E _ _ (by omega)]; exact q3 i hi, fun i hi => by rw [E _ _ (by omega), E _ _ (by omega), E _ _ (by omega), E _ _ (by omega)]; exact q4 i hi⟩
/-- a fault is told -/
theorem kYft {m M : jm} {f : Nat → Int} {n : Nat} {e : Int × Nat} (H : kMz M f n (Sum.inl e)) (hf : jfr true kWym m M) : jo (Option.bind (α := Int × jm) (jf_212 (ja M 67 23) M) fun p22 => Option.bind (α := jm) (if (ja p22.2 67 5) = (-1 : Int) then Option.bind (α := jm) (jf_189 p22.2) fun p25 => some (p25) else some (p22.2)) fun t23 => some (Sum.inr (α := Int × jm) (p22.1, t23))) (jcase (fun (_ : Int × jm) => False) (fun b => kYqm m b (Sum.inl e))) := by
  obtain ⟨-, h5, h6, h7⟩ := H
  rw [sp_212n h5 h6 h7, jsb, show ja (js M 67 8 (e.2 : Int)) 67 5 = (e.2 : Int) by rw [ja_jsj (by decide)]; exact h5, if_neg (by omega), jsb]
  refine ⟨rfl, ?_, jfr_js hf (by unfold kWym; omega)⟩
  show ja (js M 67 8 (e.2 : Int)) 67 8 = _
  rw [ja_js1, jwi (by omega) (by omega)]
/-- the words, in the model -/
theorem kYw_x {f : Nat → Int} {n i : Nat} : (kYw f n i = -1 ∧ kWv f n i ≠ kPw 5 5 ∧ kWv f n i ≠ kPw 6 4 ∧ kWv f n i ≠ kPw 7 6 ∧ kWv f n i ≠ kPw 8 6) ∨ (kYw f n i ≠ -1 ∧ kWx (kWv f n i) (kYw f n i)) := by
  have e5 := kW5 (f := f) (n := n) (i := i)
  have e6 := kW6 (f := f) (n := n) (i := i)
  have e7 := kW7 (f := f) (n := n) (i := i)
  have e8 := kW8 (f := f) (n := n) (i := i)
  unfold kYw kW1 kWx kPw
  by_cases h5 : kWq f 1 0 5 (kSkp f n i) (kLe f n i) = true
  · rw [if_pos h5]; exact Or.inr ⟨by decide, Or.inl ⟨rfl, e5.1 h5⟩⟩
  · rw [if_neg h5]
    have n5 : ¬ kWv f n i = kPk (fun t => jsc 5 (t : Int)) 5 := fun z => h5 (e5.2 z)
    by_cases h6 : kWq f 1 6 10 (kSkp f n i) (kLe f n i) = true
    · rw [if_pos h6]; exact Or.inr ⟨by decide, Or.inr (Or.inl ⟨rfl, e6.1 h6, n5⟩)⟩
    · rw [if_neg h6]
      have n6 : ¬ kWv f n i = kPk (fun t => jsc 6 (t : Int)) 4 := fun z => h6 (e6.2 z)
      by_cases h7 : kWq f 1 11 17 (kSkp f n i) (kLe f n i) = true
      · rw [if_pos h7]; exact Or.inr ⟨by decide, Or.inr (Or.inr (Or.inl ⟨rfl, e7.1 h7, n5, n6⟩))⟩
      · rw [if_neg h7]
        have n7 : ¬ kWv f n i = kPk (fun t => jsc 7 (t : Int)) 6 := fun z => h7 (e7.2 z)
        by_cases h8 : kWq f 1 18 24 (kSkp f n i) (kLe f n i) = true
        · rw [if_pos h8]; exact Or.inr ⟨by decide, Or.inr (Or.inr (Or.inr ⟨rfl, e8.1 h8, n5, n6, n7⟩))⟩
        · rw [if_neg h8]; exact Or.inl ⟨rfl, n5, n6, n7, fun z => h8 (e8.2 z)⟩
theorem kWv_2 {f : Nat → Int} {n i : Nat} : kWv f n (kSkp f n i) = kWv f n i := by unfold kWv; rw [kSkp_2, kLe_2]
theorem kPw_ne : kPw 5 5 ≠ kPw 6 4 ∧ kPw 5 5 ≠ kPw 7 6 ∧ kPw 5 5 ≠ kPw 8 6 ∧ kPw 6 4 ≠ kPw 7 6 ∧ kPw 6 4 ≠ kPw 8 6 ∧ kPw 7 6 ≠ kPw 8 6 := by decide +kernel
theorem kWx_1 {x w : Int} (h : kWx x w) : (if x = kPw 5 5 then (1 : Int) else if x = kPw 6 4 then 1 else if x = kPw 7 6 then 1 else if x = kPw 8 6 then 1 else 0) = 1 := by
  rcases h with ⟨-, h⟩ | ⟨-, h, h1⟩ | ⟨-, h, h1, h2⟩ | ⟨-, h, h1, h2, h3⟩
  · rw [if_pos h]
  · rw [if_neg h1, if_pos h]
  · rw [if_neg h1, if_neg h2, if_pos h]
  · rw [if_neg h1, if_neg h2, if_neg h3, if_pos h]
theorem kWx_f {m : jm} {x w : Int} {c : kC} (hx : kWx x w) (hv : kV c) (hC : kCm m 20 70 c) : jf_204 x m = some (b2i (kFl c w)) := by
  have e : ∀ i, i < 4 → ja m 67 (20 + i) = (c 11 i : Int) := hC.1
  have e0 : ja m 67 20 = (c 11 0 : Int) := e 0 (by decide)
  have e1 : ja m 67 21 = (c 11 1 : Int) := e 1 (by decide)
  have e2 : ja m 67 22 = (c 11 2 : Int) := e 2 (by decide)
  have e3 : ja m 67 23 = (c 11 3 : Int) := e 3 (by decide)
  obtain ⟨v0, v1, v2, v3⟩ := hv.1
  obtain ⟨n1, n2, n3, n4, n5, n6⟩ := kPw_ne
  rw [sp_204, e0, e1, e2, e3]
  refine congrArg some ?_
  unfold kWx at hx
  generalize kPw 5 5 = p5 at *
  generalize kPw 6 4 = p6 at *
  generalize kPw 7 6 = p7 at *
  generalize kPw 8 6 = p8 at *
  unfold kFl b2i
  rcases hx with ⟨rfl, h⟩ | ⟨rfl, h, h1⟩ | ⟨rfl, h, h1, h2⟩ | ⟨rfl, h, h1, h2, h3⟩
  · rw [if_pos rfl]
    by_cases z : 8 ≤ c 11 0
    · rw [if_pos (by omega), if_pos (decide_eq_true z)]
    · rw [if_neg (by omega), if_neg (by simpa using z)]
  · rw [if_neg (show ¬ (1 : Int) = 0 by decide), if_pos rfl]
    by_cases z : 12 ≤ c 11 1
    · rw [if_pos (by omega), if_pos (decide_eq_true z)]
    · rw [if_neg (by omega), if_neg (by simpa using z)]
  · rw [if_neg (show ¬ (2 : Int) = 0 by decide), if_neg (show ¬ (2 : Int) = 1 by decide), if_pos rfl]
    by_cases z : 6 ≤ c 11 2
    · rw [if_pos (by omega), if_pos (decide_eq_true z)]
    · rw [if_neg (by omega), if_neg (by simpa using z)]
  · rw [if_neg (show ¬ (3 : Int) = 0 by decide), if_neg (show ¬ (3 : Int) = 1 by decide), if_neg (show ¬ (3 : Int) = 2 by decide)]
    by_cases z : 8 ≤ c 11 3
    · rw [if_pos (by omega), if_pos (decide_eq_true z)]
    · rw [if_neg (by omega), if_neg (by simpa using z)]
theorem sl_193l {m : jm} {f : Nat → Int} {n : Nat} (H : kMz m f n (Sum.inr 0)) (hC : kCm m 20 70 (fun _ _ => 0)) : ∃ r, kRun (kYst f n) jfu ((0 : Nat), (0 : Nat), fun _ _ => (0 : Nat)) = some r ∧ jo (jlp kYbd jfu ((0 : Int), m)) (fun b => kYqm m b r) := by
  have hn6 := H.1.1.1
  have W8 : ∀ k j, jW_198 k j → kWym k j := fun k j h => by unfold jW_198 at h; unfold kWym; omega
  have W5 : ∀ k j, jW_205 k j → kWym k j := fun k j h => by unfold jW_205 at h; unfold kWym; omega
  have W6 : ∀ k j, jW_206 k j → kWym k j := fun k j h => by
    unfold jW_206 at h
    unfold kWym
    rcases h with ⟨rfl, rfl⟩ | ⟨rfl, rfl⟩ | ⟨rfl, rfl⟩ | rfl | ⟨rfl, rfl⟩ | rfl | rfl | ⟨rfl, rfl⟩ | rfl | ⟨rfl, rfl⟩ | rfl | ⟨rfl, rfl⟩ <;> simp
  have W1 : ∀ k j, jW_211 k j → kWym k j := fun k j h => by unfold jW_211 at h; unfold kWym; omega
  have W56 : ∀ k j, kW56 k j → kWym k j := fun k j h => by unfold kW56 at h; unfold kWym; omega
  refine jo_run2 (kYrm m f n) (fun s => n - s.2.1) (Q := kYqm m) (fun a s hs => ?_) jfu _ _ (jfu_lt (by show n - 0 + 1 < 4000000; omega)) ⟨rfl, by decide, H, hC, kV_0, jfr_r⟩
  obtain ⟨k, i, c⟩ := s
  obtain ⟨x, M⟩ := a
  obtain ⟨b1, b2, b3, b4, b5, b6⟩ := hs
  dsimp only at b1 b2 b3 b4 b5 b6
  have hin := b3.1.1.2.1
  have hsk := kSkp_le (f := f) hin
  unfold kYbd
  dsimp only
  rw [b1, kMz_g b3, kOkz_r, jsb, if_neg Int.one_ne_zero]
  by_cases c1 : kSkp f n i < n
  · have first : ∀ (P : (Int × jm) ⊕ (Int × jm) → Prop) (F : Int × jm → Option ((Int × jm) ⊕ (Int × jm))) (G : Int × jm → Option ((Int × jm) ⊕ (Int × jm))), (∀ r : Int × jm, r.1 = kWv f n i → kMz r.2 f n (Sum.inr (kSkp f n i)) → kCm r.2 20 70 c → jfr true kWym m r.2 → jo (F r) P) → jo ((jf_197 M).bind fun p37 => if p37.1 = 0 then G p37 else (jf_199 p37.2).bind F) P := fun P F G hF => by
      refine jo_c (sl_197 b3.1) (fun r1 hr1 => ?_)
      obtain ⟨p1, p2, p3⟩ := hr1
      rw [p1, if_pos c1, if_neg Int.one_ne_zero]
      refine jo_c (sl_199 p2) (fun r2 hr2 => ?_)
      obtain ⟨q1, q2, q3⟩ := hr2
      rw [kSkp_2] at q2
      rw [kWv_2] at q1
      have W8n : ∀ k j, jW_198 k j → ¬ ((k = 67 ∧ 20 ≤ j ∧ j ≤ 23) ∨ (70 ≤ k ∧ k ≤ 74)) := fun k j h => by unfold jW_198 at h; omega
      refine hF r2 q1 ⟨q2, ?_⟩ (kCm_fr2 (kCm_fr2 b4 p3 W8n) q3 W8n) (jfr_t (jfr_t b6 p3 (fun e => e) W8) q3 (fun e => e) W8)
      rw [ja_fr q3 (by unfold jW_198; omega), ja_fr p3 (by unfold jW_198; omega)]; exact b3.2
    rcases kYw_x (f := f) (n := n) (i := i) with ⟨c2, n5, n6, n7, n8⟩ | ⟨c2, hx⟩
    · refine Or.inl ⟨Sum.inl (1, kSkp f n i), by unfold kYst; dsimp only; rw [if_neg (fun z => z c1), if_pos c2], ?_⟩
      refine first _ _ _ (fun r e1 e2 e3 e4 => ?_)
      obtain ⟨s1, s2, s3⟩ := sl_203g (kd := 1) (p := kSkp f n i) e2 (by omega) (jg_c rfl)
      rw [sp_201, e1, if_neg n5, if_neg n6, if_neg n7, if_neg n8, jsb, if_pos rfl, e2.1.2.2.2, s1, jsb, jsb, kMz_g s2, kOkz_l, jsb, if_pos rfl]
      exact jo_mono (kYft s2 (jfr_t e4 s3 (fun e => e) W56)) (fun y hy => by
        cases y with
        | inl z => exact hy.elim
        | inr z => exact hy)
    · have tooM : ∀ r : Int × jm, kMz r.2 f n (Sum.inr (kSkp f n i)) → jfr true kWym m r.2 → jo (((jf_203 (3 : Int) (ja r.2 67 4) r.2).bind fun p58 => some (p58)).bind fun t55 => Option.bind (α := Int) (jf_196 t55) fun p71 => if p71 = 0 then Option.bind (α := Int × jm) (jf_212 (ja t55 67 23) t55) fun p72 => Option.bind (α := jm) (if (ja p72.2 67 5) = (-1 : Int) then Option.bind (α := jm) (jf_189 p72.2) fun p75 => some (p75) else some (p72.2)) fun t73 => some (Sum.inr (p72.1, t73)) else Option.bind (α := jm) (jf_205 t55) fun p87 => Option.bind (α := jm) (jf_206 r.1 p87) fun p88 => Option.bind (α := jm) (jf_211 (59 : Int) p88) fun p89 => some (Sum.inl (jw ((k : Int) + 1), p89))) (jcase (fun a' => jo (kYbd a') (jcase (fun _ => False) (fun b => kYqm m b (Sum.inl (3, kSkp f n i))))) (fun b => kYqm m b (Sum.inl (3, kSkp f n i)))) := fun r e2 e4 => by
        obtain ⟨s1, s2, s3⟩ := sl_203g (kd := 3) (p := kSkp f n i) e2 (by omega) (jg_c rfl)
        rw [e2.1.2.2.2, s1, jsb, jsb, kMz_g s2, kOkz_l, jsb, if_pos rfl]
        exact jo_mono (kYft s2 (jfr_t e4 s3 (fun e => e) W56)) (fun y hy => by
          cases y with
          | inl z => exact hy.elim
          | inr z => exact hy)
      by_cases c3 : k = 60
      · refine Or.inl ⟨Sum.inl (3, kSkp f n i), by unfold kYst; dsimp only; rw [if_neg (fun z => z c1), if_neg c2, if_pos (Or.inl c3)], ?_⟩
        refine first _ _ _ (fun r e1 e2 e3 e4 => ?_)
        rw [sp_201, e1, kWx_1 hx, jsb, if_neg Int.one_ne_zero, if_pos (show (k : Int) = 60 by omega), ← e1]
        exact tooM r e2 e4
      · by_cases c4 : kFl c (kYw f n i) = true
        · refine Or.inl ⟨Sum.inl (3, kSkp f n i), by unfold kYst; dsimp only; rw [if_neg (fun z => z c1), if_neg c2, if_pos (Or.inr c4)], ?_⟩
          refine first _ _ _ (fun r e1 e2 e3 e4 => ?_)
          rw [sp_201, e1, kWx_1 hx, jsb, if_neg Int.one_ne_zero, if_neg (show ¬ (k : Int) = 60 by omega), kWx_f hx b5 e3, jsb, c4, show b2i true = 1 from rfl, if_neg Int.one_ne_zero, ← e1]
          exact tooM r e2 e4
        · have c4' : kFl c (kYw f n i) = false := by simpa using c4
          have st : kYst f n (k, i, c) = kYe (kSs f n 59 (kYr f n i c).1) (kYr f n i c).2 k := by unfold kYst; dsimp only; rw [if_neg (fun z => z c1), if_neg c2, if_neg (fun z => z.elim c3 c4)]
          have row : ∀ (P : (Int × jm) ⊕ (Int × jm) → Prop), (∀ t : jm, kMz t f n (kSs f n 59 (kYr f n i c).1) → kCm t 20 70 (kYr f n i c).2 → jfr true kWym m t → P (Sum.inl (((k + 1 : Nat) : Int), t))) → ∀ r : Int × jm, r.1 = kWv f n i → kMz r.2 f n (Sum.inr (kSkp f n i)) → kCm r.2 20 70 c → jfr true kWym m r.2 → jo (Option.bind (α := Int) (jf_201 r.1 r.2) fun p54 => Option.bind (α := jm) (if p54 = 0 then Option.bind (α := jm) (jf_203 (1 : Int) (ja r.2 67 4) r.2) fun p57 => some (p57) else if (k : Int) = (60 : Int) then Option.bind (α := jm) (jf_203 (3 : Int) (ja r.2 67 4) r.2) fun p58 => some (p58) else Option.bind (α := Int) (jf_204 r.1 r.2) fun p59 => if p59 = 0 then some (r.2) else Option.bind (α := jm) (jf_203 (3 : Int) (ja r.2 67 4) r.2) fun p60 => some (p60)) fun t55 => Option.bind (α := Int) (jf_196 t55) fun p71 => if p71 = 0 then Option.bind (α := Int × jm) (jf_212 (ja t55 67 23) t55) fun p72 => Option.bind (α := jm) (if (ja p72.2 67 5) = (-1 : Int) then Option.bind (α := jm) (jf_189 p72.2) fun p75 => some (p75) else some (p72.2)) fun t73 => some (Sum.inr (p72.1, t73)) else Option.bind (α := jm) (jf_205 t55) fun p87 => Option.bind (α := jm) (jf_206 r.1 p87) fun p88 => Option.bind (α := jm) (jf_211 (59 : Int) p88) fun p89 => some (Sum.inl (jw ((k : Int) + 1), p89))) P := fun P hP r e1 e2 e3 e4 => by
            rw [sp_201, e1, kWx_1 hx, jsb, if_neg Int.one_ne_zero, if_neg (show ¬ (k : Int) = 60 by omega), kWx_f hx b5 e3, jsb, c4', show b2i false = 0 from rfl, if_pos rfl, jsb, kMz_g e2, kOkz_r, jsb, if_neg Int.one_ne_zero]
            refine jo_c (sl_205 hin e2.1) (fun r2 hr2 => ?_)
            have H2 : kMz r2 f n (Sum.inr (kLe f n i)) := ⟨hr2.1, by rw [ja_fr hr2.2 (by unfold jW_205; omega)]; exact e2.2⟩
            have F2 := jfr_t e4 hr2.2 (fun e => e) W5
            refine jo_c (sl_206 H2 (kCm_fr2 e3 hr2.2 (fun k j h => by unfold jW_205 at h; omega)) b5.1.1 c4' hx) (fun r3 hr3 => ?_)
            obtain ⟨⟨u1, u2⟩, u3⟩ := hr3
            refine jo_c (sl_211g u1 (by decide)) (fun r4 hr4 => ?_)
            rw [jwn (by omega)]
            exact hP r4 hr4.1 (kCm_fr2 u2 hr4.2 (fun k j h => by unfold jW_211 at h; omega)) (jfr_t (jfr_t F2 u3 (fun e => e) W6) hr4.2 (fun e => e) W1)
          cases hg : kSs f n 59 (kYr f n i c).1 with
          | inl e =>
            rw [hg] at st row
            refine Or.inl ⟨Sum.inl e, st, ?_⟩
            refine first _ _ _ (row _ (fun t t1 t2 t3 => ?_))
            show jo (kYbd (((k + 1 : Nat) : Int), t)) _
            unfold kYbd
            dsimp only
            rw [kMz_g t1, kOkz_l, jsb, if_pos rfl]
            exact kYft t1 t3
          | inr j =>
            obtain ⟨v1, v2, v3⟩ := kYr_in b5 hin c4' hg
            rw [hg] at st row
            refine Or.inr ⟨(k + 1, j, (kYr f n i c).2), st, by show n - j < n - i; omega, ?_⟩
            refine first _ _ _ (row _ (fun t t1 t2 t3 => ?_))
            exact ⟨rfl, by show k + 1 ≤ 60; omega, t1, t2, v1, t3⟩
  · refine Or.inl ⟨Sum.inr c, by unfold kYst; dsimp only; rw [if_pos c1], ?_⟩
    refine jo_c (sl_197 b3.1) (fun r1 hr1 => ?_)
    obtain ⟨p1, p2, p3⟩ := hr1
    have hf5 : ja r1.2 67 5 = -1 := by rw [ja_fr p3 (by unfold jW_198; omega)]; exact b3.2
    have e : ja (js r1.2 67 8 (-1)) 67 5 = -1 := by rw [ja_jsj (by decide)]; exact hf5
    have C1 : kCm (js r1.2 67 8 (-1)) 20 70 c := kCm_fr2 (W := fun k j => jW_198 k j ∨ (k = 67 ∧ j = 8)) (b := true) b4 (jfr_js (jfr_t jfr_r p3 (fun e => e) (fun k j h => Or.inl h)) (Or.inr ⟨rfl, rfl⟩)) (fun k j h => by unfold jW_198 at h; omega)
    rw [p1, if_neg c1, if_pos rfl, sp_212y hf5, jsb, e, if_pos rfl]
    refine jo_c (jo_c (sl_189 b5 C1) (fun r hr => hr)) (fun r hr => ?_)
    refine ⟨?_, ?_, hr.1, jfr_t (jfr_js (jfr_t (jfr_t jfr_r b6 (fun e => e) (fun k j h => Or.inl h)) p3 (fun e => e) (fun k j h => Or.inl (W8 k j h))) (Or.inl (by unfold kWym; omega))) hr.2 (fun e => e) (fun k j h => Or.inr h)⟩
    · show ja r1.2 67 23 = _
      rw [ja_fr p3 (by unfold jW_198; omega)]; exact b4.1 3 (by decide)
    · show ja r 67 8 = -1
      rw [ja_fr hr.2 (by unfold jW_189; omega), ja_js1]; exact wm1
