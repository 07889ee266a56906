/-! CITY: the readers' loops. -/
abbrev kYsta : Type := Nat × Nat × kC
abbrev kYres : Type := (Int × Nat) ⊕ kC
def kYe (z : kFS) (c : kC) (k : Nat) : kYres ⊕ kYsta := match z with
  | Sum.inl e => Sum.inl (Sum.inl e)
  | Sum.inr j => Sum.inr (k + 1, j, c)
def kYw (f : Nat → Int) (n i : Nat) : Int := kW1 f (kSkp f n i) (kLe f n i)
def kYr (f : Nat → Int) (n i : Nat) (c : kC) : kFS × kC := kRow f n (kYw f n i) (Sum.inr (kLe f n i)) c
def kYst (f : Nat → Int) (n : Nat) (s : kYsta) : kYres ⊕ kYsta :=
  if ¬ kSkp f n s.2.1 < n then Sum.inl (Sum.inr s.2.2)
  else if kYw f n s.2.1 = -1 then Sum.inl (Sum.inl (1, kSkp f n s.2.1))
  else if s.1 = 60 ∨ kFl s.2.2 (kYw f n s.2.1) = true then Sum.inl (Sum.inl (3, kSkp f n s.2.1))
  else kYe (kSs f n 59 (kYr f n s.2.1 s.2.2).1) (kYr f n s.2.1 s.2.2).2 s.1
theorem kLe_2 {f : Nat → Int} {n i : Nat} : kLe f n (kSkp f n i) = kLe f n i := by unfold kLe; rw [kSkp_2]
theorem kLe_le {f : Nat → Int} {n i : Nat} (h : i ≤ n) : kLe f n i ≤ n := kWh_le (kSkp_le h)
theorem kLe_ge {f : Nat → Int} {n i : Nat} : kSkp f n i ≤ kLe f n i := kWh_ge
theorem sl_117w {m : jm} {f : Nat → Int} {n i : Nat} (H : kTc m f n (kSkp f n i)) : jo (jf_117 1 m) (fun b => (b.1 = kYw f n i ∧ kTc b.2 f n (kLe f n i) ∧ ja b.2 1 4 = (kSkp f n i : Int) ∧ (kYw f n i = -1 → ja b.2 1 5 = 1 ∧ ja b.2 1 6 = (kSkp f n i : Int)) ∧ (kYw f n i ≠ -1 → ja b.2 1 5 = ja m 1 5 ∧ ja b.2 1 6 = ja m 1 6)) ∧ jfr true jW_117 m b.2) := by
  refine jo_and ?_ jx_117
  obtain ⟨r, r1, r2⟩ := sl_117 (s := 1) (L := 24) H rfl (by decide)
  rw [kSkp_2, kLe_2] at r1 r2
  rw [kW1_r] at r1
  cases r1
  exact r2
/-- a row and its sign go on -/
theorem kYr_in {f : Nat → Int} {n i j : Nat} {c : kC} (hv : kV c) (hi : i ≤ n) (hn : kFl c (kYw f n i) = false) (h : kSs f n 59 (kYr f n i c).1 = Sum.inr j) : kV (kYr f n i c).2 ∧ i < j ∧ j ≤ n := by
  obtain ⟨k, h1, h2, h3⟩ := kSs_in h
  obtain ⟨v, a, e, h4, -⟩ := kV_row hv hn h1
  cases e
  have := kLe_ge (f := f) (n := n) (i := i)
  have := kSkp_ge (f := f) (n := n) (i := i)
  exact ⟨v, by omega, h3⟩
def kYrc (m : jm) (f : Nat → Int) (n : Nat) (a : Int × jm) (s : kYsta) : Prop := a.1 = s.1 ∧ s.1 ≤ 60 ∧ kTc a.2 f n s.2.1 ∧ kCc a.2 15 s.2.2 ∧ kV s.2.2 ∧ ja a.2 1 6 = ja m 1 6 ∧ jfr true jW_11 m a.2
def kYqc (m : jm) (b : Int × jm) (r : kYres) : Prop := jfr true jW_11 m b.2 ∧ match r with
  | Sum.inl e => b.1 = 0 ∧ ja b.2 1 5 = e.1 ∧ ja b.2 1 6 = (e.2 : Int) ∧ e.2 ≤ 600
  | Sum.inr c => b.1 = 1 ∧ kCc b.2 15 c ∧ kV c ∧ ja b.2 1 6 = ja m 1 6
theorem kCc_fr {b : Bool} {W : Nat → Nat → Prop} {m m' : jm} {c : kC} (H : kCc m 15 c) (h : jfr b W m m') (hz : ∀ k j, W k j → ¬ (15 ≤ k ∧ k ≤ 26)) : kCc m' 15 c := ⟨fun i hi => by rw [ja_fr h (fun e => hz _ _ e (by omega))]; exact H.1 i hi, fun k i hk hi => by rw [ja_fr h (fun e => hz _ _ e (by omega))]; exact H.2 k i hk hi⟩
def kYwl (k j : Nat) : Bool := decide (k = 15 ∧ j ≤ 3) || decide (k = 1 ∧ 3 ≤ j ∧ j ≤ 6) || decide (16 ≤ k ∧ k ≤ 26)
theorem jW_11_i {k j : Nat} (h : kYwl k j = true) : jW_11 k j := by
  unfold kYwl at h
  rw [Bool.or_eq_true, Bool.or_eq_true, decide_eq_true_eq, decide_eq_true_eq, decide_eq_true_eq] at h
  unfold jW_11
  rcases h with (⟨rfl, h⟩ | ⟨rfl, h1, h2⟩) | ⟨h1, h2⟩
  · have : j = 0 ∨ j = 1 ∨ j = 2 ∨ j = 3 := by omega
    rcases this with rfl | rfl | rfl | rfl <;> simp
  · have : j = 3 ∨ j = 4 ∨ j = 5 ∨ j = 6 := by omega
    rcases this with rfl | rfl | rfl | rfl <;> simp
  · have : k = 16 ∨ k = 17 ∨ k = 18 ∨ k = 19 ∨ k = 20 ∨ k = 21 ∨ k = 22 ∨ k = 23 ∨ k = 24 ∨ k = 25 ∨ k = 26 := by omega
    rcases this with rfl | rfl | rfl | rfl | rfl | rfl | rfl | rfl | rfl | rfl | rfl <;> simp
theorem jW_13i {k j : Nat} (h : jW_13 k j) : jW_11 k j := by
  refine jW_11_i ?_
  unfold jW_13 at h
  unfold kYwl
  rcases h with ⟨rfl, rfl⟩ | ⟨rfl, rfl⟩ | ⟨rfl, rfl⟩ | ⟨rfl, rfl⟩ | rfl | ⟨rfl, rfl⟩ | rfl | rfl | rfl | ⟨rfl, rfl⟩ | rfl | rfl | rfl | ⟨rfl, rfl⟩ | rfl | rfl | rfl | rfl | ⟨rfl, rfl⟩ <;> simp
theorem sl_11 {m : jm} {f : Nat → Int} {n : Nat} (H : kTc m f n 0) : ∃ r, kRun (kYst f n) jfu ((0 : Nat), (0 : Nat), fun _ _ => (0 : Nat)) = some r ∧ jo (jf_11 m) (fun b => kYqc m b r) := by
  unfold jf_11
  rw [jle_eq, jle_eq, jle_eq, jle_eq]
  have hn6 := H.1.1
  have W6 : ∀ k j, jW_116 k j → jW_11 k j := fun k j h => jW_11_i (by unfold jW_116 at h; unfold kYwl; simp [h])
  have W7 : ∀ k j, jW_117 k j → jW_11 k j := fun k j h => jW_11_i (by unfold jW_117 at h; unfold kYwl; rcases h with ⟨rfl, rfl⟩ | ⟨rfl, rfl⟩ | ⟨rfl, rfl⟩ | ⟨rfl, rfl⟩ <;> simp)
  have W13 : ∀ k j, jW_13 k j → jW_11 k j := fun k j h => jW_13i h
  have W123 : ∀ k j, jW_123 k j → jW_11 k j := fun k j h => jW_11_i (by unfold jW_123 at h; unfold kYwl; rcases h with ⟨rfl, rfl⟩ | ⟨rfl, rfl⟩ | ⟨rfl, rfl⟩ <;> simp)
  have h0 : kYrc m f n ((0 : Int), js (js (js (js m 15 0 0) 15 1 0) 15 2 0) 15 3 0) ((0 : Nat), (0 : Nat), fun _ _ => (0 : Nat)) := by
    refine ⟨rfl, by decide, kTc_js (kTc_js (kTc_js (kTc_js H (by omega)) (by omega)) (by omega)) (by omega), ⟨fun i hi => ?_, fun k i hk hi => ?_⟩, kV_0, ?_, ?_⟩
    · show ja (js (js (js (js m 15 0 0) 15 1 0) 15 2 0) 15 3 0) 15 i = 0
      have : i = 0 ∨ i = 1 ∨ i = 2 ∨ i = 3 := by omega
      rcases this with rfl | rfl | rfl | rfl
      · rw [ja_jsj (by decide), ja_jsj (by decide), ja_jsj (by decide), ja_js1]; exact wz0
      · rw [ja_jsj (by decide), ja_jsj (by decide), ja_js1]; exact wz0
      · rw [ja_jsj (by decide), ja_js1]; exact wz0
      · rw [ja_js1]; exact wz0
    · rw [kN_0] at hi; exact absurd hi (Nat.not_lt_zero _)
    · show ja (js (js (js (js m 15 0 0) 15 1 0) 15 2 0) 15 3 0) 1 6 = _
      rw [ja_jsk (by decide), ja_jsk (by decide), ja_jsk (by decide), ja_jsk (by decide)]
    · exact jfr_js (jfr_js (jfr_js (jfr_js jfr_r (jW_11_i rfl)) (jW_11_i rfl)) (jW_11_i rfl)) (jW_11_i rfl)
  refine jo_run (kYrc m f n) (fun s => n - s.2.1) (Q := kYqc m) (fun a s hs => ?_) jfu _ _ (jfu_lt (by show n - 0 < 4000000; omega)) h0
  obtain ⟨k, i, c⟩ := s
  obtain ⟨x, M⟩ := a
  obtain ⟨b1, b2, b3, b4, b5, b6, b7⟩ := hs
  dsimp only at b1 b2 b3 b4 b5 b6 b7
  have hin := b3.1.2.1
  have hsk := kSkp_le (f := f) hin
  dsimp only
  rw [b1, if_neg (show ¬ 60 < (k : Int) by omega)]
  by_cases c1 : kSkp f n i < n
  · have hb := b3.1.2.2 _ c1
    have first : ∀ (P : (Int × jm) ⊕ (Int × jm) → Prop) (F : Int × jm → Option ((Int × jm) ⊕ (Int × jm))), (∀ r : Int × jm, r.1 = kYw f n i → kTc r.2 f n (kLe f n i) → ja r.2 1 4 = (kSkp f n i : Int) → (kYw f n i = -1 → ja r.2 1 5 = 1 ∧ ja r.2 1 6 = (kSkp f n i : Int)) → (kYw f n i ≠ -1 → ja r.2 1 6 = ja m 1 6) → kCc r.2 15 c → jfr true jW_11 m r.2 → jo (F r) P) → jo ((jf_116 M).bind fun p9 => if p9.1 = -1 then some (Sum.inr (1, p9.2)) else (jf_117 1 p9.2).bind F) P := fun P F hF => by
      refine jo_c (sl_116 b3) (fun r hr => ?_)
      obtain ⟨p1, p2, p3⟩ := hr
      rw [p1, if_pos c1, if_neg (by omega)]
      refine jo_c (sl_117w p2) (fun r2 hr2 => ?_)
      obtain ⟨⟨q1, q2, q3, q4, q5⟩, q6⟩ := hr2
      refine hF r2 q1 q2 q3 q4 (fun z => ?_) ?_ (jfr_t (jfr_t b7 p3 (fun e => e) W6) q6 (fun e => e) W7)
      · rw [(q5 z).2, ja_fr p3 (by unfold jW_116; omega)]; exact b6
      · exact kCc_fr (kCc_fr b4 p3 (fun k j h => by unfold jW_116 at h; omega)) q6 (fun k j h => by unfold jW_117 at h; omega)
    by_cases c2 : kYw f n i = -1
    · refine Or.inl ⟨Sum.inl (1, kSkp f n i), by unfold kYst; dsimp only; rw [if_neg (fun z => z c1), if_pos c2], ?_⟩
      refine first _ _ (fun r e1 e2 e3 e4 e5 e6 e7 => ?_)
      rw [e1, if_pos c2]
      exact ⟨e7, rfl, (e4 c2).1, (e4 c2).2, by omega⟩
    · have full : (k = 60 ∨ kFl c (kYw f n i) = true) → ∃ r, kYst f n (k, i, c) = Sum.inl r ∧ r = Sum.inl (3, kSkp f n i) := fun hz => ⟨_, by unfold kYst; dsimp only; rw [if_neg (fun z => z c1), if_neg c2, if_pos hz], rfl⟩
      have tooM : ∀ r : Int × jm, ja r.2 1 4 = (kSkp f n i : Int) → jfr true jW_11 m r.2 → jo ((jf_120 3 (ja r.2 1 4) r.2).bind fun p11 => some (Sum.inr (α := Int × jm) (p11.1, p11.2))) (jcase (fun (_ : Int × jm) => False) (fun b => kYqc m b (Sum.inl (3, kSkp f n i)))) := fun r e3 e7 => by
        rw [sp_120, jsb, e3]
        refine ⟨jfr_js (jfr_js e7 (jW_11_i rfl)) (jW_11_i rfl), rfl, ?_, ?_, by show kSkp f n i ≤ 600; omega⟩
        · show ja (js (js r.2 1 5 3) 1 6 _) 1 5 = 3
          rw [ja_jsj (by decide), ja_js1]; exact jwi (by decide) (by decide)
        · show ja (js (js r.2 1 5 3) 1 6 _) 1 6 = (kSkp f n i : Int)
          rw [ja_js1, jwi (by omega) (by omega)]
      by_cases c3 : k = 60
      · obtain ⟨r, y1, rfl⟩ := full (Or.inl c3)
        refine Or.inl ⟨_, y1, ?_⟩
        refine first _ _ (fun r e1 e2 e3 e4 e5 e6 e7 => ?_)
        rw [e1, if_neg c2, if_pos (show (k : Int) = 60 by omega)]
        exact tooM r e3 e7
      · by_cases c4 : kFl c (kYw f n i) = true
        · obtain ⟨r, y1, rfl⟩ := full (Or.inr c4)
          refine Or.inl ⟨_, y1, ?_⟩
          refine first _ _ (fun r e1 e2 e3 e4 e5 e6 e7 => ?_)
          rw [e1, if_neg c2, if_neg (show ¬ (k : Int) = 60 by omega), sp_12 e6, jsb, c4]
          show jo (if (1 : Int) = 0 then _ else _) _
          rw [if_neg Int.one_ne_zero]
          exact tooM r e3 e7
        · have c4' : kFl c (kYw f n i) = false := by simpa using c4
          have st : kYst f n (k, i, c) = kYe (kSs f n 59 (kYr f n i c).1) (kYr f n i c).2 k := by unfold kYst; dsimp only; rw [if_neg (fun z => z c1), if_neg c2, if_neg (fun z => z.elim c3 c4)]
          have row : ∀ (P : (Int × jm) ⊕ (Int × jm) → Prop), (∀ (r r2 : Int × jm), kOc2 r.2 f n (kYr f n i c).1 (kYr f n i c).2 r2 → ja r.2 1 6 = ja m 1 6 → jfr true jW_11 m r2.2 → jo (if r2.1 = 0 then some (Sum.inr (0, r2.2)) else (jf_123 59 r2.2).bind fun p14 => if p14.1 = 0 then some (Sum.inr (0, p14.2)) else some (Sum.inl (jw ((k : Int) + 1), p14.2))) P) → jo ((jf_116 M).bind fun p9 => if p9.1 = -1 then some (Sum.inr (1, p9.2)) else (jf_117 1 p9.2).bind fun p10 => if p10.1 = -1 then some (Sum.inr (0, p10.2)) else if (k : Int) = 60 then (jf_120 3 (ja p10.2 1 4) p10.2).bind fun p11 => some (Sum.inr (p11.1, p11.2)) else (jf_12 p10.1 p10.2).bind fun p12 => if p12 = 0 then (jf_13 p10.1 p10.2).bind fun p13 => if p13.1 = 0 then some (Sum.inr (0, p13.2)) else (jf_123 59 p13.2).bind fun p14 => if p14.1 = 0 then some (Sum.inr (0, p14.2)) else some (Sum.inl (jw ((k : Int) + 1), p14.2)) else (jf_120 3 (ja p10.2 1 4) p10.2).bind fun p15 => some (Sum.inr (p15.1, p15.2))) P := fun P hP => by
            refine first _ _ (fun r e1 e2 e3 e4 e5 e6 e7 => ?_)
            rw [e1, if_neg c2, if_neg (show ¬ (k : Int) = 60 by omega), sp_12 e6, jsb, c4']
            show jo (if (0 : Int) = 0 then _ else _) _
            rw [if_pos rfl]
            refine jo_c (sl_13 e2 e6 b5.1.1 c4') (fun r2 hr2 => ?_)
            exact hP r r2 hr2.1 (e5 c2) (jfr_t e7 hr2.2 (fun e => e) W13)
          cases hr : (kYr f n i c).1 with
          | inl e =>
            rw [hr] at st
            refine Or.inl ⟨Sum.inl e, st, ?_⟩
            refine row _ (fun r r2 o1 o2 o3 => ?_)
            rw [hr] at o1
            obtain ⟨o4, o5, o6, o7⟩ := o1
            rw [o4, if_pos rfl]
            exact ⟨o3, rfl, o5, o6, o7⟩
          | inr j =>
            cases hg : kSs f n 59 (Sum.inr j) with
            | inl e =>
              rw [hr, hg] at st
              refine Or.inl ⟨Sum.inl e, st, ?_⟩
              refine row _ (fun r r2 o1 o2 o3 => ?_)
              rw [hr] at o1
              obtain ⟨o4, o5, o6, o7⟩ := o1
              rw [o4, if_neg Int.one_ne_zero]
              refine cl_sig o5 (by decide) (fun r3 u1 u2 u3 u4 u5 u6 => ?_) (fun r3 u1 u2 u3 u4 u5 => ?_)
              · rw [hg] at u1; cases u1
                rw [u2, if_pos rfl]
                exact ⟨jfr_t o3 u6 (fun e => e) W123, rfl, u3, u4, u5⟩
              · rw [hg] at u1; cases u1
            | inr j' =>
              have st' := st
              rw [hr, hg] at st'
              obtain ⟨v1, v2, v3⟩ := kYr_in b5 hin c4' (show kSs f n 59 (kYr f n i c).1 = Sum.inr j' by rw [hr]; exact hg)
              refine Or.inr ⟨(k + 1, j', (kYr f n i c).2), st', by show n - j' < n - i; omega, ?_⟩
              refine row _ (fun r r2 o1 o2 o3 => ?_)
              rw [hr] at o1
              obtain ⟨o4, o5, o6, o7⟩ := o1
              rw [o4, if_neg Int.one_ne_zero]
              refine cl_sig o5 (by decide) (fun r3 u1 u2 u3 u4 u5 u6 => ?_) (fun r3 u1 u2 u3 u4 u5 => ?_)
              · rw [hg] at u1; cases u1
              · rw [hg] at u1; cases u1
                rw [u2, if_neg Int.one_ne_zero, jwn (by omega)]
                exact ⟨rfl, by show k + 1 ≤ 60; omega, u3, kCc_fr o6 u5 (fun k j h => by unfold jW_123 at h; omega), v1, by show ja r3.2 1 6 = _; rw [u4, o7]; exact o2, jfr_t o3 u5 (fun e => e) W123⟩
  · refine Or.inl ⟨Sum.inr c, by unfold kYst; dsimp only; rw [if_pos c1], ?_⟩
    refine jo_c (sl_116 b3) (fun r hr => ?_)
    obtain ⟨p1, p2, p3⟩ := hr
    rw [p1, if_neg c1, if_pos rfl]
    exact ⟨jfr_t b7 p3 (fun e => e) W6, rfl, kCc_fr b4 p3 (fun k j h => by unfold jW_116 at h; omega), b5, by show ja r.2 1 6 = _; rw [ja_fr p3 (by unfold jW_116; omega)]; exact b6⟩
