/-! LAW: what the pure reader tells is a law; the class follows it. -/
theorem kSs_f {f : Nat → Int} {n i : Nat} {x : Int} {e : Int × Nat} (hi : i ≤ n) (h : kSs f n x (Sum.inr i) = Sum.inl e) : e.2 ≤ n := by
  cases hb : kGb f n i x with
  | false => rw [kSs_n hb] at h; cases h; exact kSkp_le hi
  | true => rw [kSs_y hb] at h; cases h
theorem kNs_f {f : Nat → Int} {n i : Nat} {lo hi : Int} {e : Int × Nat} (hi' : i ≤ n) (h : (kNs f n lo hi (Sum.inr i)).1 = Sum.inl e) : e.2 ≤ n := by
  cases hb : kNb f n i lo hi with
  | false => rw [kNs_n hb] at h; cases h; exact kSkp_le hi'
  | true => rw [kNs_y hb] at h; cases h
theorem kWi_cs {f : Nat → Int} {s i j : Nat} : ∀ (w : List (Nat × Nat)) (k : Nat), kWi f s i j w k = -1 ∨ ((k : Int) ≤ kWi f s i j w k ∧ kWi f s i j w k < (k : Int) + w.length ∧ ∃ x ∈ w, x.2 - x.1 = j - i)
  | [], k => Or.inl rfl
  | w :: r, k => by
    show (if kWq f s w.1 w.2 i j = true then (k : Int) else kWi f s i j r (k + 1)) = -1 ∨ ((k : Int) ≤ (if kWq f s w.1 w.2 i j = true then (k : Int) else kWi f s i j r (k + 1)) ∧ (if kWq f s w.1 w.2 i j = true then (k : Int) else kWi f s i j r (k + 1)) < (k : Int) + ((r.length + 1 : Nat) : Int) ∧ ∃ x ∈ w :: r, x.2 - x.1 = j - i)
    by_cases q : kWq f s w.1 w.2 i j = true
    · rw [if_pos q]
      exact Or.inr ⟨Int.le_refl _, by omega, w, List.mem_cons_self, (kWq_i.1 q).1⟩
    · rw [if_neg q]
      rcases kWi_cs (f := f) (s := s) (i := i) (j := j) r (k + 1) with h | ⟨h1, h2, x, h3, h4⟩
      · exact Or.inl h
      · exact Or.inr ⟨by omega, by omega, x, List.mem_cons_of_mem _ h3, h4⟩
theorem kLw_p : ∀ x ∈ kLw, x.1 < x.2 := by decide +kernel
theorem kU2_cs {f : Nat → Int} {n i : Nat} : kU2 f n i = -1 ∨ (0 ≤ kU2 f n i ∧ kU2 f n i ≤ 10 ∧ kSkp f n i < kLe f n i) := by
  rcases kWi_cs (f := f) (s := 2) (i := kSkp f n i) (j := kLe f n i) kLw 0 with h | ⟨h1, h2, x, h3, h4⟩
  · exact Or.inl h
  · have := kLw_p x h3
    have h2' : kU2 f n i < (0 : Int) + ((11 : Nat) : Int) := h2
    exact Or.inr ⟨h1, by omega, by omega⟩
theorem kUni_gd {f : Nat → Int} {n B : Nat} {full : Bool} {S : qLs → qLs} (hB : B ≤ 20) (hS : full = false → qGd n (B + 1) S) : qGd n B (kUni f n full S) := by
  refine ⟨fun e l => rfl, fun i l hi => ?_⟩
  have h1 := kSkp_le (f := f) hi
  have h2 := kSkp_ge (f := f) (n := n) (i := i)
  have h3 := kLe_le (f := f) hi
  unfold kUni
  dsimp only
  by_cases d : kDb f n i = true
  · rw [if_pos d]
    cases hz : (kNs f n 0 999 (Sum.inr i)).1 with
    | inl e => exact kNs_f hi hz
    | inr j =>
      obtain ⟨i', a1, -, a3, a4, a5, a6⟩ := kNs_in hz
      cases a1
      exact ⟨a5, a6 hi, by show (l ++ [(kNs f n 0 999 (Sum.inr i)).2]).length + i ≤ l.length + j; rw [List.length_append, List.length_singleton]; omega, _, rfl, kLg_v hB (Or.inl ⟨a3, a4⟩)⟩
  · rw [if_neg d]
    by_cases g : kGb f n i 40 = true
    · rw [if_pos g]
      cases full with
      | true => rw [if_pos rfl]; exact h1
      | false =>
        rw [if_neg (by simp)]
        have hl := kGb_l g
        have s := (hS rfl).2 (kSkp f n i + 1) l (by omega)
        unfold qGr at s
        cases hz : (S (Sum.inr (kSkp f n i + 1), l)).1 with
        | inl e =>
          rw [hz] at s
          unfold kSx qGr
          rw [hz]; exact s
        | inr j =>
          rw [hz] at s
          obtain ⟨a1, a2, a3, x, a4, a5⟩ := s
          unfold kSx qGr
          rw [hz]
          cases hg : kSs f n 41 (Sum.inr j) with
          | inl e => exact kSs_f a2 hg
          | inr k =>
            obtain ⟨j', b1, b2, b3⟩ := kSs_in hg
            cases b1
            exact ⟨by omega, b3, by show (S (Sum.inr (kSkp f n i + 1), l)).2.length + i ≤ l.length + k; omega, x, a4, kLg_m a5 (by omega)⟩
    · rw [if_neg g]
      rcases kU2_cs (f := f) (n := n) (i := i) with u | ⟨u1, u2, u3⟩
      · rw [if_pos u]; exact h1
      · rw [if_neg (by omega)]
        by_cases u9 : kU2 f n i < 9
        · rw [if_pos u9]
          exact ⟨by omega, h3, by show (l ++ [1000 + kU2 f n i]).length + i ≤ l.length + kLe f n i; rw [List.length_append, List.length_singleton]; omega, _, rfl, kLg_v hB (Or.inr (by omega))⟩
        · rw [if_neg u9]
          cases full with
          | true => rw [if_pos rfl]; exact h1
          | false =>
            rw [if_neg (by simp)]
            unfold kCho
            have hc : 2000 ≤ (if kU2 f n i = 9 then (2004 : Int) else 2005) ∧ (if kU2 f n i = 9 then (2004 : Int) else 2005) ≤ 2005 := by split <;> omega
            generalize (if kU2 f n i = 9 then (2004 : Int) else 2005) = c at hc
            have e0 : kSx f n 91 (Sum.inr (kLe f n i), l) = (kSs f n 91 (Sum.inr (kLe f n i)), l) := rfl
            rw [e0]
            cases hg : kSs f n 91 (Sum.inr (kLe f n i)) with
            | inl e =>
              rw [(hS rfl).1 e l, show kSx f n 44 (Sum.inl e, l) = (Sum.inl e, l) from rfl, (hS rfl).1 e l]
              exact kSs_f h3 hg
            | inr p =>
              obtain ⟨p', b1, b2, b3⟩ := kSs_in hg
              cases b1
              have s := (hS rfl).2 p l b3
              unfold qGr at s
              cases hz : (S (Sum.inr p, l)).1 with
              | inl e =>
                rw [hz] at s
                have e1 : kSx f n 44 (S (Sum.inr p, l)) = (Sum.inl e, (S (Sum.inr p, l)).2) := by unfold kSx; rw [hz]; rfl
                rw [e1, (hS rfl).1]
                exact s
              | inr j =>
                rw [hz] at s
                obtain ⟨a1, a2, a3, x, a4, a5⟩ := s
                have e1 : kSx f n 44 (S (Sum.inr p, l)) = (kSs f n 44 (Sum.inr j), l ++ x) := by unfold kSx; rw [hz, a4]
                rw [e1]
                rw [a4, List.length_append] at a3
                cases hg2 : kSs f n 44 (Sum.inr j) with
                | inl e => rw [(hS rfl).1]; exact kSs_f a2 hg2
                | inr q =>
                  obtain ⟨q', d1, d2, d3⟩ := kSs_in hg2
                  cases d1
                  have s := (hS rfl).2 q (l ++ x) d3
                  unfold qGr at s
                  cases hz2 : (S (Sum.inr q, l ++ x)).1 with
                  | inl e =>
                    rw [hz2] at s
                    have e2 : kSx f n 93 (S (Sum.inr q, l ++ x)) = (Sum.inl e, (S (Sum.inr q, l ++ x)).2) := by unfold kSx; rw [hz2]; rfl
                    rw [e2]
                    exact s
                  | inr k =>
                    rw [hz2] at s
                    obtain ⟨m1, m2, m3, y, m4, m5⟩ := s
                    have e2 : kSx f n 93 (S (Sum.inr q, l ++ x)) = (kSs f n 93 (Sum.inr k), l ++ x ++ y) := by unfold kSx; rw [hz2, m4]
                    rw [e2]
                    rw [m4, List.length_append, List.length_append] at m3
                    cases hg3 : kSs f n 93 (Sum.inr k) with
                    | inl e => exact kSs_f m2 hg3
                    | inr w =>
                      obtain ⟨w', v1, v2, v3⟩ := kSs_in hg3
                      cases v1
                      refine ⟨by omega, v3, ?_, x ++ y ++ [c], ?_, kLg_op (kLg_m a5 (by omega)) m5 hc⟩
                      · show (l ++ x ++ y ++ [c]).length + i ≤ l.length + w
                        simp only [List.length_append, List.length_singleton]
                        omega
                      · show l ++ x ++ y ++ [c] = l ++ (x ++ y ++ [c])
                        simp only [List.append_assoc]
theorem kUn_gd {f : Nat → Int} {n : Nat} (hn : n ≤ 600) : ∀ D o, D + o = 6 → qGd n (3 * o + 2) (kUn f n D)
  | 0, o, h => kUni_gd (by omega) (fun e => by cases e)
  | D + 1, o, h => kUni_gd (by omega) (fun _ => qSu_gd hn (qGd_m (kUn_gd hn D (o + 1) (by omega)) (by omega)))
/-! the class -/
def qCd (m : jm) (l : List Int) : Prop := ja m 30 1 = (l.length : Int) ∧ ∀ t, t < l.length → ja m 31 t = l.getD t 0
theorem qCd_fr {b : Bool} {W : Nat → Nat → Prop} {m m' : jm} {l : List Int} (H : qCd m l) (h : jfr b W m m') (hz : ∀ k j, W k j → ¬ (k = 31 ∨ (k = 30 ∧ j = 1))) : qCd m' l := ⟨by rw [ja_fr h (fun e => hz _ _ e (by omega))]; exact H.1, fun t ht => by rw [ja_fr h (fun e => hz _ _ e (by omega))]; exact H.2 t ht⟩
theorem kGetD_a {l : List Int} {x : Int} {t : Nat} (h : t < l.length) : (l ++ [x]).getD t 0 = l.getD t 0 := by
  rw [List.getD_eq_getElem?_getD, List.getElem?_append_left h, ← List.getD_eq_getElem?_getD]
theorem kGetD_e {l : List Int} {x : Int} : (l ++ [x]).getD l.length 0 = x := by
  rw [List.getD_eq_getElem?_getD, List.getElem?_append_right (Nat.le_refl _), Nat.sub_self]; rfl
theorem sl_30 {m : jm} {l : List Int} {x : Int} (H : qCd m l) (hl : l.length < 150) (hx : jg x) : jo (jf_30 x m) (fun r => qCd r (l ++ [x]) ∧ jfr true jW_30 m r) := by
  refine jo_and ?_ jx_30
  unfold jf_30
  rw [H.1, if_pos (show (l.length : Int) < 150 by omega), if_pos (by omega), Int.toNat_natCast, jle_eq, ja_jsk (show (30 : Nat) ≠ 31 by decide), H.1, jle_eq, jwn (by omega), jsb]
  refine ⟨?_, fun t ht => ?_⟩
  · rw [ja_js1, List.length_append, List.length_singleton, jwi (by omega) (by omega)]
  · rw [List.length_append, List.length_singleton] at ht
    rw [ja_jsk (by decide)]
    by_cases e : t = l.length
    · rw [e, ja_js1, kGetD_e]; exact jw_id hx
    · rw [ja_jsj e, kGetD_a (by omega)]; exact H.2 t (by omega)
def kOl (m : jm) (f : Nat → Int) (n : Nat) (z : qLs) (r : Int × jm) : Prop := match z.1 with
  | Sum.inl e => r.1 = 0 ∧ ja r.2 1 5 = e.1 ∧ ja r.2 1 6 = (e.2 : Int) ∧ e.2 ≤ 600
  | Sum.inr j => r.1 = 1 ∧ kTc r.2 f n j ∧ qCd r.2 z.2 ∧ ja r.2 1 6 = ja m 1 6
def qSpc (f : Nat → Int) (n : Nat) (g : jm → Option (Int × jm)) (P : qLs → qLs) : Prop := ∀ m i l, kTc m f n i → qCd m l → l.length ≤ i → jo (g m) (fun r => kOl m f n (P (Sum.inr i, l)) r)
noncomputable def kLpb (g : jm → Option (Int × jm)) (x1 x2 c1 c2 : Int) (s2 : Int × jm) : Option ((Int × jm) ⊕ (Int × jm)) := if s2.1 < (150 : Int) then Option.bind (α := Int × jm) (jf_116 s2.2) fun p6 => if p6.1 = x1 then Option.bind (α := jm) (jf_124 p6.2) fun p7 => Option.bind (α := Int × jm) (g p7) fun p8 => if p8.1 = 0 then some (Sum.inr ((0 : Int), p8.2)) else Option.bind (α := Int) (if p6.1 = x1 then some (c1) else some (c2)) fun t9 => Option.bind (α := jm) (jf_30 t9 p8.2) fun p21 => some (Sum.inl (jw (s2.1 + 1), p21)) else if p6.1 = x2 then Option.bind (α := jm) (jf_124 p6.2) fun p23 => Option.bind (α := Int × jm) (g p23) fun p24 => if p24.1 = 0 then some (Sum.inr ((0 : Int), p24.2)) else Option.bind (α := Int) (if p6.1 = x1 then some (c1) else some (c2)) fun t25 => Option.bind (α := jm) (jf_30 t25 p24.2) fun p37 => some (Sum.inl (jw (s2.1 + 1), p37)) else some (Sum.inr ((1 : Int), p6.2)) else some (Sum.inr ((1 : Int), s2.2))
noncomputable def kLpc (g : jm → Option (Int × jm)) (x1 x2 c1 c2 : Int) (m : jm) : Option (Int × jm) := Option.bind (α := Int × jm) (g m) fun p1 => if p1.1 = 0 then some ((0 : Int), p1.2) else jlp (α := Int × jm) (β := Int × jm) (kLpb g x1 x2 c1 c2) jfu ((0 : Int), p1.2)
theorem jf_27_e {rec : Nat → Int → Int → jm → Option (Int × jm)} {a : Int} {m : jm} : jf_27 rec a m = kLpc (fun m => rec 1 a 0 m) 43 45 2000 2001 m := rfl
theorem jf_28_e {rec : Nat → Int → Int → jm → Option (Int × jm)} {a : Int} {m : jm} : jf_28 rec a m = kLpc (fun m => rec 2 a 0 m) 42 47 2002 2003 m := rfl
theorem sp_124 {m : jm} {f : Nat → Int} {n k : Nat} (H : kTc m f n k) (hk : k < n) : jf_124 m = some (js m 1 3 ((k + 1 : Nat) : Int)) ∧ kTc (js m 1 3 ((k + 1 : Nat) : Int)) f n (k + 1) := by
  have h6 := H.1.1
  refine ⟨?_, kTc_mv H (by omega)⟩
  unfold jf_124
  rw [H.2.2.2, H.2.2.1, if_pos (by omega), jle_eq, jsb, jwn (by omega)]
theorem kGb_v {f : Nat → Int} {n i : Nat} {x : Int} (h : kGb f n i x = true) : f (kSkp f n i) = x := (kGb_t h).2
theorem kLpc_sp {f : Nat → Int} {n B : Nat} {x1 x2 c1 c2 : Int} {g : jm → Option (Int × jm)} {U : qLs → qLs} (hn : n ≤ 150) (hU : qGd n (B + 1) U) (hg : qSpc f n g U) (hx1 : x1 ≠ -1) (hx2 : x2 ≠ -1) (hx : x1 ≠ x2) (hc1 : 2000 ≤ c1 ∧ c1 ≤ 2005) (hc2 : 2000 ≤ c2 ∧ c2 ≤ 2005) : qSpc f n (kLpc g x1 x2 c1 c2) (qLo f n x1 x2 c1 c2 U) := by
  intro m i l H hC hl
  have hi := H.1.2.1
  unfold kLpc
  refine jo_c (hg m i l H hC hl) (fun r hr => ?_)
  have gd := hU.2 i l hi
  unfold qGr at gd
  unfold kOl at hr
  unfold qLo
  cases hz : (U (Sum.inr i, l)).1 with
  | inl e =>
    rw [hz] at hr
    dsimp only
    rw [hr.1, if_pos rfl]
    unfold kOl
    rw [hz]
    exact ⟨rfl, hr.2⟩
  | inr j =>
    rw [hz] at hr gd
    obtain ⟨r1, r2, r3, r4⟩ := hr
    obtain ⟨a1, a2, a3, x, a4, a5⟩ := gd
    dsimp only
    rw [r1, if_neg Int.one_ne_zero]
    obtain ⟨z, z1, z2⟩ := jo_run (body := kLpb g x1 x2 c1 c2) (step := kLt2 f n x1 x2 c1 c2 U) (fun (a : Int × jm) (s : Nat × List Int) => ∃ t : Nat, a.1 = (t : Int) ∧ t < s.1 ∧ s.1 ≤ n ∧ s.2.length ≤ s.1 ∧ kTc a.2 f n s.1 ∧ qCd a.2 s.2 ∧ ja a.2 1 6 = ja m 1 6) (fun s => n - s.1) (Q := fun b z => kOl m f n z b) (fun a s hs => by
      obtain ⟨k, q⟩ := s
      obtain ⟨x, M⟩ := a
      obtain ⟨t, b1, b2, b3, b4, b5, b6, b7⟩ := hs
      dsimp only at b1 b2 b3 b4 b5 b6 b7
      have turn : ∀ (y c : Int) (p : jm), (2000 ≤ c ∧ c ≤ 2005) → kGb f n k y = true → kTc p f n (kSkp f n k) → qCd p q → ja p 1 6 = ja m 1 6 → (∃ r, kLf c (U (Sum.inr (kSkp f n k + 1), q)) = Sum.inl r ∧ jo (Option.bind (α := jm) (jf_124 p) fun p7 => Option.bind (α := Int × jm) (g p7) fun p8 => if p8.1 = 0 then some (Sum.inr ((0 : Int), p8.2)) else Option.bind (α := Int) (some c) fun t9 => Option.bind (α := jm) (jf_30 t9 p8.2) fun p21 => some (Sum.inl (jw ((t : Int) + 1), p21))) (jcase (fun (_ : Int × jm) => False) (fun b => kOl m f n r b))) ∨ (∃ s', kLf c (U (Sum.inr (kSkp f n k + 1), q)) = Sum.inr s' ∧ n - s'.1 < n - k ∧ jo (Option.bind (α := jm) (jf_124 p) fun p7 => Option.bind (α := Int × jm) (g p7) fun p8 => if p8.1 = 0 then some (Sum.inr ((0 : Int), p8.2)) else Option.bind (α := Int) (some c) fun t9 => Option.bind (α := jm) (jf_30 t9 p8.2) fun p21 => some (Sum.inl (jw ((t : Int) + 1), p21))) (jcase (fun (a' : Int × jm) => ∃ t : Nat, a'.1 = (t : Int) ∧ t < s'.1 ∧ s'.1 ≤ n ∧ s'.2.length ≤ s'.1 ∧ kTc a'.2 f n s'.1 ∧ qCd a'.2 s'.2 ∧ ja a'.2 1 6 = ja m 1 6) (fun _ => False))) := fun y c p hc hy hp hq h6 => by
        have hl2 := kGb_l hy
        obtain ⟨e1, e2⟩ := sp_124 hp hl2.2
        rw [e1, jsb]
        have hq2 : qCd (js p 1 3 ((kSkp f n k + 1 : Nat) : Int)) q := qCd_fr (W := fun a b => a = 1 ∧ b = 3) (b := true) hq (jfr_js jfr_r ⟨rfl, rfl⟩) (fun a b h => by omega)
        have h62 : ja (js p 1 3 ((kSkp f n k + 1 : Nat) : Int)) 1 6 = ja m 1 6 := by rw [ja_jsj (by decide)]; exact h6
        generalize js p 1 3 ((kSkp f n k + 1 : Nat) : Int) = p7 at *
        have sp := hg p7 (kSkp f n k + 1) q e2 hq2 (by omega)
        have gd := hU.2 (kSkp f n k + 1) q (by omega)
        unfold qGr at gd
        unfold kOl at sp
        unfold kLf
        cases hz : (U (Sum.inr (kSkp f n k + 1), q)).1 with
        | inl e =>
          rw [hz] at sp
          refine Or.inl ⟨_, rfl, jo_c sp (fun p8 h8 => ?_)⟩
          rw [h8.1, if_pos rfl]
          show kOl m f n (U (Sum.inr (kSkp f n k + 1), q)) _
          unfold kOl
          rw [hz]
          exact ⟨rfl, h8.2⟩
        | inr j =>
          rw [hz] at sp gd
          obtain ⟨a1, a2, a3, x, a4, a5⟩ := gd
          refine Or.inr ⟨_, rfl, by show n - j < n - k; omega, jo_c sp (fun p8 h8 => ?_)⟩
          obtain ⟨q1, q2, q3, q4⟩ := h8
          rw [q1, if_neg Int.one_ne_zero, jsb]
          refine jo_c (sl_30 q3 (by omega) ⟨by omega, by omega⟩) (fun p21 h21 => ?_)
          rw [jwn (by omega)]
          refine ⟨t + 1, rfl, by show t + 1 < j; omega, a2, ?_, kTc_fr q2 h21.2 (fun a b h => by unfold jW_30 at h; omega), h21.1, ?_⟩
          · show ((U (Sum.inr (kSkp f n k + 1), q)).2 ++ [c]).length ≤ j
            rw [List.length_append, List.length_singleton]; omega
          · show ja p21 1 6 = _
            rw [ja_fr h21.2 (by unfold jW_30; omega), q4]; exact h62
      unfold kLpb kLt2
      dsimp only
      rw [b1, if_pos (show (t : Int) < 150 by omega)]
      have look : ∀ (P : (Int × jm) ⊕ (Int × jm) → Prop) (F : Int × jm → Option ((Int × jm) ⊕ (Int × jm))), (∀ p6 : Int × jm, (p6.1 = if kSkp f n k < n then f (kSkp f n k) else -1) → kTc p6.2 f n (kSkp f n k) → qCd p6.2 q → ja p6.2 1 6 = ja m 1 6 → jo (F p6) P) → jo ((jf_116 M).bind F) P := fun P F hF => by
        refine jo_c (sl_116 b5) (fun p6 h6 => ?_)
        exact hF p6 h6.1 h6.2.1 (qCd_fr b6 h6.2.2 (fun a b h => by unfold jW_116 at h; omega)) (by rw [ja_fr h6.2.2 (by unfold jW_116; omega)]; exact b7)
      obtain ⟨p6, e6, p61, p62, p63, p64⟩ : ∃ p6 : Int × jm, jf_116 M = some p6 ∧ (p6.1 = if kSkp f n k < n then f (kSkp f n k) else -1) ∧ kTc p6.2 f n (kSkp f n k) ∧ qCd p6.2 q ∧ ja p6.2 1 6 = ja m 1 6 := by
        obtain ⟨p6, e6, h6⟩ := jo_ex.1 (sl_116 b5)
        exact ⟨p6, e6, h6.1, h6.2.1, qCd_fr b6 h6.2.2 (fun a b h => by unfold jW_116 at h; omega), by rw [ja_fr h6.2.2 (by unfold jW_116; omega)]; exact b7⟩
      rw [e6, jsb]
      by_cases g1 : kGb f n k x1 = true
      · rw [if_pos g1]
        have v : p6.1 = x1 := by rw [p61, if_pos (kGb_l g1).2]; exact kGb_v g1
        rw [if_pos v, if_pos v]
        exact turn x1 c1 p6.2 hc1 g1 p62 p63 p64
      · rw [if_neg g1]
        have v1 : ¬ p6.1 = x1 := fun z => g1 (by
          unfold kGb
          rw [p61] at z
          by_cases y : kSkp f n k < n
          · rw [if_pos y] at z; exact decide_eq_true ⟨y, z⟩
          · rw [if_neg y] at z; exact absurd z.symm hx1)
        rw [if_neg v1]
        by_cases g2 : kGb f n k x2 = true
        · rw [if_pos g2]
          have v : p6.1 = x2 := by rw [p61, if_pos (kGb_l g2).2]; exact kGb_v g2
          rw [if_pos v, if_neg v1]
          exact turn x2 c2 p6.2 hc2 g2 p62 p63 p64
        · rw [if_neg g2]
          have v2 : ¬ p6.1 = x2 := fun z => g2 (by
            unfold kGb
            rw [p61] at z
            by_cases y : kSkp f n k < n
            · rw [if_pos y] at z; exact decide_eq_true ⟨y, z⟩
            · rw [if_neg y] at z; exact absurd z.symm hx2)
          rw [if_neg v2]
          exact Or.inl ⟨_, rfl, rfl, p62, p63, p64⟩) jfu ((0 : Int), r.2) (j, (U (Sum.inr i, l)).2) (jfu_lt (by show n - j < 4000000; omega)) ⟨0, rfl, by show 0 < j; omega, a2, by show (U (Sum.inr i, l)).2.length ≤ j; omega, r2, r3, r4⟩
    rw [z1]
    exact z2
