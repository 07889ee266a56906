/-! LAW: units in the class. -/
theorem sl_122 {m : jm} {f : Nat → Int} {n i : Nat} (H : kTc m f n i) : jo (jf_122 m) (fun r => r.1 = b2i (kDb f n i) ∧ kTc r.2 f n (kSkp f n i) ∧ jfr true jW_116 m r.2) := by
  unfold jf_122
  refine jo_c (sl_116 H) (fun p hp => ?_)
  obtain ⟨p1, p2, p3⟩ := hp
  have e : (if p.1 < 48 then some (0 : Int) else if 57 < p.1 then some 0 else some 1) = some (b2i (kDb f n i)) := by
    rw [p1]
    unfold kDb b2i
    by_cases h : kSkp f n i < n
    · rw [if_pos h]
      by_cases d : 48 ≤ f (kSkp f n i) ∧ f (kSkp f n i) ≤ 57
      · rw [if_neg (by omega), if_neg (by omega), if_pos (decide_eq_true ⟨h, decide_eq_true d⟩)]
      · rw [if_neg (show ¬ decide (kSkp f n i < n ∧ kId f (kSkp f n i) = true) = true from fun z => d (of_decide_eq_true (of_decide_eq_true z).2))]
        by_cases d2 : f (kSkp f n i) < 48
        · rw [if_pos d2]
        · rw [if_neg d2, if_pos (by omega)]
    · rw [if_neg h, if_pos (by decide), if_neg (fun z => h (of_decide_eq_true z).1)]
  rw [e, jsb]
  exact ⟨rfl, p2, p3⟩
theorem sl_117u {m : jm} {f : Nat → Int} {n i : Nat} (H : kTc m f n (kSkp f n i)) : jo (jf_117 2 m) (fun b => (b.1 = kU2 f n i ∧ kTc b.2 f n (kLe f n i) ∧ ja b.2 1 4 = (kSkp f n i : Int) ∧ (kU2 f n i = -1 → ja b.2 1 5 = 1 ∧ ja b.2 1 6 = (kSkp f n i : Int)) ∧ (kU2 f n i ≠ -1 → ja b.2 1 5 = ja m 1 5 ∧ ja b.2 1 6 = ja m 1 6)) ∧ jfr true jW_117 m b.2) := by
  refine jo_and ?_ jx_117
  obtain ⟨r, r1, r2⟩ := sl_117 (s := 2) (L := 57) H rfl (by decide)
  rw [kSkp_2, kLe_2] at r1 r2
  rw [kU2_r] at r1
  cases r1
  exact r2
theorem kNs_s {f : Nat → Int} {n i : Nat} {lo hi : Int} : kNs f n lo hi (Sum.inr (kSkp f n i)) = kNs f n lo hi (Sum.inr i) := kNs_sk (s := Sum.inr i)
theorem kSs_s {f : Nat → Int} {n i : Nat} {x : Int} : kSs f n x (Sum.inr (kSkp f n i)) = kSs f n x (Sum.inr i) := kSs_sk (s := Sum.inr i)
theorem qCd_js {m : jm} {l : List Int} {k j : Nat} {x : Int} (H : qCd m l) (hz : ¬ (k = 31 ∨ (k = 30 ∧ j = 1))) : qCd (js m k j x) l := qCd_fr (W := fun a b => a = k ∧ b = j) (b := true) H (jfr_js jfr_r ⟨rfl, rfl⟩) (fun a b h => by obtain ⟨rfl, rfl⟩ := h; exact hz)
theorem qFt {m M : jm} {f : Nat → Int} {n : Nat} {kd : Int} {p : Nat} {l : List Int} (hk : jg kd) (hp : p ≤ 600) : jo ((jf_120 kd (p : Int) M).bind fun p17 => some (p17.1, p17.2)) (fun r => kOl m f n (Sum.inl (kd, p), l) r) := by
  rw [sp_120, jsb]
  refine ⟨rfl, ?_, ?_, hp⟩
  · show ja (js (js M 1 5 kd) 1 6 _) 1 5 = kd
    rw [ja_jsj (by decide), ja_js1]; exact jw_id hk
  · show ja (js (js M 1 5 kd) 1 6 _) 1 6 = (p : Int)
    rw [ja_js1, jwi (by omega) (by omega)]
/-- what is said of a later state of m -/
theorem kOl_m {m m' : jm} {f : Nat → Int} {n : Nat} {z : qLs} {r : Int × jm} (h : kOl m' f n z r) (h6 : ja m' 1 6 = ja m 1 6) : kOl m f n z r := by
  unfold kOl at h ⊢
  cases hz : z.1 with
  | inl e => rw [hz] at h; exact h
  | inr j => rw [hz] at h; exact ⟨h.1, h.2.1, h.2.2.1, h.2.2.2.trans h6⟩
/-- a bracket -/
theorem sl_31 {m : jm} {f : Nat → Int} {n i o B : Nat} {l : List Int} {S : qLs → qLs} {rec : Nat → Int → Int → jm → Option (Int × jm)} (H : kTc m f n (kSkp f n i)) (hC : qCd m l) (hl : l.length ≤ i) (hg : kGb f n i 40 = true) (ho : o < 6) (hS : qSpc f n (fun m => rec 0 ((o + 1 : Nat) : Int) 0 m) S) (gS : qGd n B S) : jo (jf_31 rec (o : Int) m) (fun r => kOl m f n (kSx f n 41 (S (Sum.inr (kSkp f n i + 1), l))) r) := by
  have hl2 := kGb_l hg
  have h6 := H.1.1
  unfold jf_31
  rw [if_pos (show (o : Int) < 6 by omega), jwn (by omega)]
  refine cl_sig H (by decide) (fun r u1 u2 u3 u4 u5 u6 => ?_) (fun r u1 u2 u3 u4 u5 => ?_)
  · rw [kSs_s, kSs_y hg] at u1; cases u1
  · rw [kSkp_2] at u3
    rw [u2, if_neg Int.one_ne_zero]
    have hC1 : qCd r.2 l := qCd_fr hC u5 (fun a b h => by unfold jW_123 at h; omega)
    have sp := hS r.2 (kSkp f n i + 1) l u3 hC1 (by omega)
    have gd := gS.2 (kSkp f n i + 1) l (by omega)
    unfold qGr at gd
    unfold kOl at sp
    rw [jo_bind]
    refine jo_c sp (fun p4 h4 => ?_)
    cases hz : (S (Sum.inr (kSkp f n i + 1), l)).1 with
    | inl e =>
      rw [hz] at h4
      rw [h4.1, if_pos rfl]
      show kOl m f n (kSx f n 41 (S (Sum.inr (kSkp f n i + 1), l))) _
      unfold kSx kOl
      rw [hz]
      exact ⟨rfl, h4.2⟩
    | inr j =>
      rw [hz] at h4
      obtain ⟨a1, a2, a3, a4⟩ := h4
      rw [a1, if_neg Int.one_ne_zero]
      refine cl_sig a2 (by decide) (fun r5 v1 v2 v3 v4 v5 v6 => ?_) (fun r5 v1 v2 v3 v4 v5 => ?_)
      · rw [v2, if_pos rfl]
        show kOl m f n (kSx f n 41 (S (Sum.inr (kSkp f n i + 1), l))) _
        unfold kSx kOl
        rw [hz, v1]
        exact ⟨rfl, v3, v4, v5⟩
      · rw [v2, if_neg Int.one_ne_zero]
        show kOl m f n (kSx f n 41 (S (Sum.inr (kSkp f n i + 1), l))) _
        unfold kSx kOl
        rw [hz, v1]
        exact ⟨rfl, v3, qCd_fr a3 v5 (fun a b h => by unfold jW_123 at h; omega), by show ja r5.2 1 6 = _; rw [v4, a4, u4]⟩
/-- a choice -/
theorem sl_32 {m : jm} {f : Nat → Int} {n i o B : Nat} {l : List Int} {c : Int} {S : qLs → qLs} {rec : Nat → Int → Int → jm → Option (Int × jm)} (hn : n ≤ 150) (H : kTc m f n i) (hC : qCd m l) (hl : l.length + 1 ≤ i) (hc : 2000 ≤ c ∧ c ≤ 2005) (ho : o < 6) (hS : qSpc f n (fun m => rec 0 ((o + 1 : Nat) : Int) 0 m) S) (gS : qGd n B S) : jo (jf_32 rec (o : Int) c m) (fun r => kOl m f n (kCho f n S c (Sum.inr i, l)) r) := by
  have hin := H.1.2.1
  have h6 := H.1.1
  unfold jf_32
  rw [if_pos (show (o : Int) < 6 by omega), jwn (by omega)]
  have e0 : kSx f n 91 (Sum.inr i, l) = (kSs f n 91 (Sum.inr i), l) := rfl
  unfold kCho
  rw [e0]
  refine cl_sig H (by decide) (fun r u1 u2 u3 u4 u5 u6 => ?_) (fun r u1 u2 u3 u4 u5 => ?_)
  · rw [u2, if_pos rfl, u1, gS.1, show kSx f n 44 (Sum.inl (1, kSkp f n i), l) = (Sum.inl (1, kSkp f n i), l) from rfl, gS.1]
    exact ⟨rfl, u3, u4, u5⟩
  · have b3 : kSkp f n i + 1 ≤ n := u3.1.2.1
    have b2 := kSkp_ge (f := f) (n := n) (i := i)
    have bp : i < kSkp f n i + 1 := by omega
    rw [u2, if_neg Int.one_ne_zero, u1]
    have hC1 : qCd r.2 l := qCd_fr hC u5 (fun a b h => by unfold jW_123 at h; omega)
    have sp := hS r.2 (kSkp f n i + 1) l u3 hC1 (by omega)
    have gd := gS.2 (kSkp f n i + 1) l (by omega)
    generalize kSkp f n i + 1 = p at *
    unfold qGr at gd
    unfold kOl at sp
    refine jo_c sp (fun p2 h2 => ?_)
    cases hz : (S (Sum.inr p, l)).1 with
    | inl e =>
      rw [hz] at h2
      have e1 : kSx f n 44 (S (Sum.inr p, l)) = (Sum.inl e, (S (Sum.inr p, l)).2) := by unfold kSx; rw [hz]; rfl
      rw [h2.1, if_pos rfl, e1, gS.1]
      exact ⟨rfl, h2.2⟩
    | inr j =>
      rw [hz] at h2 gd
      obtain ⟨a1, a2, a3, a4⟩ := h2
      obtain ⟨d1, d2, d3, x, d4, d5⟩ := gd
      have e1 : kSx f n 44 (S (Sum.inr p, l)) = (kSs f n 44 (Sum.inr j), (S (Sum.inr p, l)).2) := by unfold kSx; rw [hz]
      rw [a1, if_neg Int.one_ne_zero, e1]
      generalize (S (Sum.inr p, l)).2 = l1 at *
      refine cl_sig a2 (by decide) (fun r3 v1 v2 v3 v4 v5 v6 => ?_) (fun r3 v1 v2 v3 v4 v5 => ?_)
      · rw [v2, if_pos rfl, v1, gS.1]
        exact ⟨rfl, v3, v4, v5⟩
      · have b4 : kSkp f n j + 1 ≤ n := v3.1.2.1
        have b5 := kSkp_ge (f := f) (n := n) (i := j)
        have bq : j < kSkp f n j + 1 := by omega
        rw [v2, if_neg Int.one_ne_zero, v1]
        have hC3 : qCd r3.2 l1 := qCd_fr a3 v5 (fun a b h => by unfold jW_123 at h; omega)
        have sp2 := hS r3.2 (kSkp f n j + 1) l1 v3 hC3 (by omega)
        have gd2 := gS.2 (kSkp f n j + 1) l1 (by omega)
        generalize kSkp f n j + 1 = q at *
        unfold qGr at gd2
        unfold kOl at sp2
        refine jo_c sp2 (fun p4 h4 => ?_)
        cases hz2 : (S (Sum.inr q, l1)).1 with
        | inl e =>
          rw [hz2] at h4
          have e2 : kSx f n 93 (S (Sum.inr q, l1)) = (Sum.inl e, (S (Sum.inr q, l1)).2) := by unfold kSx; rw [hz2]; rfl
          rw [h4.1, if_pos rfl, e2]
          exact ⟨rfl, h4.2⟩
        | inr k =>
          rw [hz2] at h4 gd2
          obtain ⟨m1, m2, m3, m4⟩ := h4
          obtain ⟨w1, w2, w3, y, w4, w5⟩ := gd2
          have e2 : kSx f n 93 (S (Sum.inr q, l1)) = (kSs f n 93 (Sum.inr k), (S (Sum.inr q, l1)).2) := by unfold kSx; rw [hz2]
          rw [m1, if_neg Int.one_ne_zero, e2]
          generalize (S (Sum.inr q, l1)).2 = l2 at *
          refine cl_sig m2 (by decide) (fun r5 s1 s2 s3 s4 s5 s6 => ?_) (fun r5 s1 s2 s3 s4 s5 => ?_)
          · rw [s2, if_pos rfl, s1]
            exact ⟨rfl, s3, s4, s5⟩
          · rw [s2, if_neg Int.one_ne_zero, s1]
            refine jo_c (sl_30 (qCd_fr m3 s5 (fun a b h => by unfold jW_123 at h; omega)) (by omega) ⟨by omega, by omega⟩) (fun p6 h6 => ?_)
            exact ⟨rfl, kTc_fr s3 h6.2 (fun a b h => by unfold jW_30 at h; omega), h6.1, by show ja p6 1 6 = _; rw [ja_fr h6.2 (by unfold jW_30; omega), s4, m4, v4, a4, u4]⟩
theorem kUnc {f : Nat → Int} {n o B : Nat} {full : Bool} {S : qLs → qLs} {rec rec' : Nat → Int → Int → jm → Option (Int × jm)} (hn : n ≤ 150) (ho : o ≤ 6) (hf : full = decide (6 ≤ o)) (r3 : ∀ m, rec 3 (o : Int) 0 m = jf_31 rec' (o : Int) m) (r4 : ∀ c m, rec 4 (o : Int) c m = jf_32 rec' (o : Int) c m) (hS : full = false → qSpc f n (fun m => rec' 0 ((o + 1 : Nat) : Int) 0 m) S ∧ qGd n B S) : qSpc f n (fun m => jf_29 rec (o : Int) m) (kUni f n full S) := by
  intro m i l H hC hl
  have hin := H.1.2.1
  have h6 := H.1.1
  have hsk := kSkp_le (f := f) hin
  have hsg := kSkp_ge (f := f) (n := n) (i := i)
  show jo (jf_29 rec (o : Int) m) _
  unfold jf_29 kUni
  dsimp only
  refine jo_c (sl_122 H) (fun p1 hp1 => ?_)
  obtain ⟨a1, a2, a3⟩ := hp1
  have c1 : qCd p1.2 l := qCd_fr hC a3 (fun a b h => by unfold jW_116 at h; omega)
  have x1 : ja p1.2 1 6 = ja m 1 6 := ja_fr a3 (by unfold jW_116; omega)
  by_cases d : kDb f n i = true
  · rw [if_pos d]
    rw [a1, d, show b2i true = 1 from rfl, if_neg Int.one_ne_zero]
    have dt : kSkp f n i < n := (of_decide_eq_true d).1
    refine cl_num a2 (fun r e1 e2 e3 e4 e5 e6 => ?_) (fun r v e1 e2 e3 e4 e5 e6 e7 e8 => ?_) (by decide)
    · rw [kNs_s, kNkd_s, kSkp_2] at e1
      rw [kNkd_s] at e3
      rw [kSkp_2] at e4 e5
      rw [e1]
      refine jo_c (sl_30 (qCd_fr c1 e6 (fun a b h => by unfold jW_121 at h; omega)) (by omega) (by rw [e2]; exact jg_c rfl)) (fun p21 h21 => ?_)
      rw [e2, if_pos rfl, jsb]
      exact ⟨rfl, by show ja p21 1 5 = _; rw [ja_fr h21.2 (by unfold jW_30; omega)]; exact e3, by show ja p21 1 6 = _; rw [ja_fr h21.2 (by unfold jW_30; omega)]; exact e4, e5⟩
    · rw [kNs_s, kDe_2] at e1
      rw [kDe_2] at e5
      rw [e1]
      refine jo_c (sl_30 (qCd_fr c1 e8 (fun a b h => by unfold jW_121 at h; omega)) (by omega) (by rw [e4]; exact ⟨by omega, by omega⟩)) (fun p21 h21 => ?_)
      rw [e4, if_neg (by omega), jsb]
      rw [e4] at h21
      exact ⟨rfl, kTc_fr e5 h21.2 (fun a b h => by unfold jW_30 at h; omega), h21.1, by show ja p21 1 6 = _; rw [ja_fr h21.2 (by unfold jW_30; omega), e7]; exact x1⟩
  · rw [if_neg d]
    rw [a1, show kDb f n i = false by simpa using d, show b2i false = 0 from rfl, if_pos rfl]
    refine jo_c (sl_116 a2) (fun p2 hp2 => ?_)
    rw [kSkp_2] at hp2
    obtain ⟨b1, b2, b3⟩ := hp2
    have c2 : qCd p2.2 l := qCd_fr c1 b3 (fun a b h => by unfold jW_116 at h; omega)
    have x2 : ja p2.2 1 6 = ja m 1 6 := by rw [ja_fr b3 (by unfold jW_116; omega)]; exact x1
    by_cases g : kGb f n i 40 = true
    · rw [if_pos g]
      rw [b1, if_pos (kGb_l g).2, kGb_v g, if_pos rfl, r3]
      cases full with
      | true =>
        rw [if_pos rfl]
        have ho6 : ¬ (o : Int) < 6 := by have := of_decide_eq_true hf.symm; omega
        unfold jf_31
        rw [if_neg ho6, b2.2.2.2]
        refine jo_c (qFt (m := m) (l := l) (f := f) (n := n) (jg_c rfl) (by omega)) (fun r hr => hr)
      | false =>
        rw [if_neg (by simp)]
        have ho6 : o < 6 := by have := of_decide_eq_false hf.symm; omega
        obtain ⟨s1, s2⟩ := hS rfl
        refine jo_c (sl_31 b2 c2 hl g ho6 s1 s2) (fun r hr => kOl_m hr x2)
    · rw [if_neg g]
      have v : ¬ p2.1 = 40 := fun z => g (by
        unfold kGb
        rw [b1] at z
        by_cases y : kSkp f n i < n
        · rw [if_pos y] at z; exact decide_eq_true ⟨y, z⟩
        · rw [if_neg y] at z; omega)
      rw [if_neg v]
      refine jo_c (sl_117u b2) (fun p4 hp4 => ?_)
      obtain ⟨⟨q1, q2, q3, q4, q5⟩, q6⟩ := hp4
      rw [q1]
      rcases kU2_cs (f := f) (n := n) (i := i) with u | ⟨u1, u2, u3⟩
      · rw [if_pos u, if_pos u]
        exact ⟨rfl, (q4 u).1, (q4 u).2, by show kSkp f n i ≤ 600; omega⟩
      · have un : kU2 f n i ≠ -1 := by omega
        have c4 : qCd p4.2 l := qCd_fr c2 q6 (fun a b h => by unfold jW_117 at h; omega)
        have x4 : ja p4.2 1 6 = ja m 1 6 := by rw [(q5 un).2]; exact x2
        have hle := q2.1.2.1
        rw [if_neg un, if_neg un]
        by_cases u9 : kU2 f n i < 9
        · rw [if_pos u9, if_pos u9, jwi (by omega) (by omega)]
          refine jo_c (sl_30 c4 (by omega) ⟨by omega, by omega⟩) (fun p5 h5 => ?_)
          exact ⟨rfl, kTc_fr q2 h5.2 (fun a b h => by unfold jW_30 at h; omega), h5.1, by show ja p5 1 6 = _; rw [ja_fr h5.2 (by unfold jW_30; omega)]; exact x4⟩
        · rw [if_neg u9, if_neg u9, jite_some, jsb, r4]
          have hc : 2000 ≤ (if kU2 f n i = 9 then (2004 : Int) else 2005) ∧ (if kU2 f n i = 9 then (2004 : Int) else 2005) ≤ 2005 := by split <;> omega
          generalize (if kU2 f n i = 9 then (2004 : Int) else 2005) = c at hc
          cases full with
          | true =>
            rw [if_pos rfl]
            have ho6 : ¬ (o : Int) < 6 := by have := of_decide_eq_true hf.symm; omega
            unfold jf_32
            rw [if_neg ho6, q3]
            refine jo_c (qFt (m := m) (l := l) (f := f) (n := n) (jg_c rfl) (by omega)) (fun r hr => hr)
          | false =>
            rw [if_neg (by simp)]
            have ho6 : o < 6 := by have := of_decide_eq_false hf.symm; omega
            obtain ⟨s1, s2⟩ := hS rfl
            refine jo_c (sl_32 hn q2 c4 (by omega) hc ho6 s1 s2) (fun r hr => kOl_m hr x4)
theorem jG_A0 {N : Nat} {a b : Int} {m : jm} : jG_A (N + 1) 0 a b m = jf_27 (jG_A N) a m := rfl
theorem jG_A1 {N : Nat} {a b : Int} {m : jm} : jG_A (N + 1) 1 a b m = jf_28 (jG_A N) a m := rfl
theorem jG_A2 {N : Nat} {a b : Int} {m : jm} : jG_A (N + 1) 2 a b m = jf_29 (jG_A N) a m := rfl
theorem jG_A3 {N : Nat} {a b : Int} {m : jm} : jG_A (N + 1) 3 a b m = jf_31 (jG_A N) a m := rfl
theorem jG_A4 {N : Nat} {a b : Int} {m : jm} : jG_A (N + 1) 4 a b m = jf_32 (jG_A N) a b m := rfl
/-- a sum follows its units -/
theorem kSuc {f : Nat → Int} {n N B : Nat} {a : Int} {U : qLs → qLs} (hn : n ≤ 150) (hU : qSpc f n (fun m => jG_A N 2 a 0 m) U) (gU : qGd n (B + 2) U) : qSpc f n (fun m => jG_A (N + 2) 0 a 0 m) (qSu f n U) := by
  have h1 : qSpc f n (fun m => jG_A (N + 1) 1 a 0 m) (qLo f n 42 47 2002 2003 U) := kLpc_sp (B := B + 1) hn gU hU (by decide) (by decide) (by decide) (by decide) (by decide)
  exact kLpc_sp (B := B) hn (qLo_gd (by omega) gU (by decide) (by decide)) h1 (by decide) (by decide) (by decide) (by decide) (by decide)
theorem kUnA {f : Nat → Int} {n : Nat} (hn : n ≤ 150) : ∀ (D o N : Nat), D + o = 6 → 4 * D + 2 ≤ N → qSpc f n (fun m => jG_A N 2 (o : Int) 0 m) (kUn f n D)
  | 0, o, N, h, hN => by
    obtain ⟨N', rfl⟩ : ∃ N', N = N' + 2 := ⟨N - 2, by omega⟩
    exact kUnc (rec := jG_A (N' + 1)) (rec' := jG_A N') (B := 0) hn (by omega) (by rw [decide_eq_true (show 6 ≤ o by omega)]) (fun m => rfl) (fun c m => rfl) (fun e => by cases e)
  | D + 1, o, N, h, hN => by
    obtain ⟨N', rfl⟩ : ∃ N', N = N' + 4 := ⟨N - 4, by omega⟩
    have ih := kUnA (f := f) hn D (o + 1) N' (by omega) (by omega)
    have gd := kUn_gd (f := f) (n := n) (by omega) D (o + 1) (by omega)
    exact kUnc (rec := jG_A (N' + 3)) (rec' := jG_A (N' + 2)) (B := 3 * (o + 1)) hn (by omega) (by rw [decide_eq_false (show ¬ 6 ≤ o by omega)]) (fun m => rfl) (fun c m => rfl) (fun _ => ⟨kSuc hn ih gd, qSu_gd (by omega) gd⟩)
/-- the class reads a law -/
theorem sl_G {f : Nat → Int} {n : Nat} (hn : n ≤ 150) : qSpc f n (fun m => jG_A 60 0 0 0 m) (qSu f n (kUn f n 6)) := kSuc (N := 58) (B := 0) hn (kUnA hn 6 0 58 rfl (by decide)) (kUn_gd (by omega) 6 0 rfl)
