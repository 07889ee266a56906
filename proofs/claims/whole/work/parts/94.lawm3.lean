/-! LAW in the model: units. -/
/-- room is left for d more -/
def kGap (n d : Nat) (z : qLs) : Prop := ∀ i, z.1 = Sum.inr i → z.2.length + d ≤ i ∧ i ≤ n
theorem kGap_s {f : Nat → Int} {n d : Nat} {x : Int} {z : qLs} (h : kGap n d z) : kGap n d (kSx f n x z) := fun i hi => by
  obtain ⟨j, h1, h2, h3⟩ := kSs_in (show kSs f n x z.1 = Sum.inr i from hi)
  have := h j h1
  exact ⟨by show z.2.length + d ≤ i; omega, h3⟩
theorem kGap_g {n B d : Nat} {S : qLs → qLs} (hS : qGd n B S) {z : qLs} (h : kGap n d z) : kGap n d (S z) := fun i hi => by
  obtain ⟨s, l⟩ := z
  cases s with
  | inl e => rw [hS.1] at hi; cases hi
  | inr j =>
    have hj := h j rfl
    have gd := hS.2 j l hj.2
    unfold qGr at gd
    rw [hi] at gd
    obtain ⟨a1, a2, a3, -⟩ := gd
    have := hj.1
    dsimp only at this
    exact ⟨by omega, a2⟩
theorem kMl_close {m : jm} {f : Nat → Int} {n o : Nat} {z : qLs} (ho : o ≤ 10) (H : kMl m f n (o + 1) z) : kMl (js m 67 7 (jw (ja m 67 7 - 1))) f n o z := by
  refine ⟨kMz_js H.1 (by omega), kCe_fr (W := fun a b => a = 67 ∧ b = 7) (b := true) H.2.1 (jfr_js jfr_r ⟨rfl, rfl⟩) (fun a b h => by omega), fun i hi => ⟨?_, (H.2.2 i hi).2⟩⟩
  rw [ja_js1, (H.2.2 i hi).1, jwi (x := ((o + 1 : Nat) : Int) - 1) (by omega) (by omega), jwi (by omega) (by omega)]; omega
/-- what stands behind an opening -/
def qOp (full : Bool) (k x : Nat) : kFS := if full = true then Sum.inl (3, k) else Sum.inr (k + x)
theorem sl_217 {m : jm} {f : Nat → Int} {n o k x : Nat} {l : List Int} {full : Bool} (ho : o ≤ 6) (hf : full = decide (6 ≤ o)) (H : kMl m f n o (Sum.inr k, l)) (h4 : ja m 67 4 = (k : Int)) (hx : k + x ≤ n) : jo (jf_217 (x : Int) m) (fun r => kMl r f n (o + 1) (qOp full k x, l)) := by
  have h6 := H.1.1.1.1
  have h7 := (H.2.2 k rfl).1
  have hl := (H.2.2 k rfl).2
  dsimp only at hl
  unfold jf_217 qOp
  rw [kMz_g H.1, kOkz_r, jsb, if_neg Int.one_ne_zero, h7]
  cases full with
  | true =>
    have ho6 : o = 6 := by have := of_decide_eq_true hf.symm; omega
    obtain ⟨s1, s2, s3⟩ := sl_203g (kd := 3) (p := k) H.1 (by omega) (jg_c rfl)
    rw [if_pos (show (o : Int) = 6 by omega), h4, s1, jsb, jsb, kMz_g s2, kOkz_l, jsb, if_pos rfl, jsb, jle_eq, if_pos rfl]
    exact ⟨kMz_js s2 (by omega), kCe_fr (W := fun a b => kW56 a b ∨ (a = 67 ∧ b = 7)) (b := true) H.2.1 (jfr_js (jfr_t jfr_r s3 (fun e => e) (fun a b h => Or.inl h)) (Or.inr ⟨rfl, rfl⟩)) (fun a b h => by unfold kW56 at h; omega), fun i hi => by cases hi⟩
  | false =>
    have ho6 : o < 6 := by have := of_decide_eq_false hf.symm; omega
    obtain ⟨e1, e2⟩ := kMl_step x H h4 hx
    have g7 : ja (js m 67 4 ((k + x : Nat) : Int)) 67 7 = (o : Int) := by rw [ja_jsj (by decide)]; exact h7
    rw [if_neg (show ¬ (o : Int) = 6 by omega), jsb, kMz_g H.1, kOkz_r, jsb, if_neg Int.one_ne_zero, jle_eq, e1, jsb, g7, jle_eq, jwn (by omega), if_neg (by simp)]
    refine ⟨kMz_js e2.1 (by omega), kCe_fr (W := fun a b => a = 67 ∧ b = 7) (b := true) e2.2.1 (jfr_js jfr_r ⟨rfl, rfl⟩) (fun a b h => by omega), fun i hi => ⟨?_, (e2.2.2 i hi).2⟩⟩
    rw [ja_js1, jwi (by omega) (by omega)]
/-- a sum read on the next level -/
def qSpo (f : Nat → Int) (n o : Nat) (full : Bool) (g : jm → Option jm) (S : qLs → qLs) : Prop := ∀ m z, kMl m f n o z → (full = true → ∃ e, z.1 = Sum.inl e) → jo (g m) (fun r => kMl r f n o (S z))
theorem kSx_f {f : Nat → Int} {n : Nat} {x : Int} {z : qLs} (h : ∃ e, z.1 = Sum.inl e) : ∃ e, (kSx f n x z).1 = Sum.inl e := by
  obtain ⟨e, he⟩ := h
  exact ⟨e, by unfold kSx; rw [he]; rfl⟩
theorem sl_219 {m : jm} {f : Nat → Int} {n o k x B : Nat} {l : List Int} {full : Bool} {w : Int} {S : qLs → qLs} {rec : Nat → Int → Int → jm → Option jm} (hn : n ≤ 150) (ho : o ≤ 6) (hf : full = decide (6 ≤ o)) (H : kMl m f n o (Sum.inr k, l)) (h4 : ja m 67 4 = (k : Int)) (hx : k + x ≤ n) (hx1 : 1 ≤ x) (hw : 2 ≤ w ∧ w ≤ 7) (hS : qSpo f n (o + 1) full (fun m => rec 0 0 0 m) S) (hG : ∀ z, kGap n 1 z → kGap n 1 (S z)) (hF : full = true → ∀ z : qLs, S z = z) : jo (jf_219 rec (x : Int) w m) (fun r => kMl r f n o (kCho f n S (kEn w 0) (qOp full k x, l))) := by
  have hl := (H.2.2 k rfl).2
  dsimp only at hl
  unfold jf_219
  refine jo_c (sl_217 ho hf H h4 hx) (fun p1 h1 => ?_)
  have f0 : full = true → ∃ e, (qOp full k x, l).1 = (Sum.inl e : kFS) := fun e => ⟨(3, k), by unfold qOp; rw [if_pos e]⟩
  have g0 : kGap n 1 (qOp full k x, l) := fun i hi => by
    unfold qOp at hi
    cases full with
    | true => rw [if_pos rfl] at hi; cases hi
    | false => rw [if_neg (by simp)] at hi; cases hi; exact ⟨by show l.length + 1 ≤ k + x; omega, hx⟩
  unfold kCho
  generalize (qOp full k x, l) = z at *
  refine jo_c (kMl_sig h1 (by decide)) (fun p2 h2 => ?_)
  refine jo_c (hS p2 _ h2 (fun e => kSx_f (f0 e))) (fun p3 h3 => ?_)
  refine jo_c (kMl_sig h3 (by decide)) (fun p4 h4 => ?_)
  refine jo_c (hS p4 _ h4 (fun e => kSx_f (by rw [hF e]; exact kSx_f (f0 e)))) (fun p5 h5 => ?_)
  refine jo_c (kMl_sig h5 (by decide)) (fun p6 h6 => ?_)
  rw [jle_eq]
  refine jo_c (sl_218 hn (kMl_close (by omega) h6) (fun i hi => ?_) (by omega) (fun e => by omega) (fun e => by omega) (jg_c rfl)) (fun p8 h8 => h8)
  exact (kGap_s (hG _ (kGap_s (hG _ (kGap_s g0)))) i hi).1
theorem kUnm {f : Nat → Int} {n o B : Nat} {full : Bool} {S : qLs → qLs} {rec rec' : Nat → Int → Int → jm → Option jm} (hn : n ≤ 150) (ho : o ≤ 6) (hf : full = decide (6 ≤ o)) (r3 : ∀ a b m, rec 3 a b m = jf_219 rec' a b m) (hS : qSpo f n (o + 1) full (fun m => rec 0 0 0 m) S) (hS' : qSpo f n (o + 1) full (fun m => rec' 0 0 0 m) S) (hG : ∀ z, kGap n 1 z → kGap n 1 (S z)) (hF : full = true → ∀ z : qLs, S z = z) : qSpm f n o (fun m => jf_216 rec m) (kUni f n full S) := by
  intro m z H
  show jo (jf_216 rec m) _
  obtain ⟨s, l⟩ := z
  unfold jf_216 kUni
  rw [kMz_g H.1]
  cases s with
  | inl e => rw [kOkz_l, jsb, if_pos rfl]; exact H
  | inr i =>
    have hin := H.1.1.1.2.1
    have h6 := H.1.1.1.1
    have hl := (H.2.2 i rfl).2
    have hsk := kSkp_le (f := f) hin
    have hsg := kSkp_ge (f := f) (n := n) (i := i)
    dsimp only at hl ⊢
    rw [kOkz_r, jsb, if_neg Int.one_ne_zero]
    refine jo_c (kMl_look H) (fun p2 h2 => ?_)
    obtain ⟨a1, a2, a3⟩ := h2
    by_cases g : kGb f n i 40 = true
    · have hd : ¬ kDb f n i = true := fun z => by
        have h1 := kGb_v g
        have h2 := of_decide_eq_true (of_decide_eq_true z).2
        omega
      have v : p2.1 = 40 := by rw [a3, if_pos (kGb_l g).2]; exact kGb_v g
      rw [if_neg hd, if_pos g, if_pos v]
      have hl2 := kGb_l g
      have e40 : (if full = true then ((Sum.inl (3, kSkp f n i) : kFS), l) else kSx f n 41 (S (Sum.inr (kSkp f n i + 1), l))) = kSx f n 41 (S (qOp full (kSkp f n i) 1, l)) := by
        unfold qOp
        cases full with
        | true => rw [if_pos rfl, if_pos rfl, hF rfl]; rfl
        | false => rw [if_neg (by simp), if_neg (by simp)]
      rw [e40]
      refine jo_c (sl_217 (x := 1) ho hf a1 a2 (by omega)) (fun p3 h3 => ?_)
      refine jo_c (hS p3 _ h3 (fun e => ⟨(3, kSkp f n i), by unfold qOp; rw [if_pos e]⟩)) (fun p4 h4 => ?_)
      refine jo_c (kMl_sig h4 (by decide)) (fun p5 h5 => ?_)
      rw [jle_eq]
      exact kMl_close (by omega) h5
    · have v : ¬ p2.1 = 40 := fun z => g (by
        unfold kGb
        rw [a3] at z
        by_cases y : kSkp f n i < n
        · rw [if_pos y] at z; exact decide_eq_true ⟨y, z⟩
        · rw [if_neg y] at z; omega)
      rw [if_neg g, if_neg v]
      refine jo_c (kMl_look a1) (fun p7 h7 => ?_)
      rw [kSkp_2] at h7
      obtain ⟨b1, b2, b3⟩ := h7
      rw [sp_208, jsb]
      by_cases d : kDb f n i = true
      · have dd := of_decide_eq_true d
        have d2 := of_decide_eq_true dd.2
        rw [if_pos d, b3, if_pos dd.1, if_pos d2, if_neg Int.one_ne_zero]
        refine jo_c (sl_207g b1.1 (by decide)) (fun p33 h33 => ?_)
        rw [kNs_s] at h33
        obtain ⟨⟨q1, q2⟩, q3⟩ := h33
        have bb := kNs_b (f := f) (n := n) (s := Sum.inr i) (lo := 0) (hi := 999) (by decide) (by decide)
        have b999 : (kNs f n 0 999 (Sum.inr i)).2 ≤ 999 := by
          cases hb : kNb f n i 0 999 with
          | false => rw [kNs_n hb]; show (0 : Int) ≤ 999; decide
          | true => rw [kNs_y hb]; exact (kNb_t hb).2.2
        have Hz : kMl p33.2 f n o ((kNs f n 0 999 (Sum.inr i)).1, l) := by
          refine ⟨q1, kCe_fr b1.2.1 q3 (fun k j h => by unfold jW_207 at h; omega), fun j hj => ?_⟩
          obtain ⟨i', e1, -, -, -, e5, -⟩ := kNs_in (show (kNs f n 0 999 (Sum.inr i)).1 = Sum.inr j from hj)
          cases e1
          exact ⟨by rw [ja_fr q3 (by unfold jW_207; omega)]; exact (b1.2.2 _ rfl).1, by show l.length ≤ j; omega⟩
        rw [q2]
        refine jo_c (sl_218 (w := 0) hn Hz (fun j hj => ?_) (by decide) (fun _ => ⟨bb.1, b999⟩) (fun e => by cases e) ⟨by omega, by omega⟩) (fun p34 h34 => h34)
        obtain ⟨i', e1, -, -, -, e5, -⟩ := kNs_in (show (kNs f n 0 999 (Sum.inr i)).1 = Sum.inr j from hj)
        cases e1
        show l.length + 1 ≤ j
        omega
      · have dn : (if 48 ≤ p7.1 ∧ p7.1 ≤ 57 then (1 : Int) else 0) = 0 := by
          rw [b3]
          by_cases y : kSkp f n i < n
          · rw [if_pos y, if_neg (fun z => d (decide_eq_true ⟨y, decide_eq_true z⟩))]
          · rw [if_neg y, if_neg (by decide)]
        rw [if_neg d, dn, if_pos rfl]
        obtain ⟨p12, p13, p14, p15, p16, p17, p18, p19, p9, p10⟩ := kPwc
        have e9 : ∀ M, jf_202 9 M = some 12748404 := fun M => by rw [← p9]; exact sp_202 (s := 9) (L := 5) rfl (by decide)
        have e10 : ∀ M, jf_202 10 M = some 441972 := fun M => by rw [← p10]; exact sp_202 (s := 10) (L := 4) rfl (by decide)
        have word : ∀ M : jm, kMl M f n o (Sum.inr (kSkp f n i), l) → jo (jf_199 M) (fun r => r.1 = kWv f n i ∧ kMl r.2 f n o (Sum.inr (kSkp f n i), l) ∧ ja r.2 67 4 = (kSkp f n i : Int)) := fun M hM => by
          refine jo_mono (sl_199 hM.1.1) (fun r hr => ?_)
          rw [kWv_2, kSkp_2] at hr
          obtain ⟨y1, y2, y3⟩ := hr
          exact ⟨y1, ⟨⟨y2, by rw [ja_fr y3 (by unfold jW_198; omega)]; exact hM.1.2⟩, kCe_fr hM.2.1 y3 (fun k j h => by unfold jW_198 at h; omega), fun j hj => ⟨by rw [ja_fr y3 (by unfold jW_198; omega)]; exact (hM.2.2 j hj).1, (hM.2.2 j hj).2⟩⟩, y2.2.2.2⟩
        have cho : ∀ (x : Nat) (w : Int) (M : jm), kMl M f n o (Sum.inr (kSkp f n i), l) → ja M 67 4 = (kSkp f n i : Int) → kLe f n i = kSkp f n i + x → 1 ≤ x → (2 ≤ w ∧ w ≤ 7) → jo (jf_219 rec' (x : Int) w M) (fun r => kMl r f n o (if full = true then (Sum.inl (3, kSkp f n i), l) else kCho f n S (kEn w 0) (Sum.inr (kLe f n i), l))) := fun x w M hM h4 hx hx1 hw => by
          have hle := kLe_le (f := f) hin
          have e : (if full = true then ((Sum.inl (3, kSkp f n i) : kFS), l) else kCho f n S (kEn w 0) (Sum.inr (kLe f n i), l)) = kCho f n S (kEn w 0) (qOp full (kSkp f n i) x, l) := by
            unfold qOp
            cases full with
            | true =>
              rw [if_pos rfl, if_pos rfl]
              unfold kCho
              rw [hF rfl, hF rfl]; rfl
            | false => rw [if_neg (by simp), if_neg (by simp), hx]
          rw [e]
          exact sl_219 (B := B) hn ho hf hM h4 (by omega) hx1 hw hS' hG hF
        refine jo_c (word p7.2 b1) (fun p9' h9 => ?_)
        obtain ⟨c1, c2, c3⟩ := h9
        rw [e9, jsb, c1]
        by_cases w9 : kWv f n i = 12748404
        · have u9 : kU2 f n i = 9 := by
            have q : ¬ kQ4 f n i = true := fun z => by rw [kQ4_0 z] at w9; omega
            rw [kU2_x, w9, if_neg (by decide), if_neg (by decide), if_neg (by decide), if_neg (by decide), if_neg q, if_neg (by decide), if_neg (by decide), if_neg (by decide), if_neg (by decide), if_pos rfl]
          have hx : kLe f n i = kSkp f n i + 5 := by
            have := (kWv_i (f := f) (n := n) (i := i) (s := 9) (L := 5) (by decide) (by decide) (by decide +kernel)).1 (by rw [w9]; exact p9.symm)
            have := this.1
            have := kLe_ge (f := f) (n := n) (i := i)
            omega
          rw [if_pos w9, r3, u9, if_neg (show ¬ (9 : Int) = -1 by decide), if_neg (show ¬ (9 : Int) < 9 by decide), if_pos rfl]
          exact jo_c (cho 5 6 p9'.2 c2 c3 hx (by decide) (by decide)) (fun r hr => hr)
        · rw [if_neg w9]
          refine jo_c (word p9'.2 c2) (fun p12' h12 => ?_)
          obtain ⟨d1, d2, d3⟩ := h12
          rw [e10, jsb, d1]
          by_cases w10 : kWv f n i = 441972
          · have u10 : kU2 f n i = 10 := by
              have q : ¬ kQ4 f n i = true := fun z => by rw [kQ4_0 z] at w10; omega
              rw [kU2_x, w10, if_neg (by decide), if_neg (by decide), if_neg (by decide), if_neg (by decide), if_neg q, if_neg (by decide), if_neg (by decide), if_neg (by decide), if_neg (by decide), if_neg (by decide), if_pos rfl]
            have hx : kLe f n i = kSkp f n i + 4 := by
              have := (kWv_i (f := f) (n := n) (i := i) (s := 10) (L := 4) (by decide) (by decide) (by decide +kernel)).1 (by rw [w10]; exact p10.symm)
              have := this.1
              have := kLe_ge (f := f) (n := n) (i := i)
              omega
            rw [if_pos w10, r3, u10, if_neg (show ¬ (10 : Int) = -1 by decide), if_neg (show ¬ (10 : Int) < 9 by decide), if_neg (show ¬ (10 : Int) = 9 by decide)]
            exact jo_c (cho 4 7 p12'.2 d2 d3 hx (by decide) (by decide)) (fun r hr => hr)
          · rw [if_neg w10]
            have un : kU2 f n i = -1 ∨ (0 ≤ kU2 f n i ∧ kU2 f n i < 9) := by
              rw [kU2_x, if_neg w9, if_neg w10]
              repeat' split
              all_goals omega
            refine jo_c (sl_220 hin d2.1.1 w9 w10) (fun p15' h15 => ?_)
            obtain ⟨⟨k1, k2⟩, k3⟩ := h15
            have H15 : kMl p15'.2 f n o (Sum.inr (kSkp f n i), l) := ⟨⟨k2, by rw [ja_fr k3 (by unfold jW_220; omega)]; exact d2.1.2⟩, kCe_fr d2.2.1 k3 (fun k j h => by unfold jW_220 at h; omega), fun j hj => ⟨by rw [ja_fr k3 (by unfold jW_220; omega)]; exact (d2.2.2 j hj).1, (d2.2.2 j hj).2⟩⟩
            rw [k1]
            rcases un with u | ⟨u1, u2⟩
            · obtain ⟨s1, s2, s3⟩ := sl_203g (kd := 1) (p := kSkp f n i) H15.1 (by omega) (jg_c rfl)
              rw [if_pos u, if_pos u, k2.2.2.2, s1, jsb, jsb, kMz_g s2, kOkz_l, jsb, if_pos rfl]
              exact ⟨s2, kCe_fr H15.2.1 s3 (fun k j h => by unfold kW56 at h; omega), fun j hj => by cases hj⟩
            · have hle := kLe_le (f := f) hin
              have hlt : kSkp f n i < kLe f n i := by
                rcases kU2_cs (f := f) (n := n) (i := i) with z | z
                · omega
                · exact z.2.2
              rw [if_neg (show ¬ kU2 f n i = -1 by omega), if_neg (show ¬ kU2 f n i = -1 by omega), if_pos u2, jsb, kMz_g H15.1, kOkz_r, jsb, if_neg Int.one_ne_zero]
              refine jo_c (sl_205 hin H15.1.1) (fun p30 h30 => ?_)
              have H30 : kMl p30 f n o (Sum.inr (kLe f n i), l) := ⟨⟨h30.1, by rw [ja_fr h30.2 (by unfold jW_205; omega)]; exact H15.1.2⟩, kCe_fr H15.2.1 h30.2 (fun k j h => by unfold jW_205 at h; omega), fun j hj => by
                cases hj
                exact ⟨by rw [ja_fr h30.2 (by unfold jW_205; omega)]; exact (H15.2.2 _ rfl).1, by show l.length ≤ kLe f n i; omega⟩⟩
              refine jo_c (sl_218 (w := 1) hn H30 (fun j hj => by cases hj; show l.length + 1 ≤ kLe f n i; omega) (by decide) (fun e => by cases e) (fun _ => ⟨u1, by omega⟩) ⟨by omega, by omega⟩) (fun p31 h31 => h31)
theorem kSum_m {f : Nat → Int} {n N B o : Nat} {U : qLs → qLs} (hn : n ≤ 150) (hU : qSpm f n o (fun m => jG_B N 2 0 0 m) U) (gU : qGd n (B + 2) U) : qSpm f n o (fun m => jG_B (N + 2) 0 0 0 m) (qSu f n U) := by
  have h1 : qSpm f n o (fun m => jG_B (N + 1) 1 0 0 m) (qLo f n 42 47 2002 2003 U) := kLpm_sp (B := B + 1) (w1 := 4) (w2 := 5) hn gU hU (by decide) (by decide) (by decide) (by decide) (by decide)
  exact kLpm_sp (B := B) (w1 := 2) (w2 := 3) hn (qLo_gd (by omega) gU (by decide) (by decide)) h1 (by decide) (by decide) (by decide) (by decide) (by decide)
theorem kUnB {f : Nat → Int} {n : Nat} (hn : n ≤ 150) : ∀ (D o N : Nat), D + o = 6 → 4 * D + 5 ≤ N → qSpm f n o (fun m => jG_B N 2 0 0 m) (kUn f n D)
  | 0, o, N, h, hN => by
    obtain ⟨N', rfl⟩ : ∃ N', N = N' + 5 := ⟨N - 5, by omega⟩
    have fz : ∀ K : Nat, qSpo f n (o + 1) true (fun m => jG_B (K + 3) 0 0 0 m) (fun z => z) := fun K m z H hz => by
      obtain ⟨e, he⟩ := hz rfl
      have h1 := H.1
      rw [he] at h1
      have := h1.2.1
      show jo (jG_B (K + 3) 0 0 0 m) _
      rw [jG_Bn (by omega)]
      exact H
    exact kUnm (rec := jG_B (N' + 4)) (rec' := jG_B (N' + 3)) (B := 0) hn (by omega) (by rw [decide_eq_true (show 6 ≤ o by omega)]) (fun a b m => rfl) (fz (N' + 1)) (fz N') (fun z hz => hz) (fun _ z => rfl)
  | D + 1, o, N, h, hN => by
    obtain ⟨N', rfl⟩ : ∃ N', N = N' + 4 := ⟨N - 4, by omega⟩
    have gd := kUn_gd (f := f) (n := n) (by omega) D (o + 1) (by omega)
    have ih := kUnB (f := f) hn D (o + 1) N' (by omega) (by omega)
    have ih1 := kUnB (f := f) hn D (o + 1) (N' + 1) (by omega) (by omega)
    have s := kSum_m (B := 3 * (o + 1)) hn ih gd
    have s1 := kSum_m (B := 3 * (o + 1)) hn ih1 gd
    exact kUnm (rec := jG_B (N' + 3)) (rec' := jG_B (N' + 2)) (B := 0) hn (by omega) (by rw [decide_eq_false (show ¬ 6 ≤ o by omega)]) (fun a b m => rfl) (fun m z H _ => s1 m z H) (fun m z H _ => s m z H) (fun z hz => kGap_g (qSu_gd (B := 3 * (o + 1)) (by omega) gd) hz) (fun e => by cases e)
/-- the model reads a law -/
theorem sl_GB {f : Nat → Int} {n : Nat} (hn : n ≤ 150) : qSpm f n 0 (fun m => jG_B 60 0 0 0 m) (qSu f n (kUn f n 6)) := kSum_m (N := 58) (B := 0) hn (kUnB hn 6 0 58 rfl (by decide)) (kUn_gd (by omega) 6 0 rfl)
