/-! ROWS of a city in the model: wire; which row. -/
def kOkz (s : kFS) : Int := match s with
  | Sum.inl _ => 0
  | Sum.inr _ => 1
theorem kMz_g {m : jm} {f : Nat → Int} {n : Nat} {s : kFS} (H : kMz m f n s) : jf_196 m = some (kOkz s) := by
  rw [sp_196]
  cases s with
  | inl e => have := H.2.1; rw [if_neg (by omega)]; rfl
  | inr i => rw [if_pos H.2]; rfl
theorem kOkz_l {e : Int × Nat} : kOkz (Sum.inl e) = 0 := rfl
theorem kOkz_r {i : Nat} : kOkz (Sum.inr i) = 1 := rfl
theorem kFs_st {g : Nat → Bool} {e N : Nat} (h : kFs g e ≠ -1) (he : e ≤ N) : kFs g N ≠ -1 := by
  rcases kFs_cs (f := g) e with h' | ⟨a, h1, h2, h3, h4⟩
  · exact absurd h'.1 h
  · rw [kFs_yes h3 h4 N (by omega)]; omega
def kW56 (k j : Nat) : Prop := k = 67 ∧ (j = 5 ∨ j = 6)
theorem sl_203g {m : jm} {f : Nat → Int} {n j p : Nat} {kd : Int} (H : kMz m f n (Sum.inr j)) (hp : p ≤ 600) (hk : jg kd) : jf_203 kd p m = some (js (js m 67 5 p) 67 6 kd) ∧ kMz (js (js m 67 5 p) 67 6 kd) f n (Sum.inl (kd, p)) ∧ jfr true kW56 m (js (js m 67 5 p) 67 6 kd) := by
  refine ⟨sp_203 H.2, ⟨⟨j, kTm_js (kTm_js H.1 (by omega)) (by omega)⟩, ?_, ?_, hp⟩, jfr_js (jfr_js jfr_r ⟨rfl, Or.inl rfl⟩) ⟨rfl, Or.inr rfl⟩⟩
  · show ja (js (js m 67 5 p) 67 6 kd) 67 5 = (p : Int)
    rw [ja_jsj (by decide), ja_js1, jwi (by omega) (by omega)]
  · show ja (js (js m 67 5 p) 67 6 kd) 67 6 = kd
    rw [ja_js1]; exact jw_id hk
/-- the loop over the wires that are there -/
theorem sl_209l {m : jm} {f : Nat → Int} {n j p : Nat} {c : kC} {a b : Int} (H : kMz m f n (Sum.inr j)) (hC : kCm m 20 70 c) (hn : c 11 1 < 12) (hp : p ≤ 600) : jo (jlp (α := Int × jm) (β := jm) (fun s18 => if s18.1 < (ja s18.2 67 21) then (jf_196 s18.2).bind fun p29 => if p29 = 0 then some (Sum.inr (s18.2)) else if 0 ≤ (jw (2 * s18.1)) ∧ (jw (2 * s18.1)) < 24 then if 0 ≤ (jw ((jw (2 * s18.1)) + 1)) ∧ (jw ((jw (2 * s18.1)) + 1)) < 24 then (if (ja s18.2 71 (jw (2 * s18.1)).toNat) = a then if (ja s18.2 71 (jw ((jw (2 * s18.1)) + 1)).toNat) = b then (jf_203 2 p s18.2).bind fun p32 => some (p32) else if (ja s18.2 71 (jw (2 * s18.1)).toNat) = b then if (ja s18.2 71 (jw ((jw (2 * s18.1)) + 1)).toNat) = a then (jf_203 2 p s18.2).bind fun p33 => some (p33) else some (s18.2) else some (s18.2) else if (ja s18.2 71 (jw (2 * s18.1)).toNat) = b then if (ja s18.2 71 (jw ((jw (2 * s18.1)) + 1)).toNat) = a then (jf_203 2 p s18.2).bind fun p34 => some (p34) else some (s18.2) else some (s18.2)).bind fun t30 => some (Sum.inl (jw (s18.1 + 1), t30)) else none else none else some (Sum.inr (s18.2))) jfu (0, m)) (fun r => kMz r f n (if kJo c a b ≠ -1 then Sum.inl (2, p) else Sum.inr j) ∧ jfr true kW56 m r) := by
  have J : ∀ e : Nat, kJn (fun e => (c 1 e : Int)) (fun e => (c 2 e : Int)) a b e = decide (((c 1 e : Int) = a ∧ (c 2 e : Int) = b) ∨ ((c 1 e : Int) = b ∧ (c 2 e : Int) = a)) := fun e => rfl
  unfold kJo
  generalize kJn (fun e => (c 1 e : Int)) (fun e => (c 2 e : Int)) a b = g at *
  refine jo_wh (fun (s : Int × jm) => ∃ e : Nat, s.1 = (e : Int) ∧ e ≤ c 11 1 ∧ jfr true kW56 m s.2 ∧ kMz s.2 f n (if kFs g e ≠ -1 then Sum.inl (2, p) else Sum.inr j)) (fun s => 100 - s.1.toNat) (fun s hs => ?_) jfu _ (jfu_lt (by show 100 - (0 : Int).toNat < 4000000; decide)) ⟨0, rfl, Nat.zero_le _, jfr_r, by rw [if_neg (fun z => z rfl)]; exact H⟩
  obtain ⟨x, M⟩ := s
  obtain ⟨e, a1, a2, a3, a4⟩ := hs
  dsimp only at a1 a3 a4 ⊢
  have c21 : ja M 67 21 = (c 11 1 : Int) := by rw [ja_fr a3 (by unfold kW56; omega)]; exact hC.1 1 (by decide)
  rw [a1, c21]
  by_cases he : e < c 11 1
  · rw [if_pos (show (e : Int) < (c 11 1 : Int) by omega), kMz_g a4]
    by_cases hf : kFs g e ≠ -1
    · rw [if_pos hf] at a4
      rw [if_pos hf, kOkz_l, jsb, if_pos rfl]
      refine ⟨?_, a3⟩
      rw [if_pos (kFs_st hf a2)]; exact a4
    · rw [if_neg hf] at a4
      have j0 : jw (2 * (e : Int)) = ((2 * e : Nat) : Int) := by rw [jwi (by omega) (by omega)]; omega
      have j1 : jw (((2 * e : Nat) : Int) + 1) = ((2 * e + 1 : Nat) : Int) := by rw [jwi (by omega) (by omega)]; omega
      have q1 : ja M 71 (2 * e) = (c 1 e : Int) := by rw [ja_fr a3 (by unfold kW56; omega)]; exact (hC.2.2.1 e he).1
      have q2 : ja M 71 (2 * e + 1) = (c 2 e : Int) := by rw [ja_fr a3 (by unfold kW56; omega)]; exact (hC.2.2.1 e he).2.1
      rw [if_neg hf, kOkz_r, jsb, if_neg Int.one_ne_zero, j0, j1, if_pos (by omega), if_pos (by omega), Int.toNat_natCast, Int.toNat_natCast, q1, q2, jwn (by omega)]
      have hfs : kFs g e = -1 := Classical.byContradiction (fun z => hf z)
      obtain ⟨s1, s2, s3⟩ := sl_203g (kd := 2) (p := p) a4 hp (jg_c rfl)
      have mu : 100 - ((e + 1 : Nat) : Int).toNat < 100 - (e : Int).toNat := by omega
      have yes : g e = true → jo (((jf_203 2 p M).bind fun p32 => some (p32)).bind fun t30 => some (Sum.inl (((e + 1 : Nat) : Int), t30))) (jcase (fun (b : Int × jm) => (∃ e : Nat, b.1 = (e : Int) ∧ e ≤ c 11 1 ∧ jfr true kW56 m b.2 ∧ kMz b.2 f n (if kFs g e ≠ -1 then Sum.inl (2, p) else Sum.inr j)) ∧ 100 - b.1.toNat < 100 - (e : Int).toNat) (fun r => kMz r f n (if kFs g (c 11 1) ≠ -1 then Sum.inl (2, p) else Sum.inr j) ∧ jfr true kW56 m r)) := fun hg => by
        rw [s1, jsb, jsb]
        refine ⟨⟨e + 1, rfl, he, jfr_tr a3 s3, ?_⟩, mu⟩
        rw [kFs_s, hfs, if_pos rfl, if_pos hg, if_pos (by omega)]; exact s2
      have no : g e = false → jo ((some M).bind fun t30 => some (Sum.inl (((e + 1 : Nat) : Int), t30))) (jcase (fun (b : Int × jm) => (∃ e : Nat, b.1 = (e : Int) ∧ e ≤ c 11 1 ∧ jfr true kW56 m b.2 ∧ kMz b.2 f n (if kFs g e ≠ -1 then Sum.inl (2, p) else Sum.inr j)) ∧ 100 - b.1.toNat < 100 - (e : Int).toNat) (fun r => kMz r f n (if kFs g (c 11 1) ≠ -1 then Sum.inl (2, p) else Sum.inr j) ∧ jfr true kW56 m r)) := fun hg => by
        rw [jsb]
        refine ⟨⟨e + 1, rfl, he, a3, ?_⟩, mu⟩
        rw [kFs_s, hfs, if_pos rfl, if_neg (by rw [hg]; simp)]; exact a4
      by_cases k1 : (c 1 e : Int) = a
      · rw [if_pos k1]
        by_cases k2 : (c 2 e : Int) = b
        · rw [if_pos k2]; exact yes (by rw [J e]; exact decide_eq_true (Or.inl ⟨k1, k2⟩))
        · rw [if_neg k2]
          by_cases k3 : (c 1 e : Int) = b
          · rw [if_pos k3]
            by_cases k4 : (c 2 e : Int) = a
            · rw [if_pos k4]; exact yes (by rw [J e]; exact decide_eq_true (Or.inr ⟨k3, k4⟩))
            · rw [if_neg k4]; exact no (by rw [J e]; exact decide_eq_false (fun z => by omega))
          · rw [if_neg k3]; exact no (by rw [J e]; exact decide_eq_false (fun z => by omega))
      · rw [if_neg k1]
        by_cases k3 : (c 1 e : Int) = b
        · rw [if_pos k3]
          by_cases k4 : (c 2 e : Int) = a
          · rw [if_pos k4]; exact yes (by rw [J e]; exact decide_eq_true (Or.inr ⟨k3, k4⟩))
          · rw [if_neg k4]; exact no (by rw [J e]; exact decide_eq_false (fun z => by omega))
        · rw [if_neg k3]; exact no (by rw [J e]; exact decide_eq_false (fun z => by omega))
  · have : e = c 11 1 := by omega
    rw [if_neg (show ¬ (e : Int) < (c 11 1 : Int) by omega)]
    rw [this] at a4
    exact ⟨a4, a3⟩
/-- after a fault the loop does nothing -/
theorem sl_209n {m : jm} {f : Nat → Int} {n : Nat} {e : Int × Nat} {a b p : Int} (H : kMz m f n (Sum.inl e)) : jo (jlp (α := Int × jm) (β := jm) (fun s18 => if s18.1 < (ja s18.2 67 21) then (jf_196 s18.2).bind fun p29 => if p29 = 0 then some (Sum.inr (s18.2)) else if 0 ≤ (jw (2 * s18.1)) ∧ (jw (2 * s18.1)) < 24 then if 0 ≤ (jw ((jw (2 * s18.1)) + 1)) ∧ (jw ((jw (2 * s18.1)) + 1)) < 24 then (if (ja s18.2 71 (jw (2 * s18.1)).toNat) = a then if (ja s18.2 71 (jw ((jw (2 * s18.1)) + 1)).toNat) = b then (jf_203 2 p s18.2).bind fun p32 => some (p32) else if (ja s18.2 71 (jw (2 * s18.1)).toNat) = b then if (ja s18.2 71 (jw ((jw (2 * s18.1)) + 1)).toNat) = a then (jf_203 2 p s18.2).bind fun p33 => some (p33) else some (s18.2) else some (s18.2) else if (ja s18.2 71 (jw (2 * s18.1)).toNat) = b then if (ja s18.2 71 (jw ((jw (2 * s18.1)) + 1)).toNat) = a then (jf_203 2 p s18.2).bind fun p34 => some (p34) else some (s18.2) else some (s18.2)).bind fun t30 => some (Sum.inl (jw (s18.1 + 1), t30)) else none else none else some (Sum.inr (s18.2))) jfu (0, m)) (fun r => kMz r f n (Sum.inl e) ∧ jfr true kW56 m r) := by
  refine jo_wh (fun (s : Int × jm) => s = (0, m)) (fun _ => 0) (fun s hs => ?_) jfu _ (jfu_lt (by decide)) rfl
  subst hs
  dsimp only
  rw [kMz_g H, kOkz_l, jsb, if_pos rfl]
  by_cases h : 0 < ja m 67 21
  · rw [if_pos h]; exact ⟨H, jfr_r⟩
  · rw [if_neg h]; exact ⟨H, jfr_r⟩
theorem sl_209 {m : jm} {f : Nat → Int} {n : Nat} {s : kFS} {c : kC} (H : kMz m f n s) (hC : kCm m 20 70 c) (hv : c 11 0 ≤ 8) (hn : c 11 1 < 12) : jo (jf_209 m) (fun r => kMz r f n (kR1 f n s c).1 ∧ kCm r 20 70 (kR1 f n s c).2) := by
  have e0 : ja m 67 20 = (c 11 0 : Int) := hC.1 0 (by decide)
  have e1 : ja m 67 21 = (c 11 1 : Int) := hC.1 1 (by decide)
  unfold jf_209
  refine jo_c (sl_210 H e0 hv) (fun r1 hr => ?_)
  obtain ⟨⟨a1, a2⟩, a3⟩ := hr
  have b1 := kNs_b (f := f) (n := n) (s := s) (lo := 0) (hi := kTw c) (by decide) (by unfold kTw; omega)
  refine jo_c (sl_198g a1) (fun r2 hr => ?_)
  obtain ⟨⟨a4, a5⟩, a6⟩ := hr
  have F2 : jfr true jW_207 m r2.2 := jfr_t a3 a6 (fun e => e) (fun k j h => by unfold jW_198 at h; unfold jW_207; omega)
  refine jo_c (sl_210 a4 (by rw [ja_fr F2 (by unfold jW_207; omega)]; exact e0) hv) (fun r3 hr => ?_)
  rw [kNs_sk] at hr
  obtain ⟨⟨a7, a8⟩, a9⟩ := hr
  have b2 := kNs_b (f := f) (n := n) (s := (kRa f n s c).1) (lo := 0) (hi := kTw c) (by decide) (by unfold kTw; omega)
  have F3 : jfr true jW_207 m r3.2 := jfr_tr F2 a9
  rw [kMz_g a7, jsb]
  have A2 : r1.1 = (kRa f n s c).2 := a2
  have A8 : r3.1 = (kRb f n s c).2 := a8
  have A7 : kMz r3.2 f n (kRb f n s c).1 := a7
  have B1 : 0 ≤ (kRa f n s c).2 ∧ (kRa f n s c).2 ≤ 9999 := b1
  have B2 : 0 ≤ (kRb f n s c).2 ∧ (kRb f n s c).2 ≤ 9999 := b2
  have C3 : kCm r3.2 20 70 c := by
    obtain ⟨q0, q1, q2, q3, q4⟩ := hC
    have E : ∀ k j, ¬ (k = 67 ∧ 4 ≤ j ∧ j ≤ 6) → ja r3.2 k j = ja m k j := fun k j z => ja_fr F3 (by unfold jW_207; omega)
    exact ⟨fun i hi => by rw [E _ _ (by omega)]; exact q0 i hi, fun i hi => by rw [E _ _ (by omega)]; exact q1 i hi, fun i hi => by rw [E _ _ (by omega), E _ _ (by omega), E _ _ (by omega)]; exact q2 i hi, fun i hi => by rw [E _ _ (by omega), E _ _ (by omega), E _ _ (by omega)]; exact q3 i hi, fun i hi => by rw [E _ _ (by omega), E _ _ (by omega), E _ _ (by omega), E _ _ (by omega)]; exact q4 i hi⟩
  have key : ∀ (F : jm → Option jm) (P : jm → Prop), (∀ t, kMz t f n (kWz f n c (kRa f n s c) (kRb f n s c)) → jfr true kW56 r3.2 t → jo (F t) P) → jo ((if kOkz (kRb f n s c).1 = 0 then some (r3.2) else if r1.1 = r3.1 then (jf_203 2 (ja r2.2 67 4) r3.2).bind fun p7 => some (p7) else some (r3.2)).bind fun t5 => (jlp (α := Int × jm) (β := jm) (fun s18 => if s18.1 < (ja s18.2 67 21) then (jf_196 s18.2).bind fun p29 => if p29 = 0 then some (Sum.inr (s18.2)) else if 0 ≤ (jw (2 * s18.1)) ∧ (jw (2 * s18.1)) < 24 then if 0 ≤ (jw ((jw (2 * s18.1)) + 1)) ∧ (jw ((jw (2 * s18.1)) + 1)) < 24 then (if (ja s18.2 71 (jw (2 * s18.1)).toNat) = r1.1 then if (ja s18.2 71 (jw ((jw (2 * s18.1)) + 1)).toNat) = r3.1 then (jf_203 2 (ja r2.2 67 4) s18.2).bind fun p32 => some (p32) else if (ja s18.2 71 (jw (2 * s18.1)).toNat) = r3.1 then if (ja s18.2 71 (jw ((jw (2 * s18.1)) + 1)).toNat) = r1.1 then (jf_203 2 (ja r2.2 67 4) s18.2).bind fun p33 => some (p33) else some (s18.2) else some (s18.2) else if (ja s18.2 71 (jw (2 * s18.1)).toNat) = r3.1 then if (ja s18.2 71 (jw ((jw (2 * s18.1)) + 1)).toNat) = r1.1 then (jf_203 2 (ja r2.2 67 4) s18.2).bind fun p34 => some (p34) else some (s18.2) else some (s18.2)).bind fun t30 => some (Sum.inl (jw (s18.1 + 1), t30)) else none else none else some (Sum.inr (s18.2))) jfu (0, t5)).bind F) P := fun F P hF => by
    cases hb : (kRb f n s c).1 with
    | inl e =>
      rw [hb] at A7
      have z : kWz f n c (kRa f n s c) (kRb f n s c) = Sum.inl e := by
        unfold kWz
        cases ha : (kRa f n s c).1 with
        | inl e' =>
          have : (kRb f n s c).1 = Sum.inl e' := by unfold kRb; rw [ha]; rfl
          rw [hb] at this; cases this; rfl
        | inr i => dsimp only; rw [hb]
      rw [z] at hF
      rw [kOkz_l, if_pos rfl, jsb]
      exact jo_c (sl_209n A7) (fun t ht => hF t ht.1 ht.2)
    | inr j =>
      rw [hb] at A7
      obtain ⟨i, y1, -, -, -, -, -⟩ := kNs_in (show (kNs f n 0 (kTw c) (kRa f n s c).1).1 = Sum.inr j from hb)
      have p4 := (a5 i y1).1
      have hp : kSkp f n i ≤ 600 := by
        have t : kTm r1.2 f n i := by have := a1; rw [show (kNs f n 0 (kTw c) s).1 = Sum.inr i from y1] at this; exact this.1
        have := kSkp_le (f := f) t.1.2.1; have := t.1.1; omega
      have z : kWz f n c (kRa f n s c) (kRb f n s c) = if r1.1 = r3.1 ∨ kJo c r1.1 r3.1 ≠ -1 then Sum.inl (2, kSkp f n i) else Sum.inr j := by
        unfold kWz; rw [y1, hb, A2, A8]
      rw [z] at hF
      rw [kOkz_r, if_neg Int.one_ne_zero, p4]
      obtain ⟨s1, s2, s3⟩ := sl_203g (kd := 2) (p := kSkp f n i) A7 hp (jg_c rfl)
      by_cases h12 : r1.1 = r3.1
      · rw [if_pos h12, s1, jsb, jsb]
        rw [if_pos (Or.inl h12)] at hF
        exact jo_c (sl_209n s2) (fun t ht => hF t ht.1 (jfr_tr s3 ht.2))
      · rw [if_neg h12, jsb]
        refine jo_c (sl_209l A7 C3 hn hp) (fun t ht => hF t ?_ ht.2)
        have h := ht.1
        by_cases hj : kJo c r1.1 r3.1 ≠ -1
        · rw [if_pos hj] at h; rw [if_pos (Or.inr hj)]; exact h
        · rw [if_neg hj] at h; rw [if_neg (fun y => y.elim h12 hj)]; exact h
  refine key _ _ (fun t t1 t2 => ?_)
  have F4 : jfr true (kWm4 c 1) m t := jfr_t (jfr_t jfr_r F3 (fun e => e) (fun k j h => by unfold jW_207 at h; unfold kWm4; omega)) t2 (fun e => e) (fun k j h => by unfold kW56 at h; unfold kWm4; omega)
  have g1 : ja t 67 21 = (c 11 1 : Int) := by rw [ja_fr t2 (by unfold kW56; omega), ja_fr F3 (by unfold jW_207; omega)]; exact e1
  have j0 : jw (2 * (c 11 1 : Int)) = ((2 * c 11 1 : Nat) : Int) := by rw [jwi (by omega) (by omega)]; omega
  have j1 : jw (((2 * c 11 1 : Nat) : Int) + 1) = ((2 * c 11 1 + 1 : Nat) : Int) := by rw [jwi (by omega) (by omega)]; omega
  rw [g1, j0, if_pos (by omega), Int.toNat_natCast, jle_eq, ja_jsk (show (67 : Nat) ≠ 71 by decide), g1, j0, j1, if_pos (by omega), Int.toNat_natCast, jle_eq, ja_jsk (show (67 : Nat) ≠ 71 by decide), ja_jsk (show (67 : Nat) ≠ 71 by decide), g1]
  have H5 : kMz (js (js t 71 (2 * c 11 1) r1.1) 71 (2 * c 11 1 + 1) r3.1) f n (kWz f n c (kRa f n s c) (kRb f n s c)) := kMz_js (kMz_js t1 (by omega)) (by omega)
  have F5 : jfr true (kWm4 c 1) m (js (js t 71 (2 * c 11 1) r1.1) 71 (2 * c 11 1 + 1) r3.1) := jfr_js (jfr_js F4 (by unfold kWm4; omega)) (by unfold kWm4; omega)
  have V1 : ja (js (js t 71 (2 * c 11 1) r1.1) 71 (2 * c 11 1 + 1) r3.1) 71 (2 * c 11 1) = (kRa f n s c).2 := by rw [ja_jsj (by omega), ja_js1, A2]; exact jwi (by omega) (by omega)
  have V2 : ja (js (js t 71 (2 * c 11 1) r1.1) 71 (2 * c 11 1 + 1) r3.1) 71 (2 * c 11 1 + 1) = (kRb f n s c).2 := by rw [ja_js1, A8]; exact jwi (by omega) (by omega)
  have c5 : ja (js (js t 71 (2 * c 11 1) r1.1) 71 (2 * c 11 1 + 1) r3.1) 67 21 = (c 11 1 : Int) := by rw [ja_jsk (by decide), ja_jsk (by decide)]; exact g1
  generalize js (js t 71 (2 * c 11 1) r1.1) 71 (2 * c 11 1 + 1) r3.1 = M5 at *
  refine jo_c (sl_207g H5 (by decide)) (fun r4 hr => ?_)
  obtain ⟨⟨p7, p8⟩, p9⟩ := hr
  have b4 := kNs_b (f := f) (n := n) (s := kWz f n c (kRa f n s c) (kRb f n s c)) (lo := 0) (hi := 9) (by decide) (by decide)
  rw [if_pos (by omega), Int.toNat_natCast, jle_eq, show ja (js r4.2 72 (c 11 1) r4.1) 67 21 = (c 11 1 : Int) by rw [ja_jsk (by decide), ja_fr p9 (by unfold jW_207; omega)]; exact c5, jle_eq, jwn (by omega)]
  refine ⟨kMz_js (kMz_js p7 (by omega)) (by omega), ?_⟩
  refine kCm_app (by decide) hC (jfr_js (jfr_js (jfr_t F5 p9 (fun e => e) (fun k j h => by unfold jW_207 at h; unfold kWm4; omega)) (by unfold kWm4; omega)) (by unfold kWm4; omega)) ?_ (fun e => by omega) (fun _ => ⟨?_, ?_, ?_⟩) (fun e => by omega) (fun e => by omega)
  · rw [ja_js1, jwi (by omega) (by omega)]
  · rw [ja_jsk (by decide), ja_jsk (by decide), ja_fr p9 (by unfold jW_207; omega), V1]; exact (kTn B1.1).symm
  · rw [ja_jsk (by decide), ja_jsk (by decide), ja_fr p9 (by unfold jW_207; omega), V2]; exact (kTn B2.1).symm
  · rw [ja_jsk (by decide), ja_js1, p8, jwi (by omega) (by omega)]; exact (kTn b4.1).symm
/-- which row: x the word as the model packs it, w as the class counts it -/
def kWx (x w : Int) : Prop := (w = 0 ∧ x = kPw 5 5) ∨ (w = 1 ∧ x = kPw 6 4 ∧ x ≠ kPw 5 5) ∨ (w = 2 ∧ x = kPw 7 6 ∧ x ≠ kPw 5 5 ∧ x ≠ kPw 6 4) ∨ (w = 3 ∧ x = kPw 8 6 ∧ x ≠ kPw 5 5 ∧ x ≠ kPw 6 4 ∧ x ≠ kPw 7 6)
theorem sl_206 {m : jm} {f : Nat → Int} {n : Nat} {s : kFS} {c : kC} {x w : Int} (H : kMz m f n s) (hC : kCm m 20 70 c) (hv : c 11 0 ≤ 8) (hn : kFl c w = false) (hx : kWx x w) : jo (jf_206 x m) (fun r => (kMz r f n (kRow f n w s c).1 ∧ kCm r 20 70 (kRow f n w s c).2) ∧ jfr true jW_206 m r) := by
  refine jo_and ?_ jx_206
  have e5 : ∀ M, jf_202 5 M = some (kPw 5 5) := fun M => sp_202 (s := 5) (L := 5) rfl (by decide)
  have e6 : ∀ M, jf_202 6 M = some (kPw 6 4) := fun M => sp_202 (s := 6) (L := 4) rfl (by decide)
  have e7 : ∀ M, jf_202 7 M = some (kPw 7 6) := fun M => sp_202 (s := 7) (L := 6) rfl (by decide)
  unfold jf_206
  rw [e5, jsb, e6, jsb, e7, jsb]
  unfold kRow
  unfold kFl at hn
  rcases hx with ⟨rfl, h⟩ | ⟨rfl, h, h1⟩ | ⟨rfl, h, h1, h2⟩ | ⟨rfl, h, h1, h2, h3⟩
  · rw [if_pos rfl] at hn
    rw [if_pos h]
    refine jo_c (sl_206a H hC (by have := of_decide_eq_false hn; omega)) (fun r hr => ?_)
    rw [if_pos rfl]; exact hr
  · rw [if_neg (by decide), if_pos rfl] at hn
    rw [if_neg h1, if_pos h]
    refine jo_c (jo_c (sl_209 H hC hv (by have := of_decide_eq_false hn; omega)) (fun r hr => hr)) (fun r hr => ?_)
    rw [if_neg (by decide), if_pos rfl]; exact hr
  · rw [if_neg (by decide), if_neg (by decide), if_pos rfl] at hn
    rw [if_neg h1, if_neg h2, if_pos h]
    refine jo_c (sl_206c H hC hv (by have := of_decide_eq_false hn; omega)) (fun r hr => ?_)
    rw [if_neg (by decide), if_neg (by decide), if_pos rfl]; exact hr
  · rw [if_neg (by decide), if_neg (by decide), if_neg (by decide)] at hn
    rw [if_neg h1, if_neg h2, if_neg h3]
    refine jo_c (sl_206d H hC hv (by have := of_decide_eq_false hn; omega)) (fun r hr => ?_)
    rw [if_neg (by decide), if_neg (by decide), if_neg (by decide)]; exact hr
