/-! PARTS in the model: hang. -/
def kSm (f : Nat → Nat) : Nat → Nat
  | 0 => 0
  | n + 1 => kSm f n + f n
theorem kSm_s {f : Nat → Nat} {n : Nat} : kSm f (n + 1) = kSm f n + f n := rfl
theorem kSm_le {f g : Nat → Nat} : ∀ n, (∀ k, k < n → f k ≤ g k) → kSm f n ≤ kSm g n
  | 0, _ => Nat.le_refl _
  | n + 1, h => by
    have := kSm_le n (fun k hk => h k (by omega))
    have := h n (by omega)
    rw [kSm_s, kSm_s]; omega
theorem kSm_lt {f g : Nat → Nat} : ∀ n, (∀ k, k < n → f k ≤ g k) → (∃ k, k < n ∧ f k < g k) → kSm f n < kSm g n
  | 0, _, ⟨k, hk, _⟩ => absurd hk (Nat.not_lt_zero _)
  | n + 1, h, ⟨k, hk, hl⟩ => by
    have hn := h n (by omega)
    rw [kSm_s, kSm_s]
    by_cases e : k = n
    · subst e
      have := kSm_le k (fun j hj => h j (by omega))
      omega
    · have := kSm_lt n (fun j hj => h j (by omega)) ⟨k, by omega, hl⟩
      omega
theorem kSm_b {f : Nat → Nat} {x : Nat} : ∀ n, (∀ k, k < n → f k ≤ x) → kSm f n ≤ n * x
  | 0, _ => Nat.zero_le _
  | n + 1, h => by
    have := kSm_b n (fun k hk => h k (by omega))
    have := h n (by omega)
    rw [kSm_s, Nat.succ_mul]; omega
theorem kCm_fr {W : Nat → Nat → Prop} {b : Bool} {m m' : jm} {c : kC} (H : kCm m 24 75 c) (hf : jfr b W m m') (hz : ∀ k j, W k j → ¬ ((k = 67 ∧ 24 ≤ j ∧ j ≤ 27) ∨ (75 ≤ k ∧ k ≤ 79))) : kCm m' 24 75 c :=
  kCm_e (fun j h1 h2 => ja_fr hf (fun e => hz _ _ e (Or.inl ⟨rfl, h1, h2⟩))) (fun k j h1 h2 => ja_fr hf (fun e => hz _ _ e (Or.inr ⟨h1, h2⟩))) H
/-- labels that stand within their part, at or below -/
def kLab (M : jm) (c : kC) (s : Nat → Bool) : Prop := ∀ t, t < c 11 0 → ∃ l : Nat, ja M 94 t = (l : Int) ∧ l ≤ t ∧ kRe c s l t = true
def kFix (M : jm) (c : kC) (s : Nat → Bool) : Prop := ∀ e, e < c 11 1 → s e = true → ja M 94 (c 1 e) = ja M 94 (c 2 e)
def kSum (M : jm) (c : kC) : Nat := kSm (fun t => (ja M 94 t).toNat) (c 11 0)
def kLd (c : kC) (s : Nat → Bool) (t : Nat) : Nat := (kFs (fun u => kRe c s u t) (t + 1)).toNat
theorem kLd_c {c : kC} {s : Nat → Bool} {t : Nat} (hv : kV c) (ht : t < c 11 0) : kLd c s t ≤ t ∧ kRe c s (kLd c s t) t = true ∧ kMn c s (kLd c s t) = true ∧ ∀ u, u < kLd c s t → kRe c s u t = false := by
  obtain ⟨m, h1, h2, h3, h4⟩ := kMn_ex (s := s) hv ht
  have e : kLd c s t = m := by
    unfold kLd
    rw [kFs_yes (f := fun u => kRe c s u t) h2 h4 (t + 1) (by omega)]; rfl
  rw [e]; exact ⟨h1, h2, h3, h4⟩
theorem kLd_mn {c : kC} {s : Nat → Bool} {t : Nat} (hv : kV c) (ht : t < c 11 0) : kLd c s t = t ↔ kMn c s t = true := by
  obtain ⟨h1, h2, h3, h4⟩ := kLd_c (s := s) hv ht
  refine ⟨fun e => by rw [e] at h3; exact h3, fun h => ?_⟩
  rcases Nat.lt_or_ge (kLd c s t) t with h5 | h5
  · have := kMn_iff.1 h _ h5
    rw [h2] at this; cases this
  · omega
theorem kLab_ld {M : jm} {c : kC} {s : Nat → Bool} (hv : kV c) (hl : kLab M c s) (hf : kFix M c s) {t : Nat} (ht : t < c 11 0) : ja M 94 t = ((kLd c s t : Nat) : Int) := by
  obtain ⟨h1, h2, h3, h4⟩ := kLd_c (s := s) hv ht
  have e1 : ja M 94 t = ja M 94 (kLd c s t) := kRe_min (P := fun x => ja M 94 x = ja M 94 (kLd c s t)) rfl (fun e he hs => by
    have := hf e he hs
    exact ⟨fun h => by rw [← this]; exact h, fun h => by rw [this]; exact h⟩) h2
  obtain ⟨l, q1, q2, q3⟩ := hl (kLd c s t) (by omega)
  have e2 : l = kLd c s t := by
    rcases Nat.lt_or_ge l (kLd c s t) with h5 | h5
    · have := h4 l h5
      rw [kRe_t hv (by omega) q3 h2] at this; cases this
    · omega
  rw [e1, q1, e2]
theorem sl_276 {m : jm} {c : kC} {S : Nat} (hv : kV c) (hC : kCm m 24 75 c) (hS : S < 4096) : jo (jf_276 S m) (fun r => r.1 = ((kCo c (fun e => S.testBit e) : Nat) : Int) ∧ (∀ t, t < c 11 0 → ja r.2 94 t = ((kLd c (fun e => S.testBit e) t : Nat) : Int)) ∧ jfr true jW_276 m r.2) := by
  have hn := hv.1
  have hfr : ∀ {M : jm}, jfr true jW_276 m M → kCm M 24 75 c := fun h => kCm_fr hC h (fun k j hk => by unfold jW_276 at hk; omega)
  unfold jf_276
  -- each its own
  refine jo_c (R := fun r => (∀ t, t < c 11 0 → ja r 94 t = (t : Int)) ∧ jfr true jW_276 m r) ?_ (fun r hr => ?_)
  · refine jo_for (c 11 0) jfu (fun i (s : Int × jm) => s.1 = i ∧ (∀ t, t < i → ja s.2 94 t = (t : Int)) ∧ jfr true jW_276 m s.2) (jfu_lt (by omega)) ?_ ?_ _ ⟨rfl, fun t ht => absurd ht (Nat.not_lt_zero _), jfr_r⟩
    · intro i hi s hs
      obtain ⟨x, m'⟩ := s
      obtain ⟨h1, h2, h3⟩ := hs
      dsimp only at h1 h2 h3 ⊢
      subst h1
      rw [show ja m' 67 24 = (c 11 0 : Int) from (hfr h3).1 0 (by decide), if_pos (show (i : Int) < (c 11 0 : Int) by omega), if_pos (show 0 ≤ (i : Int) ∧ (i : Int) < 8 by omega), jle_eq, Int.toNat_natCast, jwn (n := i) (by omega)]
      refine ⟨rfl, fun t ht => ?_, jfr_js h3 rfl⟩
      show ja (js m' 94 i _) 94 t = _
      rw [ja_js]
      by_cases e : t = i
      · rw [if_pos ⟨rfl, e⟩, e, jw_nat (by omega)]
      · rw [if_neg (fun f => e f.2)]; exact h2 t (by omega)
    · intro s hs
      obtain ⟨x, m'⟩ := s
      obtain ⟨h1, h2, h3⟩ := hs
      dsimp only at h1 h2 h3 ⊢
      rw [show ja m' 67 24 = (c 11 0 : Int) from (hfr h3).1 0 (by decide), if_neg (by omega)]
      exact ⟨h2, h3⟩
  obtain ⟨hr1, hr2⟩ := hr
  -- until nothing changes
  refine jo_c (R := fun r => kLab r c (fun e => S.testBit e) ∧ kFix r c (fun e => S.testBit e) ∧ jfr true jW_276 m r) ?_ (fun r3 hr3 => ?_)
  · have hsum0 : kSum r c ≤ 64 := by
      have h1 : kSum r c ≤ c 11 0 * 8 := kSm_b (x := 8) (c 11 0) (fun k hk => by rw [hr1 k hk]; omega)
      omega
    refine jo_wh (fun s : Int × jm => (s.1 = 0 ∨ s.1 = 1) ∧ jfr true jW_276 m s.2 ∧ kLab s.2 c (fun e => S.testBit e) ∧ (s.1 = 0 → kFix s.2 c (fun e => S.testBit e))) (fun s => if s.1 = 0 then 0 else 1 + kSum s.2 c) ?_ jfu _ (jfu_lt (by show (if (1 : Int) = 0 then 0 else 1 + kSum r c) < 4000000; rw [if_neg (by decide)]; omega)) ⟨Or.inr rfl, hr2, fun t ht => ⟨t, hr1 t ht, Nat.le_refl _, kRe_r⟩, fun h => absurd h (by simp)⟩
    intro a ha
    obtain ⟨fl, M⟩ := a
    obtain ⟨h1, h2, h3, h4⟩ := ha
    dsimp only at h1 h2 h3 h4 ⊢
    by_cases h0 : fl = 0
    · rw [if_pos h0]
      exact ⟨h3, h4 h0, h2⟩
    · rw [if_neg h0, if_neg h0]
      refine jo_c (R := fun (r : Int × jm) => (r.1 = 0 ∨ r.1 = 1) ∧ jfr true jW_276 m r.2 ∧ kLab r.2 c (fun e => S.testBit e) ∧ (r.1 = 0 → kFix r.2 c (fun e => S.testBit e)) ∧ (r.1 = 1 → kSum r.2 c < kSum M c)) ?_ (fun r hr => ?_)
      · refine jo_for (c 11 1) jfu (fun e (s : Int × Int × jm) => s.2.1 = e ∧ (s.1 = 0 ∨ s.1 = 1) ∧ jfr true jW_276 m s.2.2 ∧ kLab s.2.2 c (fun e => S.testBit e) ∧ (s.1 = 0 → (∀ t, t < c 11 0 → ja s.2.2 94 t = ja M 94 t) ∧ ∀ f, f < e → S.testBit f = true → ja M 94 (c 1 f) = ja M 94 (c 2 f)) ∧ (s.1 = 1 → kSum s.2.2 c < kSum M c)) (jfu_lt (by omega)) ?_ ?_ _ ⟨rfl, Or.inl rfl, h2, h3, fun _ => ⟨fun t _ => rfl, fun f hf => absurd hf (Nat.not_lt_zero _)⟩, fun h => absurd h (by simp)⟩
        · intro e he s hs
          obtain ⟨mo, x, M2⟩ := s
          obtain ⟨g1, g2, g3, g4, g5, g6⟩ := hs
          dsimp only at g1 g2 g3 g4 g5 g6 ⊢
          subst g1
          have hC2 := hfr g3
          have hE := hv.2.2.1 e he
          have d1 : jw ((2 : Int) * (e : Int)) = (2 : Int) * (e : Int) := jwi (by omega) (by omega)
          have d2 : jw ((2 : Int) * (e : Int) + 1) = (2 : Int) * (e : Int) + 1 := jwi (by omega) (by omega)
          have t1 : ((2 : Int) * (e : Int)).toNat = 2 * e := by omega
          have t2 : ((2 : Int) * (e : Int) + 1).toNat = 2 * e + 1 := by omega
          obtain ⟨la, p1, p2, p3⟩ := g4 (c 1 e) hE.1
          obtain ⟨lb, q1, q2, q3⟩ := g4 (c 2 e) hE.2.1
          rw [show ja M2 67 25 = (c 11 1 : Int) from hC2.1 1 (by decide), if_pos (show (e : Int) < (c 11 1 : Int) by omega), jtst (by omega) (by omega), d1, d2, t1, t2, (hC2.2.2.1 e he).1, (hC2.2.2.1 e he).2.1, Int.toNat_natCast, Int.toNat_natCast, p1, q1, jwn (n := e) (by omega)]
          cases hs : S.testBit e
          · rw [if_neg nft, if_pos rfl, jsb]
            refine ⟨rfl, g2, g3, g4, fun h => ⟨(g5 h).1, fun f hf hs2 => ?_⟩, g6⟩
            by_cases ef : f = e
            · rw [ef, hs] at hs2; cases hs2
            · exact (g5 h).2 f (by omega) hs2
          · rw [if_pos (rfl : true = true), if_neg (by decide), if_pos (show 0 ≤ (2 : Int) * (e : Int) ∧ (2 : Int) * (e : Int) < 24 by omega), if_pos (show 0 ≤ (2 : Int) * (e : Int) + 1 ∧ (2 : Int) * (e : Int) + 1 < 24 by omega), if_pos (show 0 ≤ (c 1 e : Int) ∧ (c 1 e : Int) < 8 by omega), if_pos (show 0 ≤ (c 2 e : Int) ∧ (c 2 e : Int) < 8 by omega), if_pos (show 0 ≤ (c 1 e : Int) ∧ (c 1 e : Int) < 8 by omega), if_pos (show 0 ≤ (c 2 e : Int) ∧ (c 2 e : Int) < 8 by omega), if_pos (show 0 ≤ (c 1 e : Int) ∧ (c 1 e : Int) < 8 by omega), if_pos (show 0 ≤ (c 2 e : Int) ∧ (c 2 e : Int) < 8 by omega)]
            have e52 : (if (la : Int) < (lb : Int) then some (la : Int) else some (lb : Int)) = some ((min la lb : Nat) : Int) := by
              by_cases h : la < lb
              · rw [if_pos (by omega), Nat.min_eq_left (by omega)]
              · rw [if_neg (by omega), Nat.min_eq_right (by omega)]
            have e64 : (if mo = 0 then (if (la : Int) = (lb : Int) then some (0 : Int) else some 1) else some 1) = some (if mo = 0 ∧ la = lb then 0 else 1) := by
              by_cases h : mo = 0
              · rw [if_pos h]
                by_cases h2 : la = lb
                · rw [if_pos (by omega), if_pos ⟨h, h2⟩]
                · rw [if_neg (by omega), if_neg (fun z => h2 z.2)]
              · rw [if_neg h, if_neg (fun z => h z.1)]
            rw [e52, jsb, e64, jsb, if_pos (show 0 ≤ (c 1 e : Int) ∧ (c 1 e : Int) < 8 by omega), jle_eq, if_pos (show 0 ≤ (c 2 e : Int) ∧ (c 2 e : Int) < 8 by omega), jle_eq, jsb]
            have rd : ∀ t, ja (js (js M2 94 (c 1 e) ((min la lb : Nat) : Int)) 94 (c 2 e) ((min la lb : Nat) : Int)) 94 t = if t = c 1 e ∨ t = c 2 e then ((min la lb : Nat) : Int) else ja M2 94 t := fun t => by
              rw [ja_js, jw_nat (by omega)]
              by_cases h1 : t = c 2 e
              · rw [if_pos ⟨rfl, h1⟩, if_pos (Or.inr h1)]
              · rw [if_neg (fun z => h1 z.2), ja_js, jw_nat (by omega)]
                by_cases h2 : t = c 1 e
                · rw [if_pos ⟨rfl, h2⟩, if_pos (Or.inl h2)]
                · rw [if_neg (fun z => h2 z.2), if_neg (fun z => z.elim h2 h1)]
            have hab : kRe c (fun e => S.testBit e) (c 1 e) (c 2 e) = true := kRe_st hv hE.1 he hs (Or.inl ⟨rfl, rfl⟩) kRe_r
            have hlab : kLab (js (js M2 94 (c 1 e) ((min la lb : Nat) : Int)) 94 (c 2 e) ((min la lb : Nat) : Int)) c (fun e => S.testBit e) := fun t ht => by
              rw [rd]
              by_cases h : t = c 1 e ∨ t = c 2 e
              · rw [if_pos h]
                refine ⟨min la lb, rfl, by omega, ?_⟩
                have hra : kRe c (fun e => S.testBit e) (min la lb) (c 1 e) = true := by
                  by_cases h5 : la < lb
                  · rw [Nat.min_eq_left (by omega)]; exact p3
                  · rw [Nat.min_eq_right (by omega)]; exact kRe_t hv (by omega) q3 (kRe_s hv hab)
                rcases h with h | h
                · rw [h]; exact hra
                · rw [h]; exact kRe_t hv (by omega) hra hab
              · rw [if_neg h]; exact g4 t ht
            have hle : ∀ t, t < c 11 0 → (ja (js (js M2 94 (c 1 e) ((min la lb : Nat) : Int)) 94 (c 2 e) ((min la lb : Nat) : Int)) 94 t).toNat ≤ (ja M2 94 t).toNat := fun t ht => by
              rw [rd]
              by_cases h : t = c 1 e ∨ t = c 2 e
              · rw [if_pos h]
                rcases h with h | h
                · rw [h, p1]; omega
                · rw [h, q1]; omega
              · rw [if_neg h]; omega
            have hfr2 : jfr true jW_276 m (js (js M2 94 (c 1 e) ((min la lb : Nat) : Int)) 94 (c 2 e) ((min la lb : Nat) : Int)) := jfr_js (jfr_js g3 rfl) rfl
            by_cases hll : la = lb
            · have hsame : ∀ t, t < c 11 0 → ja (js (js M2 94 (c 1 e) ((min la lb : Nat) : Int)) 94 (c 2 e) ((min la lb : Nat) : Int)) 94 t = ja M2 94 t := fun t ht => by
                rw [rd]
                by_cases h : t = c 1 e ∨ t = c 2 e
                · rw [if_pos h]
                  rcases h with h | h
                  · rw [h, p1]; omega
                  · rw [h, q1]; omega
                · rw [if_neg h]
              have hss : kSum (js (js M2 94 (c 1 e) ((min la lb : Nat) : Int)) 94 (c 2 e) ((min la lb : Nat) : Int)) c ≤ kSum M2 c := kSm_le _ hle
              refine ⟨rfl, ?_, hfr2, hlab, fun h => ?_, fun h => ?_⟩
              · show (if mo = 0 ∧ la = lb then (0 : Int) else 1) = 0 ∨ (if mo = 0 ∧ la = lb then (0 : Int) else 1) = 1
                split
                · exact Or.inl rfl
                · exact Or.inr rfl
              · have h' : (if mo = 0 ∧ la = lb then (0 : Int) else 1) = 0 := h
                have hmo : mo = 0 := by
                  by_cases z : mo = 0
                  · exact z
                  · rw [if_neg (fun y => z y.1)] at h'; omega
                refine ⟨fun t ht => by rw [hsame t ht]; exact (g5 hmo).1 t ht, fun f hf hs2 => ?_⟩
                by_cases ef : f = e
                · rw [ef, ← (g5 hmo).1 _ hE.1, ← (g5 hmo).1 _ hE.2.1, p1, q1, hll]
                · exact (g5 hmo).2 f (by omega) hs2
              · have h' : (if mo = 0 ∧ la = lb then (0 : Int) else 1) = 1 := h
                have hmo : mo = 1 := by
                  rcases g2 with z | z
                  · rw [if_pos ⟨z, hll⟩] at h'; omega
                  · exact z
                exact Nat.lt_of_le_of_lt hss (g6 hmo)
            · have hlt : kSum (js (js M2 94 (c 1 e) ((min la lb : Nat) : Int)) 94 (c 2 e) ((min la lb : Nat) : Int)) c < kSum M2 c := by
                refine kSm_lt _ hle ?_
                by_cases h5 : la < lb
                · refine ⟨c 2 e, hE.2.1, ?_⟩
                  rw [rd, if_pos (Or.inr rfl), q1]; omega
                · refine ⟨c 1 e, hE.1, ?_⟩
                  rw [rd, if_pos (Or.inl rfl), p1]; omega
              have hle2 : kSum M2 c ≤ kSum M c := by
                rcases g2 with z | z
                · exact kSm_le _ (fun t ht => by rw [(g5 z).1 t ht]; omega)
                · exact Nat.le_of_lt (g6 z)
              have e1 : (if mo = 0 ∧ la = lb then (0 : Int) else 1) = 1 := if_neg (fun z => hll z.2)
              rw [e1]
              exact ⟨rfl, Or.inr rfl, hfr2, hlab, fun h => absurd h (by simp), fun _ => Nat.lt_of_lt_of_le hlt hle2⟩
        · intro s hs
          obtain ⟨mo, x, M2⟩ := s
          obtain ⟨g1, g2, g3, g4, g5, g6⟩ := hs
          dsimp only at g1 g2 g3 g4 g5 g6 ⊢
          rw [show ja M2 67 25 = (c 11 1 : Int) from (hfr g3).1 1 (by decide), if_neg (by omega)]
          refine ⟨g2, g3, g4, fun h f hf hs => ?_, g6⟩
          have hE := hv.2.2.1 f hf
          show ja M2 94 _ = ja M2 94 _
          rw [(g5 h).1 _ hE.1, (g5 h).1 _ hE.2.1]; exact (g5 h).2 f hf hs
      · obtain ⟨q1, q2, q3, q4, q5⟩ := hr
        refine ⟨⟨q1, q2, q3, q4⟩, ?_⟩
        show (if r.1 = 0 then 0 else 1 + kSum r.2 c) < 1 + kSum M c
        rcases q1 with q1 | q1
        · rw [if_pos q1]; omega
        · have := q5 q1
          rw [if_neg (by omega)]; omega
  · obtain ⟨k1, k2, k3⟩ := hr3
    have hld : ∀ t, t < c 11 0 → ja r3 94 t = ((kLd c (fun e => S.testBit e) t : Nat) : Int) := fun t ht => kLab_ld hv k1 k2 ht
    rw [jlp_fr (a := ((0 : Int), (0 : Int))) (c := ((kCo c (fun e => S.testBit e) : Nat) : Int)) (c 11 0) (fun k => (((kCnt (kMn c (fun e => S.testBit e)) k : Nat) : Int), (k : Int))) (by omega) rfl ?hs ?he]
    case he =>
      dsimp only
      rw [show ja r3 67 24 = (c 11 0 : Int) from (hfr k3).1 0 (by decide), if_neg (by omega)]; rfl
    case hs =>
      intro t ht
      have hc := kCnt_le (S := kMn c (fun e => S.testBit e)) t
      have hm := kLd_mn (s := fun e => S.testBit e) hv ht
      dsimp only
      rw [show ja r3 67 24 = (c 11 0 : Int) from (hfr k3).1 0 (by decide), if_pos (show (t : Int) < (c 11 0 : Int) by omega), if_pos (show 0 ≤ (t : Int) ∧ (t : Int) < 8 by omega), Int.toNat_natCast, hld t ht, jwn (n := t) (by omega), kCnt_s]
      cases hk : kMn c (fun e => S.testBit e) t
      · rw [if_neg (show ¬ ((kLd c (fun e => S.testBit e) t : Nat) : Int) = (t : Int) by intro z; rw [hm.1 (by omega)] at hk; cases hk), jsb, if_neg nft, Int.add_zero, jw_nat (by omega)]; rfl
      · rw [if_pos (show ((kLd c (fun e => S.testBit e) t : Nat) : Int) = (t : Int) by rw [hm.2 hk]), jsb, if_pos (rfl : true = true), jwn (by omega)]
    rw [jsb]
    exact ⟨rfl, hld, k3⟩
