/-! WORK: the class reads trees, to the end. -/
def qTC (m0 : jm) (f : Nat → Int) (n : Nat) (c : kC) (D o : Nat) : Prop := ∀ (i : Nat) (L : List wE) (st : Nat → Nat) (t : Nat) (M : jm) (N : Nat) (Q : Int × jm → Prop), qCr m0 f n M i L o st → 2 * t ≤ i → L.length ≤ i → n - i < N → (o = 0 → kSkp f n i < n) → (0 < o → kGb f n i 93 = false) → (∀ e b, wRd f n c D i = Sum.inl e → qFa m0 e b → Q b) → (∀ j τ t' M' N', wRd f n c D i = Sum.inr (j, τ) → qCr m0 f n M' j (L ++ wC D L.length τ) o st → 2 * t' ≤ j → n - j < N' → jo (jlp wCb N' ((t' : Int), M')) Q) → jo (jlp wCb N ((t : Int), M)) Q
theorem wG_ok {f : Nat → Int} {n D i j : Nat} {c : kC} {τ : wT D} (hn : n ≤ 600) (hv : kV c) (hi : i ≤ n) (h : wRd f n c D i = Sum.inr (j, τ)) : i + wWt D τ + 1 ≤ j ∧ j ≤ n ∧ wV c D τ := by
  have := wRd_g (f := f) hn hv D i hi
  rw [h] at this
  exact this
theorem wBdC {m0 : jm} {f : Nat → Int} {n D o : Nat} {c : kC} {L1 : List wE} {st : Nat → Nat} {r : wRL D} (hn : n ≤ 150) (hv : kV c) (TC : qTC m0 f n c D (o + 1)) {Q : Int × jm → Prop} (kb : ∀ e b, r = Sum.inl e → qFa m0 e b → Q b) (kg : ∀ q l t' M' N', r = Sum.inr (kSkp f n q, l) → kGb f n q 93 = true → qCr m0 f n M' q (L1 ++ wFl (wC D) (wSz D) L1.length l) (o + 1) st → 2 * t' ≤ q → L1.length + wSm (wSz D) l ≤ q → n - q < N' → jo (jlp wCb N' ((t' : Int), M')) Q) : ∀ (N1 p : Nat) (acc : List (wT D)) (t : Nat) (M : jm) (N : Nat), kRun (wBst f n (wRd f n c D)) N1 (p, acc) = some r → qCr m0 f n M p (L1 ++ wFl (wC D) (wSz D) L1.length acc) (o + 1) st → 2 * t ≤ p → L1.length + wSm (wSz D) acc ≤ p → n - p < N → jo (jlp wCb N ((t : Int), M)) Q
  | 0, _, _, _, _, _, h, _, _, _, _ => by cases h
  | N1 + 1, p, acc, t, M, N, h, H, ht, hL, hN => by
    have hp := H.1.1.2.1
    have hlen : (L1 ++ wFl (wC D) (wSz D) L1.length acc).length = L1.length + wSm (wSz D) acc := by rw [List.length_append, wFl_len (wC_len D)]
    rw [kRun_s] at h
    unfold wBst at h
    dsimp only at h
    cases g : kGb f n p 93 with
    | true =>
      rw [g, if_pos rfl] at h
      dsimp only at h
      injection h with h
      exact kg p acc t M N h.symm g H ht hL hN
    | false =>
      rw [g, if_neg (by simp)] at h
      refine TC p _ st t M N Q H ht (by omega) hN (fun z => by omega) (fun _ => g) (fun e b he hb => ?_) (fun j τ t' M' N' he H' ht' hN' => ?_)
      · rw [he] at h
        dsimp only at h
        injection h with h
        exact kb e b h.symm hb
      · rw [he] at h
        dsimp only at h
        have gd := wG_ok (by omega) hv hp he
        have := wSz_le D τ
        refine wBdC hn hv TC kb kg N1 j (acc ++ [τ]) t' M' N' h ?_ ht' ?_ hN'
        · rw [hlen, List.append_assoc, ← wFl_a] at H'
          exact H'
        · rw [wSm_a]; omega
theorem wTC {m0 : jm} {f : Nat → Int} {n : Nat} {c : kC} (hn : n ≤ 150) (hv : kV c) (h3 : ∀ k, k < 4 → ja m0 3 k = (c 11 k : Int)) : ∀ (D o : Nat), D + o = 6 → qTC m0 f n c D o
  | 0, o, ho => fun i L st t M N Q H ht hL hN h0 h93 kb kg => by
    by_cases h1 : kU3 f n i = -1
    · refine wC_bad hn H ht hN h0 h93 h1 (fun b hb => kb (1, kSkp f n i) b ?_ hb)
      unfold wRd; rw [if_pos h1]
    · by_cases h7 : kU3 f n i = 7
      · refine wC_full hn H ht hN h0 h93 h7 (by omega) (fun b hb => kb (3, kSkp f n i) b ?_ hb)
        unfold wRd; rw [if_neg h1, if_pos h7]
      · have e : wRd f n c 0 i = wEnd (kSs f n 59 (wS f n c (kU3 f n i) (kLe f n i)).1) (fun e => e) (wS f n c (kU3 f n i) (kLe f n i)).2 := by unfold wRd; rw [if_neg h1, if_neg h7]; rfl
        refine wC_simple hn hv h3 H ht hL hN h0 h93 h1 h7 (fun e' b he hb => kb e' b (by rw [e, he]; rfl) hb) (fun j t' M' N' he H' ht' hN' => kg j (wS f n c (kU3 f n i) (kLe f n i)).2 t' M' N' (by rw [e, he]; rfl) H' ht' hN')
  | D + 1, o, ho => fun i L st t M N Q H ht hL hN h0 h93 kb kg => by
    by_cases h1 : kU3 f n i = -1
    · refine wC_bad hn H ht hN h0 h93 h1 (fun b hb => kb (1, kSkp f n i) b ?_ hb)
      unfold wRd; rw [if_pos h1]
    · by_cases h7 : kU3 f n i = 7
      · have e : wRd f n c (D + 1) i = wAg f n (wRd f n c D) (kLe f n i) := by unfold wRd; rw [if_neg h1, if_pos h7]
        have hi := H.1.1.2.1
        have hle := kLe_le (f := f) hi
        have cs := kU3_cs (f := f) (n := n) (i := i)
        have hsk := kSkp_ge (f := f) (n := n) (i := i)
        refine wC_ag hn H ht hL hN h0 h93 h7 (by omega) (fun e' b he hb => kb e' b (by rw [e]; unfold wAg; rw [he]; rfl) hb) (fun j t' M' N' he H' ht' hN' => ?_)
        have hj : kLe f n i < j := by
          obtain ⟨k, e1, e2, -⟩ := kSs_in he
          obtain ⟨k', d1, -, -, -, d5, -⟩ := kNs_in e1
          cases d1
          omega
        have hjn := H'.1.1.2.1
        generalize hx : (kNs f n 0 30 (Sum.inr (kLe f n i))).2 = x at *
        obtain ⟨⟨r, r1⟩, -⟩ := wB_g (f := f) (c := c) (R := wRd f n c D) (by omega) hjn (fun k hk => wRd_g (by omega) hv D k hk)
        have eB : wB f n (wRd f n c D) (Sum.inr j) = r := by unfold wB; dsimp only; rw [r1]; rfl
        have l1 : (L ++ [((7 : Int), x, (0 : Int))]).length = L.length + 1 := by rw [List.length_append]; rfl
        have eA : ∀ s, r = s → wAg f n (wRd f n c D) (kLe f n i) = match s with
            | Sum.inl e => Sum.inl e
            | Sum.inr r => wEnd (α := List (wT D)) (β := wT (D + 1)) (kSs f n 59 (kSs f n 93 (Sum.inr r.1))) (fun l => Sum.inr (x, l)) r.2 := fun s hs => by
          unfold wAg
          rw [he, eB, hs, hx]
          cases s <;> rfl
        refine wBdC (L1 := L ++ [((7 : Int), x, (0 : Int))]) (st := fun u => if u = o then L.length else st u) hn hv (wTC hn hv h3 D (o + 1) (by omega)) (fun e' b hr hb => kb e' b (by rw [e, eA _ hr]) hb) (fun q l t2 M2 N2 hr hg H2 ht2 hL2 hN2 => ?_) jfu j [] t' M' N' r1 (by
          show qCr m0 f n M' j (L ++ [((7 : Int), x, (0 : Int))] ++ []) (o + 1) _
          rw [List.append_nil]; exact H') ht' (by rw [l1]; show L.length + 1 + 0 ≤ j; omega) hN'
        have hRl : (wFl (wC D) (wSz D) (L.length + 1) l).length = wSm (wSz D) l := wFl_len (wC_len D) l _
        have eL : L ++ [((7 : Int), x, (0 : Int))] ++ wFl (wC D) (wSz D) (L ++ [((7 : Int), x, (0 : Int))]).length l = L ++ (7, x, 0) :: wFl (wC D) (wSz D) (L.length + 1) l := by rw [l1, List.append_assoc]; rfl
        rw [eL] at H2
        rw [l1] at hL2
        have lenA : (L ++ ((7 : Int), x, (0 : Int)) :: wFl (wC D) (wSz D) (L.length + 1) l).length = L.length + 1 + wSm (wSz D) l := by rw [List.length_append, List.length_cons, hRl]; omega
        have g2 : kGb f n (kSkp f n q) 93 = true := by rw [kGb_s]; exact hg
        have e59 : kSs f n 59 (kSs f n 93 (Sum.inr (kSkp f n q))) = kSs f n 59 (Sum.inr (kSkp f n q + 1)) := by rw [kSs_y g2, kSkp_2]
        refine wC_close hn (by omega) H2 (if_pos rfl) ht2 (by omega) hN2 hg (fun e' b he' hb => kb e' b (by rw [e, eA _ hr]; dsimp only; rw [e59, he']; rfl) hb) (fun j3 t3 M3 N3 he' H3 ht3 hN3 => ?_)
        refine kg j3 (Sum.inr (x, l)) t3 M3 N3 (by rw [e, eA _ hr]; dsimp only; rw [e59, he']; rfl) ?_ ht3 hN3
        rw [lenA] at H3
        obtain ⟨a1, a2, a3, a4, a5, a6⟩ := H3
        exact ⟨a1, a2, a3, fun u hu => by rw [a4 u hu]; show ((if u = o then L.length else st u : Nat) : Int) = _; rw [if_neg (by omega)], a5, a6⟩
      · have e : wRd f n c (D + 1) i = wEnd (β := wT (D + 1)) (kSs f n 59 (wS f n c (kU3 f n i) (kLe f n i)).1) (fun e => Sum.inl e) (wS f n c (kU3 f n i) (kLe f n i)).2 := by unfold wRd; rw [if_neg h1, if_neg h7]
        refine wC_simple hn hv h3 H ht hL hN h0 h93 h1 h7 (fun e' b he hb => kb e' b (by rw [e, he]; rfl) hb) (fun j t' M' N' he H' ht' hN' => kg j (Sum.inl (wS f n c (kU3 f n i) (kLe f n i)).2) t' M' N' (by rw [e, he]; rfl) H' ht' hN')
/-! all of it -/
abbrev wPr : Type := (Int × Nat) ⊕ List (wT 6)
noncomputable def wTst (f : Nat → Int) (n : Nat) (c : kC) (s : Nat × List (wT 6)) : wPr ⊕ (Nat × List (wT 6)) := if kSkp f n s.1 < n then (match wRd f n c 6 s.1 with
    | Sum.inl e => Sum.inl (Sum.inl e)
    | Sum.inr r => Sum.inr (r.1, s.2 ++ [r.2])) else Sum.inl (Sum.inr s.2)
noncomputable def wTop (f : Nat → Int) (n : Nat) (c : kC) : wPr := (kRun (wTst f n c) jfu (0, [])).getD (Sum.inl (0, 0))
theorem wTop_r {f : Nat → Int} {n : Nat} {c : kC} (hn : n ≤ 600) (hv : kV c) : kRun (wTst f n c) jfu (0, []) = some (wTop f n c) ∧ (match wTop f n c with
    | Sum.inl e => e.2 ≤ n
    | Sum.inr l => wSm (wWt 6) l ≤ n ∧ wAll (wV c 6) l) := by
  obtain ⟨r, r1, r2⟩ := kRun_ex (step := wTst f n c) (fun s => wSm (wWt 6) s.2 ≤ s.1 ∧ s.1 ≤ n ∧ wAll (wV c 6) s.2) (fun s => n - s.1) (fun r => match r with
    | Sum.inl e => e.2 ≤ n
    | Sum.inr l => wSm (wWt 6) l ≤ n ∧ wAll (wV c 6) l) (fun s hs => by
    obtain ⟨k, l⟩ := s
    obtain ⟨b1, b2, b3⟩ := hs
    dsimp only at b1 b2 b3
    unfold wTst
    dsimp only
    by_cases g : kSkp f n k < n
    · rw [if_pos g]
      have gr := wRd_g (f := f) hn hv 6 k b2
      cases hz : wRd f n c 6 k with
      | inl e => rw [hz] at gr; exact Or.inl ⟨_, rfl, gr⟩
      | inr z =>
        rw [hz] at gr
        obtain ⟨j, τ⟩ := z
        obtain ⟨a1, a2, a3⟩ := gr
        dsimp only at a1 a2 a3
        refine Or.inr ⟨_, rfl, by show n - j < n - k; omega, ?_, a2, wAll_a l b3 a3⟩
        show wSm (wWt 6) (l ++ [τ]) ≤ j
        rw [wSm_a]; omega
    · rw [if_neg g]
      exact Or.inl ⟨_, rfl, by show wSm (wWt 6) l ≤ n; omega, b3⟩) jfu (0, []) (jfu_lt (by show n - 0 < 4000000; omega)) ⟨Nat.le_refl _, Nat.zero_le _, trivial⟩
  have e : wTop f n c = r := by unfold wTop; rw [r1]; rfl
  rw [e]
  exact ⟨r1, r2⟩
def qWc (m0 : jm) (r : wPr) (b : Int × jm) : Prop := match r with
  | Sum.inl e => qFa m0 e b
  | Sum.inr l => b.1 = 1 ∧ kCw b.2 (wFl (wC 6) (wSz 6) 0 l) ∧ ja b.2 1 6 = ja m0 1 6 ∧ jfr true jW_99 m0 b.2
set_option maxRecDepth 20000 in
theorem wTopC {m0 : jm} {f : Nat → Int} {n : Nat} {c : kC} {r : wPr} (hn : n ≤ 150) (hv : kV c) (h3 : ∀ k, k < 4 → ja m0 3 k = (c 11 k : Int)) : ∀ (N1 p : Nat) (acc : List (wT 6)) (t : Nat) (M : jm) (N : Nat), kRun (wTst f n c) N1 (p, acc) = some r → qCr m0 f n M p (wFl (wC 6) (wSz 6) 0 acc) 0 (fun _ => 0) → 2 * t ≤ p → wSm (wSz 6) acc ≤ p → n - p < N → jo (jlp wCb N ((t : Int), M)) (fun b => qWc m0 r b)
  | 0, _, _, _, _, _, h, _, _, _, _ => by cases h
  | N1 + 1, p, acc, t, M, N, h, H, ht, hL, hN => by
    have hp := H.1.1.2.1
    have hlen : (wFl (wC 6) (wSz 6) 0 acc).length = wSm (wSz 6) acc := wFl_len (wC_len 6) acc 0
    rw [kRun_s] at h
    unfold wTst at h
    dsimp only at h
    by_cases g : kSkp f n p < n
    · rw [if_pos g] at h
      refine wTC hn hv h3 6 0 rfl p _ (fun _ => 0) t M N _ H ht (by omega) hN (fun _ => g) (fun z => absurd z (Nat.lt_irrefl _)) (fun e b he hb => ?_) (fun j τ t' M' N' he H' ht' hN' => ?_)
      · rw [he] at h
        dsimp only at h
        injection h with h
        rw [← h]; exact hb
      · rw [he] at h
        dsimp only at h
        have gd := wG_ok (by omega) hv hp he
        have := wSz_le 6 τ
        refine wTopC hn hv h3 N1 j (acc ++ [τ]) t' M' N' h ?_ ht' ?_ hN'
        · rw [wFl_a, Nat.zero_add, ← hlen]
          exact H'
        · rw [wSm_a]; omega
    · rw [if_neg g] at h
      dsimp only at h
      injection h with h
      rw [← h]
      obtain ⟨N', rfl⟩ : ∃ N', N = N' + 1 := ⟨N - 1, by omega⟩
      refine jo_stp ?_
      have a1 := H.1
      obtain ⟨p8, e8, b1, b2, b3⟩ := jo_ex.1 (sl_116 a1)
      unfold wCb
      dsimp only
      have e6 : ja p8.2 41 6 = 0 := by rw [ja_fr b3 (by unfold jW_116; omega)]; exact H.2.2.1
      rw [if_pos (show (t : Int) < 150 by omega), e8, jsb, b1, if_neg g, if_pos rfl, e6, if_pos rfl]
      exact ⟨rfl, kCw_fr H.2.1 b3 (fun a b h => by unfold jW_116 at h; omega), by show ja p8.2 1 6 = _; rw [ja_fr b3 (by unfold jW_116; omega)]; exact H.2.2.2.2.1, jfr_t H.2.2.2.2.2 b3 (fun e => e) (fun k j h => jW_116i h)⟩
theorem sl_99 {m : jm} {f : Nat → Int} {n : Nat} {c : kC} (hn : n ≤ 150) (hv : kV c) (h3 : ∀ k, k < 4 → ja m 3 k = (c 11 k : Int)) (H : kTc m f n 0) : jo (jf_99 m) (fun b => qWc m (wTop f n c) b) := by
  rw [jf_99_e]
  refine wTopC hn hv h3 jfu 0 [] 0 _ jfu (wTop_r (by omega) hv).1 ⟨kTc_js (kTc_js H (by omega)) (by omega), ⟨?_, fun t ht => absurd ht (Nat.not_lt_zero _)⟩, ?_, fun u hu => absurd hu (Nat.not_lt_zero _), ?_, jfr_js (jfr_js jfr_r (jW_99_i rfl)) (jW_99_i rfl)⟩ (Nat.le_refl _) (Nat.le_refl _) (jfu_lt (by omega))
  · rw [ja_jsj (by decide), ja_js1]; exact wz0
  · rw [ja_js1]; exact wz0
  · rw [ja_jsk (by decide), ja_jsk (by decide)]
