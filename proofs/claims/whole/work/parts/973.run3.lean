/-! WORK: the class does trees. -/
def qRT (c : kC) (cl : List Int) (Cd : List wE) (D : Nat) (t : wT D) : Prop := ∀ (a : Nat) (s : wZ) (M : jm) (bt z N : Nat) (Q : jm → Prop), wSeg Cd a (wC D a t) → qRc c cl Cd M s → wI c s → s.1 < 200 → bt + z ≤ 32 * s.1 → N + bt = jfu → (∀ M', 200 ≤ (wSe c cl D t s).1 → qRc c cl Cd M' (wSe c cl D t s) → Q M') → (∀ M' bt' N', qRc c cl Cd M' (wSe c cl D t s) → (∀ j, j < a ∨ a + wSz D t ≤ j → ja M' 45 j = ja M 45 j) → bt' + z ≤ 32 * (wSe c cl D t s).1 → N' + bt' = jfu → jo (jlp wRb N' (((wSe c cl D t s).1 : Int), ((a + wSz D t : Nat) : Int), (bt' : Int), M')) Q) → jo (jlp wRb N ((s.1 : Int), (a : Int), (bt : Int), M)) Q
theorem wC_hd {c : kC} : ∀ (D b : Nat) (t : wT D), wV c D t → ∃ e r, wC D b t = e :: r ∧ e.1 ≠ 8
  | 0, b, t, h => ⟨t, [], rfl, by
    have h' : wOk c t := h
    have := h'.1; omega⟩
  | D + 1, b, t, h => by
    cases t with
    | inl e => exact ⟨e, [], rfl, by
        have h' : wOk c e := h
        have := h'.1; omega⟩
    | inr k => exact ⟨_, _, rfl, by show (7 : Int) ≠ 8; decide⟩
set_option maxRecDepth 20000 in
theorem wRls {c : kC} {cl : List Int} {Cd : List wE} {D : Nat} (hv : kV c) (hL : Cd.length ≤ 150) (hT : ∀ t, wV c D t → qRT c cl Cd D t) : ∀ (ts : List (wT D)), wAll (wV c D) ts → ∀ (a : Nat) (s : wZ) (M : jm) (bt z N : Nat) (Q : jm → Prop), wSeg Cd a (wFl (wC D) (wSz D) a ts) → qRc c cl Cd M s → wI c s → bt + z ≤ 32 * s.1 → N + bt = jfu → (∀ M', 200 ≤ (wSL (wSe c cl D) ts s).1 → qRc c cl Cd M' (wSL (wSe c cl D) ts s) → Q M') → (∀ M' bt' N', qRc c cl Cd M' (wSL (wSe c cl D) ts s) → (∀ j, j < a ∨ a + wSm (wSz D) ts ≤ j → ja M' 45 j = ja M 45 j) → bt' + z ≤ 32 * (wSL (wSe c cl D) ts s).1 → N' + bt' = jfu → jo (jlp wRb N' (((wSL (wSe c cl D) ts s).1 : Int), ((a + wSm (wSz D) ts : Nat) : Int), (bt' : Int), M')) Q) → jo (jlp wRb N ((s.1 : Int), (a : Int), (bt : Int), M)) Q
  | [], _, a, s, M, bt, z, N, Q, _, H, _, hb, hN, _, kg => kg M bt N H (fun j _ => rfl) hb hN
  | t :: r, hp, a, s, M, bt, z, N, Q, hs, H, hI, hb, hN, kr, kg => by
    have hs' : wSeg Cd a (wC D a t ++ wFl (wC D) (wSz D) (a + wSz D t) r) := hs
    have jf := jfu_ge
    have b200 := hI.2.2.1
    by_cases h2 : s.1 < 200
    · have e : wSL (wSe c cl D) (t :: r) s = wSL (wSe c cl D) r (wSe c cl D t s) := by
        show (if s.1 < 200 then wSL (wSe c cl D) r (wSe c cl D t s) else s) = _
        rw [if_pos h2]
      rw [e] at kr kg
      have hI2 := wI_e (cl := cl) hv D t s hp.1 hI h2
      have sr := wSeg_r hs'
      rw [wC_len] at sr
      refine hT t hp.1 a s M bt z N Q (wSeg_l hs') H hI h2 hb hN (fun M' hq hM' => ?_) (fun M' bt' N' hM' hf hb' hN' => ?_)
      · rw [wSL_id hq] at kr
        exact kr M' hq hM'
      · refine wRls hv hL hT r hp.2 (a + wSz D t) _ M' bt' z N' Q sr hM' hI2 hb' hN' kr (fun M2 bt2 N2 hM2 hf2 hb2 hN2 => ?_)
        have K := kg M2 bt2 N2 hM2 (fun j hj => ?_) hb2 hN2
        · rw [Nat.add_assoc]; exact K
        · have hj' : j < a ∨ a + (wSz D t + wSm (wSz D) r) ≤ j := hj
          rw [hf2 j (by omega)]; exact hf j (by omega)
    · have e : wSL (wSe c cl D) (t :: r) s = s := wSL_id (by omega) _
      rw [e] at kr
      obtain ⟨x, l, h1, h8⟩ := wC_hd (c := c) D a t hp.1
      have g := hs' 0 (by rw [h1, List.length_append, List.length_cons]; omega)
      rw [h1] at g
      have g2 : Cd.getD a (0, 0, 0) = x := g.2
      have g1 : a < Cd.length := g.1
      obtain ⟨N', rfl⟩ : ∃ N', N = N' + 1 := ⟨N - 1, by omega⟩
      exact jo_stp (wRb_s hL H (by omega) (by omega) g1 (by rw [g2]; exact h8) (kr M (by omega) H))
set_option maxRecDepth 20000 in
theorem wRit {c : kC} {cl : List Int} {Cd : List wE} {D a : Nat} {ts : List (wT D)} (hv : kV c) (hL : Cd.length ≤ 150) (hT : ∀ t, wV c D t → qRT c cl Cd D t) (hp : wAll (wV c D) ts) (hs : wSeg Cd (a + 1) (wFl (wC D) (wSz D) (a + 1) ts)) (hx : a + 1 + wSm (wSz D) ts < Cd.length) (he : Cd.getD (a + 1 + wSm (wSz D) ts) (0, 0, 0) = (8, (a : Int), 0)) : ∀ (k : Nat) (s : wZ) (M : jm) (bt z N : Nat) (Q : jm → Prop), k ≤ 30 → qRc c cl Cd M s → wI c s → ja M 45 a = ((k + 1 : Nat) : Int) → bt + (z + (k + 1)) ≤ 32 * s.1 → N + bt = jfu → (∀ M', 200 ≤ (wIt (wSL (wSe c cl D) ts) (k + 1) s).1 → qRc c cl Cd M' (wIt (wSL (wSe c cl D) ts) (k + 1) s) → Q M') → (∀ M' bt' N', qRc c cl Cd M' (wIt (wSL (wSe c cl D) ts) (k + 1) s) → (∀ j, j < a ∨ a + (wSm (wSz D) ts + 2) ≤ j → ja M' 45 j = ja M 45 j) → bt' + z ≤ 32 * (wIt (wSL (wSe c cl D) ts) (k + 1) s).1 → N' + bt' = jfu → jo (jlp wRb N' (((wIt (wSL (wSe c cl D) ts) (k + 1) s).1 : Int), ((a + (wSm (wSz D) ts + 2) : Nat) : Int), (bt' : Int), M')) Q) → jo (jlp wRb N ((s.1 : Int), ((a + 1 : Nat) : Int), (bt : Int), M)) Q := by
  intro k
  induction k with
  | zero =>
    intro s M bt z N Q hk H hI h45 hb hN kr kg
    have jf := jfu_ge
    have hI2 := wI_L (P := wV c D) (fun t s h1 h2 h3 => wI_e (cl := cl) hv D t s h1 h2 h3) ts s hp hI
    have b2 := hI2.2.2.1
    refine wRls hv hL hT ts hp (a + 1) s M bt (z + 1) N Q hs H hI (by omega) hN kr (fun M' bt' N' hM' hf hb' hN' => ?_)
    obtain ⟨N2, rfl⟩ : ∃ N2, N' = N2 + 1 := ⟨N' - 1, by omega⟩
    refine jo_stp (wRb_c (a := a) (k := 0) hL hM' b2 (by omega) hx (by omega) he (by rw [hf a (by omega)]; exact h45) (by decide) (fun M2 hM2 h452 hf2 => ?_))
    rw [if_neg (Nat.lt_irrefl 0), show a + 1 + wSm (wSz D) ts + 1 = a + (wSm (wSz D) ts + 2) by omega]
    refine kg M2 (bt' + 1) N2 hM2 (fun j hj => ?_) (by show bt' + 1 + z ≤ 32 * (wSL (wSe c cl D) ts s).1; omega) (by omega)
    rw [hf2 j (by omega)]; exact hf j (by omega)
  | succ k ih =>
    intro s M bt z N Q hk H hI h45 hb hN kr kg
    have jf := jfu_ge
    have hI2 := wI_L (P := wV c D) (fun t s h1 h2 h3 => wI_e (cl := cl) hv D t s h1 h2 h3) ts s hp hI
    have b2 := hI2.2.2.1
    refine wRls hv hL hT ts hp (a + 1) s M bt (z + (k + 1 + 1)) N Q hs H hI hb hN (fun M' hq hM' => ?_) (fun M' bt' N' hM' hf hb' hN' => ?_)
    · have e : wIt (wSL (wSe c cl D) ts) (k + 1 + 1) s = wSL (wSe c cl D) ts s := by
        show wIt (wSL (wSe c cl D) ts) (k + 1) (wSL (wSe c cl D) ts s) = _
        exact wIt_id hq _
      rw [e] at kr
      exact kr M' hq hM'
    · obtain ⟨N2, rfl⟩ : ∃ N2, N' = N2 + 1 := ⟨N' - 1, by omega⟩
      refine jo_stp (wRb_c (a := a) (k := k + 1) hL hM' b2 (by omega) hx (by omega) he (by rw [hf a (by omega)]; exact h45) (by omega) (fun M2 hM2 h452 hf2 => ?_))
      rw [if_pos (Nat.succ_pos k)]
      refine ih (wSL (wSe c cl D) ts s) M2 (bt' + 1) z N2 Q (by omega) hM2 hI2 h452 (by omega) (by omega) kr (fun M3 bt3 N3 hM3 hf3 hb3 hN3 => ?_)
      refine kg M3 bt3 N3 hM3 (fun j hj => ?_) hb3 hN3
      rw [hf3 j (by omega), hf2 j (by omega)]; exact hf j (by omega)
set_option maxRecDepth 20000 in
theorem wRT1 {c : kC} {cl : List Int} {Cd : List wE} {e : wE} (hv : kV c) (hL : Cd.length ≤ 150) (ho : wOk c e) (a : Nat) (s : wZ) (M : jm) (bt z N : Nat) (Q : jm → Prop) (hs : wSeg Cd a [e]) (H : qRc c cl Cd M s) (hI : wI c s) (h2 : s.1 < 200) (hb : bt + z ≤ 32 * s.1) (hN : N + bt = jfu) (kg : ∀ M' bt' N', qRc c cl Cd M' (wS1 c cl e s) → (∀ j, j < a ∨ a + 1 ≤ j → ja M' 45 j = ja M 45 j) → bt' + z ≤ 32 * (wS1 c cl e s).1 → N' + bt' = jfu → jo (jlp wRb N' (((wS1 c cl e s).1 : Int), ((a + 1 : Nat) : Int), (bt' : Int), M')) Q) : jo (jlp wRb N ((s.1 : Int), (a : Int), (bt : Int), M)) Q := by
  have jf := jfu_ge
  have g := hs 0 (by show 0 < 1; decide)
  have g1 : a < Cd.length := g.1
  have g2 : Cd.getD a (0, 0, 0) = e := g.2
  obtain ⟨N', rfl⟩ : ∃ N', N = N' + 1 := ⟨N - 1, by omega⟩
  refine jo_stp (wRb_1 hL H hI h2 (by omega) g1 g2 ho (fun M' hM' hf => ?_))
  exact kg M' (bt + 1) N' hM' (fun j _ => hf j) (by show bt + 1 + z ≤ 32 * (s.1 + 1); omega) (by omega)
set_option maxRecDepth 20000 in
theorem wRT {c : kC} {cl : List Int} {Cd : List wE} (hv : kV c) (hL : Cd.length ≤ 150) : ∀ (D : Nat) (t : wT D), wV c D t → qRT c cl Cd D t
  | 0, t, ht => fun a s M bt z N Q hs H hI h2 hb hN kr kg => wRT1 hv hL ht a s M bt z N Q hs H hI h2 hb hN kg
  | D + 1, t, ht => by
    cases t with
    | inl e => exact fun a s M bt z N Q hs H hI h2 hb hN kr kg => wRT1 hv hL ht a s M bt z N Q hs H hI h2 hb hN kg
    | inr q =>
      obtain ⟨k, ts⟩ := q
      intro a s M bt z N Q hs H hI h2 hb hN kr kg
      have jf := jfu_ge
      have hk : 0 ≤ k ∧ k ≤ 30 := ht.1
      have hp : wAll (wV c D) ts := ht.2
      obtain ⟨kn, rfl⟩ := Int.eq_ofNat_of_zero_le hk.1
      have hs' : wSeg Cd a ([((7 : Int), (kn : Int), ((a + 1 + wSm (wSz D) ts : Nat) : Int))] ++ (wFl (wC D) (wSz D) (a + 1) ts ++ [(8, (a : Int), 0)])) := hs
      have s1 := wSeg_l hs'
      have s2 : wSeg Cd (a + 1) (wFl (wC D) (wSz D) (a + 1) ts ++ [(8, (a : Int), 0)]) := wSeg_r hs'
      have s3 := wSeg_l s2
      have s4 := wSeg_r s2
      rw [wFl_len (wC_len D)] at s4
      have g := s1 0 (by show 0 < 1; decide)
      have g1 : a < Cd.length := g.1
      have g2 : Cd.getD a (0, 0, 0) = (7, (kn : Int), ((a + 1 + wSm (wSz D) ts : Nat) : Int)) := g.2
      have gx := s4 0 (by show 0 < 1; decide)
      have gx1 : a + 1 + wSm (wSz D) ts < Cd.length := gx.1
      have gx2 : Cd.getD (a + 1 + wSm (wSz D) ts) (0, 0, 0) = (8, (a : Int), 0) := gx.2
      have hI1 : wI c (s.1 + 1, s.2) := by
        obtain ⟨i1, i2, i3, i4⟩ := hI
        exact ⟨i1, i2, by show s.1 + 1 ≤ 200; omega, by show s.2.1 + s.2.2.1 ≤ s.1 + 1; omega⟩
      obtain ⟨N', rfl⟩ : ∃ N', N = N' + 1 := ⟨N - 1, by omega⟩
      refine jo_stp (wRb_a (k := kn) (z := a + 1 + wSm (wSz D) ts) hL H h2 (by omega) g1 g2 (by omega) (by omega) (fun M' hM' h45 hf => ?_))
      cases kn with
      | zero =>
        rw [if_neg (Nat.lt_irrefl 0)]
        have K := kg M' (bt + 1) N' hM' (fun j hj => hf j (by
          have hj' : j < a ∨ a + (wSm (wSz D) ts + 2) ≤ j := hj
          omega)) (by show bt + 1 + z ≤ 32 * (s.1 + 1); omega) (by omega)
        rw [show a + 1 + wSm (wSz D) ts + 1 = a + (wSm (wSz D) ts + 2) by omega]
        exact K
      | succ k' =>
        rw [if_pos (Nat.succ_pos k')]
        refine wRit hv hL (fun t ht => wRT hv hL D t ht) hp s3 gx1 gx2 k' (s.1 + 1, s.2) M' (bt + 1) z N' Q (by omega) hM' hI1 h45 (by show bt + 1 + (z + (k' + 1)) ≤ 32 * (s.1 + 1); omega) (by omega) kr (fun M2 bt2 N2 hM2 hf2 hb2 hN2 => ?_)
        refine kg M2 bt2 N2 hM2 (fun j hj => ?_) hb2 hN2
        have hj' : j < a ∨ a + (wSm (wSz D) ts + 2) ≤ j := hj
        rw [hf2 j hj']; exact hf j (by omega)
