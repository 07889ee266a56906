/-! WORK: the model does trees. -/
set_option maxRecDepth 20000 in
theorem wGb_z {rec : Nat → Int → Int → jm → Option (jm)} {M : jm} {x x1 : Int} {P : (Int × jm) ⊕ jm → Prop} (hx : ¬ x < x1) (k : P (Sum.inr M)) : jo (wGb rec x1 (x, M)) P := by
  rw [wGb_e]
  unfold wGb0
  dsimp only
  rw [if_neg hx]
  exact k
set_option maxRecDepth 20000 in
theorem wGb_s {rec : Nat → Int → Int → jm → Option (jm)} {M : jm} {x x1 : Int} {P : (Int × jm) ⊕ jm → Prop} (h : ¬ ja M 67 41 < 200) (k : P (Sum.inr M)) : jo (wGb rec x1 (x, M)) P := by
  rw [wGb_e]
  unfold wGb0
  dsimp only
  rw [if_neg h]
  split
  · exact k
  · exact k
def qMt (c : kC) (cl : List Int) (Cd : List wE) (rec : Nat → Int → Int → jm → Option (jm)) (D : Nat) (t : wT D) : Prop := ∀ (a : Nat) (s : wZ) (M : jm) (x1 : Int) (P : (Int × jm) ⊕ jm → Prop), wSeg Cd a (wM D a t) → qRm c cl Cd M s → wI c s → s.1 < 200 → ((3 * a : Nat) : Int) < x1 → (∀ M', qRm c cl Cd M' (wSe c cl D t s) → P (Sum.inl (((3 * (a + wCn D t) : Nat) : Int), M'))) → jo (wGb rec x1 (((3 * a : Nat) : Int), M)) P
theorem wCn_1 : ∀ (D : Nat) (t : wT D), 1 ≤ wCn D t
  | 0, _ => Nat.le_refl 1
  | D + 1, t => by
    cases t with
    | inl e => exact Nat.le_refl 1
    | inr k => show 1 ≤ wSm (wCn D) k.2 + 1; omega
theorem wSm_n {D : Nat} : ∀ ts : List (wT D), ts.length ≤ wSm (wCn D) ts
  | [] => Nat.le_refl _
  | t :: r => by
    have := wCn_1 D t
    have := wSm_n r
    show r.length + 1 ≤ wCn D t + wSm (wCn D) r
    omega
theorem wSeg_n {Cd l : List wE} {a : Nat} (h : wSeg Cd a l) : l.length ≤ Cd.length := by
  by_cases z : l.length = 0
  · omega
  · have := (h (l.length - 1) (by omega)).1
    omega
theorem wGls {rec : Nat → Int → Int → jm → Option (jm)} {c : kC} {cl : List Int} {Cd : List wE} {D : Nat} (hv : kV c) (hT : ∀ t, wV c D t → qMt c cl Cd rec D t) : ∀ (ts : List (wT D)), wAll (wV c D) ts → ∀ (a : Nat) (s : wZ) (M : jm) (K : Nat) (x1 : Int), x1 = ((3 * (a + wSm (wCn D) ts) : Nat) : Int) → ts.length < K → wSeg Cd a (wFl (wM D) (wCn D) a ts) → qRm c cl Cd M s → wI c s → jo (jlp (wGb rec x1) K (((3 * a : Nat) : Int), M)) (fun b => qRm c cl Cd b (wSL (wSe c cl D) ts s))
  | [], _, a, s, M, K, x1, hx, hK, hs, H, hI => by
    obtain ⟨K', rfl⟩ : ∃ K', K = K' + 1 := ⟨K - 1, by omega⟩
    have hx' : x1 = ((3 * (a + 0) : Nat) : Int) := hx
    exact jo_stp (wGb_z (by omega) H)
  | t :: r, hp, a, s, M, K, x1, hx, hK, hs, H, hI => by
    have hs' : wSeg Cd a (wM D a t ++ wFl (wM D) (wCn D) (a + wCn D t) r) := hs
    have hx' : x1 = ((3 * (a + (wCn D t + wSm (wCn D) r)) : Nat) : Int) := hx
    have hK' : r.length + 1 < K := hK
    have h1 := wCn_1 D t
    have e41 := H.2.2.1
    obtain ⟨K', rfl⟩ : ∃ K', K = K' + 1 := ⟨K - 1, by omega⟩
    by_cases h2 : s.1 < 200
    · have e : wSL (wSe c cl D) (t :: r) s = wSL (wSe c cl D) r (wSe c cl D t s) := by
        show (if s.1 < 200 then wSL (wSe c cl D) r (wSe c cl D t s) else s) = _
        rw [if_pos h2]
      rw [e]
      have hI2 := wI_e (cl := cl) hv D t s hp.1 hI h2
      have sr := wSeg_r hs'
      rw [wM_len] at sr
      refine jo_stp (hT t hp.1 a s M x1 _ (wSeg_l hs') H hI h2 (by omega) (fun M' hM' => ?_))
      exact wGls hv hT r hp.2 (a + wCn D t) _ M' K' x1 (by rw [hx', Nat.add_assoc]) (by omega) sr hM' hI2
    · have e : wSL (wSe c cl D) (t :: r) s = s := wSL_id (by omega) _
      rw [e]
      exact jo_stp (wGb_s (by omega) H)
theorem wGT1 {rec : Nat → Int → Int → jm → Option (jm)} {c : kC} {cl : List Int} {Cd : List wE} {e : wE} (hL : 3 * Cd.length ≤ 150) (ho : wOk c e) (a : Nat) (s : wZ) (M : jm) (x1 : Int) (P : (Int × jm) ⊕ jm → Prop) (hs : wSeg Cd a [e]) (H : qRm c cl Cd M s) (hI : wI c s) (h2 : s.1 < 200) (hx : ((3 * a : Nat) : Int) < x1) (k : ∀ M', qRm c cl Cd M' (wS1 c cl e s) → P (Sum.inl (((3 * (a + 1) : Nat) : Int), M'))) : jo (wGb rec x1 (((3 * a : Nat) : Int), M)) P := by
  have g := hs 0 (by show 0 < 1; decide)
  have g1 : a < Cd.length := g.1
  have g2 : Cd.getD a (0, 0, 0) = e := g.2
  exact wGb_1 hL H hI h2 hx g1 g2 ho k
theorem wGT {c : kC} {cl : List Int} {Cd : List wE} (hv : kV c) (hL : 3 * Cd.length ≤ 150) : ∀ (D N : Nat), D < N → ∀ (ts : List (wT D)), wAll (wV c D) ts → ∀ (a : Nat) (s : wZ) (M : jm), wSeg Cd a (wFl (wM D) (wCn D) a ts) → qRm c cl Cd M s → wI c s → jo (jG_G N 0 ((3 * a : Nat) : Int) ((3 * (a + wSm (wCn D) ts) : Nat) : Int) M) (fun b => qRm c cl Cd b (wSL (wSe c cl D) ts s))
  | 0, N, hN, ts, hp, a, s, M, hs, H, hI => by
    obtain ⟨N', rfl⟩ : ∃ N', N = N' + 1 := ⟨N - 1, by omega⟩
    have hl := wSeg_n hs
    rw [wFl_len (wM_len 0)] at hl
    have hl2 := wSm_n ts
    show jo (jf_227 (jG_G N') ((3 * a : Nat) : Int) ((3 * (a + wSm (wCn 0) ts) : Nat) : Int) M) _
    rw [jf_227_e, jo_bind]
    refine wGls (D := 0) hv (fun t ht => ?_) ts hp a s M jfu _ rfl (jfu_lt (by omega)) hs H hI
    clear hs H hI hl hl2 hp
    have ht' : wOk c t := ht
    exact fun a s M x1 P g1 g2 g3 g4 g5 g6 => wGT1 hL ht' a s M x1 P g1 g2 g3 g4 g5 g6
  | D + 1, N, hN, ts, hp, a, s, M, hs, H, hI => by
    obtain ⟨N', rfl⟩ : ∃ N', N = N' + 1 := ⟨N - 1, by omega⟩
    have ih := wGT (cl := cl) hv hL D N' (by omega)
    have hl := wSeg_n hs
    rw [wFl_len (wM_len (D + 1))] at hl
    have hl2 := wSm_n ts
    show jo (jf_227 (jG_G N') ((3 * a : Nat) : Int) ((3 * (a + wSm (wCn (D + 1)) ts) : Nat) : Int) M) _
    rw [jf_227_e, jo_bind]
    refine wGls hv (fun t ht => ?_) ts hp a s M jfu _ rfl (jfu_lt (by omega)) hs H hI
    clear hs H hI hl hl2 hp
    cases t with
    | inl e => exact fun a s M x1 P g1 g2 g3 g4 g5 g6 => wGT1 hL ht a s M x1 P g1 g2 g3 g4 g5 g6
    | inr q =>
      obtain ⟨k, tt⟩ := q
      intro a s M x1 P hs H hI h2 hx kk
      have hk : 0 ≤ k ∧ k ≤ 30 := ht.1
      have hq : wAll (wV c D) tt := ht.2
      obtain ⟨kn, rfl⟩ := Int.eq_ofNat_of_zero_le hk.1
      have hs' : wSeg Cd a ([((7 : Int), (kn : Int), ((3 * (a + 1 + wSm (wCn D) tt) : Nat) : Int))] ++ wFl (wM D) (wCn D) (a + 1) tt) := hs
      have s1 := wSeg_l hs'
      have s2 : wSeg Cd (a + 1) (wFl (wM D) (wCn D) (a + 1) tt) := wSeg_r hs'
      have g := s1 0 (by show 0 < 1; decide)
      have g1 : a < Cd.length := g.1
      have g2 : Cd.getD a (0, 0, 0) = (7, (kn : Int), ((3 * (a + 1 + wSm (wCn D) tt) : Nat) : Int)) := g.2
      refine wGb_a (k := kn) (z := 3 * (a + 1 + wSm (wCn D) tt)) (g := wSL (wSe c cl D) tt) hL H hI h2 hx g1 g2 (by omega) (fun s hs => wI_L (P := wV c D) (fun t s h1 h2 h3 => wI_e (cl := cl) hv D t s h1 h2 h3) tt s hq hs) (fun j s h => wIt_id h j) (fun s M hM hI => ih tt hq (a + 1) s M s2 hM hI) (fun M' hM' => ?_)
      have K := kk M' hM'
      have e : 3 * (a + wCn (D + 1) (Sum.inr ((kn : Int), tt))) = 3 * (a + 1 + wSm (wCn D) tt) := by
        show 3 * (a + (wSm (wCn D) tt + 1)) = _
        omega
      rw [e] at K
      exact K
