/-! WORK: the model reads steps. -/
def kCx (m : jm) (L : List wE) : Prop := ja m 67 38 = ((3 * L.length : Nat) : Int) ∧ ∀ t, t < L.length → ja m 86 (3 * t) = (L.getD t (0, 0, 0)).1 ∧ ja m 86 (3 * t + 1) = (L.getD t (0, 0, 0)).2.1 ∧ ja m 86 (3 * t + 2) = (L.getD t (0, 0, 0)).2.2
theorem kCx_fr {b : Bool} {W : Nat → Nat → Prop} {m m' : jm} {L : List wE} (H : kCx m L) (h : jfr b W m m') (hz : ∀ k j, W k j → ¬ (k = 86 ∨ (k = 67 ∧ j = 38))) : kCx m' L := ⟨by rw [ja_fr h (fun e => hz _ _ e (by omega))]; exact H.1, fun t ht => by rw [ja_fr h (fun e => hz _ _ e (by omega)), ja_fr h (fun e => hz _ _ e (by omega)), ja_fr h (fun e => hz _ _ e (by omega))]; exact H.2 t ht⟩
def qMr (f : Nat → Int) (n : Nat) (c : kC) (o : Nat) (M : jm) (s : kFS) (L : List wE) : Prop := kMz M f n s ∧ kCx M L ∧ (∀ k, k < 4 → ja M 67 (24 + k) = (c 11 k : Int)) ∧ ∀ i, s = Sum.inr i → ja M 67 7 = (o : Int) ∧ 3 * L.length ≤ i
def wTl (s : kFS) (L : List wE) (e : wE) : List wE := match s with
  | Sum.inl _ => L
  | Sum.inr _ => L ++ [e]
theorem sl_224 {M : jm} {f : Nat → Int} {n o : Nat} {c : kC} {s : kFS} {L : List wE} {x0 x1 x2 : Int} (hn : n ≤ 150) (H : qMr f n c o M s L) (hl : ∀ i, s = Sum.inr i → 3 * L.length + 3 ≤ i) (h0 : jg x0) (h1 : jg x1) (h2 : jg x2) : jo (jf_224 x0 x1 x2 M) (fun r => qMr f n c o r s (wTl s L (x0, x1, x2))) := by
  obtain ⟨H1, H2, H3, H4⟩ := H
  unfold jf_224
  rw [kMz_g H1]
  cases s with
  | inl e => rw [kOkz_l, jsb, if_pos rfl]; exact ⟨H1, H2, H3, H4⟩
  | inr i =>
    have hi := H1.1.1.2.1
    have hl1 := hl i rfl
    obtain ⟨g1, g2⟩ := H4 i rfl
    have j1 : jw (((3 * L.length : Nat) : Int) + 1) = ((3 * L.length + 1 : Nat) : Int) := by rw [jwi (by omega) (by omega)]; omega
    have j2 : jw (((3 * L.length : Nat) : Int) + 2) = ((3 * L.length + 2 : Nat) : Int) := by rw [jwi (by omega) (by omega)]; omega
    have j3 : jw (((3 * L.length : Nat) : Int) + 3) = ((3 * L.length + 3 : Nat) : Int) := by rw [jwi (by omega) (by omega)]; omega
    rw [kOkz_r, jsb, if_neg Int.one_ne_zero, H2.1, if_pos (by omega), Int.toNat_natCast, jle_eq, ja_jsk (show (67 : Nat) ≠ 86 by decide), H2.1, j1, if_pos (by omega), Int.toNat_natCast, jle_eq, ja_jsk (show (67 : Nat) ≠ 86 by decide), ja_jsk (show (67 : Nat) ≠ 86 by decide), H2.1, j2, if_pos (by omega), Int.toNat_natCast, jle_eq, ja_jsk (show (67 : Nat) ≠ 86 by decide), ja_jsk (show (67 : Nat) ≠ 86 by decide), ja_jsk (show (67 : Nat) ≠ 86 by decide), H2.1, j3, jle_eq]
    have hlen : (L ++ [(x0, x1, x2)]).length = L.length + 1 := by rw [List.length_append]; rfl
    refine ⟨kMz_js (kMz_js (kMz_js (kMz_js H1 (by omega)) (by omega)) (by omega)) (by omega), ⟨?_, fun t ht => ?_⟩, fun k hk => ?_, fun j hj => ⟨?_, ?_⟩⟩
    · show ja (js _ 67 38 _) 67 38 = ((3 * (L ++ [(x0, x1, x2)]).length : Nat) : Int)
      rw [ja_js1, hlen, jwi (by omega) (by omega)]; omega
    · have ht' : t < L.length + 1 := by rw [← hlen]; exact ht
      show ja (js (js (js (js M 86 (3 * L.length) x0) 86 (3 * L.length + 1) x1) 86 (3 * L.length + 2) x2) 67 38 _) 86 (3 * t) = ((L ++ [(x0, x1, x2)]).getD t (0, 0, 0)).1 ∧ ja (js (js (js (js M 86 (3 * L.length) x0) 86 (3 * L.length + 1) x1) 86 (3 * L.length + 2) x2) 67 38 _) 86 (3 * t + 1) = ((L ++ [(x0, x1, x2)]).getD t (0, 0, 0)).2.1 ∧ ja (js (js (js (js M 86 (3 * L.length) x0) 86 (3 * L.length + 1) x1) 86 (3 * L.length + 2) x2) 67 38 _) 86 (3 * t + 2) = ((L ++ [(x0, x1, x2)]).getD t (0, 0, 0)).2.2
      have E : ∀ x, ja (js (js (js (js M 86 (3 * L.length) x0) 86 (3 * L.length + 1) x1) 86 (3 * L.length + 2) x2) 67 38 ((3 * L.length + 3 : Nat) : Int)) 86 x = if x = 3 * L.length + 2 then x2 else if x = 3 * L.length + 1 then x1 else if x = 3 * L.length then x0 else ja M 86 x := fun x => by
        rw [ja_jsk (by decide)]
        by_cases e2 : x = 3 * L.length + 2
        · rw [if_pos e2, e2, ja_js1]; exact jw_id h2
        · rw [if_neg e2, ja_jsj e2]
          by_cases e1 : x = 3 * L.length + 1
          · rw [if_pos e1, e1, ja_js1]; exact jw_id h1
          · rw [if_neg e1, ja_jsj e1]
            by_cases e0 : x = 3 * L.length
            · rw [if_pos e0, e0, ja_js1]; exact jw_id h0
            · rw [if_neg e0, ja_jsj e0]
      rw [E, E, E]
      by_cases e : t = L.length
      · subst e
        rw [wD_e, if_neg (by omega), if_neg (by omega), if_pos rfl, if_neg (by omega), if_pos rfl, if_pos rfl]
        exact ⟨rfl, rfl, rfl⟩
      · rw [wD_a (by omega), if_neg (by omega), if_neg (by omega), if_neg (by omega), if_neg (by omega), if_neg (by omega), if_neg (by omega), if_neg (by omega), if_neg (by omega), if_neg (by omega)]
        exact H2.2 t (by omega)
    · rw [ja_jsj (by omega), ja_jsk (by decide), ja_jsk (by decide), ja_jsk (by decide)]; exact H3 k hk
    · rw [ja_jsj (by decide), ja_jsk (by decide), ja_jsk (by decide), ja_jsk (by decide)]; exact g1
    · cases hj
      show 3 * (L ++ [(x0, x1, x2)]).length ≤ i
      rw [hlen]; omega
theorem qMr_num {M : jm} {f : Nat → Int} {n o : Nat} {c : kC} {s : kFS} {L : List wE} {lo hi : Int} (H : qMr f n c o M s L) (hh : hi ≤ 9999) : jo (jf_207 lo hi M) (fun r => qMr f n c o r.2 (kNs f n lo hi s).1 L ∧ r.1 = (kNs f n lo hi s).2) := by
  obtain ⟨H1, H2, H3, H4⟩ := H
  refine jo_mono (sl_207g H1 hh) (fun r hr => ⟨⟨hr.1.1, kCx_fr H2 hr.2 (fun a b h => by unfold jW_207 at h; omega), fun k hk => by rw [ja_fr hr.2 (by unfold jW_207; omega)]; exact H3 k hk, fun i hi => ?_⟩, hr.1.2⟩)
  obtain ⟨k, a1, -, -, -, a5, -⟩ := kNs_in hi
  have := H4 k a1
  exact ⟨by rw [ja_fr hr.2 (by unfold jW_207; omega)]; exact this.1, by omega⟩
theorem qMr_sig {M : jm} {f : Nat → Int} {n o : Nat} {c : kC} {s : kFS} {L : List wE} {x : Int} (H : qMr f n c o M s L) (hx : x ≠ 0) : jo (jf_211 x M) (fun r => qMr f n c o r (kSs f n x s) L) := by
  obtain ⟨H1, H2, H3, H4⟩ := H
  refine jo_mono (sl_211g H1 hx) (fun r hr => ⟨hr.1, kCx_fr H2 hr.2 (fun a b h => by unfold jW_211 at h; omega), fun k hk => by rw [ja_fr hr.2 (by unfold jW_211; omega)]; exact H3 k hk, fun i hi => ?_⟩)
  obtain ⟨k, a1, a2, -⟩ := kSs_in hi
  have := H4 k a1
  exact ⟨by rw [ja_fr hr.2 (by unfold jW_211; omega)]; exact this.1, by omega⟩
theorem qMr_fr {b : Bool} {W : Nat → Nat → Prop} {M M' : jm} {f : Nat → Int} {n o i j : Nat} {c : kC} {L : List wE} (H : qMr f n c o M (Sum.inr i) L) (h : jfr b W M M') (hz : ∀ k j, W k j → k = 67 ∧ j = 4) (T : kTm M' f n j) (hij : i ≤ j) : qMr f n c o M' (Sum.inr j) L := by
  obtain ⟨H1, H2, H3, H4⟩ := H
  refine ⟨⟨T, by rw [ja_fr h (fun e => by have := hz _ _ e; omega)]; exact H1.2⟩, kCx_fr H2 h (fun a b h => by have := hz _ _ h; omega), fun k hk => by rw [ja_fr h (fun e => by have := hz _ _ e; omega)]; exact H3 k hk, fun k hk => ?_⟩
  cases hk
  have := H4 i rfl
  exact ⟨by rw [ja_fr h (fun e => by have := hz _ _ e; omega)]; exact this.1, by omega⟩
theorem qMr_pass {M : jm} {f : Nat → Int} {n o i : Nat} {c : kC} {L : List wE} (hi : i ≤ n) (H : qMr f n c o M (Sum.inr (kSkp f n i)) L) : jo (jf_205 M) (fun r => qMr f n c o r (Sum.inr (kLe f n i)) L) := jo_mono (sl_205 hi H.1.1) (fun r hr => qMr_fr H hr.2 (fun k j h => by unfold jW_205 at h; omega) hr.1 kLe_ge)
theorem qMr_word {M : jm} {f : Nat → Int} {n o i : Nat} {c : kC} {L : List wE} (H : qMr f n c o M (Sum.inr i) L) : jo (jf_199 M) (fun r => r.1 = kWv f n i ∧ qMr f n c o r.2 (Sum.inr (kSkp f n i)) L) := jo_mono (sl_199 H.1.1) (fun r hr => ⟨hr.1, qMr_fr H hr.2.2 (fun k j h => by unfold jW_198 at h; omega) hr.2.1 kSkp_ge⟩)
theorem qMr_look {M : jm} {f : Nat → Int} {n o i : Nat} {c : kC} {L : List wE} (H : qMr f n c o M (Sum.inr i) L) : jo (jf_198 M) (fun r => (r.1 = if kSkp f n i < n then f (kSkp f n i) else 0) ∧ qMr f n c o r.2 (Sum.inr (kSkp f n i)) L) := jo_mono (sl_198 H.1.1) (fun r hr => ⟨hr.1, qMr_fr H hr.2.2 (fun k j h => by unfold jW_198 at h; omega) hr.2.1 kSkp_ge⟩)
/-- two numbers and the step -/
theorem sl_225 {M : jm} {f : Nat → Int} {n o i : Nat} {c : kC} {L : List wE} {w a b : Int} (hn : n ≤ 150) (hv : kV c) (H : qMr f n c o M (Sum.inr i) L) (hl : 3 * L.length + 2 ≤ i) (hw : 0 ≤ w ∧ w ≤ 3) (ha : jw (a - 1) = wH1 c w) (hb : jw (b - 1) = wH2 c w) : jo (jf_225 w a b M) (fun r => qMr f n c o r (wS f n c w i).1 (wTl (wS f n c w i).1 L (wS f n c w i).2)) := by
  have eS : wS f n c w i = ((kNs f n 0 (wH2 c w) (kNs f n 0 (wH1 c w) (Sum.inr i)).1).1, (w, (kNs f n 0 (wH1 c w) (Sum.inr i)).2, (kNs f n 0 (wH2 c w) (kNs f n 0 (wH1 c w) (Sum.inr i)).1).2)) := by unfold wS wN2 wN1; rw [if_neg (by omega), if_neg (by omega)]
  have b1 := kNs_b (f := f) (n := n) (s := Sum.inr i) (lo := 0) (hi := wH1 c w) (by decide) (wH1_b hv)
  have b2 := kNs_b (f := f) (n := n) (s := (kNs f n 0 (wH1 c w) (Sum.inr i)).1) (lo := 0) (hi := wH2 c w) (by decide) (wH2_b hv)
  rw [eS]
  unfold jf_225
  rw [ha, hb]
  refine jo_c (qMr_num H (wH1_b hv)) (fun p1 h1 => ?_)
  refine jo_c (qMr_num h1.1 (wH2_b hv)) (fun p2 h2 => ?_)
  rw [h1.2, h2.2]
  refine jo_c (sl_224 hn h2.1 (fun j hj => ?_) ⟨by omega, by omega⟩ ⟨by omega, by omega⟩ ⟨by omega, by omega⟩) (fun r hr => hr)
  obtain ⟨k, a1, -, -, -, a5, -⟩ := kNs_in hj
  obtain ⟨k', d1, -, -, -, d5, -⟩ := kNs_in a1
  cases d1
  omega
/-- after a step's sign -/
def qMe (f : Nat → Int) (n : Nat) (c : kC) (o : Nat) (L : List wE) {D : Nat} (r : wR D) (M : jm) : Prop := match r with
  | Sum.inl e => kMz M f n (Sum.inl e)
  | Sum.inr z => qMr f n c o M (Sum.inr z.1) (L ++ wM D L.length z.2)
theorem qMe_s {f : Nat → Int} {n o D : Nat} {c : kC} {L : List wE} {M : jm} {s : kFS} {e : wE} {τ : wT D} (H : qMr f n c o M (kSs f n 59 s) (wTl s L e)) (hτ : wM D L.length τ = [e]) : qMe f n c o L (wEnd (α := wE) (β := wT D) (kSs f n 59 s) (fun _ => τ) e) M := by
  cases hz : kSs f n 59 s with
  | inl e' => rw [hz] at H; exact H.1
  | inr j =>
    rw [hz] at H
    obtain ⟨k, a1, -, -⟩ := kSs_in hz
    rw [a1] at H
    show qMr f n c o M (Sum.inr j) (L ++ wM D L.length τ)
    rw [hτ]; exact H
