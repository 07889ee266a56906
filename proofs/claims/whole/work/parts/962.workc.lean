/-! WORK: the class reads steps. -/
def kCw (m : jm) (L : List wE) : Prop := ja m 41 5 = (L.length : Int) ∧ ∀ t, t < L.length → ja m 42 t = (L.getD t (0, 0, 0)).1 ∧ ja m 43 t = (L.getD t (0, 0, 0)).2.1 ∧ ja m 44 t = (L.getD t (0, 0, 0)).2.2
def qWs (k j : Nat) : Prop := (k = 1 ∧ 3 ≤ j ∧ j ≤ 6) ∨ (42 ≤ k ∧ k ≤ 44) ∨ (k = 41 ∧ j = 5)
theorem kCw_fr {b : Bool} {W : Nat → Nat → Prop} {m m' : jm} {L : List wE} (H : kCw m L) (h : jfr b W m m') (hz : ∀ k j, W k j → ¬ ((42 ≤ k ∧ k ≤ 44) ∨ (k = 41 ∧ j = 5))) : kCw m' L := ⟨by rw [ja_fr h (fun e => hz _ _ e (by omega))]; exact H.1, fun t ht => by rw [ja_fr h (fun e => hz _ _ e (by omega)), ja_fr h (fun e => hz _ _ e (by omega)), ja_fr h (fun e => hz _ _ e (by omega))]; exact H.2 t ht⟩
theorem wD_a {L : List wE} {x : wE} {t : Nat} (h : t < L.length) : (L ++ [x]).getD t (0, 0, 0) = L.getD t (0, 0, 0) := by
  rw [List.getD_eq_getElem?_getD, List.getElem?_append_left h, ← List.getD_eq_getElem?_getD]
theorem wD_e {L : List wE} {x : wE} : (L ++ [x]).getD L.length (0, 0, 0) = x := by
  rw [List.getD_eq_getElem?_getD, List.getElem?_append_right (Nat.le_refl _), Nat.sub_self]; rfl
theorem sl_101 {m : jm} {L : List wE} {x0 x1 x2 : Int} (H : kCw m L) (hl : L.length < 150) (h0 : jg x0) (h1 : 0 ≤ x1 ∧ x1 ≤ 9999) (h2 : 0 ≤ x2 ∧ x2 ≤ 9999) : ∃ M, jf_101 x0 x1 x2 m = some (1, M) ∧ kCw M (L ++ [(x0, x1, x2)]) ∧ jfr true (fun k j => (42 ≤ k ∧ k ≤ 44) ∨ (k = 41 ∧ j = 5)) m M := by
  refine ⟨js (js (js (js m 42 L.length x0) 43 L.length x1) 44 L.length x2) 41 5 ((L.length + 1 : Nat) : Int), ?_, ⟨?_, fun t ht => ?_⟩, jfr_js (jfr_js (jfr_js (jfr_js jfr_r (by omega)) (by omega)) (by omega)) (by omega)⟩
  · unfold jf_101
    rw [if_neg (by omega), if_neg (by omega), H.1, if_pos (show (L.length : Int) < 150 by omega), if_pos (by omega), Int.toNat_natCast, jle_eq, ja_jsk (show (41 : Nat) ≠ 42 by decide), H.1, if_pos (by omega), Int.toNat_natCast, jle_eq, ja_jsk (show (41 : Nat) ≠ 43 by decide), ja_jsk (show (41 : Nat) ≠ 42 by decide), H.1, if_pos (by omega), Int.toNat_natCast, jle_eq, ja_jsk (show (41 : Nat) ≠ 44 by decide), ja_jsk (show (41 : Nat) ≠ 43 by decide), ja_jsk (show (41 : Nat) ≠ 42 by decide), H.1, jle_eq, jwn (by omega)]
  · rw [ja_js1, List.length_append, List.length_singleton, jwi (by omega) (by omega)]
  · rw [List.length_append, List.length_singleton] at ht
    by_cases e : t = L.length
    · subst e
      rw [wD_e, ja_jsk (by decide), ja_jsk (by decide), ja_jsk (by decide), ja_js1, ja_jsk (by decide), ja_jsk (by decide), ja_js1, ja_jsk (by decide), ja_js1]
      exact ⟨jw_id h0, jwi (by omega) (by omega), jwi (by omega) (by omega)⟩
    · rw [wD_a (by omega), ja_jsk (by decide), ja_jsk (by decide), ja_jsk (by decide), ja_jsj e, ja_jsk (by decide), ja_jsk (by decide), ja_jsj e, ja_jsk (by decide), ja_jsk (by decide), ja_jsj e, ja_jsk (by decide), ja_jsk (by decide)]
      exact H.2 t (by omega)
theorem sp_101a {x0 x2 : Int} {m : jm} : jf_101 x0 (-1) x2 m = some (0, m) := by unfold jf_101; rw [if_pos rfl]
theorem sp_101b {x0 x1 : Int} {m : jm} (h : x1 ≠ -1) : jf_101 x0 x1 (-1) m = some (0, m) := by unfold jf_101; rw [if_neg h, if_pos rfl]
/-- how a step ends -/
def kOw (m : jm) (f : Nat → Int) (n : Nat) (s : kFS) (L : List wE) (r : Int × jm) : Prop := match s with
  | Sum.inl e => r.1 = 0 ∧ ja r.2 1 5 = e.1 ∧ ja r.2 1 6 = (e.2 : Int) ∧ e.2 ≤ 600
  | Sum.inr j => r.1 = 1 ∧ kTc r.2 f n j ∧ kCw r.2 L ∧ ja r.2 1 6 = ja m 1 6 ∧ jfr true qWs m r.2
theorem qWs_1 {k j : Nat} (h : jW_121 k j) : qWs k j := by unfold jW_121 at h; unfold qWs; omega
theorem qWs_3 {k j : Nat} (h : jW_123 k j) : qWs k j := by unfold jW_123 at h; unfold qWs; omega
theorem qWs_a {k j : Nat} (h : (42 ≤ k ∧ k ≤ 44) ∨ (k = 41 ∧ j = 5)) : qWs k j := Or.inr h
theorem sl_104 {m : jm} {f : Nat → Int} {n i : Nat} {c : kC} {w : Int} {L : List wE} (hv : kV c) (H : kTc m f n i) (hC : kCw m L) (h3 : ∀ k, k < 4 → ja m 3 k = (c 11 k : Int)) (hl : L.length < 150) (hw : 0 ≤ w ∧ w ≤ 4) : jo (jf_104 w m) (fun r => kOw m f n (wS f n c w i).1 (L ++ [(wS f n c w i).2]) r) := by
  obtain ⟨⟨v0, v1, v2, v3⟩, -⟩ := hv
  have e1 : (if w = 3 then some (ja m 3 1) else some (ja m 3 2)) = some (wH1 c w + 1) := by
    rw [h3 1 (by decide), h3 2 (by decide)]
    unfold wH1
    by_cases h : w = 3
    · rw [if_pos h, if_pos h]; congr 1; omega
    · rw [if_neg h, if_neg h]; congr 1; omega
  have b1 : -1 ≤ wH1 c w ∧ wH1 c w ≤ 12 := by unfold wH1; split <;> omega
  unfold jf_104
  rw [e1, jsb, show jw (wH1 c w + 1 - 1) = wH1 c w by rw [jwi (by omega) (by omega)]; omega]
  have eS : wS f n c w i = ((wN2 f n c w (Sum.inr i)).1, (w, (wN1 f n c w (Sum.inr i)).2, (wN2 f n c w (Sum.inr i)).2)) := by unfold wS; rw [if_neg (by omega)]
  rw [eS]
  refine cl_num H (fun r a1 a2 a3 a4 a5 a6 => ?_) (fun r v a1 a2 a3 a4 a5 a6 a7 a8 => ?_) (by decide)
  · rw [a2, if_pos rfl, sp_101a, jsb]
    have z : (wN2 f n c w (Sum.inr i)).1 = Sum.inl (kNkd f n i, kSkp f n i) := by
      unfold wN2 wN1
      rw [a1]
      by_cases h : w = 4
      · rw [if_pos h]
      · rw [if_neg h]; rfl
    rw [z]
    exact ⟨rfl, a3, a4, a5⟩
  · have z1 : wN1 f n c w (Sum.inr i) = (Sum.inr (kDe f n i), (v : Int)) := a1
    have C1 : kCw r.2 L := kCw_fr hC a8 (fun a b h => by unfold jW_121 at h; omega)
    have F1 : jfr true qWs m r.2 := jfr_t jfr_r a8 (fun e => e) (fun k j h => qWs_1 h)
    have g3 : ∀ k, k < 4 → ja r.2 3 k = (c 11 k : Int) := fun k hk => by rw [ja_fr a8 (by unfold jW_121; omega)]; exact h3 k hk
    rw [a4, if_neg (show ¬ (v : Int) = -1 by omega)]
    by_cases h4 : w = 4
    · rw [if_pos h4]
      have z2 : wN2 f n c w (Sum.inr i) = (Sum.inr (kDe f n i), 0) := by unfold wN2; rw [if_pos h4, z1]
      rw [z1, z2]
      obtain ⟨M, y1, y2, y3⟩ := sl_101 (x0 := w) (x1 := (v : Int)) (x2 := 0) C1 hl ⟨by omega, by omega⟩ (by omega) (by omega)
      rw [y1, jsb]
      exact ⟨rfl, kTc_fr a5 y3 (fun a b h => by omega), y2, by show ja M 1 6 = _; rw [ja_fr y3 (by omega)]; exact a7, jfr_t F1 y3 (fun e => e) (fun k j h => qWs_a h)⟩
    · rw [if_neg h4]
      have second : ∀ hi : Int, wH2 c w = hi → hi ≤ 12 → jo (Option.bind (α := Int × jm) (jf_121 0 hi r.2) fun p => Option.bind (α := Int × jm) (jf_101 w (v : Int) p.1 p.2) fun q => some (q.1, q.2)) (fun r => kOw m f n (wN2 f n c w (Sum.inr i)).1 (L ++ [(w, (wN1 f n c w (Sum.inr i)).2, (wN2 f n c w (Sum.inr i)).2)]) r) := fun hi hh hb => by
        have z2 : wN2 f n c w (Sum.inr i) = kNs f n 0 hi (Sum.inr (kDe f n i)) := by unfold wN2; rw [if_neg h4, z1, hh]
        rw [z1, z2]
        refine cl_num a5 (fun r2 b1 b2 b3 b4 b5 b6 => ?_) (fun r2 u b1 b2 b3 b4 b5 b6 b7 b8 => ?_) (by decide)
        · rw [b2, sp_101b (by omega), jsb, b1]
          exact ⟨rfl, b3, b4, b5⟩
        · rw [b4, b1]
          obtain ⟨M, y1, y2, y3⟩ := sl_101 (x0 := w) (x1 := (v : Int)) (x2 := (u : Int)) (kCw_fr C1 b8 (fun a b h => by unfold jW_121 at h; omega)) hl ⟨by omega, by omega⟩ (by omega) (by omega)
          rw [y1, jsb]
          exact ⟨rfl, kTc_fr b5 y3 (fun a b h => by omega), y2, by show ja M 1 6 = _; rw [ja_fr y3 (by omega), b7]; exact a7, jfr_t (jfr_t F1 b8 (fun e => e) (fun k j h => qWs_1 h)) y3 (fun e => e) (fun k j h => qWs_a h)⟩
      by_cases h2 : w = 2
      · rw [if_pos h2, g3 0 (by decide)]
        have e : jw ((c 11 0 : Int) - 1) = (c 11 0 : Int) - 1 := jwi (by omega) (by omega)
        rw [e]
        exact second _ (by unfold wH2; rw [if_pos h2]) (by omega)
      · rw [if_neg h2]
        by_cases h33 : w = 3
        · rw [if_pos h33]
          exact second 9 (by unfold wH2; rw [if_neg h2, if_pos h33]) (by decide)
        · rw [if_neg h33, g3 3 (by decide)]
          have e : jw ((c 11 3 : Int) - 1) = (c 11 3 : Int) - 1 := jwi (by omega) (by omega)
          rw [e]
          exact second _ (by unfold wH2; rw [if_neg h2, if_neg h33]) (by omega)
/-- the sign behind a step -/
theorem kOw_sig {m m1 : jm} {f : Nat → Int} {n : Nat} {s : kFS} {L : List wE} {r : Int × jm} (h : kOw m1 f n s L r) (h6 : ja m1 1 6 = ja m 1 6) (F : jfr true qWs m m1) : jo (Option.bind (α := Int × jm) (if r.1 = 0 then some ((0 : Int), r.2) else Option.bind (α := Int × jm) (jf_123 59 r.2) fun p111 => if p111.1 = 0 then some ((0 : Int), p111.2) else some ((1 : Int), p111.2)) fun t109 => some (t109.1, t109.2)) (fun r => kOw m f n (kSs f n 59 s) L r) := by
  unfold kOw at h
  cases s with
  | inl e =>
    rw [h.1, if_pos rfl, jsb]
    exact ⟨rfl, h.2⟩
  | inr j =>
    obtain ⟨a1, a2, a3, a4, a5⟩ := h
    rw [a1, if_neg Int.one_ne_zero, jo_bind]
    refine cl_sig a2 (by decide) (fun r2 b1 b2 b3 b4 b5 b6 => ?_) (fun r2 b1 b2 b3 b4 b5 => ?_)
    · rw [b2, if_pos rfl, b1]
      exact ⟨rfl, b3, b4, b5⟩
    · rw [b2, if_neg Int.one_ne_zero, b1]
      exact ⟨rfl, b3, kCw_fr a3 b5 (fun a b h => by unfold jW_123 at h; omega), by show ja r2.2 1 6 = _; rw [b4, a4]; exact h6, jfr_t (jfr_t F a5 (fun e => e) (fun k j h => h)) b5 (fun e => e) (fun k j h => qWs_3 h)⟩
theorem sl_102s {m : jm} {f : Nat → Int} {n i : Nat} {c : kC} {L : List wE} (hv : kV c) (H : kTc m f n (kSkp f n i)) (hC : kCw m L) (h3 : ∀ k, k < 4 → ja m 3 k = (c 11 k : Int)) (hl : L.length < 150) (h1 : kU3 f n i ≠ -1) (h7 : kU3 f n i ≠ 7) : jo (jf_102 m) (fun r => kOw m f n (kSs f n 59 (wS f n c (kU3 f n i) (kLe f n i)).1) (L ++ [(wS f n c (kU3 f n i) (kLe f n i)).2]) r) := by
  unfold jf_102
  refine jo_c (sl_117v H) (fun p1 hp1 => ?_)
  obtain ⟨⟨q1, q2, q3, q4, q5⟩, q6⟩ := hp1
  have C1 : kCw p1.2 L := kCw_fr hC q6 (fun a b h => by unfold jW_117 at h; omega)
  have g3 : ∀ k, k < 4 → ja p1.2 3 k = (c 11 k : Int) := fun k hk => by rw [ja_fr q6 (by unfold jW_117; omega)]; exact h3 k hk
  have F1 : jfr true qWs m p1.2 := jfr_t jfr_r q6 (fun e => e) (fun k j h => by unfold jW_117 at h; unfold qWs; omega)
  have x6 : ja p1.2 1 6 = ja m 1 6 := (q5 h1).2
  have cs := kU3_cs (f := f) (n := n) (i := i)
  rw [q1]
  have num : 0 ≤ kU3 f n i ∧ kU3 f n i ≤ 4 → jo (Option.bind (α := Int × jm) (jf_104 (kU3 f n i) p1.2) fun p108 => Option.bind (α := Int × jm) (if p108.1 = 0 then some ((0 : Int), p108.2) else Option.bind (α := Int × jm) (jf_123 59 p108.2) fun p111 => if p111.1 = 0 then some ((0 : Int), p111.2) else some ((1 : Int), p111.2)) fun t109 => some (t109.1, t109.2)) (fun r => kOw m f n (kSs f n 59 (wS f n c (kU3 f n i) (kLe f n i)).1) (L ++ [(wS f n c (kU3 f n i) (kLe f n i)).2]) r) := fun hw => jo_c (sl_104 hv q2 C1 g3 hl hw) (fun r hr => kOw_sig hr x6 F1)
  have pl : kU3 f n i = 5 ∨ kU3 f n i = 6 → jo (Option.bind (α := Int × jm) (jf_101 (kU3 f n i) 0 0 p1.2) fun p108 => Option.bind (α := Int × jm) (if p108.1 = 0 then some ((0 : Int), p108.2) else Option.bind (α := Int × jm) (jf_123 59 p108.2) fun p111 => if p111.1 = 0 then some ((0 : Int), p111.2) else some ((1 : Int), p111.2)) fun t109 => some (t109.1, t109.2)) (fun r => kOw m f n (kSs f n 59 (wS f n c (kU3 f n i) (kLe f n i)).1) (L ++ [(wS f n c (kU3 f n i) (kLe f n i)).2]) r) := fun hw => by
    have eS : wS f n c (kU3 f n i) (kLe f n i) = (Sum.inr (kLe f n i), (kU3 f n i, 0, 0)) := by unfold wS; rw [if_pos hw]
    obtain ⟨M, y1, y2, y3⟩ := sl_101 (x0 := kU3 f n i) (x1 := 0) (x2 := 0) C1 hl ⟨by omega, by omega⟩ (by omega) (by omega)
    rw [y1, jsb, eS]
    exact kOw_sig (m1 := p1.2) (r := (1, M)) ⟨rfl, kTc_fr q2 y3 (fun a b h => by omega), y2, by show ja M 1 6 = _; rw [ja_fr y3 (by omega)], jfr_t jfr_r y3 (fun e => e) (fun k j h => qWs_a h)⟩ x6 F1
  rw [if_neg h1]
  by_cases w0 : kU3 f n i = 0
  · rw [if_pos w0]; exact num (by omega)
  rw [if_neg w0]
  by_cases w1 : kU3 f n i = 1
  · rw [if_pos w1]; exact num (by omega)
  rw [if_neg w1]
  by_cases w2 : kU3 f n i = 2
  · rw [if_pos w2]; exact num (by omega)
  rw [if_neg w2]
  by_cases w3 : kU3 f n i = 3
  · rw [if_pos w3]; exact num (by omega)
  rw [if_neg w3]
  by_cases w4 : kU3 f n i = 4
  · rw [if_pos w4]; exact num (by omega)
  rw [if_neg w4]
  by_cases w5 : kU3 f n i = 5
  · rw [if_pos w5]; exact pl (Or.inl w5)
  rw [if_neg w5]
  by_cases w6 : kU3 f n i = 6
  · rw [if_pos w6]; exact pl (Or.inr w6)
  exfalso; omega
