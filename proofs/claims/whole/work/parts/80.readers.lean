/-! READERS: what a reader leaves: a fault (kind, place), or where it stands. -/
abbrev kFS : Type := (Int × Nat) ⊕ Nat
def kNs (f : Nat → Int) (n : Nat) (lo hi : Int) (s : kFS) : kFS × Int := match s with
  | Sum.inl e => (Sum.inl e, 0)
  | Sum.inr i => if kNb f n i lo hi = true then (Sum.inr (kDe f n i), kDv f n i) else (Sum.inl (kNkd f n i, kSkp f n i), 0)
def kSs (f : Nat → Int) (n : Nat) (x : Int) (s : kFS) : kFS := match s with
  | Sum.inl e => Sum.inl e
  | Sum.inr i => if kGb f n i x = true then Sum.inr (kSkp f n i + 1) else Sum.inl (1, kSkp f n i)
theorem kNs_e {f : Nat → Int} {n : Nat} {lo hi : Int} {e : Int × Nat} : kNs f n lo hi (Sum.inl e) = (Sum.inl e, 0) := rfl
theorem kSs_e {f : Nat → Int} {n : Nat} {x : Int} {e : Int × Nat} : kSs f n x (Sum.inl e) = Sum.inl e := rfl
theorem kNs_y {f : Nat → Int} {n i : Nat} {lo hi : Int} (h : kNb f n i lo hi = true) : kNs f n lo hi (Sum.inr i) = (Sum.inr (kDe f n i), kDv f n i) := if_pos h
theorem kNs_n {f : Nat → Int} {n i : Nat} {lo hi : Int} (h : kNb f n i lo hi = false) : kNs f n lo hi (Sum.inr i) = (Sum.inl (kNkd f n i, kSkp f n i), 0) := if_neg (by rw [h]; simp)
theorem kSs_y {f : Nat → Int} {n i : Nat} {x : Int} (h : kGb f n i x = true) : kSs f n x (Sum.inr i) = Sum.inr (kSkp f n i + 1) := if_pos h
theorem kSs_n {f : Nat → Int} {n i : Nat} {x : Int} (h : kGb f n i x = false) : kSs f n x (Sum.inr i) = Sum.inl (1, kSkp f n i) := if_neg (by rw [h]; simp)
/-- a digit is passed -/
theorem kDe_lt {f : Nat → Int} {n i : Nat} (h : kDt f n i) : kSkp f n i < kDe f n i := by
  have h2 := h.1
  unfold kDe kWh
  cases hk : n - kSkp f n i with
  | zero => omega
  | succ k =>
    show _ < if kId f (kSkp f n i) = true then kWf (kId f) k (kSkp f n i + 1) else _
    rw [if_pos h.2]
    exact kWf_ge k (kSkp f n i + 1)
theorem kNs_in {f : Nat → Int} {n j : Nat} {lo hi : Int} {s : kFS} (h : (kNs f n lo hi s).1 = Sum.inr j) : ∃ i, s = Sum.inr i ∧ kNs f n lo hi s = (Sum.inr j, kDv f n i) ∧ lo ≤ (kNs f n lo hi s).2 ∧ (kNs f n lo hi s).2 ≤ hi ∧ i < j ∧ (i ≤ n → j ≤ n) := by
  cases s with
  | inl e => cases h
  | inr i =>
    cases hb : kNb f n i lo hi with
    | false => rw [kNs_n hb] at h; cases h
    | true =>
      rw [kNs_y hb] at h ⊢
      cases h
      have hk := kNb_t hb
      have := kDe_lt hk.1
      have := kSkp_ge (f := f) (n := n) (i := i)
      exact ⟨i, rfl, rfl, hk.2.1, hk.2.2, by omega, fun hi => kDe_le hi⟩
theorem kSs_in {f : Nat → Int} {n j : Nat} {x : Int} {s : kFS} (h : kSs f n x s = Sum.inr j) : ∃ i, s = Sum.inr i ∧ i < j ∧ j ≤ n := by
  cases s with
  | inl e => cases h
  | inr i =>
    cases hb : kGb f n i x with
    | false => rw [kSs_n hb] at h; cases h
    | true =>
      rw [kSs_y hb] at h
      cases h
      have hk := (kGb_t hb).1
      have := kSkp_ge (f := f) (n := n) (i := i)
      exact ⟨i, rfl, by omega, by omega⟩
/-! the model: it reads on after a fault, and does nothing then -/
def kMz (m : jm) (f : Nat → Int) (n : Nat) (s : kFS) : Prop := match s with
  | Sum.inl e => (∃ i, kTm m f n i) ∧ ja m 67 5 = (e.2 : Int) ∧ ja m 67 6 = e.1 ∧ e.2 ≤ 600
  | Sum.inr i => kTm m f n i ∧ ja m 67 5 = -1
theorem kMz_fr {b : Bool} {W : Nat → Nat → Prop} {m m' : jm} {f : Nat → Int} {n : Nat} {s : kFS} (H : kMz m f n s) (h : jfr b W m m') (hz : ∀ k j, W k j → ¬ (k = 69 ∨ (k = 67 ∧ 3 ≤ j ∧ j ≤ 6))) : kMz m' f n s := by
  have e5 : ja m' 67 5 = ja m 67 5 := ja_fr h (fun e => hz _ _ e (by omega))
  have e6 : ja m' 67 6 = ja m 67 6 := ja_fr h (fun e => hz _ _ e (by omega))
  have T : ∀ i, kTm m f n i → kTm m' f n i := fun i t => kTm_fr t h (fun k j w => by have := hz k j w; omega)
  cases s with
  | inl e => obtain ⟨⟨i, a⟩, b, c, d⟩ := H; exact ⟨⟨i, T i a⟩, e5.trans b, e6.trans c, d⟩
  | inr i => exact ⟨T i H.1, e5.trans H.2⟩
theorem kMz_js {m : jm} {f : Nat → Int} {n k j : Nat} {x : Int} {s : kFS} (H : kMz m f n s) (hz : ¬ (k = 69 ∨ (k = 67 ∧ 3 ≤ j ∧ j ≤ 6))) : kMz (js m k j x) f n s :=
  kMz_fr (W := fun a b => a = k ∧ b = j) H (jfr_js (b := true) jfr_r ⟨rfl, rfl⟩) (fun a b h => by obtain ⟨rfl, rfl⟩ := h; exact hz)
theorem kMz_T {m : jm} {f : Nat → Int} {n : Nat} {s : kFS} (H : kMz m f n s) : ∃ i, kTm m f n i := by
  cases s with
  | inl e => exact H.1
  | inr i => exact ⟨i, H.1⟩
theorem kMz_f {m : jm} {f : Nat → Int} {n : Nat} {s : kFS} (H : kMz m f n s) : jf_196 m = some (match s with
    | Sum.inl _ => 0
    | Sum.inr _ => 1) := by
  rw [sp_196]
  cases s with
  | inl e => have := H.2.1; rw [if_neg (by omega)]
  | inr i => rw [if_pos H.2]
theorem sl_207g {m : jm} {f : Nat → Int} {n : Nat} {lo hi : Int} {s : kFS} (H : kMz m f n s) (hhi : hi ≤ 9999) : jo (jf_207 lo hi m) (fun r => (kMz r.2 f n (kNs f n lo hi s).1 ∧ r.1 = (kNs f n lo hi s).2) ∧ jfr true jW_207 m r.2) := by
  cases s with
  | inl e =>
    have := H.2.1
    rw [sp_207n (by omega)]
    exact ⟨⟨H, rfl⟩, jfr_r⟩
  | inr i =>
    refine jo_mono (sl_207 (lo := lo) H.1 H.2 hhi) (fun r hr => ⟨?_, hr.2⟩)
    obtain ⟨⟨e, he⟩, h1, h2⟩ := hr.1
    have h6 := H.1.1.1
    have hs := kSkp_le (f := f) H.1.1.2.1
    cases hb : kNb f n i lo hi with
    | false =>
      obtain ⟨a, b, d⟩ := h2 (kNb_f hb)
      rw [kNs_n hb]
      exact ⟨⟨⟨e, he⟩, b, d, by show kSkp f n i ≤ 600; omega⟩, a⟩
    | true =>
      obtain ⟨a, b, d⟩ := h1 (kNb_t hb)
      rw [kNs_y hb]
      exact ⟨⟨b, d⟩, a⟩
theorem sl_211g {m : jm} {f : Nat → Int} {n : Nat} {x : Int} {s : kFS} (H : kMz m f n s) (hx : x ≠ 0) : jo (jf_211 x m) (fun r => kMz r f n (kSs f n x s) ∧ jfr true jW_211 m r) := by
  cases s with
  | inl e =>
    have := H.2.1
    rw [sp_211n (by omega)]
    exact ⟨H, jfr_r⟩
  | inr i =>
    refine jo_mono (sl_211 H.1 H.2 hx) (fun r hr => ⟨?_, hr.2⟩)
    obtain ⟨⟨e, he⟩, h1, h2⟩ := hr.1
    have h6 := H.1.1.1
    have hs := kSkp_le (f := f) H.1.1.2.1
    cases hb : kGb f n i x with
    | false =>
      obtain ⟨b, d⟩ := h2 (kGb_f hb)
      rw [kSs_n hb]
      exact ⟨⟨e, he⟩, b, d, by show kSkp f n i ≤ 600; omega⟩
    | true =>
      obtain ⟨b, d⟩ := h1 (kGb_t hb)
      rw [kSs_y hb]
      exact ⟨b, d⟩
/-! the class: it goes out at a fault -/
theorem cl_num {β : Type} {m : jm} {f : Nat → Int} {n i : Nat} {lo hi : Int} {F : Int × jm → Option β} {P : β → Prop} (H : kTc m f n i)
    (kb : ∀ r : Int × jm, kNs f n lo hi (Sum.inr i) = (Sum.inl (kNkd f n i, kSkp f n i), 0) → r.1 = -1 → ja r.2 1 5 = kNkd f n i → ja r.2 1 6 = (kSkp f n i : Int) → kSkp f n i ≤ 600 → jfr true jW_121 m r.2 → jo (F r) P)
    (kg : ∀ (r : Int × jm) (v : Nat), kNs f n lo hi (Sum.inr i) = (Sum.inr (kDe f n i), (v : Int)) → lo ≤ (v : Int) → (v : Int) ≤ hi → r.1 = (v : Int) → kTc r.2 f n (kDe f n i) → ja r.2 1 4 = (kSkp f n i : Int) → ja r.2 1 6 = ja m 1 6 → jfr true jW_121 m r.2 → jo (F r) P) (h0 : 0 ≤ lo) : jo ((jf_121 lo hi m).bind F) P := by
  refine jo_c (sl_121 (lo := lo) (hi := hi) H) (fun r hr => ?_)
  obtain ⟨⟨-, h1, h2⟩, h3⟩ := hr
  have h6 := H.1.1
  have hs := kSkp_le (f := f) H.1.2.1
  cases hb : kNb f n i lo hi with
  | false =>
    obtain ⟨a, b, d⟩ := h2 (kNb_f hb)
    exact kb r (kNs_n hb) a b d (by omega) h3
  | true =>
    have hk := kNb_t hb
    obtain ⟨a, b, d, -, e⟩ := h1 hk
    have hk2 := hk.2
    obtain ⟨v, hv⟩ := Int.eq_ofNat_of_zero_le (show 0 ≤ kDv f n i by omega)
    rw [hv] at hk2 a
    exact kg r v (by rw [kNs_y hb, hv]) hk2.1 hk2.2 a b d e h3
theorem cl_sig {β : Type} {m : jm} {f : Nat → Int} {n i : Nat} {x : Int} {F : Int × jm → Option β} {P : β → Prop} (H : kTc m f n i) (hx : x ≠ -1)
    (kb : ∀ r : Int × jm, kSs f n x (Sum.inr i) = Sum.inl (1, kSkp f n i) → r.1 = 0 → ja r.2 1 5 = 1 → ja r.2 1 6 = (kSkp f n i : Int) → kSkp f n i ≤ 600 → jfr true jW_123 m r.2 → jo (F r) P)
    (kg : ∀ r : Int × jm, kSs f n x (Sum.inr i) = Sum.inr (kSkp f n i + 1) → r.1 = 1 → kTc r.2 f n (kSkp f n i + 1) → ja r.2 1 6 = ja m 1 6 → jfr true jW_123 m r.2 → jo (F r) P) : jo ((jf_123 x m).bind F) P := by
  refine jo_c (sl_123 H hx) (fun r hr => ?_)
  obtain ⟨⟨-, h1, h2⟩, h3⟩ := hr
  have h6 := H.1.1
  have hs := kSkp_le (f := f) H.1.2.1
  cases hb : kGb f n i x with
  | false =>
    obtain ⟨a, b, d⟩ := h2 (kGb_f hb)
    exact kb r (kSs_n hb) a b d (by omega) h3
  | true =>
    obtain ⟨a, b, d, -, e⟩ := h1 (kGb_t hb)
    exact kg r (kSs_y hb) a b e h3
/-- a loop that may look once more before it ends -/
theorem jo_run2 {α β σ ρ : Type} {body : α → Option (α ⊕ β)} {step : σ → ρ ⊕ σ} (rep : α → σ → Prop) (μ : σ → Nat) {Q : β → ρ → Prop} (hs : ∀ a s, rep a s → (∃ r, step s = Sum.inl r ∧ jo (body a) (jcase (fun a' => jo (body a') (jcase (fun _ => False) (fun b => Q b r))) (fun b => Q b r))) ∨ (∃ s', step s = Sum.inr s' ∧ μ s' < μ s ∧ jo (body a) (jcase (fun a' => rep a' s') (fun _ => False)))) : ∀ (N : Nat) (a : α) (s : σ), μ s + 1 < N → rep a s → ∃ r, kRun step N s = some r ∧ jo (jlp body N a) (fun b => Q b r)
  | 0, _, _, h, _ => by omega
  | N + 1, a, s, h, ha => by
    have e : kRun step (N + 1) s = match step s with
      | Sum.inl r => some r
      | Sum.inr s' => kRun step N s' := rfl
    rcases hs a s ha with ⟨r, h1, h2⟩ | ⟨s', h1, h2, h3⟩
    · refine ⟨r, by rw [e, h1], ?_⟩
      show jo ((body a).bind _) _
      rw [jo_bind]
      refine jo_mono h2 (fun x hx => ?_)
      cases x with
      | inl b =>
        obtain ⟨N', rfl⟩ : ∃ N', N = N' + 1 := ⟨N - 1, by omega⟩
        show jo ((body b).bind _) _
        rw [jo_bind]
        refine jo_mono hx (fun y hy => ?_)
        cases y with
        | inl d => exact hy.elim
        | inr d => exact hy
      | inr c => exact hx
    · obtain ⟨a', q1, q2⟩ := jo_ex.1 h3
      cases a' with
      | inr c => exact q2.elim
      | inl b =>
        obtain ⟨r, r1, r2⟩ := jo_run2 rep μ hs N b s' (by omega) q2
        refine ⟨r, by rw [e, h1]; exact r1, ?_⟩
        show jo ((body a).bind _) _
        rw [q1]
        exact r2
