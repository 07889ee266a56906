/-! RUNS: a loop that follows a pure step; and the book's reader. -/
def kRun {σ ρ : Type} (step : σ → ρ ⊕ σ) : Nat → σ → Option ρ
  | 0, _ => none
  | N + 1, s => match step s with
    | Sum.inl r => some r
    | Sum.inr s' => kRun step N s'
theorem jo_run {α β σ ρ : Type} {body : α → Option (α ⊕ β)} {step : σ → ρ ⊕ σ} (rep : α → σ → Prop) (μ : σ → Nat) {Q : β → ρ → Prop} (hs : ∀ a s, rep a s → (∃ r, step s = Sum.inl r ∧ jo (body a) (jcase (fun _ => False) (fun b => Q b r))) ∨ (∃ s', step s = Sum.inr s' ∧ μ s' < μ s ∧ jo (body a) (jcase (fun a' => rep a' s') (fun _ => False)))) : ∀ (N : Nat) (a : α) (s : σ), μ s < N → rep a s → ∃ r, kRun step N s = some r ∧ jo (jlp body N a) (fun b => Q b r)
  | 0, _, _, h, _ => by omega
  | N + 1, a, s, h, ha => by
    have e : kRun step (N + 1) s = match step s with
      | Sum.inl r => some r
      | Sum.inr s' => kRun step N s' := rfl
    rcases hs a s ha with ⟨r, h1, h2⟩ | ⟨s', h1, h2, h3⟩
    · refine ⟨r, by rw [e, h1], ?_⟩
      show jo ((body a).bind _) _
      rw [jo_bind]
      refine jo_mono h2 (fun x hx => ?_)
      cases x with
      | inl b => exact hx.elim
      | inr c => exact hx
    · obtain ⟨a', q1, q2⟩ := jo_ex.1 h3
      cases a' with
      | inr c => exact q2.elim
      | inl b =>
        obtain ⟨r, r1, r2⟩ := jo_run rep μ hs N b s' (by omega) q2
        refine ⟨r, by rw [e, h1]; exact r1, ?_⟩
        show jo ((body a).bind _) _
        rw [q1]
        exact r2
def kNb (f : Nat → Int) (n i : Nat) (lo hi : Int) : Bool := decide ((kSkp f n i < n ∧ kId f (kSkp f n i) = true) ∧ lo ≤ kDv f n i ∧ kDv f n i ≤ hi)
theorem kNb_t {f : Nat → Int} {n i : Nat} {lo hi : Int} (h : kNb f n i lo hi = true) : kNok f n i lo hi := by unfold kNok kDt; exact of_decide_eq_true h
theorem kNb_f {f : Nat → Int} {n i : Nat} {lo hi : Int} (h : kNb f n i lo hi = false) : ¬ kNok f n i lo hi := by unfold kNok kDt; exact of_decide_eq_false h
def kGb (f : Nat → Int) (n i : Nat) (x : Int) : Bool := decide (kSkp f n i < n ∧ f (kSkp f n i) = x)
theorem kGb_t {f : Nat → Int} {n i : Nat} {x : Int} (h : kGb f n i x = true) : kSg f n i x := by unfold kSg; exact of_decide_eq_true h
theorem kGb_f {f : Nat → Int} {n i : Nat} {x : Int} (h : kGb f n i x = false) : ¬ kSg f n i x := by unfold kSg; exact of_decide_eq_false h
abbrev kBsta : Type := Nat × Nat × (Nat → Int)
abbrev kBres : Type := (Int × Nat) ⊕ (Nat × (Nat → Int))
def kBwi (f : Nat → Int) (n : Nat) (s : kBsta) : Nat := (kDv f n s.2.1).toNat
def kBst (f : Nat → Int) (n : Nat) (hi : Int) (s : kBsta) : kBres ⊕ kBsta :=
  if ¬ kSkp f n s.2.1 < n then Sum.inl (Sum.inr (s.1, s.2.2))
  else if kNb f n s.2.1 0 hi = false then Sum.inl (Sum.inl (kNkd f n s.2.1, kSkp f n s.2.1))
  else if s.2.2 (kBwi f n s) ≠ -1 then Sum.inl (Sum.inl (2, kSkp f n s.2.1))
  else if kNb f n (kDe f n s.2.1) 0 99 = false then Sum.inl (Sum.inl (kNkd f n (kDe f n s.2.1), kSkp f n (kDe f n s.2.1)))
  else if kGb f n (kDe f n (kDe f n s.2.1)) 59 = false then Sum.inl (Sum.inl (1, kSkp f n (kDe f n (kDe f n s.2.1))))
  else Sum.inr (s.1 + 1, kSkp f n (kDe f n (kDe f n s.2.1)) + 1, fun w => if w = kBwi f n s then kDv f n (kDe f n s.2.1) else s.2.2 w)
/-- what holds of what is read so far -/
def kBgd (N : Nat) (k : Nat) (g : Nat → Int) : Prop := (∀ w, w < 12 → -1 ≤ g w ∧ g w ≤ 99) ∧ (∀ w, w < 12 → N ≤ w → g w = -1) ∧ kCnt (fun w => decide (g w ≠ -1)) 12 = k
theorem kSkp_ge {f : Nat → Int} {n i : Nat} : i ≤ kSkp f n i := kWh_ge
theorem kBgd_s {N k w : Nat} {g : Nat → Int} {v : Int} (h : kBgd N k g) (hN : N ≤ 12) (hw : w < N) (hg : g w = -1) (hv : 0 ≤ v ∧ v ≤ 99) : kBgd N (k + 1) (fun u => if u = w then v else g u) := by
  obtain ⟨h1, h2, h3⟩ := h
  refine ⟨fun u hu => ?_, fun u hu hn => ?_, ?_⟩
  · show -1 ≤ (if u = w then v else g u) ∧ (if u = w then v else g u) ≤ 99
    split
    · omega
    · exact h1 u hu
  · show (if u = w then v else g u) = -1
    rw [if_neg (by omega)]; exact h2 u hu hn
  · have := kCnt_rm (f := fun u => decide ((if u = w then v else g u) ≠ -1)) (g := fun u => decide (g u ≠ -1)) (M := w) 12 (by omega) (decide_eq_true (by rw [if_pos rfl]; omega)) (fun t ht => by
      rw [decide_eq_true_eq, decide_eq_true_eq]
      by_cases e : t = w
      · subst e; rw [hg]; exact ⟨fun z => absurd rfl z, fun z => absurd rfl z.2⟩
      · rw [if_neg e]; exact ⟨fun z => ⟨z, e⟩, fun z => z.1⟩)
    show kCnt (fun u => decide ((if u = w then v else g u) ≠ -1)) 12 = k + 1
    rw [← this, h3]
theorem kBgd_12 {N k w : Nat} {g : Nat → Int} (h : kBgd N k g) (hw : w < 12) (hg : g w = -1) : k < 12 := by
  have := kCnt_lt (f := fun u => decide (g u ≠ -1)) (g := fun _ => true) 12 (fun _ _ _ => rfl) ⟨w, hw, rfl, decide_eq_false (fun z => z hg)⟩
  rw [kCnt_all (f := fun _ => true) 12 (fun _ _ => rfl)] at this
  have := h.2.2
  omega
def kBqc (m : jm) (b : Int × jm) (r : kBres) : Prop := jfr true jW_2 m b.2 ∧ match r with
  | Sum.inl (kd, at') => b.1 = 0 ∧ ja b.2 1 5 = kd ∧ ja b.2 1 6 = (at' : Int) ∧ at' ≤ 600
  | Sum.inr (k, g) => b.1 = 1 ∧ (∀ w, w < 12 → ja b.2 38 w = g w) ∧ ja b.2 37 1 = k ∧ ja b.2 1 6 = ja m 1 6
def kBrc (m : jm) (f : Nat → Int) (n N : Nat) (a : Int × jm) (s : kBsta) : Prop := a.1 = s.1 ∧ kTc a.2 f n s.2.1 ∧ (∀ w, w < 12 → ja a.2 38 w = s.2.2 w) ∧ ja a.2 37 1 = s.1 ∧ kBgd N s.1 s.2.2 ∧ ja a.2 1 6 = ja m 1 6 ∧ jfr true jW_2 m a.2
theorem kSkp_2 {f : Nat → Int} {n i : Nat} : kSkp f n (kSkp f n i) = kSkp f n i := kWh_2
theorem kDe_2 {f : Nat → Int} {n i : Nat} : kDe f n (kSkp f n i) = kDe f n i := by unfold kDe; rw [kSkp_2]
theorem kDv_2 {f : Nat → Int} {n i : Nat} : kDv f n (kSkp f n i) = kDv f n i := by unfold kDv; rw [kDe_2, kSkp_2]
theorem kDt_2 {f : Nat → Int} {n i : Nat} : kDt f n (kSkp f n i) = kDt f n i := by unfold kDt; rw [kSkp_2]
theorem kNok_2 {f : Nat → Int} {n i : Nat} {lo hi : Int} : kNok f n (kSkp f n i) lo hi = kNok f n i lo hi := by unfold kNok; rw [kDt_2, kDv_2]
theorem kNkd_s {f : Nat → Int} {n i : Nat} : kNkd f n (kSkp f n i) = kNkd f n i := by unfold kNkd; rw [kSkp_2]
/-- a number after a look at what comes -/
theorem sl_121s {m : jm} {f : Nat → Int} {n i : Nat} {lo hi : Int} (H : kTc m f n (kSkp f n i)) : jo (jf_121 lo hi m) (fun r => ((∃ e, kTc r.2 f n e) ∧ (kNok f n i lo hi → r.1 = kDv f n i ∧ kTc r.2 f n (kDe f n i) ∧ ja r.2 1 4 = (kSkp f n i : Int) ∧ ja r.2 1 5 = ja m 1 5 ∧ ja r.2 1 6 = ja m 1 6) ∧ (¬ kNok f n i lo hi → r.1 = -1 ∧ ja r.2 1 5 = kNkd f n i ∧ ja r.2 1 6 = (kSkp f n i : Int))) ∧ jfr true jW_121 m r.2) := by
  have := sl_121 (lo := lo) (hi := hi) H
  rw [kNok_2, kDv_2, kDe_2, kNkd_s, kSkp_2] at this
  exact this
theorem sl_207s {m : jm} {f : Nat → Int} {n i : Nat} {lo hi : Int} (H : kTm m f n (kSkp f n i)) (hf : ja m 67 5 = -1) (hhi : hi ≤ 9999) : jo (jf_207 lo hi m) (fun r => ((∃ e, kTm r.2 f n e) ∧ (kNok f n i lo hi → r.1 = kDv f n i ∧ kTm r.2 f n (kDe f n i) ∧ ja r.2 67 5 = -1) ∧ (¬ kNok f n i lo hi → r.1 = 0 ∧ ja r.2 67 5 = (kSkp f n i : Int) ∧ ja r.2 67 6 = kNkd f n i)) ∧ jfr true jW_207 m r.2) := by
  have := sl_207 (lo := lo) H hf hhi
  rw [kNok_2, kDv_2, kDe_2, kNkd_s, kSkp_2] at this
  exact this
theorem sl_2 {m : jm} {f : Nat → Int} {n N : Nat} (H : kTc m f n 0) (hN : N ≤ 12) : ∃ r, kRun (kBst f n ((N : Int) - 1)) jfu ((0 : Nat), (0 : Nat), fun _ => (-1 : Int)) = some r ∧ jo (jf_2 N m) (fun b => kBqc m b r) := by
  unfold jf_2 jf_1
  rw [sp_334, jsb, jle_eq, jsb]
  have hn6 := H.1.1
  have h0 : kBrc m f n N ((0 : Int), js (jfl m 38 (-1)) 37 1 0) ((0 : Nat), (0 : Nat), fun _ => (-1 : Int)) := by
    have e : ∀ k j, k ≠ 38 → ja (jfl m 38 (-1)) k j = ja m k j := fun k j hk => by unfold ja jfl; dsimp only; rw [if_neg (fun z => hk z.1)]
    refine ⟨rfl, kTc_js ?_ (by omega), fun w hw => ?_, ?_, ⟨fun w hw => ⟨(by decide : (-1 : Int) ≤ -1), (by decide : (-1 : Int) ≤ 99)⟩, fun w hw _ => rfl, kCnt_z 12 (fun w hw => rfl)⟩, ?_, ?_⟩
    · obtain ⟨q1, q2, q3, q4⟩ := H
      exact ⟨q1, fun t ht => by rw [e _ _ (by decide)]; exact q2 t ht, by rw [e _ _ (by decide)]; exact q3, by rw [e _ _ (by decide)]; exact q4⟩
    · rw [ja_jsk (by decide)]
      show (if 38 = 38 ∧ w < px_ln 38 then Int32.ofInt (-1) else m.1 38 w).toInt = -1
      rw [if_pos ⟨rfl, hw⟩]; rfl
    · rw [ja_js1]; exact wz0
    · rw [ja_jsk (by decide), e _ _ (by decide)]
    · refine jfr_js ⟨fun k j hk => ?_, fun _ => rfl⟩ (Or.inr (Or.inl ⟨rfl, rfl⟩))
      show (if k = 38 ∧ j < px_ln 38 then Int32.ofInt (-1) else m.1 k j) = m.1 k j
      rw [if_neg (fun z => hk (Or.inl z.1))]
  refine jo_run (kBrc m f n N) (fun s => n - s.2.1) (Q := kBqc m) (fun a s hs => ?_) jfu _ _ (jfu_lt (by show n - 0 < 4000000; omega)) h0
  obtain ⟨k, i, g⟩ := s
  obtain ⟨x, M⟩ := a
  obtain ⟨b1, b2, b3, b4, b5, b6, b7⟩ := hs
  dsimp only at b1 b2 b3 b4 b5 b6 b7
  have hk12 : k ≤ 12 := by have := kCnt_le (S := fun w => decide (g w ≠ -1)) 12; have := b5.2.2; omega
  have hin := b2.1.2.1
  have hsk := kSkp_le (f := f) hin
  have hw1 : jw ((N : Int) - 1) = (N : Int) - 1 := jwi (by omega) (by omega)
  dsimp only
  rw [b1, if_neg (show ¬ 12 < (k : Int) by omega), hw1]
  by_cases c1 : kSkp f n i < n
  · by_cases c2 : kNb f n i 0 ((N : Int) - 1) = false
    · refine Or.inl ⟨Sum.inl (kNkd f n i, kSkp f n i), by unfold kBst; dsimp only; rw [if_neg (fun z => z c1), if_pos c2], ?_⟩
      refine jo_c (sl_116 b2) (fun r hr => ?_)
      obtain ⟨p1, p2, p3⟩ := hr
      have hb := b2.1.2.2 _ c1
      rw [p1, if_pos c1, if_neg (by omega)]
      refine jo_c (sl_121s p2) (fun r2 hr2 => ?_)
      obtain ⟨⟨-, -, q2⟩, q3⟩ := hr2
      obtain ⟨q4, q5, q6⟩ := q2 (kNb_f c2)
      rw [q4, if_pos rfl]
      exact ⟨jfr_t (jfr_t b7 p3 (fun e => e) (fun k j h => by unfold jW_116 at h; unfold jW_2; omega)) q3 (fun e => e) (fun k j h => by unfold jW_121 at h; unfold jW_2; omega), rfl, q5, q6, by omega⟩
    · have c2' : kNb f n i 0 ((N : Int) - 1) = true := by simpa using c2
      have hok := kNb_t c2'
      obtain ⟨w, hw⟩ := Int.eq_ofNat_of_zero_le hok.2.1
      have hwN : w < N := by have := hok.2.2; omega
      have hwi : kBwi f n (k, i, g) = w := by unfold kBwi; dsimp only; rw [hw]; rfl
      have hde := kDe_le (f := f) (n := n) (i := i) hin
      have hge := kDe_ge (f := f) (n := n) (i := i)
      have hgi := kSkp_ge (f := f) (n := n) (i := i)
      have first : ∀ (P : (Int × jm) ⊕ (Int × jm) → Prop) (F : Int × jm → Option ((Int × jm) ⊕ (Int × jm))), (∀ r2 : Int × jm, r2.1 = (w : Int) → kTc r2.2 f n (kDe f n i) → ja r2.2 1 4 = (kSkp f n i : Int) → ja r2.2 1 6 = ja m 1 6 → (∀ u, u < 12 → ja r2.2 38 u = g u) → ja r2.2 37 1 = k → jfr true jW_2 m r2.2 → jo (F r2) P) → jo ((jf_116 M).bind fun p7 => if p7.1 = -1 then some (Sum.inr (1, p7.2)) else (jf_121 0 ((N : Int) - 1) p7.2).bind F) P := fun P F hF => by
        refine jo_c (sl_116 b2) (fun r hr => ?_)
        obtain ⟨p1, p2, p3⟩ := hr
        have hb := b2.1.2.2 _ c1
        rw [p1, if_pos c1, if_neg (by omega)]
        refine jo_c (sl_121s p2) (fun r2 hr2 => ?_)
        obtain ⟨⟨-, q1, -⟩, q3⟩ := hr2
        obtain ⟨q4, q5, q6, q7, q8⟩ := q1 hok
        refine hF r2 (by rw [q4, hw]) q5 q6 ?_ (fun u hu => ?_) ?_ (jfr_t (jfr_t b7 p3 (fun e => e) (fun k j h => by unfold jW_116 at h; unfold jW_2; omega)) q3 (fun e => e) (fun k j h => by unfold jW_121 at h; unfold jW_2; omega))
        · rw [q8, ja_fr p3 (by unfold jW_116; omega)]; exact b6
        · rw [ja_fr q3 (by unfold jW_121; omega), ja_fr p3 (by unfold jW_116; omega)]; exact b3 u hu
        · rw [ja_fr q3 (by unfold jW_121; omega), ja_fr p3 (by unfold jW_116; omega)]; exact b4
      by_cases c3 : g w = -1
      · have hk := kBgd_12 b5 (show w < 12 by omega) c3
        by_cases c4 : kNb f n (kDe f n i) 0 99 = false
        · refine Or.inl ⟨Sum.inl (kNkd f n (kDe f n i), kSkp f n (kDe f n i)), by unfold kBst; dsimp only; rw [if_neg (fun z => z c1), if_neg c2, hwi, if_neg (fun z => z c3), if_pos c4], ?_⟩
          refine first _ _ (fun r2 e1 e2 e3 e4 e5 e6 e7 => ?_)
          rw [e1, if_neg (show ¬ (w : Int) = -1 by omega), if_pos (show 0 ≤ (w : Int) ∧ (w : Int) < 12 by omega), Int.toNat_natCast, e5 w (by omega), if_pos c3, if_neg (show ¬ (k : Int) = 12 by omega)]
          refine jo_c (sl_121 e2) (fun r3 hr3 => ?_)
          obtain ⟨⟨-, -, q2⟩, q3⟩ := hr3
          obtain ⟨q4, q5, q6⟩ := q2 (kNb_f c4)
          have := kSkp_le (f := f) hde
          rw [q4, if_pos rfl]
          exact ⟨jfr_t e7 q3 (fun e => e) (fun k j h => by unfold jW_121 at h; unfold jW_2; omega), rfl, q5, q6, by omega⟩
        · have c4' : kNb f n (kDe f n i) 0 99 = true := by simpa using c4
          have hok2 := kNb_t c4'
          have hde2 := kDe_le (f := f) (n := n) (i := kDe f n i) hde
          have hge2 := kDe_ge (f := f) (n := n) (i := kDe f n i)
          have hgi2 := kSkp_ge (f := f) (n := n) (i := kDe f n i)
          have hgi3 := kSkp_ge (f := f) (n := n) (i := kDe f n (kDe f n i))
          by_cases c5 : kGb f n (kDe f n (kDe f n i)) 59 = false
          · refine Or.inl ⟨Sum.inl (1, kSkp f n (kDe f n (kDe f n i))), by unfold kBst; dsimp only; rw [if_neg (fun z => z c1), if_neg c2, hwi, if_neg (fun z => z c3), if_neg c4, if_pos c5], ?_⟩
            refine first _ _ (fun r2 e1 e2 e3 e4 e5 e6 e7 => ?_)
            rw [e1, if_neg (show ¬ (w : Int) = -1 by omega), if_pos (show 0 ≤ (w : Int) ∧ (w : Int) < 12 by omega), Int.toNat_natCast, e5 w (by omega), if_pos c3, if_neg (show ¬ (k : Int) = 12 by omega)]
            refine jo_c (sl_121 e2) (fun r3 hr3 => ?_)
            obtain ⟨⟨-, q1, -⟩, q3⟩ := hr3
            obtain ⟨q4, q5, q6, q7, q8⟩ := q1 hok2
            rw [q4, if_neg (show ¬ kDv f n (kDe f n i) = -1 by have := hok2.2.1; omega)]
            refine jo_c (sl_123 q5 (by decide)) (fun r4 hr4 => ?_)
            obtain ⟨⟨-, -, s2⟩, s3⟩ := hr4
            obtain ⟨s4, s5, s6⟩ := s2 (kGb_f c5)
            have := kSkp_le (f := f) hde2
            rw [s4, if_pos rfl]
            exact ⟨jfr_t (jfr_t e7 q3 (fun e => e) (fun k j h => by unfold jW_121 at h; unfold jW_2; omega)) s3 (fun e => e) (fun k j h => by unfold jW_123 at h; unfold jW_2; omega), rfl, s5, s6, by omega⟩
          · have c5' : kGb f n (kDe f n (kDe f n i)) 59 = true := by simpa using c5
            have hsg := kGb_t c5'
            have hlt := hsg.1
            refine Or.inr ⟨(k + 1, kSkp f n (kDe f n (kDe f n i)) + 1, fun u => if u = w then kDv f n (kDe f n i) else g u), by unfold kBst; dsimp only; rw [if_neg (fun z => z c1), if_neg c2, hwi, if_neg (fun z => z c3), if_neg c4, if_neg c5], by show n - (kSkp f n (kDe f n (kDe f n i)) + 1) < n - i; omega, ?_⟩
            refine first _ _ (fun r2 e1 e2 e3 e4 e5 e6 e7 => ?_)
            rw [e1, if_neg (show ¬ (w : Int) = -1 by omega), if_pos (show 0 ≤ (w : Int) ∧ (w : Int) < 12 by omega), Int.toNat_natCast, e5 w (by omega), if_pos c3, if_neg (show ¬ (k : Int) = 12 by omega)]
            refine jo_c (sl_121 e2) (fun r3 hr3 => ?_)
            obtain ⟨⟨-, q1, -⟩, q3⟩ := hr3
            obtain ⟨q4, q5, q6, q7, q8⟩ := q1 hok2
            rw [q4, if_neg (show ¬ kDv f n (kDe f n i) = -1 by have := hok2.2.1; omega)]
            refine jo_c (sl_123 q5 (by decide)) (fun r4 hr4 => ?_)
            obtain ⟨⟨-, s1, -⟩, s3⟩ := hr4
            obtain ⟨s4, s5, s6, s7, s8⟩ := s1 hsg
            rw [s4, if_neg Int.one_ne_zero, if_pos (show 0 ≤ (w : Int) ∧ (w : Int) < 12 by omega), jle_eq, jle_eq]
            have e37 : ja (js r4.2 38 w (kDv f n (kDe f n i))) 37 1 = (k : Int) := by rw [ja_jsk (by decide), ja_fr s3 (by unfold jW_123; omega), ja_fr q3 (by unfold jW_121; omega)]; exact e6
            rw [e37, jwn (n := k) (by omega)]
            have h99 := hok2.2
            refine ⟨rfl, kTc_js (kTc_js s5 (by omega)) (by omega), fun u hu => ?_, ?_, kBgd_s b5 hN hwN c3 h99, ?_, ?_⟩
            · show ja (js (js r4.2 38 w _) 37 1 _) 38 u = if u = w then kDv f n (kDe f n i) else g u
              rw [ja_jsk (by decide)]
              by_cases e : u = w
              · rw [e, ja_js1, if_pos rfl, jwi (by omega) (by omega)]
              · rw [ja_jsj e, if_neg e, ja_fr s3 (by unfold jW_123; omega), ja_fr q3 (by unfold jW_121; omega)]; exact e5 u hu
            · show ja (js (js r4.2 38 w _) 37 1 _) 37 1 = ((k + 1 : Nat) : Int)
              rw [ja_js1, jwi (by omega) (by omega)]
            · show ja (js (js r4.2 38 w _) 37 1 _) 1 6 = _
              rw [ja_jsk (by decide), ja_jsk (by decide), s8, q8]; exact e4
            · exact jfr_js (jfr_js (jfr_t (jfr_t e7 q3 (fun e => e) (fun k j h => by unfold jW_121 at h; unfold jW_2; omega)) s3 (fun e => e) (fun k j h => by unfold jW_123 at h; unfold jW_2; omega)) (Or.inl rfl)) (Or.inr (Or.inl ⟨rfl, rfl⟩))
      · refine Or.inl ⟨Sum.inl (2, kSkp f n i), by unfold kBst; dsimp only; rw [if_neg (fun z => z c1), if_neg c2, hwi, if_pos c3], ?_⟩
        refine first _ _ (fun r2 e1 e2 e3 e4 e5 e6 e7 => ?_)
        rw [e1, if_neg (show ¬ (w : Int) = -1 by omega), if_pos (show 0 ≤ (w : Int) ∧ (w : Int) < 12 by omega), Int.toNat_natCast, e5 w (by omega), if_neg c3, sp_120, jsb, e3]
        refine ⟨jfr_js (jfr_js e7 (by unfold jW_2; omega)) (by unfold jW_2; omega), rfl, ?_, ?_, by omega⟩
        · show ja (js (js r2.2 1 5 2) 1 6 _) 1 5 = 2
          rw [ja_jsj (by decide), ja_js1]; exact jwi (by decide) (by decide)
        · show ja (js (js r2.2 1 5 2) 1 6 _) 1 6 = _
          rw [ja_js1, jwi (by omega) (by omega)]
  · refine Or.inl ⟨Sum.inr (k, g), by unfold kBst; dsimp only; rw [if_pos c1], ?_⟩
    refine jo_c (sl_116 b2) (fun r hr => ?_)
    obtain ⟨p1, p2, p3⟩ := hr
    rw [p1, if_neg c1, if_pos rfl]
    refine ⟨jfr_t b7 p3 (fun e => e) (fun k j h => by unfold jW_116 at h; unfold jW_2; omega), rfl, fun w hw => ?_, ?_, ?_⟩
    · show ja r.2 38 w = g w
      rw [ja_fr p3 (by unfold jW_116; omega)]; exact b3 w hw
    · show ja r.2 37 1 = k
      rw [ja_fr p3 (by unfold jW_116; omega)]; exact b4
    · show ja r.2 1 6 = _
      rw [ja_fr p3 (by unfold jW_116; omega)]; exact b6
