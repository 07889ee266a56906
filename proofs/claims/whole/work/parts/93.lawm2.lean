/-! LAW in the model: sums, products, units. -/
def qSpm (f : Nat → Int) (n o : Nat) (g : jm → Option jm) (P : qLs → qLs) : Prop := ∀ m z, kMl m f n o z → jo (g m) (fun r => kMl r f n o (P z))
noncomputable def kLmb (g : jm → Option jm) (x1 x2 w1 w2 : Int) (s2 : jm) : Option (jm ⊕ jm) := Option.bind (α := Int) (jf_196 s2) fun p10 => if p10 = 0 then some (Sum.inr (s2)) else Option.bind (α := Int × jm) (jf_198 s2) fun p11 => if p11.1 = x1 then Option.bind (α := Int × jm) (jf_198 p11.2) fun p12 => Option.bind (α := Int) (if p12.1 = x1 then some (w1) else some (w2)) fun t13 => jle (js p12.2 67 4 (jw ((ja p12.2 67 4) + (1 : Int)))) fun m25 => Option.bind (α := jm) (g m25) fun p26 => Option.bind (α := jm) (jf_218 t13 (0 : Int) p26) fun p27 => some (Sum.inl (p27)) else Option.bind (α := Int × jm) (jf_198 p11.2) fun p29 => if p29.1 = x2 then Option.bind (α := Int × jm) (jf_198 p29.2) fun p30 => Option.bind (α := Int) (if p30.1 = x1 then some (w1) else some (w2)) fun t31 => jle (js p30.2 67 4 (jw ((ja p30.2 67 4) + (1 : Int)))) fun m43 => Option.bind (α := jm) (g m43) fun p44 => Option.bind (α := jm) (jf_218 t31 (0 : Int) p44) fun p45 => some (Sum.inl (p45)) else some (Sum.inr (p29.2))
noncomputable def kLpm (g : jm → Option jm) (x1 x2 w1 w2 : Int) (m : jm) : Option jm := Option.bind (α := jm) (g m) fun p1 => Option.bind (α := jm) (jlp (α := jm) (β := jm) (kLmb g x1 x2 w1 w2) jfu p1) fun t6 => some t6
theorem jf_214_e {rec : Nat → Int → Int → jm → Option jm} {m : jm} : jf_214 rec m = kLpm (fun m => rec 1 0 0 m) 43 45 2 3 m := rfl
theorem jf_215_e {rec : Nat → Int → Int → jm → Option jm} {m : jm} : jf_215 rec m = kLpm (fun m => rec 2 0 0 m) 42 47 4 5 m := rfl
theorem jo_one {α β : Type} {body : α → Option (α ⊕ β)} {Q : β → Prop} {a : α} (h : jo (body a) (jcase (fun _ => False) Q)) : jo (jlp body jfu a) Q := jo_for 0 jfu (fun _ a' => a' = a) (jfu_lt (by decide)) (fun i hi => absurd hi (Nat.not_lt_zero _)) (fun a' e => by rw [e]; exact h) a rfl
/-- a look at what comes -/
theorem kMl_look {m : jm} {f : Nat → Int} {n o i : Nat} {l : List Int} (H : kMl m f n o (Sum.inr i, l)) : jo (jf_198 m) (fun r => kMl r.2 f n o (Sum.inr (kSkp f n i), l) ∧ ja r.2 67 4 = (kSkp f n i : Int) ∧ (r.1 = if kSkp f n i < n then f (kSkp f n i) else 0)) := by
  refine jo_mono (sl_198g H.1) (fun r hr => ⟨⟨hr.1.1, kCe_fr H.2.1 hr.2 (fun k j h => by unfold jW_198 at h; omega), fun j hj => ?_⟩, (hr.1.2 i rfl).1, (hr.1.2 i rfl).2⟩)
  cases hj
  have := H.2.2 i rfl
  have := kSkp_ge (f := f) (n := n) (i := i)
  exact ⟨by rw [ja_fr hr.2 (by unfold jW_198; omega)]; exact (H.2.2 i rfl).1, by show l.length ≤ kSkp f n i; have := this; have := (H.2.2 i rfl).2; dsimp only at this; omega⟩
/-- past a sign -/
theorem kMl_step {m : jm} {f : Nat → Int} {n o k : Nat} {l : List Int} (x : Nat) (H : kMl m f n o (Sum.inr k, l)) (h4 : ja m 67 4 = (k : Int)) (hx : k + x ≤ n) : js m 67 4 (jw (ja m 67 4 + (x : Int))) = js m 67 4 ((k + x : Nat) : Int) ∧ kMl (js m 67 4 ((k + x : Nat) : Int)) f n o (Sum.inr (k + x), l) := by
  have h6 := H.1.1.1.1
  refine ⟨by rw [h4, jwi (by omega) (by omega)]; rfl, ⟨kTm_mv H.1.1 hx, ?_⟩, kCe_fr (W := fun a b => a = 67 ∧ b = 4) (b := true) H.2.1 (jfr_js jfr_r ⟨rfl, rfl⟩) (fun a b h => by omega), fun i hi => ?_⟩
  · rw [ja_jsj (by decide)]; exact H.1.2
  · cases hi
    have := H.2.2 k rfl
    exact ⟨by rw [ja_jsj (by decide)]; exact this.1, by have := this.2; dsimp only at this ⊢; omega⟩
theorem kEm_lf {c : Int} {z : qLs} : (∃ e, z.1 = Sum.inl e ∧ kLf c z = Sum.inl z ∧ kEm c z = z) ∨ (∃ j, z.1 = Sum.inr j ∧ kLf c z = Sum.inr (j, z.2 ++ [c]) ∧ kEm c z = (Sum.inr j, z.2 ++ [c])) := by
  obtain ⟨s, l⟩ := z
  cases s with
  | inl e => exact Or.inl ⟨e, rfl, rfl, rfl⟩
  | inr j => exact Or.inr ⟨j, rfl, rfl, rfl⟩
theorem kLpm_sp {f : Nat → Int} {n B o : Nat} {x1 x2 w1 w2 : Int} {g : jm → Option jm} {U : qLs → qLs} (hn : n ≤ 150) (hU : qGd n (B + 1) U) (hg : qSpm f n o g U) (hx1 : x1 ≠ 0) (hx2 : x2 ≠ 0) (hx : x1 ≠ x2) (hw1 : 2 ≤ w1 ∧ w1 ≤ 7) (hw2 : 2 ≤ w2 ∧ w2 ≤ 7) : qSpm f n o (kLpm g x1 x2 w1 w2) (qLo f n x1 x2 (kEn w1 0) (kEn w2 0) U) := by
  intro m z H
  unfold kLpm
  refine jo_c (hg m z H) (fun r hr => ?_)
  rw [jo_bind]
  have end1 : ∀ (M : jm) (z : qLs) (e : Int × Nat), z.1 = Sum.inl e → kMl M f n o z → jo (kLmb g x1 x2 w1 w2 M) (jcase (fun _ => False) (fun b => kMl b f n o z)) := fun M z e hz hM => by
    unfold kLmb
    have h1 := hM.1
    rw [hz] at h1
    rw [kMz_g h1, kOkz_l, jsb, if_pos rfl]
    exact hM
  unfold qLo
  cases hz : (U z).1 with
  | inl e => exact jo_mono (jo_one (end1 r (U z) e hz hr)) (fun b hb => hb)
  | inr j =>
    obtain ⟨s, l⟩ := z
    cases s with
    | inl e => rw [hU.1] at hz; cases hz
    | inr i =>
      have gd := hU.2 i l H.1.1.1.2.1
      unfold qGr at gd
      rw [hz] at gd
      dsimp only
      obtain ⟨z, z1, z2⟩ := jo_run2 (body := kLmb g x1 x2 w1 w2) (step := kLt2 f n x1 x2 (kEn w1 0) (kEn w2 0) U) (fun (a : jm) (s : Nat × List Int) => kMl a f n o (Sum.inr s.1, s.2)) (fun s => n - s.1) (Q := fun b z => kMl b f n o z) (fun M s hs => by
        obtain ⟨k, q⟩ := s
        dsimp only at hs
        have hkn := hs.1.1.1.2.1
        have turn : ∀ (y w : Int) (p : jm), (2 ≤ w ∧ w ≤ 7) → kGb f n k y = true → kMl p f n o (Sum.inr (kSkp f n k), q) → ja p 67 4 = (kSkp f n k : Int) → (∃ r, kLf (kEn w 0) (U (Sum.inr (kSkp f n k + 1), q)) = Sum.inl r ∧ jo (jle (js p 67 4 (jw ((ja p 67 4) + (1 : Int)))) fun m25 => Option.bind (α := jm) (g m25) fun p26 => Option.bind (α := jm) (jf_218 w (0 : Int) p26) fun p27 => some (Sum.inl (p27))) (jcase (fun a' => jo (kLmb g x1 x2 w1 w2 a') (jcase (fun _ => False) (fun b => kMl b f n o r))) (fun b => kMl b f n o r))) ∨ (∃ s', kLf (kEn w 0) (U (Sum.inr (kSkp f n k + 1), q)) = Sum.inr s' ∧ n - s'.1 < n - k ∧ jo (jle (js p 67 4 (jw ((ja p 67 4) + (1 : Int)))) fun m25 => Option.bind (α := jm) (g m25) fun p26 => Option.bind (α := jm) (jf_218 w (0 : Int) p26) fun p27 => some (Sum.inl (p27))) (jcase (fun a' => kMl a' f n o (Sum.inr s'.1, s'.2)) (fun (_ : jm) => False))) := fun y w p hw hy hp h4 => by
          have hl2 := kGb_l hy
          obtain ⟨e1, e2⟩ := kMl_step 1 hp h4 (by omega)
          rw [jle_eq, show (1 : Int) = ((1 : Nat) : Int) from rfl, e1]
          have gd := hU.2 (kSkp f n k + 1) q (by omega)
          have hq := (hs.2.2 k rfl).2
          dsimp only at hq
          have go : jo (Option.bind (α := jm) (g (js p 67 4 ((kSkp f n k + 1 : Nat) : Int))) fun p26 => Option.bind (α := jm) (jf_218 w (0 : Int) p26) fun p27 => some (Sum.inl (β := jm) (p27))) (jcase (fun a' => kMl a' f n o (kEm (kEn w 0) (U (Sum.inr (kSkp f n k + 1), q)))) (fun _ => False)) := by
            refine jo_c (hg _ _ e2) (fun p26 h26 => ?_)
            refine jo_c (sl_218 hn h26 (fun j hj => ?_) (by omega) (fun e => by omega) (fun e => by omega) (jg_c rfl)) (fun p27 h27 => h27)
            unfold qGr at gd
            rw [hj] at gd
            obtain ⟨d1, d2, d3, -⟩ := gd
            omega
          rcases kEm_lf (c := kEn w 0) (z := U (Sum.inr (kSkp f n k + 1), q)) with ⟨e, a1, a2, a3⟩ | ⟨j, a1, a2, a3⟩
          · refine Or.inl ⟨_, a2, jo_mono go (fun x hx => ?_)⟩
            cases x with
            | inr c => exact hx.elim
            | inl c =>
              have hx' : kMl c f n o (kEm (kEn w 0) (U (Sum.inr (kSkp f n k + 1), q))) := hx
              rw [a3] at hx'
              exact end1 c _ e a1 hx'
          · refine Or.inr ⟨_, a2, ?_, jo_mono go (fun x hx => ?_)⟩
            · unfold qGr at gd
              rw [a1] at gd
              obtain ⟨d1, d2, d3, -⟩ := gd
              show n - j < n - k
              omega
            · cases x with
              | inr c => exact hx.elim
              | inl c =>
                have hx' : kMl c f n o (kEm (kEn w 0) (U (Sum.inr (kSkp f n k + 1), q))) := hx
                rw [a3] at hx'
                exact hx'
        unfold kLmb kLt2
        dsimp only
        rw [kMz_g hs.1, kOkz_r, jsb, if_neg Int.one_ne_zero]
        obtain ⟨p11, e11, q11, r11, v11⟩ := jo_ex.1 (kMl_look hs)
        obtain ⟨p12, e12, q12, r12, v12⟩ := jo_ex.1 (kMl_look q11)
        rw [kSkp_2] at q12 r12 v12
        rw [e11, jsb]
        by_cases g1 : kGb f n k x1 = true
        · have v1 : p11.1 = x1 := by rw [v11, if_pos (kGb_l g1).2]; exact kGb_v g1
          have v2 : p12.1 = x1 := by rw [v12, if_pos (kGb_l g1).2]; exact kGb_v g1
          rw [if_pos g1, if_pos v1, e12, jsb, if_pos v2, jsb]
          exact turn x1 w1 p12.2 hw1 g1 q12 r12
        · have v1 : ¬ p11.1 = x1 := fun z => g1 (by
            unfold kGb
            rw [v11] at z
            by_cases y : kSkp f n k < n
            · rw [if_pos y] at z; exact decide_eq_true ⟨y, z⟩
            · rw [if_neg y] at z; exact absurd z.symm hx1)
          rw [if_neg g1, if_neg v1, e12, jsb]
          by_cases g2 : kGb f n k x2 = true
          · have v2 : p12.1 = x2 := by rw [v12, if_pos (kGb_l g2).2]; exact kGb_v g2
            obtain ⟨p30, e30, q30, r30, v30⟩ := jo_ex.1 (kMl_look q12)
            rw [kSkp_2] at q30 r30 v30
            have v3 : ¬ p30.1 = x1 := by rw [v30, if_pos (kGb_l g2).2, kGb_v g2]; exact fun z => hx z.symm
            rw [if_pos g2, if_pos v2, e30, jsb, if_neg v3, jsb]
            exact turn x2 w2 p30.2 hw2 g2 q30 r30
          · have v2 : ¬ p12.1 = x2 := fun z => g2 (by
              unfold kGb
              rw [v12] at z
              by_cases y : kSkp f n k < n
              · rw [if_pos y] at z; exact decide_eq_true ⟨y, z⟩
              · rw [if_neg y] at z; exact absurd z.symm hx2)
            rw [if_neg g2, if_neg v2]
            exact Or.inl ⟨_, rfl, q12⟩) jfu r (j, (U (Sum.inr i, l)).2) (jfu_lt (by show n - j + 1 < 4000000; omega)) (by
          show kMl r f n o (Sum.inr j, (U (Sum.inr i, l)).2)
          rw [← hz]; exact hr)
      rw [z1]
      exact jo_mono z2 (fun b hb => hb)
/-! a fault is passed on -/
theorem kLpm_n {g : jm → Option jm} {x1 x2 w1 w2 : Int} {m : jm} (h : ja m 67 5 ≠ -1) (hg : g m = some m) : kLpm g x1 x2 w1 w2 m = some m := by
  have e : jlp (kLmb g x1 x2 w1 w2) jfu m = some m := by
    have := jo_one (Q := fun b => b = m) (body := kLmb g x1 x2 w1 w2) (a := m) (by
      unfold kLmb
      rw [sp_196, if_neg h, jsb, if_pos rfl]
      rfl)
    obtain ⟨b, h1, h2⟩ := jo_ex.1 this
    rw [h1, h2]
  unfold kLpm
  rw [hg, jsb, e, jsb]
theorem jG_B0 {N : Nat} {a b : Int} {m : jm} : jG_B (N + 1) 0 a b m = jf_214 (jG_B N) m := rfl
theorem jG_B1 {N : Nat} {a b : Int} {m : jm} : jG_B (N + 1) 1 a b m = jf_215 (jG_B N) m := rfl
theorem jG_B2 {N : Nat} {a b : Int} {m : jm} : jG_B (N + 1) 2 a b m = jf_216 (jG_B N) m := rfl
theorem jG_B3 {N : Nat} {a b : Int} {m : jm} : jG_B (N + 1) 3 a b m = jf_219 (jG_B N) a b m := rfl
theorem jG_Bn {N : Nat} {m : jm} (h : ja m 67 5 ≠ -1) : jG_B (N + 3) 0 0 0 m = some m := by
  have h2 : jG_B (N + 1) 2 0 0 m = some m := by
    rw [jG_B2]; unfold jf_216
    rw [sp_196, if_neg h, jsb, if_pos rfl]
  have h1 : jG_B (N + 2) 1 0 0 m = some m := by rw [jG_B1, jf_215_e]; exact kLpm_n h h2
  rw [jG_B0, jf_214_e]; exact kLpm_n h h1
