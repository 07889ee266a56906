/-! PICTURES of the class's working rows (post q) and of the model's (row s), and what leaves them. -/
def kK (q : Nat) (m : jm) (c : kC) (p : kP) (cl : List Int) : Prop := kV c ∧ kVp c p ∧ kWL cl ∧ kCc m 3 c ∧ kPc (fun j => ja m (48 + q) j) c p ∧ kLc m 27 cl
def kM (m : jm) (c : kC) (p : kP) (cl : List Int) : Prop := kV c ∧ kVp c p ∧ kWL cl ∧ kCm m 24 75 c ∧ kPm (fun j => ja m 89 j) c p ∧ kLm m cl
def kQK (q : Nat) (k j : Nat) : Prop := (k = 3 ∧ j < 4) ∨ (4 ≤ k ∧ k ≤ 14) ∨ (k = 27 ∧ j = 1) ∨ k = 28 ∨ k = 48 + q
def kQM (k j : Nat) : Prop := (k = 67 ∧ ((24 ≤ j ∧ j ≤ 27) ∨ j = 34)) ∨ (75 ≤ k ∧ k ≤ 79) ∨ k = 82 ∨ k = 83 ∨ k = 89
theorem kPc_eq {f g : Nat → Int} {c : kC} {p : kP} (h : ∀ j, g j = f j) (H : kPc f c p) : kPc g c p := by
  have : g = f := funext h
  rw [this]; exact H
theorem kPm_eq {f g : Nat → Int} {c : kC} {p : kP} (h : ∀ j, g j = f j) (H : kPm f c p) : kPm g c p := by
  have : g = f := funext h
  rw [this]; exact H
theorem kK_eq {q : Nat} {m m' : jm} {c : kC} {p : kP} {cl : List Int} (h : kEq (kQK q) m m') (H : kK q m c p cl) : kK q m' c p cl := by
  obtain ⟨h1, h2, h3, h4, h5, h6⟩ := H
  refine ⟨h1, h2, h3, ⟨fun i hi => ?_, fun k i hk hi => ?_⟩, kPc_eq (fun j => h _ _ (by unfold kQK; omega)) h5, ?_, fun i hi => ?_⟩
  · rw [h _ _ (by unfold kQK; omega)]; exact h4.1 i hi
  · rw [h _ _ (by unfold kQK; omega)]; exact h4.2 k i hk hi
  · rw [h _ _ (by unfold kQK; omega)]; exact h6.1
  · rw [h _ _ (by unfold kQK; omega)]; exact h6.2 i hi
theorem kCm_eq {m m' : jm} {c : kC} (h : kEq kQM m m') (h3 : kCm m 24 75 c) : kCm m' 24 75 c := by
  refine ⟨fun i hi => ?_, fun t ht => ?_, fun e he => ?_, fun w hw => ?_, fun l hl => ?_⟩
  · rw [h _ _ (by unfold kQM; omega)]; exact h3.1 i hi
  · rw [h _ _ (by unfold kQM; omega)]; exact h3.2.1 t ht
  · rw [h _ _ (by unfold kQM; omega), h _ _ (by unfold kQM; omega), h _ _ (by unfold kQM; omega)]; exact h3.2.2.1 e he
  · rw [h _ _ (by unfold kQM; omega), h _ _ (by unfold kQM; omega), h _ _ (by unfold kQM; omega)]; exact h3.2.2.2.1 w hw
  · rw [h _ _ (by unfold kQM; omega), h _ _ (by unfold kQM; omega), h _ _ (by unfold kQM; omega), h _ _ (by unfold kQM; omega)]; exact h3.2.2.2.2 l hl
theorem kLm_eq {m m' : jm} {cl : List Int} (h : kEq kQM m m') (h7 : kLm m cl) : kLm m' cl := by
  unfold kLm at *
  rw [h 67 34 (by unfold kQM; omega)]
  rcases h7 with h7 | h7
  · exact Or.inl h7
  · refine Or.inr ⟨h7.1, h7.2.1, fun i hi => ?_⟩
    rw [h 82 i (by unfold kQM; omega), h 83 i (by unfold kQM; omega)]; exact h7.2.2 i hi
theorem kM_eq {m m' : jm} {c : kC} {p : kP} {cl : List Int} (h : kEq kQM m m') (H : kM m c p cl) : kM m' c p cl := by
  obtain ⟨h1, h2, h3, h4, h5, h6⟩ := H
  exact ⟨h1, h2, h3, kCm_eq h h4, kPm_eq (fun j => h _ _ (by unfold kQM; omega)) h5, kLm_eq h h6⟩
theorem kK_fr {q : Nat} {b : Bool} {W : Nat → Nat → Prop} {m m' : jm} {c : kC} {p : kP} {cl : List Int} (H : kK q m c p cl) (h : jfr b W m m') (hz : ∀ k j, W k j → ¬ kQK q k j) : kK q m' c p cl := kK_eq (kEq_fr h (fun k j hk hw => hz k j hw hk)) H
theorem kM_fr {b : Bool} {W : Nat → Nat → Prop} {m m' : jm} {c : kC} {p : kP} {cl : List Int} (H : kM m c p cl) (h : jfr b W m m') (hz : ∀ k j, W k j → ¬ kQM k j) : kM m' c p cl := kM_eq (kEq_fr h (fun k j hk hw => hz k j hw hk)) H
theorem kK_js {q : Nat} {m : jm} {c : kC} {p : kP} {cl : List Int} {k j : Nat} {x : Int} (H : kK q m c p cl) (hz : ¬ kQK q k j) : kK q (js m k j x) c p cl := kK_eq (kEq_js kEq_r hz) H
theorem kM_js {m : jm} {c : kC} {p : kP} {cl : List Int} {k j : Nat} {x : Int} (H : kM m c p cl) (hz : ¬ kQM k j) : kM (js m k j x) c p cl := kM_eq (kEq_js kEq_r hz) H
/-! reading the class's city -/
theorem kK_n {q : Nat} {m : jm} {c : kC} {p : kP} {cl : List Int} (H : kK q m c p cl) {i : Nat} (hi : i < 4) : ja m 3 i = c 11 i := H.2.2.2.1.1 i hi
theorem kK_a {q : Nat} {m : jm} {c : kC} {p : kP} {cl : List Int} (H : kK q m c p cl) {k i : Nat} (hk : k < 11) (hi : i < kN c k) : ja m (4 + k) i = c k i := by
  have := H.2.2.2.1.2 k i hk hi
  rw [show 4 + k = 3 + 1 + k by omega]; exact this
theorem kK_ht {q : Nat} {m : jm} {c : kC} {p : kP} {cl : List Int} (H : kK q m c p cl) {i : Nat} (hi : i < c 11 0) : ja m 4 i = c 0 i := kK_a H (k := 0) (by decide) hi
theorem kK_A {q : Nat} {m : jm} {c : kC} {p : kP} {cl : List Int} (H : kK q m c p cl) {i : Nat} (hi : i < c 11 1) : ja m 5 i = c 1 i := kK_a H (k := 1) (by decide) hi
theorem kK_B {q : Nat} {m : jm} {c : kC} {p : kP} {cl : List Int} (H : kK q m c p cl) {i : Nat} (hi : i < c 11 1) : ja m 6 i = c 2 i := kK_a H (k := 2) (by decide) hi
theorem kK_hm {q : Nat} {m : jm} {c : kC} {p : kP} {cl : List Int} (H : kK q m c p cl) {i : Nat} (hi : i < c 11 2) : ja m 8 i = c 4 i := kK_a H (k := 4) (by decide) hi
theorem kK_nv {q : Nat} {m : jm} {c : kC} {p : kP} {cl : List Int} (H : kK q m c p cl) {i : Nat} (hi : i < c 11 2) : ja m 9 i = c 5 i := kK_a H (k := 5) (by decide) hi
theorem kK_tk {q : Nat} {m : jm} {c : kC} {p : kP} {cl : List Int} (H : kK q m c p cl) {i : Nat} (hi : i < c 11 2) : ja m 10 i = c 6 i := kK_a H (k := 6) (by decide) hi
theorem kK_F {q : Nat} {m : jm} {c : kC} {p : kP} {cl : List Int} (H : kK q m c p cl) {i : Nat} (hi : i < c 11 3) : ja m 11 i = c 7 i := kK_a H (k := 7) (by decide) hi
theorem kK_T {q : Nat} {m : jm} {c : kC} {p : kP} {cl : List Int} (H : kK q m c p cl) {i : Nat} (hi : i < c 11 3) : ja m 12 i = c 8 i := kK_a H (k := 8) (by decide) hi
theorem kK_kd {q : Nat} {m : jm} {c : kC} {p : kP} {cl : List Int} (H : kK q m c p cl) {i : Nat} (hi : i < c 11 3) : ja m 13 i = c 9 i := kK_a H (k := 9) (by decide) hi
theorem kK_wt {q : Nat} {m : jm} {c : kC} {p : kP} {cl : List Int} (H : kK q m c p cl) {i : Nat} (hi : i < c 11 3) : ja m 14 i = c 10 i := kK_a H (k := 10) (by decide) hi
/-! the post's fields, as the class reads them -/
theorem sp_rd {m : jm} {q a k : Nat} (h : a + k < 52) : (if 0 ≤ jw ((a : Int) + (k : Int)) ∧ jw ((a : Int) + (k : Int)) < 52 then some (ja m (48 + q) (jw ((a : Int) + (k : Int))).toNat) else none) = some (ja m (48 + q) (a + k)) := by
  have e : jw ((a : Int) + (k : Int)) = ((a + k : Nat) : Int) := by rw [jwi (by omega) (by omega)]; omega
  rw [e, if_pos (by omega), Int.toNat_natCast]
theorem sp_59 {m : jm} {q k : Nat} {c : kC} {p : kP} {cl : List Int} (H : kK q m c p cl) (h : k < c 11 2) : jf_59 q k m = some (p 2 k) := by
  have := H.1.1
  rw [show jf_59 q k m = _ from sp_rd (a := 26) (by omega)]; exact congrArg some (H.2.2.2.2.1.2.2.2.1 k h).1
theorem sp_65 {m : jm} {q k : Nat} {c : kC} {p : kP} {cl : List Int} (H : kK q m c p cl) (h : k < c 11 1) : jf_65 q k m = some (p 0 k) := by
  have := H.1.1
  rw [show jf_65 q k m = _ from sp_rd (a := 2) (by omega)]; exact congrArg some (H.2.2.2.2.1.2.2.1 k h).1
theorem sp_66 {m : jm} {q k : Nat} {c : kC} {p : kP} {cl : List Int} (H : kK q m c p cl) (h : k < c 11 1) : jf_66 q k m = some (p 1 k) := by
  have := H.1.1
  rw [show jf_66 q k m = _ from sp_rd (a := 14) (by omega)]; exact congrArg some (H.2.2.2.2.1.2.2.1 k h).2
theorem sp_68 {m : jm} {q k : Nat} {c : kC} {p : kP} {cl : List Int} (H : kK q m c p cl) (h : k < c 11 2) : jf_68 q k m = some (p 3 k) := by
  have := H.1.1
  rw [show jf_68 q k m = _ from sp_rd (a := 32) (by omega)]; exact congrArg some (H.2.2.2.2.1.2.2.2.1 k h).2.1
theorem sp_91 {m : jm} {q k : Nat} {c : kC} {p : kP} {cl : List Int} (H : kK q m c p cl) (h : k < c 11 2) : jf_91 q k m = some (p 4 k) := by
  have := H.1.1
  rw [show jf_91 q k m = _ from sp_rd (a := 38) (by omega)]; exact congrArg some (H.2.2.2.2.1.2.2.2.1 k h).2.2
theorem sp_63 {m : jm} {q : Nat} {c : kC} {p : kP} {cl : List Int} (H : kK q m c p cl) : jf_63 q m = some (p 8 1) := congrArg some H.2.2.2.2.1.2.1
theorem sp_69 {m : jm} {q : Nat} {c : kC} {p : kP} {cl : List Int} (H : kK q m c p cl) : jf_69 q m = some (p 8 0) := congrArg some H.2.2.2.2.1.1
theorem sp_58 {m : jm} {q k : Nat} {c : kC} {p : kP} {cl : List Int} (H : kK q m c p cl) (h : k < c 11 2) : jf_58 q k m = some (if p 2 k = -1 then 1 else 0) := by
  unfold jf_58
  rw [sp_59 H h, jsb]
  split <;> rfl
/-- a letter's cell -/
theorem kLt_cs {c : kC} {p : kP} {l : Nat} (hv : kV c) (hq : kVp c p) (h : l < c 11 3) : (p 7 l = 1 ∧ kLt p l = 14 ∧ p 6 l = -1 ∧ p 5 l = c 8 l) ∨ (p 7 l = 0 ∧ kLt p l = p 5 l ∧ p 6 l = -1 ∧ 0 ≤ p 5 l ∧ p 5 l < 8) ∨ (p 7 l = 0 ∧ kLt p l = 8 + p 6 l ∧ 0 ≤ p 6 l ∧ p 6 l < 6 ∧ p 5 l = -1) := by
  obtain ⟨a, b, b', d, f, g⟩ := hq.2.2.2.1 l h
  have := hv.1.1; have := hv.1.2.2.1
  unfold kLt
  by_cases h7 : p 7 l = 1
  · rw [if_pos h7]; exact Or.inl ⟨h7, rfl, (d h7).1, (d h7).2⟩
  · rw [if_neg h7]
    by_cases h6 : p 6 l = -1
    · rw [if_pos h6]; have := g h6; exact Or.inr (Or.inl ⟨by omega, rfl, h6, by omega, by omega⟩)
    · rw [if_neg h6]; have := f h6; exact Or.inr (Or.inr ⟨by omega, rfl, by omega, by omega, this.1⟩)
theorem sp_lt {m : jm} {q l : Nat} {c : kC} {p : kP} {cl : List Int} (H : kK q m c p cl) (h : l < c 11 3) : jw ((44 : Int) + (l : Int)) = ((44 + l : Nat) : Int) ∧ (0 ≤ ((44 + l : Nat) : Int) ∧ ((44 + l : Nat) : Int) < 52) ∧ ja m (48 + q) (44 + l) = kLt p l := by
  have := H.1.1
  exact ⟨by rw [jwi (by omega) (by omega)]; omega, by omega, H.2.2.2.2.1.2.2.2.2 l h⟩
theorem sp_86 {m : jm} {q l : Nat} {c : kC} {p : kP} {cl : List Int} (H : kK q m c p cl) (h : l < c 11 3) : jf_86 q l m = some (p 7 l) := by
  obtain ⟨e1, e2, e3⟩ := sp_lt H h
  unfold jf_86
  rw [e1, if_pos e2, Int.toNat_natCast, e3]
  rcases kLt_cs H.1 H.2.1 h with ⟨a, b, -⟩ | ⟨a, b, -, d, e⟩ | ⟨a, b, d, e, -⟩
  · rw [b, if_pos rfl, a]; rfl
  · rw [if_neg (show ¬ kLt p l = 14 by omega), a]; rfl
  · rw [if_neg (show ¬ kLt p l = 14 by omega), a]; rfl
theorem sp_61 {m : jm} {q l : Nat} {c : kC} {p : kP} {cl : List Int} (H : kK q m c p cl) (h : l < c 11 3) : jf_61 q l m = some (p 6 l) := by
  obtain ⟨e1, e2, e3⟩ := sp_lt H h
  unfold jf_61
  rw [e1, if_pos e2, Int.toNat_natCast, e3]
  rcases kLt_cs H.1 H.2.1 h with ⟨a, b, f, -⟩ | ⟨a, b, f, d, e⟩ | ⟨a, b, d, e, -⟩
  · rw [b, if_neg (by decide), if_neg (by decide), f]; rfl
  · rw [if_pos (show kLt p l < 8 by omega), f]; rfl
  · rw [if_neg (show ¬ kLt p l < 8 by omega), if_pos (show kLt p l < 14 by omega), jwi (by omega) (by omega), b]
    show some (8 + p 6 l - 8) = _
    congr 1; omega
/-- where a letter lies for taking -/
def kLs (p : kP) (l : Nat) : Int := if p 7 l = 1 then -1 else p 5 l
theorem sp_57 {m : jm} {q l : Nat} {c : kC} {p : kP} {cl : List Int} (H : kK q m c p cl) (h : l < c 11 3) : jf_57 q l m = some (kLs p l) := by
  obtain ⟨e1, e2, e3⟩ := sp_lt H h
  unfold jf_57 kLs
  rw [e1, if_pos e2, Int.toNat_natCast, e3]
  rcases kLt_cs H.1 H.2.1 h with ⟨a, b, -⟩ | ⟨a, b, -, d, e⟩ | ⟨a, b, d, e, f⟩
  · rw [b, if_neg (by decide), if_pos a]; rfl
  · rw [if_pos (show kLt p l < 8 by omega), b, if_neg (by omega)]; rfl
  · rw [if_neg (show ¬ kLt p l < 8 by omega), if_neg (by omega), f]; rfl
/-! sets told by bits, in the class -/
theorem sp_60 {m : jm} {q : Nat} {w : Int} {c : kC} {p : kP} {cl : List Int} (H : kK q m c p cl) : jf_60 q w m = some ((kB (fun l => decide (p 6 l = w)) (c 11 3) : Nat) : Int) := by
  have := H.1.1
  have en := kK_n H (i := 3) (by decide)
  unfold jf_60
  rw [kB_lp (n := c 11 3) (fun l => decide (p 6 l = w)) (by omega) (fun i hi x => ?_) (fun x => ?_)]
  · rfl
  · dsimp only
    rw [en, if_pos (by omega), sp_61 H hi, jsb, jwn (by omega)]
    by_cases h : p 6 i = w
    · rw [if_pos h, jsb, if_pos (decide_eq_true h)]
    · rw [if_neg h, jsb, if_neg (by simp [h])]
  · dsimp only
    rw [en, if_neg (by omega)]
theorem sp_85 {m : jm} {q : Nat} {c : kC} {p : kP} {cl : List Int} (H : kK q m c p cl) : jf_85 q m = some ((kB (fun l => decide (p 7 l = 1)) (c 11 3) : Nat) : Int) := by
  have := H.1.1
  have en := kK_n H (i := 3) (by decide)
  unfold jf_85
  rw [kB_lp (n := c 11 3) (fun l => decide (p 7 l = 1)) (by omega) (fun i hi x => ?_) (fun x => ?_)]
  · rfl
  · dsimp only
    rw [en, if_pos (by omega), sp_86 H hi, jsb, jwn (by omega)]
    rcases (H.2.1.2.2.2.1 i hi).1 with h | h
    · rw [h]; rfl
    · rw [h]; rfl
  · dsimp only
    rw [en, if_neg (by omega)]
theorem sp_90 {m : jm} {q : Nat} {t : Int} {c : kC} {p : kP} {cl : List Int} (H : kK q m c p cl) : jf_90 q t m = some ((kB (fun l => decide (kLs p l = t)) (c 11 3) : Nat) : Int) := by
  have := H.1.1
  have en := kK_n H (i := 3) (by decide)
  unfold jf_90
  rw [kB_lp (n := c 11 3) (fun l => decide (kLs p l = t)) (by omega) (fun i hi x => ?_) (fun x => ?_)]
  · rfl
  · dsimp only
    rw [en, if_pos (by omega), sp_57 H hi, jsb, jwn (by omega)]
    by_cases h : kLs p i = t
    · rw [if_pos h, jsb, if_pos (decide_eq_true h)]
    · rw [if_neg h, jsb, if_neg (by simp [h])]
  · dsimp only
    rw [en, if_neg (by omega)]
theorem sp_88 {m : jm} {q : Nat} {t : Int} {c : kC} {p : kP} {cl : List Int} (H : kK q m c p cl) : jf_88 q t m = some ((kB (fun l => decide (p 2 l = t)) (c 11 2) : Nat) : Int) := by
  have := H.1.1
  have en := kK_n H (i := 2) (by decide)
  unfold jf_88
  rw [kB_lp (n := c 11 2) (fun l => decide (p 2 l = t)) (by omega) (fun i hi x => ?_) (fun x => ?_)]
  · rfl
  · dsimp only
    rw [en, if_pos (by omega), sp_59 H hi, jsb, jwn (by omega)]
    by_cases h : p 2 i = t
    · rw [if_pos h, jsb, if_pos (decide_eq_true h)]
    · rw [if_neg h, jsb, if_neg (by simp [h])]
  · dsimp only
    rw [en, if_neg (by omega)]
theorem sp_20 {m : jm} {q : Nat} {t : Int} {c : kC} {p : kP} {cl : List Int} (H : kK q m c p cl) : jf_20 t m = some ((kB (fun e => decide ((c 1 e : Int) = t ∨ (c 2 e : Int) = t)) (c 11 1) : Nat) : Int) := by
  have := H.1.1
  have en := kK_n H (i := 1) (by decide)
  unfold jf_20
  rw [jlp_fr (a := ((0 : Int), (0 : Int))) (c := ((kB (fun e => decide ((c 1 e : Int) = t ∨ (c 2 e : Int) = t)) (c 11 1) : Nat) : Int)) (c 11 1) (fun i => (((kB (fun e => decide ((c 1 e : Int) = t ∨ (c 2 e : Int) = t)) i : Nat) : Int), (i : Int))) (by omega) rfl (fun i hi => ?_) ?_]
  · rfl
  · dsimp only
    rw [en, if_neg (by omega)]
  · dsimp only
    have eB : ((kB (fun e => decide ((c 1 e : Int) = t ∨ (c 2 e : Int) = t)) (i + 1) : Nat) : Int) = jbor ((kB (fun e => decide ((c 1 e : Int) = t ∨ (c 2 e : Int) = t)) i : Nat) : Int) (if decide ((c 1 i : Int) = t ∨ (c 2 i : Int) = t) = true then jshl 1 (i : Int) else 0) := by
      rw [jbit_n (by omega), jbor_n (kB_31 (by omega)) (kBit_lt (by omega))]; rfl
    rw [en, if_pos (by omega), if_pos (by omega), Int.toNat_natCast, kK_A H hi, kK_B H hi, jwn (by omega), eB]
    by_cases h : (c 1 i : Int) = t
    · rw [if_pos h, jsb, if_pos (by simp [h])]
    · rw [if_neg h]
      by_cases h2 : (c 2 i : Int) = t
      · rw [if_pos (by omega), if_pos h2, jsb, if_pos (by simp [h2])]
      · rw [if_pos (by omega), if_neg h2, jsb, if_neg (by simp [h, h2]), jbor_0]
        have := kB_31 (f := fun e => decide ((c 1 e : Int) = t ∨ (c 2 e : Int) = t)) (n := i) (by omega)
        unfold jg; omega
