/-! WAYS: the class's rows and hops, the model's labels. -/
def kG (c : kC) (p : kP) (cl : List Int) (w : Nat) (a : Int × Int × Int) (u v : Nat) : Bool := decide (kJo c u v ≠ -1) && kOv c w (kLn c p cl w (kJo c u v).toNat (if (c 1 (kJo c u v).toNat : Int) = (u : Int) then 0 else 1) (p 8 1) a)
def kNx (c : kC) (ov : Nat → Int → Bool) (t v : Nat) : Nat → Bool
  | 0 => false
  | e + 1 => kNx c ov t v e || (decide (c 1 e = t ∧ c 2 e = v) && ov e 0) || (decide (c 2 e = t ∧ c 1 e = v) && ov e 1)
theorem kNx_s {c : kC} {ov : Nat → Int → Bool} {t v e : Nat} : kNx c ov t v (e + 1) = (kNx c ov t v e || (decide (c 1 e = t ∧ c 2 e = v) && ov e 0) || (decide (c 2 e = t ∧ c 1 e = v) && ov e 1)) := rfl
theorem kNx_iff {c : kC} {ov : Nat → Int → Bool} {t v : Nat} : ∀ n, kNx c ov t v n = true ↔ ∃ e, e < n ∧ (((c 1 e = t ∧ c 2 e = v) ∧ ov e 0 = true) ∨ ((c 2 e = t ∧ c 1 e = v) ∧ ov e 1 = true))
  | 0 => ⟨fun h => absurd h nft, fun ⟨i, h, _⟩ => absurd h (Nat.not_lt_zero _)⟩
  | n + 1 => by
    rw [kNx_s, Bool.or_eq_true, Bool.or_eq_true, kNx_iff n]
    simp only [Bool.and_eq_true, decide_eq_true_eq]
    refine ⟨fun h => ?_, fun ⟨e, h1, h2⟩ => ?_⟩
    · rcases h with (⟨e, h1, h2⟩ | h) | h
      · exact ⟨e, by omega, h2⟩
      · exact ⟨n, by omega, Or.inl h⟩
      · exact ⟨n, by omega, Or.inr h⟩
    · by_cases e0 : e = n
      · subst e0
        rcases h2 with h2 | h2
        · exact Or.inl (Or.inr h2)
        · exact Or.inr h2
      · exact Or.inl (Or.inl ⟨e, by omega, h2⟩)
/-- what the wire between two towers is -/
theorem kJo_cs {c : kC} {u v : Nat} : (kJo c u v = -1 ∧ ∀ e, e < c 11 1 → ¬ ((c 1 e = u ∧ c 2 e = v) ∨ (c 1 e = v ∧ c 2 e = u))) ∨ ∃ e, e < c 11 1 ∧ kJo c u v = (e : Int) ∧ ((c 1 e = u ∧ c 2 e = v) ∨ (c 1 e = v ∧ c 2 e = u)) := by
  unfold kJo
  rcases kFs_cs (f := kJn (fun e => (c 1 e : Int)) (fun e => (c 2 e : Int)) u v) (c 11 1) with ⟨h, h2⟩ | ⟨e, h1, h2, h3, -⟩
  · refine Or.inl ⟨h, fun e he h3 => ?_⟩
    have := of_decide_eq_false (h2 e he)
    exact this (by dsimp only; omega)
  · refine Or.inr ⟨e, h1, h2, ?_⟩
    have := of_decide_eq_true h3
    dsimp only at this
    omega
theorem kG_nx {c : kC} {p : kP} {cl : List Int} {w : Nat} {a : Int × Int × Int} (hv : kV c) (t v : Nat) : kNx c (fun e how => kOv c w (kLn c p cl w e how (p 8 1) a)) t v (c 11 1) = kG c p cl w a t v := by
  have hiff : kNx c (fun e how => kOv c w (kLn c p cl w e how (p 8 1) a)) t v (c 11 1) = true ↔ kG c p cl w a t v = true := by
    rw [kNx_iff]
    unfold kG
    rw [Bool.and_eq_true, decide_eq_true_eq]
    rcases kJo_cs (c := c) (u := t) (v := v) with ⟨h1, h2⟩ | ⟨e, h1, h2, h3⟩
    · refine ⟨fun ⟨e, h3, h4⟩ => absurd ?_ (h2 e h3), fun h => absurd h1 h.1⟩
      rcases h4 with h4 | h4
      · exact Or.inl h4.1
      · exact Or.inr ⟨h4.1.2, h4.1.1⟩
    · rw [h2, Int.toNat_natCast]
      have hd := (hv.2.2.1 e h1).2.2.1
      refine ⟨fun ⟨f, g1, g2⟩ => ⟨by omega, ?_⟩, fun h => ⟨e, h1, ?_⟩⟩
      · have hfe : f = e := by
          refine hv.2.2.2.1 f e g1 h1 ?_
          rcases g2 with g2 | g2 <;> rcases h3 with h3 | h3
          · exact Or.inl ⟨by omega, by omega⟩
          · exact Or.inr ⟨by omega, by omega⟩
          · exact Or.inr ⟨by omega, by omega⟩
          · exact Or.inl ⟨by omega, by omega⟩
        subst hfe
        rcases g2 with ⟨g3, g4⟩ | ⟨g3, g4⟩
        · rw [if_pos (by omega)]; exact g4
        · rw [if_neg (by omega)]; exact g4
      · rcases h3 with h3 | h3
        · have h4 := h.2
          rw [if_pos (by omega)] at h4; exact Or.inl ⟨h3, h4⟩
        · have h4 := h.2
          rw [if_neg (by omega)] at h4; exact Or.inr ⟨⟨h3.2, h3.1⟩, h4⟩
  cases h1 : kNx c (fun e how => kOv c w (kLn c p cl w e how (p 8 1) a)) t v (c 11 1) <;> cases h2 : kG c p cl w a t v
  · rfl
  · rw [h1, h2] at hiff; exact absurd (hiff.2 rfl) nft
  · rw [h1, h2] at hiff; exact absurd (hiff.1 rfl) nft
  · rfl
theorem kB_set {f : Nat → Bool} {n b : Nat} (hb : b < n) : kB f n ||| 2 ^ b = kB (fun v => f v || decide (v = b)) n := by
  refine Nat.eq_of_testBit_eq (fun k => ?_)
  rw [Nat.testBit_or, kB_tb, kB_tb, Nat.testBit_two_pow]
  by_cases h : b = k
  · subst h; simp [hb]
  · have : decide (k = b) = false := decide_eq_false (fun e => h e.symm)
    rw [this]; simp [h]
theorem kB_one {n a : Nat} (ha : a < n) : kB (fun v => decide (v = a)) n = 2 ^ a := by
  refine Nat.eq_of_testBit_eq (fun k => ?_)
  rw [kB_tb, Nat.testBit_two_pow]
  by_cases h : a = k
  · subst h; simp [ha]
  · have : decide (k = a) = false := decide_eq_false (fun e => h e.symm)
    rw [this]; simp [h]
theorem kB_8 {f : Nat → Bool} {n : Nat} (h : n ≤ 8) : kB f n < 256 := Nat.lt_of_lt_of_le (kB_lt n) (two_pow_le (k := 8) h)
/-- a half step of the class's ready -/
theorem nx_up {m : jm} {T a b : Nat} {f : Nat → Nat → Bool} {g : Bool} (hT : T ≤ 8) (ha : a < T) (hb : b < T) (h : ∀ t, t < T → ja m 57 t = ((kB (f t) T : Nat) : Int)) : ∀ t, t < T → ja (js m 57 a (jbor (ja m 57 a) (jshl 1 (b : Int)))) 57 t = ((kB (fun v => f t v || decide (a = t ∧ b = v)) T : Nat) : Int) := by
  intro t ht
  have h8 := kB_8 (f := f a) hT
  have h2 : 2 ^ b < 256 := (Nat.pow_lt_pow_iff_right (a := 2) (m := 8) (by decide)).2 (by omega)
  rw [ja_js]
  by_cases e : t = a
  · subst e
    rw [if_pos ⟨rfl, rfl⟩, h t ht, jshl_n (by omega), jbor_n (by omega) (by omega), kB_set hb, jw_nat (Nat.lt_of_lt_of_le (kB_8 hT) (by decide))]
    refine congrArg (fun (x : Nat) => (x : Int)) (kB_ext T (fun v hv => ?_))
    by_cases hvb : v = b
    · subst hvb; simp
    · simp [hvb]; omega
  · rw [if_neg (fun f => e f.2), h t ht]
    refine congrArg (fun (x : Nat) => (x : Int)) (kB_ext T (fun v hv => ?_))
    have : decide (a = t ∧ b = v) = false := decide_eq_false (by omega)
    rw [this, Bool.or_false]
theorem sl_127 {m : jm} {c : kC} {p : kP} {cl : List Int} {w b : Nat} (H : kK 0 m c p cl) (hw : w < c 11 2) (hb : b < 2 ^ c 11 3) : jo (jf_127 w b m) (fun r => (∀ t, t < c 11 0 → ja r 57 t = ((kB (kG c p cl w (kCar c (fun i => b.testBit i) (c 11 3)) t) (c 11 0) : Nat) : Int)) ∧ jfr true jW_127 m r) := by
  refine jo_and ?_ jx_127
  have hn := H.1.1
  unfold jf_127
  rw [sp_334, jsb]
  have hfl : jfr true jW_127 m (jfl m 57 0) := jfr_t jfr_r (jx_334 _ (sp_334 (a := 57) (x := 0) (m := m))) (fun e => e) (fun k j hk => Or.inl hk)
  refine jo_c (R := fun r => ∀ t, t < c 11 0 → ja r 57 t = ((kB (kG c p cl w (kCar c (fun i => b.testBit i) (c 11 3)) t) (c 11 0) : Nat) : Int)) ?_ (fun r hr => hr)
  refine jo_for (c 11 1) jfu (fun e (s : Int × jm) => s.1 = e ∧ (∀ t, t < c 11 0 → ja s.2 57 t = ((kB (fun v => kNx c (fun e how => kOv c w (kLn c p cl w e how (p 8 1) (kCar c (fun i => b.testBit i) (c 11 3)))) t v e) (c 11 0) : Nat) : Int)) ∧ jfr true jW_127 m s.2) (jfu_lt (by omega)) ?_ ?_ _ ⟨rfl, fun t ht => ?_, hfl⟩
  · intro e he s hs
    obtain ⟨x, m'⟩ := s
    obtain ⟨h1, h2, h3⟩ := hs
    dsimp only at h1 h2 h3 ⊢
    subst h1
    have H1 := kK_fr H h3 (fun k j hk => by unfold jW_127 at hk; unfold kQK; omega)
    have hE := H.1.2.2.1 e he
    rw [kK_n H1 (i := 1) (by decide), if_pos (show (e : Int) < (c 11 1 : Int) by omega), if_pos (show 0 ≤ (e : Int) ∧ (e : Int) < 12 by omega), if_pos (show 0 ≤ (e : Int) ∧ (e : Int) < 12 by omega), Int.toNat_natCast, kK_A H1 he, kK_B H1 he, Int.toNat_natCast, Int.toNat_natCast, jwn (n := e) (by omega)]
    refine jo_c (sl_62 (how := 0) H1 hw he hb) (fun r hr => ?_)
    obtain ⟨hr, hf⟩ := hr
    have hf1 : jfr true jW_127 m r.2 := jfr_t h3 hf (fun e => e) (fun k j hk => by unfold jW_62 at hk; unfold jW_127; omega)
    have H2 := kK_fr H1 hf (fun k j hk => by unfold jW_62 at hk; unfold kQK; omega)
    rw [sp_73 H2 hw (by rw [hr]; exact kLean_b), jsb, hr]
    have h57 : ∀ t, t < c 11 0 → ja r.2 57 t = ((kB (fun v => kNx c (fun e how => kOv c w (kLn c p cl w e how (p 8 1) (kCar c (fun i => b.testBit i) (c 11 3)))) t v e) (c 11 0) : Nat) : Int) := fun t ht => by rw [ja_fr hf (by unfold jW_62; omega)]; exact h2 t ht
    have half : jo (if (if kOv c w (kLn c p cl w e 0 (p 8 1) (kCar c (fun i => b.testBit i) (c 11 3))) = true then (1 : Int) else 0) = 0 then some r.2 else if 0 ≤ (c 1 e : Int) ∧ (c 1 e : Int) < 8 then if 0 ≤ (c 1 e : Int) ∧ (c 1 e : Int) < 8 then jle (js r.2 57 (c 1 e) (jbor (ja r.2 57 (c 1 e)) (jshl 1 (c 2 e : Int)))) fun m17 => some m17 else none else none) (fun t15 => (∀ t, t < c 11 0 → ja t15 57 t = ((kB (fun v => kNx c (fun e how => kOv c w (kLn c p cl w e how (p 8 1) (kCar c (fun i => b.testBit i) (c 11 3)))) t v e || (decide (c 1 e = t ∧ c 2 e = v) && kOv c w (kLn c p cl w e 0 (p 8 1) (kCar c (fun i => b.testBit i) (c 11 3))))) (c 11 0) : Nat) : Int)) ∧ jfr true jW_127 m t15) := by
      cases ho : kOv c w (kLn c p cl w e 0 (p 8 1) (kCar c (fun i => b.testBit i) (c 11 3)))
      · rw [if_neg nft, if_pos rfl]
        refine ⟨fun t ht => ?_, hf1⟩
        rw [h57 t ht]
        refine congrArg (fun (x : Nat) => (x : Int)) (kB_ext _ (fun v hv => ?_))
        rw [Bool.and_false, Bool.or_false]
      · rw [if_pos (rfl : true = true), if_neg (by decide), if_pos (by omega), if_pos (by omega), jle_eq]
        refine ⟨fun t ht => ?_, jfr_js hf1 (Or.inl rfl)⟩
        rw [nx_up (g := true) hn.1 hE.1 hE.2.1 h57 t ht]
        refine congrArg (fun (x : Nat) => (x : Int)) (kB_ext _ (fun v hv => ?_))
        rw [Bool.and_true]
    refine jo_c half (fun t15 ht15 => ?_)
    obtain ⟨q1, q2⟩ := ht15
    have H3 := kK_fr H q2 (fun k j hk => by unfold jW_127 at hk; unfold kQK; omega)
    refine jo_c (sl_62 (how := 1) H3 hw he hb) (fun r hr => ?_)
    obtain ⟨hr, hf⟩ := hr
    have hf1 : jfr true jW_127 m r.2 := jfr_t q2 hf (fun e => e) (fun k j hk => by unfold jW_62 at hk; unfold jW_127; omega)
    have H4 := kK_fr H3 hf (fun k j hk => by unfold jW_62 at hk; unfold kQK; omega)
    rw [sp_73 H4 hw (by rw [hr]; exact kLean_b), jsb, hr]
    have q57 : ∀ t, t < c 11 0 → ja r.2 57 t = _ := fun t ht => (ja_fr hf (by unfold jW_62; omega)).trans (q1 t ht)
    cases ho : kOv c w (kLn c p cl w e 1 (p 8 1) (kCar c (fun i => b.testBit i) (c 11 3)))
    · rw [if_neg nft, if_pos rfl, jsb]
      refine ⟨rfl, fun t ht => ?_, hf1⟩
      show ja r.2 57 t = _
      rw [q57 t ht]
      refine congrArg (fun (x : Nat) => (x : Int)) (kB_ext _ (fun v hv => ?_))
      rw [kNx_s, ho, Bool.and_false, Bool.or_false]
    · rw [if_pos (rfl : true = true), if_neg (by decide), if_pos (by omega), if_pos (by omega), jle_eq, jsb]
      refine ⟨rfl, fun t ht => ?_, jfr_js hf1 (Or.inl rfl)⟩
      show ja (js r.2 57 _ _) 57 t = _
      rw [nx_up (g := true) hn.1 hE.2.1 hE.1 q57 t ht]
      refine congrArg (fun (x : Nat) => (x : Int)) (kB_ext _ (fun v hv => ?_))
      rw [kNx_s, ho, Bool.and_true]
  · intro s hs
    obtain ⟨x, m'⟩ := s
    obtain ⟨h1, h2, h3⟩ := hs
    dsimp only at h1 h2 h3 ⊢
    have H1 := kK_fr H h3 (fun k j hk => by unfold jW_127 at hk; unfold kQK; omega)
    rw [kK_n H1 (i := 1) (by decide), if_neg (by omega)]
    intro t ht
    show ja m' 57 t = _
    rw [h2 t ht]
    refine congrArg (fun (x : Nat) => (x : Int)) (kB_ext _ (fun v hv => ?_))
    exact kG_nx H.1 t v
  · show ja (jfl m 57 0) 57 t = _
    have : kB (fun v => kNx c (fun e how => kOv c w (kLn c p cl w e how (p 8 1) (kCar c (fun i => b.testBit i) (c 11 3)))) t v 0) (c 11 0) = 0 := by
      refine Nat.eq_of_testBit_eq (fun k => ?_)
      rw [kB_tb, Nat.zero_testBit]
      show (_ && false) = false
      rw [Bool.and_false]
    rw [this]
    unfold ja jfl
    dsimp only
    rw [if_pos ⟨rfl, show t < px_ln 57 from (by show t < 8; omega)⟩]; rfl
/-- the row of the class's next -/
def kNR (m : jm) (G : Nat → Nat → Bool) (T : Nat) : Prop := ja m 3 0 = (T : Int) ∧ T ≤ 8 ∧ ∀ t, t < T → ja m 57 t = ((kB (G t) T : Nat) : Int)
theorem sp_129 {m : jm} {G : Nat → Nat → Bool} {T : Nat} {f : Nat → Bool} (h : kNR m G T) : jf_129 ((kB f T : Nat) : Int) m = some ((kB (fun v => f v || kEx (fun u => f u && G u v) T) T : Nat) : Int) := by
  obtain ⟨h1, h2, h3⟩ := h
  have hb := kB_8 (f := f) h2
  unfold jf_129
  rw [jlp_fr (a := (((kB f T : Nat) : Int), (0 : Int))) (c := ((kB (fun v => f v || kEx (fun u => f u && G u v) T) T : Nat) : Int)) T (fun i => (((kB (fun v => f v || kEx (fun u => f u && G u v) i) T : Nat) : Int), (i : Int))) (by omega) ?h0 ?hs ?he]
  case h0 =>
    refine Prod.ext ?_ rfl
    refine congrArg (fun (x : Nat) => (x : Int)) (kB_ext _ (fun v hv => ?_))
    show (f v || false) = f v
    rw [Bool.or_false]
  case he =>
    dsimp only
    rw [h1, if_neg (by omega)]
  case hs =>
    intro i hi
    have hbi := kB_8 (f := fun v => f v || kEx (fun u => f u && G u v) i) h2
    have hgi := kB_8 (f := G i) h2
    dsimp only
    rw [h1, if_pos (show (i : Int) < (T : Int) by omega), jtst (by omega) (by omega), Int.toNat_natCast, h3 i hi, jwn (n := i) (by omega), kB_tb, decide_eq_true hi, Bool.true_and]
    have ext : ∀ g : Nat, (∀ k, k < T → g.testBit k = (f i && G i k)) → g < 256 → (∀ k, T ≤ k → g.testBit k = false) → jbor ((kB (fun v => f v || kEx (fun u => f u && G u v) i) T : Nat) : Int) (g : Int) = ((kB (fun v => f v || kEx (fun u => f u && G u v) (i + 1)) T : Nat) : Int) := fun g hg hg2 hg3 => by
      rw [jbor_n (by omega) (by omega)]
      refine congrArg (fun (x : Nat) => (x : Int)) (Nat.eq_of_testBit_eq (fun k => ?_))
      rw [Nat.testBit_or, kB_tb, kB_tb]
      by_cases hk : k < T
      · rw [decide_eq_true hk, hg k hk, kEx_s]; simp [Bool.or_assoc]
      · rw [decide_eq_false hk, hg3 k (by omega)]; rfl
    cases hfi : f i
    · rw [if_neg nft, if_neg (by decide), jsb]
      rw [show (0 : Int) = ((0 : Nat) : Int) from rfl, ext 0 (fun k _ => by rw [Nat.zero_testBit, hfi]; rfl) (by decide) (fun k _ => Nat.zero_testBit k)]
    · rw [if_pos (rfl : true = true), if_pos rfl, if_pos (show 0 ≤ (i : Int) ∧ (i : Int) < 8 by omega), jsb]
      rw [ext _ (fun k hk => by rw [kB_tb, hfi, decide_eq_true hk]) hgi (fun k hk => by rw [kB_tb, decide_eq_false (by omega)]; rfl)]
  rfl
theorem kFs_lpS0 {α : Type} {body : α × Int → Option ((α × Int) ⊕ Int)} {f : Nat → Bool} {S : Nat → α} {n : Nat} (hs : ∀ i : Nat, i < n → body (S i, (i : Int)) = some (if f i = true then Sum.inr (i : Int) else Sum.inl (S (i + 1), ((i + 1 : Nat) : Int)))) (he : body (S n, (n : Int)) = some (Sum.inr (-1))) : ∀ (k i F : Nat), i + k = n → k < F → (∀ j, j < i → f j = false) → jlp body F (S i, (i : Int)) = some (kFs f n)
  | 0, i, F + 1, h, _, hf => by
    have : i = n := by omega
    subst this
    rw [jlp_dn he, kFs_no _ hf]
  | k + 1, i, F + 1, h, hF, hf => by
    have := hs i (by omega)
    cases hi : f i
    · rw [hi] at this
      rw [jlp_st this]
      exact kFs_lpS0 hs he k (i + 1) F (by omega) (by omega) (fun j hj => by
        by_cases e : j = i
        · rw [e]; exact hi
        · exact hf j (by omega))
    · rw [hi] at this
      rw [jlp_dn this, kFs_yes hi hf n (by omega)]
theorem sp_128 {m : jm} {G : Nat → Nat → Bool} {T a b : Nat} (h : kNR m G T) (ha : a < T) (hb : b < T) : jf_128 (a : Int) (b : Int) m = some (kDs G T a b) := by
  obtain ⟨h1, h2, h3⟩ := id h
  unfold jf_128 kDs
  rw [if_neg (by omega)]
  have e0 : (jshl 1 (a : Int), (0 : Int)) = (((kB (kD G T a 0) T : Nat) : Int), ((0 : Nat) : Int)) := by
    rw [jshl_n (by omega), ← kB_one ha]; rfl
  rw [e0]
  refine kFs_lpS0 (f := fun n => kD G T a n b) (S := fun n => ((kB (kD G T a n) T : Nat) : Int)) (n := 8) (fun i hi => ?_) rfl 8 0 jfu (by omega) (jfu_lt (by decide)) (fun j hj => absurd hj (Nat.not_lt_zero _))
  dsimp only
  have hbi := kB_8 (f := kD G T a i) h2
  rw [if_pos (show (i : Int) < 8 by omega), jtst (by omega) (by omega), kB_tb, decide_eq_true hb, Bool.true_and, sp_129 h, jsb, jwn (n := i) (by omega)]
  cases kD G T a i b <;> rfl
theorem sp_128n {m : jm} {x : Int} : jf_128 (-1) x m = some (-1) := rfl
theorem sp_134 {m : jm} {G : Nat → Nat → Bool} {T a b : Nat} (h : kNR m G T) (ha : a < T) (hb : b < T) : jf_134 (a : Int) (b : Int) m = some (kFh G T a b) := by
  obtain ⟨h1, h2, h3⟩ := id h
  have hd := kDs_b (G := G) (T := T) (a := a) (b := b)
  have hga := kB_8 (f := G a) h2
  unfold jf_134 kFh
  rw [sp_128 h ha hb, jsb]
  by_cases h0 : 0 < kDs G T a b
  · rw [if_pos h0]
    refine kFs_lp _ (by omega) (fun i hi => ?_) ?_
    · rw [h1, if_pos (show (i : Int) < (T : Int) by omega), if_pos h0, if_pos (show 0 ≤ (a : Int) ∧ (a : Int) < 8 by omega), Int.toNat_natCast, h3 a ha, jtst (by omega) (by omega), kB_tb, decide_eq_true hi, Bool.true_and, sp_128 h hi hb, jsb, jwn (n := i) (by omega), jwi (x := _ - 1) (by omega) (by omega)]
      cases hg : G a i
      · rw [if_neg nft, if_neg (by decide)]; rfl
      · rw [if_pos (rfl : true = true), if_pos rfl]
        by_cases hk : kDs G T i b = kDs G T a b - 1
        · rw [if_pos hk, decide_eq_true hk]; rfl
        · rw [if_neg hk, decide_eq_false hk]; rfl
    · rw [h1, if_neg (by omega)]
  · rw [if_neg h0]
    refine kFs_lp (n := 0) (fun _ => false) (by decide) (fun i hi => absurd hi (Nat.not_lt_zero _)) ?_
    rw [h1]
    by_cases hT : ((0 : Nat) : Int) < (T : Int)
    · rw [if_pos hT, if_neg h0]
    · rw [if_neg hT]
