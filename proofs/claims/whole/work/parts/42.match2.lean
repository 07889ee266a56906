/-! MATCH: the model, and both operations. -/
theorem jsh6_f : ∀ a : Fin 10, jshl ((a : Nat) : Int) 6 = ((64 * (a : Nat) : Nat) : Int) := by decide +kernel
theorem jsh6 {a : Nat} (h : a < 10) : jshl (a : Int) 6 = ((64 * a : Nat) : Int) := jsh6_f ⟨a, h⟩
theorem or_add {a s : Nat} (hs : s < 64) : 64 * a ||| s = 64 * a + s := (Nat.two_pow_add_eq_or_of_lt (i := 6) hs a).symm
theorem ox_0 {l s : Nat} (hl : l < 10) (hs : s < 64) : jbor (jshl (l : Int) 6) (s : Int) = ((64 * l + s : Nat) : Int) := by
  rw [jsh6 hl, jbor_n (by omega) (by omega), or_add hs]
theorem ox_1 {l s k : Nat} (hl : l < 10) (hs : s < 64) (hk : k < 6) : jbor (jbor (jshl (l : Int) 6) (s : Int)) (jshl 1 (k : Int)) = ((64 * l + (s ||| 2 ^ k) : Nat) : Int) := by
  have h1 := or_64 hs hk
  have h2 := p64 hk
  rw [jsh6 hl, jbor_n (by omega) (by omega), jshl_n (by omega)]
  have h3 : 64 * l ||| s < 2147483648 := by rw [or_add hs]; omega
  rw [jbor_n h3 (by omega), Nat.or_assoc, or_add h1]
theorem ox_2 {l s k : Nat} (hl : l < 10) (hs : s < 64) (hk : k < 6) : jbor ((64 * l + s : Nat) : Int) (jshl 1 (k : Int)) = ((64 * l + (s ||| 2 ^ k) : Nat) : Int) := by
  rw [← ox_1 hl hs hk, ox_0 hl hs]
/-- who can bring what, in the model -/
def kCb (m : jm) (c : kC) (p : kP) (cl : List Int) : Prop := ∀ l, l < c 11 3 → ∀ w, w < c 11 2 → ja m 97 (6 * l + w) = b2i (kAb c p cl l w)
theorem sx_6 {l w : Nat} (hl : l < 8) (hw : w < 6) : jw (jw ((6 : Int) * (l : Int)) + (w : Int)) = ((6 * l + w : Nat) : Int) := by
  rw [jwi (x := 6 * _) (by omega) (by omega), jwi (by omega) (by omega)]; omega
/-- the last loop of the model: from the last walker down -/
theorem dn_lp {m : jm} {i W : Nat} {f : Nat → Bool} {body : Int × jm → Option ((Int × jm) ⊕ jm)} (hi : i < 8) (hW : W ≤ 6)
    (hb : ∀ (k : Nat) (m' : jm), k < W → jfr true (fun a j => a = 99 ∧ j = i) m m' → body ((k : Int), m') = some (Sum.inl ((k : Int) - 1, if f k = true then js m' 99 i (k : Int) else m')))
    (he : ∀ m' : jm, body ((-1 : Int), m') = some (Sum.inr m')) (h0 : ja m 99 i = -1) :
    jo (jlp body jfu ((W : Int) - 1, m)) (fun r => ja r 99 i = kFs f W ∧ jfr true (fun a j => a = 99 ∧ j = i) m r) := by
  refine jo_for W jfu (fun n (s : Int × jm) => s.1 = (W : Int) - 1 - n ∧ (∃ e : Int, ja s.2 99 i = e ∧ ((e = -1 ∧ ∀ k, W - n ≤ k → k < W → f k = false) ∨ ∃ k : Nat, e = k ∧ W - n ≤ k ∧ k < W ∧ f k = true ∧ ∀ j, W - n ≤ j → j < k → f j = false)) ∧ jfr true (fun a j => a = 99 ∧ j = i) m s.2) (jfu_lt (by omega)) ?_ ?_ _ ⟨by show (W : Int) - 1 = _; omega, ⟨-1, h0, Or.inl ⟨rfl, fun k h1 h2 => by omega⟩⟩, jfr_r⟩
  · intro n hn s hs
    obtain ⟨x, m'⟩ := s
    obtain ⟨h1, ⟨e, h2, h3⟩, h4⟩ := hs
    dsimp only at h1 h2 h4 ⊢
    have ex : x = ((W - (n + 1) : Nat) : Int) := by omega
    subst ex
    rw [hb _ m' (by omega) h4]
    have e1 : ((W - (n + 1) : Nat) : Int) - 1 = (W : Int) - 1 - ((n + 1 : Nat) : Int) := by omega
    rw [e1]
    cases hf : f (W - (n + 1))
    · rw [if_neg nft]
      refine ⟨rfl, ⟨e, h2, ?_⟩, h4⟩
      rcases h3 with ⟨q1, q2⟩ | ⟨k, q1, q2, q3, q4, q5⟩
      · refine Or.inl ⟨q1, fun k g1 g2 => ?_⟩
        by_cases ek : k = W - (n + 1)
        · rw [ek]; exact hf
        · exact q2 k (by omega) g2
      · refine Or.inr ⟨k, q1, by omega, q3, q4, fun j g1 g2 => ?_⟩
        by_cases ek : j = W - (n + 1)
        · rw [ek]; exact hf
        · exact q5 j (by omega) g2
    · rw [if_pos (rfl : true = true)]
      refine ⟨rfl, ⟨((W - (n + 1) : Nat) : Int), ?_, Or.inr ⟨W - (n + 1), rfl, Nat.le_refl _, by omega, hf, fun j g1 g2 => by omega⟩⟩, jfr_js h4 ⟨rfl, rfl⟩⟩
      show ja (js m' 99 i _) 99 i = _
      rw [ja_js1, jw_nat (by omega)]
  · intro s hs
    obtain ⟨x, m'⟩ := s
    obtain ⟨h1, ⟨e, h2, h3⟩, h4⟩ := hs
    dsimp only at h1 h2 h4 ⊢
    have ex : x = -1 := by omega
    subst ex
    rw [he m']
    refine ⟨?_, h4⟩
    rw [h2]
    rcases h3 with ⟨q1, q2⟩ | ⟨k, q1, q2, q3, q4, q5⟩
    · rw [q1, kFs_no W (fun k hk => q2 k (by omega) hk)]
    · rw [q1, kFs_yes q4 (fun j hj => q5 j (by omega) hj) W q3]
theorem sl_285 {M : jm} {c : kC} {p : kP} {cl : List Int} (H : kM (kT0 M) c p cl) : jo (jf_285 M) (fun r => ja r 98 0 = kMo (kAb c p cl) (c 11 2) (c 11 3) (c 11 3) 0 ∧ (∀ l, l < c 11 3 → ja r 99 l = kCh (kAb c p cl) (c 11 2) (c 11 3) l (kTk (kAb c p cl) (c 11 2) (c 11 3) l)) ∧ jfr true jW_285 M r) := by
  have hn := H.1.1
  have hj : ∀ {P : jm → Prop}, jo (jf_285 M) P → jo (jf_285 M) (fun r => P r ∧ jfr true jW_285 M r) := fun h => jo_and h jx_285
  refine jo_mono (hj (P := fun r => ja r 98 0 = kMo (kAb c p cl) (c 11 2) (c 11 3) (c 11 3) 0 ∧ (∀ l, l < c 11 3 → ja r 99 l = kCh (kAb c p cl) (c 11 2) (c 11 3) l (kTk (kAb c p cl) (c 11 2) (c 11 3) l))) ?_) (fun r hr => ⟨hr.1.1, hr.1.2, hr.2⟩)
  have h26 : 2 ^ c 11 2 ≤ 64 := two_pow_le (k := 6) hn.2.2.1
  unfold jf_285
  rw [sp_226, jsb]
  -- who can bring what
  refine jo_c (R := fun r => kCb r c p cl ∧ jfr true (fun k j => jW_270 k j ∨ k = 97) (kT0 M) r) ?_ (fun r hr => ?_)
  · refine jo_for (c 11 3) jfu (fun i (s : Int × jm) => s.1 = i ∧ (∀ l, l < i → ∀ w, w < c 11 2 → ja s.2 97 (6 * l + w) = b2i (kAb c p cl l w)) ∧ jfr true (fun k j => jW_270 k j ∨ k = 97) (kT0 M) s.2) (jfu_lt (by omega)) ?_ ?_ _ ⟨rfl, fun t ht => absurd ht (Nat.not_lt_zero _), jfr_r⟩
    · intro i hi s hs
      obtain ⟨x, m'⟩ := s
      obtain ⟨h1, h2, h3⟩ := hs
      dsimp only at h1 h2 h3 ⊢
      subst h1
      have H1 := kM_fr H h3 (fun k j hk => by unfold jW_270 at hk; unfold kQM; omega)
      rw [show ja m' 67 27 = (c 11 3 : Int) from kM_n H1 (i := 3) (by decide), if_pos (show (i : Int) < (c 11 3 : Int) by omega), jwn (n := i) (by omega)]
      refine jo_c (R := fun r => (∀ w, w < c 11 2 → ja r 97 (6 * i + w) = b2i (kAb c p cl i w)) ∧ jfr true (fun k j => jW_270 k j ∨ (k = 97 ∧ 6 * i ≤ j)) m' r) ?_ (fun r hr => ?_)
      · refine jo_for (c 11 2) jfu (fun w (s : Int × jm) => s.1 = w ∧ (∀ v, v < w → ja s.2 97 (6 * i + v) = b2i (kAb c p cl i v)) ∧ jfr true (fun k j => jW_270 k j ∨ (k = 97 ∧ 6 * i ≤ j)) m' s.2) (jfu_lt (by omega)) ?_ ?_ _ ⟨rfl, fun t ht => absurd ht (Nat.not_lt_zero _), jfr_r⟩
        · intro w hw s hs
          obtain ⟨y, m2⟩ := s
          obtain ⟨g1, g2, g3⟩ := hs
          dsimp only at g1 g2 g3 ⊢
          subst g1
          have H2 := kM_fr H1 g3 (fun k j hk => by unfold jW_270 at hk; unfold kQM; omega)
          rw [show ja m2 67 26 = (c 11 2 : Int) from kM_n H2 (i := 2) (by decide), if_pos (show (w : Int) < (c 11 2 : Int) by omega), sx_6 (by omega) (by omega), jwn (n := w) (by omega)]
          refine jo_c (sl_270 H2 hw hi) (fun r hr => ?_)
          have ef : (if r.1 = -1 then some (0 : Int) else some 1) = some (b2i (kAb c p cl i w)) := by
            rw [hr.1]
            unfold kAb
            by_cases h : kBr c p cl w i = -1
            · rw [if_pos h, decide_eq_false (fun e => e h)]; rfl
            · rw [if_neg h, decide_eq_true h]; rfl
          rw [ef, jsb, if_pos (show 0 ≤ ((6 * i + w : Nat) : Int) ∧ ((6 * i + w : Nat) : Int) < 48 by omega), jle_eq, Int.toNat_natCast]
          refine ⟨rfl, fun v hv => ?_, jfr_js (jfr_t g3 hr.2 (fun e => e) (fun k j hk => Or.inl hk)) (Or.inr ⟨rfl, by omega⟩)⟩
          show ja (js r.2 97 _ _) 97 _ = _
          rw [ja_js]
          by_cases e : v = w
          · rw [if_pos ⟨rfl, by omega⟩, b2i_w, e]
          · rw [if_neg (by omega), ja_fr hr.2 (by unfold jW_270; omega)]; exact g2 v (by omega)
        · intro s hs
          obtain ⟨y, m2⟩ := s
          obtain ⟨g1, g2, g3⟩ := hs
          dsimp only at g1 g2 g3 ⊢
          have H2 := kM_fr H1 g3 (fun k j hk => by unfold jW_270 at hk; unfold kQM; omega)
          rw [show ja m2 67 26 = (c 11 2 : Int) from kM_n H2 (i := 2) (by decide), if_neg (by omega)]
          exact ⟨g2, g3⟩
      · refine ⟨rfl, fun l hl w hw => ?_, jfr_t h3 hr.2 (fun e => e) (fun k j hk => hk.elim Or.inl (fun h => Or.inr h.1))⟩
        show ja r 97 _ = _
        by_cases e : l = i
        · rw [e]; exact hr.1 w hw
        · rw [ja_fr hr.2 (by unfold jW_270; omega)]; exact h2 l (by omega) w hw
    · intro s hs
      obtain ⟨x, m'⟩ := s
      obtain ⟨h1, h2, h3⟩ := hs
      dsimp only at h1 h2 h3 ⊢
      have H1 := kM_fr H h3 (fun k j hk => by unfold jW_270 at hk; unfold kQM; omega)
      rw [show ja m' 67 27 = (c 11 3 : Int) from kM_n H1 (i := 3) (by decide), if_neg (by omega)]
      exact ⟨h2, h3⟩
  obtain ⟨hcb, hf⟩ := hr
  have H1 := kM_fr H hf (fun k j hk => by unfold jW_270 at hk; unfold kQM; omega)
  -- the last row
  refine jo_c (R := fun t => (∀ s, s < 64 → ja t 98 (64 * c 11 3 + s) = 0) ∧ jfr true (fun k _ => k = 98) r t) ?_ (fun t ht => ?_)
  · refine jo_for 64 jfu (fun i (s : Int × jm) => s.1 = i ∧ (∀ s', s' < i → ja s.2 98 (64 * c 11 3 + s') = 0) ∧ jfr true (fun k _ => k = 98) r s.2) (jfu_lt (by decide)) ?_ ?_ _ ⟨rfl, fun t ht => absurd ht (Nat.not_lt_zero _), jfr_r⟩
    · intro i hi s hs
      obtain ⟨x, m'⟩ := s
      obtain ⟨h1, h2, h3⟩ := hs
      dsimp only at h1 h2 h3 ⊢
      subst h1
      have H2 := kM_fr H1 h3 (fun k j hk => by unfold kQM; omega)
      rw [show ja m' 67 27 = (c 11 3 : Int) from kM_n H2 (i := 3) (by decide), if_pos (show (i : Int) < 64 by omega), ox_0 (by omega) hi, if_pos (show 0 ≤ ((64 * c 11 3 + i : Nat) : Int) ∧ ((64 * c 11 3 + i : Nat) : Int) < 576 by omega), jle_eq, Int.toNat_natCast, jwn (n := i) (by omega)]
      refine ⟨rfl, fun s' hs' => ?_, jfr_js h3 rfl⟩
      show ja (js m' 98 _ 0) 98 _ = 0
      rw [ja_js]
      by_cases e : s' = i
      · rw [if_pos ⟨rfl, by omega⟩]; rfl
      · rw [if_neg (by omega)]; exact h2 s' (by omega)
    · intro s hs
      obtain ⟨x, m'⟩ := s
      obtain ⟨h1, h2, h3⟩ := hs
      dsimp only at h1 h2 h3 ⊢
      rw [if_neg (by omega)]
      exact ⟨h2, h3⟩
  obtain ⟨hz, hf1⟩ := ht
  have H2 := kM_fr H1 hf1 (fun k j hk => by unfold kQM; omega)
  have hcb1 : kCb t c p cl := fun l hl w hw => by rw [ja_fr hf1 (by decide)]; exact hcb l hl w hw
  rw [show ja t 67 27 = (c 11 3 : Int) from kM_n H2 (i := 3) (by decide)]
  -- the rows
  refine jo_c (R := fun u => (∀ q, q ≤ c 11 3 → ∀ s, s < 2 ^ c 11 2 → ja u 98 (64 * (c 11 3 - q) + s) = kMo (kAb c p cl) (c 11 2) (c 11 3) q s) ∧ jfr true (fun k _ => k = 98) t u) ?_ (fun u hu => ?_)
  · refine jo_for (c 11 3) jfu (fun i (s : Int × jm) => s.1 = (c 11 3 : Int) - 1 - i ∧ (∀ q, q ≤ i → ∀ s', s' < 2 ^ c 11 2 → ja s.2 98 (64 * (c 11 3 - q) + s') = kMo (kAb c p cl) (c 11 2) (c 11 3) q s') ∧ jfr true (fun k _ => k = 98) t s.2) (jfu_lt (by omega)) ?_ ?_ _ ⟨by show jw _ = _; rw [jwi (by omega) (by omega)]; omega, fun q hq s hs => ?_, jfr_r⟩
    · intro i hi s hs
      obtain ⟨x, m'⟩ := s
      obtain ⟨h1, h2, h3⟩ := hs
      dsimp only at h1 h2 h3 ⊢
      have el : x = ((c 11 3 - (i + 1) : Nat) : Int) := by omega
      have hl : c 11 3 - (i + 1) < c 11 3 := by omega
      subst el
      have H3 := kM_fr H2 h3 (fun k j hk => by unfold kQM; omega)
      rw [if_neg (show ¬ ((c 11 3 - (i + 1) : Nat) : Int) < 0 by omega)]
      have ej : jw (((c 11 3 - (i + 1) : Nat) : Int) + -1) = (c 11 3 : Int) - 1 - ((i + 1 : Nat) : Int) := by rw [jwi (by omega) (by omega)]; omega
      rw [ej, jwn (n := c 11 3 - (i + 1)) (by omega)]
      refine jo_c (R := fun v => (∀ s', s' < 2 ^ c 11 2 → ja v 98 (64 * (c 11 3 - (i + 1)) + s') = kMo (kAb c p cl) (c 11 2) (c 11 3) (i + 1) s') ∧ jfr true (fun k j => k = 98 ∧ 64 * (c 11 3 - (i + 1)) ≤ j ∧ j < 64 * (c 11 3 - (i + 1)) + 64) m' v) ?_ (fun v hv => ?_)
      · refine jo_for (2 ^ c 11 2) jfu (fun tk (s : Int × jm) => s.1 = tk ∧ (∀ s', s' < tk → ja s.2 98 (64 * (c 11 3 - (i + 1)) + s') = kMo (kAb c p cl) (c 11 2) (c 11 3) (i + 1) s') ∧ jfr true (fun k j => k = 98 ∧ 64 * (c 11 3 - (i + 1)) ≤ j ∧ j < 64 * (c 11 3 - (i + 1)) + 64) m' s.2) (jfu_lt (by omega)) ?_ ?_ _ ⟨rfl, fun t ht => absurd ht (Nat.not_lt_zero _), jfr_r⟩
        · intro tk htk s hs
          obtain ⟨y, m2⟩ := s
          obtain ⟨g1, g2, g3⟩ := hs
          dsimp only at g1 g2 g3 ⊢
          subst g1
          have htk6 : tk < 64 := Nat.lt_of_lt_of_le htk h26
          have H4 := kM_fr H3 g3 (fun k j hk => by unfold kQM; omega)
          have n2 : ja m2 67 26 = (c 11 2 : Int) := kM_n H4 (i := 2) (by decide)
          have hrw : ∀ s', s' < 2 ^ c 11 2 → ja m2 98 (64 * (c 11 3 - (i + 1) + 1) + s') = kMo (kAb c p cl) (c 11 2) (c 11 3) i s' := fun s' hs' => by
            rw [ja_fr g3 (by omega), show c 11 3 - (i + 1) + 1 = c 11 3 - i by omega]
            exact h2 i (Nat.le_refl _) s' hs'
          have hob := kMo_b (ab := kAb c p cl) (W := c 11 2) (N := c 11 3) (i + 1) tk
          rw [n2, jshl_n (by omega), if_pos (show (tk : Int) < ((2 ^ c 11 2 : Nat) : Int) by omega), ox_0 (by omega) htk6, ox_0 (by omega) htk6, if_pos (show 0 ≤ ((64 * (c 11 3 - (i + 1) + 1) + tk : Nat) : Int) ∧ ((64 * (c 11 3 - (i + 1) + 1) + tk : Nat) : Int) < 576 by omega), Int.toNat_natCast, hrw tk htk]
          rw [jlp_fr (a := (kMo (kAb c p cl) (c 11 2) (c 11 3) i tk, (0 : Int))) (c := kMo (kAb c p cl) (c 11 2) (c 11 3) (i + 1) tk) (c 11 2) (fun w => (kMf (kAb c p cl (c 11 3 - (i + 1))) (kMo (kAb c p cl) (c 11 2) (c 11 3) i) tk w, (w : Int))) (by omega) rfl ?hs ?he]
          case he =>
            dsimp only
            rw [if_neg (by omega)]; rfl
          case hs =>
            intro w hw
            dsimp only
            have hor : tk ||| 2 ^ w < 2 ^ c 11 2 := Nat.or_lt_two_pow htk ((Nat.pow_lt_pow_iff_right (a := 2) (by decide)).2 hw)
            have hFb := kMo_b (ab := kAb c p cl) (W := c 11 2) (N := c 11 3) i (tk ||| 2 ^ w)
            have e97 : ja m2 97 (6 * (c 11 3 - (i + 1)) + w) = b2i (kAb c p cl (c 11 3 - (i + 1)) w) := by rw [ja_fr g3 (by omega), ja_fr h3 (by decide)]; exact hcb1 _ hl w hw
            rw [if_pos (show (w : Int) < (c 11 2 : Int) by omega), jtst (by omega) (by omega), sx_6 (by omega) (by omega), Int.toNat_natCast, e97, ox_2 (by omega) htk6 (by omega), Int.toNat_natCast, hrw _ hor, jwi (x := 1 + _) (by omega) (by omega), jwn (n := w) (by omega), kMf_s]
            cases htb : tk.testBit w
            · rw [if_neg nft, if_neg (show ¬ (0 : Int) = 1 by decide), if_pos (show 0 ≤ ((6 * (c 11 3 - (i + 1)) + w : Nat) : Int) ∧ ((6 * (c 11 3 - (i + 1)) + w : Nat) : Int) < 48 by omega)]
              cases hab : kAb c p cl (c 11 3 - (i + 1)) w
              · rw [if_pos (show b2i false = 0 from rfl), jsb, Bool.false_and, if_neg nft]
              · rw [if_neg (show ¬ b2i true = 0 by decide), if_pos (show 0 ≤ ((64 * (c 11 3 - (i + 1) + 1) + (tk ||| 2 ^ w) : Nat) : Int) ∧ ((64 * (c 11 3 - (i + 1) + 1) + (tk ||| 2 ^ w) : Nat) : Int) < 576 by have := or_64 (t := tk) (k := w) htk6 (by omega); omega), jite_some, jsb, jsb, Bool.not_false, Bool.and_true, if_pos (rfl : true = true)]
            · rw [if_pos (rfl : true = true), if_pos (rfl : (1 : Int) = 1), jsb, Bool.not_true, Bool.and_false, if_neg nft]
          rw [jsb, if_pos (show 0 ≤ ((64 * (c 11 3 - (i + 1)) + tk : Nat) : Int) ∧ ((64 * (c 11 3 - (i + 1)) + tk : Nat) : Int) < 576 by omega), jle_eq, Int.toNat_natCast, jwn (n := tk) (by omega)]
          refine ⟨rfl, fun s' hs' => ?_, jfr_js g3 ⟨rfl, by omega, by omega⟩⟩
          show ja (js m2 98 _ _) 98 _ = _
          rw [ja_js]
          by_cases e : s' = tk
          · rw [if_pos ⟨rfl, by omega⟩, e]
            exact jwi (by omega) (by omega)
          · rw [if_neg (by omega)]; exact g2 s' (by omega)
        · intro s hs
          obtain ⟨y, m2⟩ := s
          obtain ⟨g1, g2, g3⟩ := hs
          dsimp only at g1 g2 g3 ⊢
          have H4 := kM_fr H3 g3 (fun k j hk => by unfold kQM; omega)
          rw [show ja m2 67 26 = (c 11 2 : Int) from kM_n H4 (i := 2) (by decide), jshl_n (by omega), if_neg (by omega)]
          exact ⟨g2, g3⟩
      · refine ⟨rfl, fun q hq => ?_, jfr_t h3 hv.2 (fun e => e) (fun k j hk => hk.1)⟩
        by_cases e : q = i + 1
        · rw [e]; exact hv.1
        · intro s' hs'
          show ja v 98 _ = _
          rw [ja_fr hv.2 (by omega)]; exact h2 q (by omega) s' hs'
    · intro s hs
      obtain ⟨x, m'⟩ := s
      obtain ⟨h1, h2, h3⟩ := hs
      dsimp only at h1 h2 h3 ⊢
      rw [if_pos (by omega)]
      exact ⟨h2, h3⟩
    · have : q = 0 := by omega
      subst this
      exact hz s (Nat.lt_of_lt_of_le hs h26)
  obtain ⟨hR, hf2⟩ := hu
  have H3 := kM_fr H2 hf2 (fun k j hk => by unfold kQM; omega)
  have hcb2 : kCb u c p cl := fun l hl w hw => by rw [ja_fr hf2 (by decide)]; exact hcb1 l hl w hw
  refine jo_c (R := fun v => (∀ l, l < c 11 3 → ja v 99 l = kCh (kAb c p cl) (c 11 2) (c 11 3) l (kTk (kAb c p cl) (c 11 2) (c 11 3) l)) ∧ jfr true (fun k _ => k = 99) u v) ?_ (fun v hv => ?_)
  · refine jo_for (c 11 3) jfu (fun i (s : Int × Int × jm) => s.2.1 = i ∧ s.1 = ((kTk (kAb c p cl) (c 11 2) (c 11 3) i : Nat) : Int) ∧ (∀ l, l < i → ja s.2.2 99 l = kCh (kAb c p cl) (c 11 2) (c 11 3) l (kTk (kAb c p cl) (c 11 2) (c 11 3) l)) ∧ jfr true (fun k _ => k = 99) u s.2.2) (jfu_lt (by omega)) ?_ ?_ _ ⟨rfl, rfl, fun t ht => absurd ht (Nat.not_lt_zero _), jfr_r⟩
    · intro i hi s hs
      obtain ⟨tk, x, m'⟩ := s
      obtain ⟨h1, h2, h3, h4⟩ := hs
      dsimp only at h1 h2 h3 h4 ⊢
      subst h1 h2
      have H4 := kM_fr H3 h4 (fun k j hk => by unfold kQM; omega)
      have htk := kTk_lt (ab := kAb c p cl) (W := c 11 2) (N := c 11 3) i
      have hcbb := kCh_b (ab := kAb c p cl) (W := c 11 2) (N := c 11 3) (l := i) (tk := kTk (kAb c p cl) (c 11 2) (c 11 3) i)
      generalize htke : kTk (kAb c p cl) (c 11 2) (c 11 3) i = tk at htk hcbb
      have htk6 : tk < 64 := Nat.lt_of_lt_of_le htk h26
      have n2 : ja (js m' 99 i (-1)) 67 26 = (c 11 2 : Int) := by rw [ja_jsk (by decide)]; exact kM_n H4 (i := 2) (by decide)
      rw [show ja m' 67 27 = (c 11 3 : Int) from kM_n H4 (i := 3) (by decide), if_pos (show (i : Int) < (c 11 3 : Int) by omega), if_pos (show 0 ≤ (i : Int) ∧ (i : Int) < 8 by omega), jle_eq, Int.toNat_natCast, n2, jwn (n := i) (by omega), jwi (x := (c 11 2 : Int) - 1) (by omega) (by omega), ox_0 (by omega) htk6]
      refine jo_c (dn_lp (m := js m' 99 i (-1)) (i := i) (W := c 11 2) (f := fun k => (kAb c p cl i k && !tk.testBit k) && decide (1 + kMo (kAb c p cl) (c 11 2) (c 11 3) (c 11 3 - (i + 1)) (tk ||| 2 ^ k) = kMo (kAb c p cl) (c 11 2) (c 11 3) (c 11 3 - i) tk)) (by omega) hn.2.2.1 (fun k m2 hk hfr => ?_) (fun m2 => rfl) (by rw [ja_js1]; rfl)) (fun r2 hr2 => ?_)
      · dsimp only
        have hor : tk ||| 2 ^ k < 2 ^ c 11 2 := Nat.or_lt_two_pow htk ((Nat.pow_lt_pow_iff_right (a := 2) (by decide)).2 hk)
        have hor6 := or_64 (t := tk) (k := k) htk6 (by omega)
        have hFb := kMo_b (ab := kAb c p cl) (W := c 11 2) (N := c 11 3) (c 11 3 - (i + 1)) (tk ||| 2 ^ k)
        have e97 : ja m2 97 (6 * i + k) = b2i (kAb c p cl i k) := by rw [ja_fr hfr (by omega), ja_jsk (by decide), ja_fr h4 (by decide)]; exact hcb2 i hi k hk
        have e1 : ja m2 98 (64 * (i + 1) + (tk ||| 2 ^ k)) = kMo (kAb c p cl) (c 11 2) (c 11 3) (c 11 3 - (i + 1)) (tk ||| 2 ^ k) := by
          have := hR (c 11 3 - (i + 1)) (by omega) _ hor
          rw [show c 11 3 - (c 11 3 - (i + 1)) = i + 1 by omega] at this
          rw [ja_fr hfr (by omega), ja_jsk (by decide), ja_fr h4 (by decide)]; exact this
        have e0 : ja m2 98 (64 * i + tk) = kMo (kAb c p cl) (c 11 2) (c 11 3) (c 11 3 - i) tk := by
          have := hR (c 11 3 - i) (by omega) _ htk
          rw [show c 11 3 - (c 11 3 - i) = i by omega] at this
          rw [ja_fr hfr (by omega), ja_jsk (by decide), ja_fr h4 (by decide)]; exact this
        have ek : jw ((k : Int) + -1) = (k : Int) - 1 := jwi (by omega) (by omega)
        rw [if_neg (show ¬ (k : Int) < 0 by omega), jtst (by omega) (by omega), sx_6 (by omega) (by omega), Int.toNat_natCast, e97, ox_2 (by omega) htk6 (by omega), ox_0 (l := i) (by omega) htk6, Int.toNat_natCast, Int.toNat_natCast, e1, e0, jwi (x := 1 + _) (by omega) (by omega), ek]
        cases htb : tk.testBit k
        · rw [if_neg nft, if_pos (rfl : (0 : Int) = 0), if_pos (show 0 ≤ ((6 * i + k : Nat) : Int) ∧ ((6 * i + k : Nat) : Int) < 48 by omega)]
          cases hab : kAb c p cl i k
          · rw [if_pos (show b2i false = 0 from rfl), jsb, Bool.false_and, Bool.false_and, if_neg nft]
          · rw [if_neg (show ¬ b2i true = 0 by decide), if_pos (show 0 ≤ ((64 * (i + 1) + (tk ||| 2 ^ k) : Nat) : Int) ∧ ((64 * (i + 1) + (tk ||| 2 ^ k) : Nat) : Int) < 576 by omega), if_pos (show 0 ≤ ((64 * i + tk : Nat) : Int) ∧ ((64 * i + tk : Nat) : Int) < 576 by omega), Bool.not_false, Bool.and_true, Bool.true_and]
            by_cases he : 1 + kMo (kAb c p cl) (c 11 2) (c 11 3) (c 11 3 - (i + 1)) (tk ||| 2 ^ k) = kMo (kAb c p cl) (c 11 2) (c 11 3) (c 11 3 - i) tk
            · rw [if_pos he, if_pos (show 0 ≤ (i : Int) ∧ (i : Int) < 8 by omega), jle_eq, jsb, decide_eq_true he, if_pos (rfl : true = true)]
            · rw [if_neg he, jsb, decide_eq_false he, if_neg nft]
        · rw [if_pos (rfl : true = true), if_neg (show ¬ (1 : Int) = 0 by decide), jsb, Bool.not_true, Bool.and_false, Bool.false_and, if_neg nft]
      · obtain ⟨k1, k2⟩ := hr2
        have k1' : ja r2 99 i = kCh (kAb c p cl) (c 11 2) (c 11 3) i tk := k1
        have hks := kTk_s (ab := kAb c p cl) (W := c 11 2) (N := c 11 3) (l := i)
        rw [htke] at hks
        have hfr : jfr true (fun k _ => k = 99) u r2 := jfr_t (jfr_js h4 rfl) k2 (fun e => e) (fun k j hk => hk.1)
        have h99 : ∀ l, l < i + 1 → ja r2 99 l = kCh (kAb c p cl) (c 11 2) (c 11 3) l (kTk (kAb c p cl) (c 11 2) (c 11 3) l) := fun l hl => by
          by_cases e : l = i
          · rw [e, htke]; exact k1'
          · rw [ja_fr k2 (by omega), ja_jsj e]; exact h3 l (by omega)
        rw [if_pos (show 0 ≤ (i : Int) ∧ (i : Int) < 8 by omega), k1', if_pos (show 0 ≤ (i : Int) ∧ (i : Int) < 8 by omega)]
        by_cases hm : kCh (kAb c p cl) (c 11 2) (c 11 3) i tk = -1
        · rw [if_pos hm, jsb]
          rw [if_pos hm] at hks
          exact ⟨rfl, by rw [hks], h99, hfr⟩
        · rw [if_neg hm, jsb]
          rw [if_neg hm] at hks
          refine ⟨rfl, ?_, h99, hfr⟩
          have ec : kCh (kAb c p cl) (c 11 2) (c 11 3) i tk = (((kCh (kAb c p cl) (c 11 2) (c 11 3) i tk).toNat : Nat) : Int) := by omega
          have hp := p64 (k := (kCh (kAb c p cl) (c 11 2) (c 11 3) i tk).toNat) (by omega)
          show jbor (tk : Int) (jshl 1 (kCh (kAb c p cl) (c 11 2) (c 11 3) i tk)) = _
          rw [hks]
          conv => lhs; rw [ec]
          rw [jshl_n (by omega), jbor_n (by omega) (by omega)]
    · intro s hs
      obtain ⟨tk, x, m'⟩ := s
      obtain ⟨h1, h2, h3, h4⟩ := hs
      dsimp only at h1 h2 h3 h4 ⊢
      have H4 := kM_fr H3 h4 (fun k j hk => by unfold kQM; omega)
      rw [show ja m' 67 27 = (c 11 3 : Int) from kM_n H4 (i := 3) (by decide), if_neg (by omega)]
      exact ⟨h3, h4⟩
  · refine ⟨?_, hv.1⟩
    have := hR (c 11 3) (Nat.le_refl _) 0 (Nat.pow_pos (by decide))
    rw [Nat.sub_self] at this
    rw [ja_fr hv.2 (by decide)]; exact this
