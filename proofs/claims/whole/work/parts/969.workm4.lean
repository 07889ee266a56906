/-! WORK: the model reads it all. -/
theorem sl_223f {M : jm} {f : Nat → Int} {n o i : Nat} {c : kC} {L : List wE} {rec : Nat → Int → Int → jm → Option jm} (hn : n ≤ 150) (ho : o = 6) (H : qMr f n c o M (Sum.inr i) L) (h7 : kU3 f n i = 7) : jo (jf_223 rec M) (fun r => kMz r f n (Sum.inl (3, kSkp f n i))) := by
  obtain ⟨p0, p1, p2, p3, p4, p5, p6, p7⟩ := kPwr
  have e21 : ∀ M, jf_202 21 M = some 656741 := fun M => by rw [← p0]; exact sp_202 (s := 21) (L := 4) rfl (by decide)
  have e22 : ∀ M, jf_202 22 M = some 239301 := fun M => by rw [← p1]; exact sp_202 (s := 22) (L := 4) rfl (by decide)
  have e23 : ∀ M, jf_202 23 M = some 239 := fun M => by rw [← p2]; exact sp_202 (s := 23) (L := 2) rfl (by decide)
  have e12 : ∀ M, jf_202 12 M = some 20317291 := fun M => by rw [← p3]; exact sp_202 (s := 12) (L := 5) rfl (by decide)
  have e18 : ∀ M, jf_202 18 M = some 19057966 := fun M => by rw [← p4]; exact sp_202 (s := 18) (L := 5) rfl (by decide)
  have e17 : ∀ M, jf_202 17 M = some 6631 := fun M => by rw [← p5]; exact sp_202 (s := 17) (L := 3) rfl (by decide)
  have e20 : ∀ M, jf_202 20 M = some 14982420 := fun M => by rw [← p6]; exact sp_202 (s := 20) (L := 5) rfl (by decide)
  have e24 : ∀ M, jf_202 24 M = some 1279278 := fun M => by rw [← p7]; exact sp_202 (s := 24) (L := 5) rfl (by decide)
  have hi := H.1.1.1.2.1
  have hle := kLe_le (f := f) hi
  obtain ⟨v, l⟩ : kWv f n i = 1279278 ∧ kLe f n i = kSkp f n i + 5 := by
    rcases kU3_cs (f := f) (n := n) (i := i) with z | z | z | z | z | z | z | z | z
    · omega
    · omega
    · omega
    · omega
    · omega
    · omega
    · omega
    · omega
    · exact ⟨z.2.1, z.2.2⟩
  unfold jf_223
  refine jo_c (qMr_word H) (fun q1 hq1 => ?_)
  obtain ⟨a1, a2⟩ := hq1
  rw [e17, jsb, a1, v, if_neg (by decide), e20, jsb, if_neg (by decide), e21, jsb, if_neg (by decide), e22, jsb, if_neg (by decide), e23, jsb, if_neg (by decide), e12, jsb, if_neg (by decide), e18, jsb, if_neg (by decide), e24, jsb, if_pos rfl]
  have fz : true = decide (6 ≤ o) := by rw [decide_eq_true (by omega)]
  have eo : qOp true (kSkp f n i) 5 = Sum.inl (3, kSkp f n i) := by unfold qOp; rw [if_pos rfl]
  rw [jo_bind]
  refine jo_c (sl_217w (x := 5) (by omega) fz a2 (by omega)) (fun p85 h85 => ?_)
  rw [eo] at h85
  refine jo_c (qMr_num h85 (by decide)) (fun p86 h86 => ?_)
  obtain ⟨h86, v86⟩ := h86
  refine jo_c (qMr_sig h86 (by decide)) (fun p87 h87 => ?_)
  have h87' : qMr f n c (o + 1) p87 (Sum.inl (3, kSkp f n i)) L := h87
  rw [v86]
  refine jo_c (sl_224 hn h87' (fun j hj => by cases hj) (jg_c rfl) (jg_c rfl) (jg_c rfl)) (fun p88 h88 => ?_)
  rw [show (jlp (α := jm) (β := jm) (fun s89 => Option.bind (α := Int) (jf_196 s89) fun p95 => if p95 = 0 then some (Sum.inr (s89)) else Option.bind (α := Int × jm) (jf_198 s89) fun p96 => if p96.1 = (93 : Int) then some (Sum.inr (p96.2)) else Option.bind (α := jm) (rec 0 0 0 p96.2) fun p97 => some (Sum.inl (p97))) jfu p88) = jlp (wMb rec) jfu p88 from rfl]
  refine jo_c (R := fun r => kMz r f n (Sum.inl (3, kSkp f n i))) (jo_one (by rw [wMb_f h88.1]; exact h88.1)) (fun t92 h92 => ?_)
  have tf := sl_tailf (P87 := p87) h92
  rw [jo_bind] at tf
  exact tf
theorem jG_S0 {N : Nat} {a b : Int} {m : jm} : jG_S (N + 1) 0 a b m = jf_223 (jG_S N) m := rfl
theorem wMSz {f : Nat → Int} {n : Nat} {c : kC} (hn : n ≤ 150) (hv : kV c) : ∀ (D o N : Nat), D + o = 6 → D + 1 ≤ N → qMS f n c o (fun m => jG_S N 0 0 0 m) (wRd f n c D)
  | 0, o, N, ho, hN => fun M i L H => by
    obtain ⟨N', rfl⟩ : ∃ N', N = N' + 1 := ⟨N - 1, by omega⟩
    show jo (jf_223 (jG_S N') M) _
    by_cases h7 : kU3 f n i = 7
    · have e : wRd f n c 0 i = Sum.inl (3, kSkp f n i) := by unfold wRd; rw [if_neg (by omega), if_pos h7]
      rw [e]
      exact sl_223f hn (by omega) H h7
    · have e : wRd f n c 0 i = (if kU3 f n i = -1 then Sum.inl (1, kSkp f n i) else wEnd (kSs f n 59 (wS f n c (kU3 f n i) (kLe f n i)).1) (fun e => e) (wS f n c (kU3 f n i) (kLe f n i)).2) := by unfold wRd; rw [if_neg h7]; rfl
      rw [e]
      exact sl_223n (D := 0) (g := fun e => e) hn hv H h7 (fun e => rfl)
  | D + 1, o, N, ho, hN => fun M i L H => by
    obtain ⟨N', rfl⟩ : ∃ N', N = N' + 1 := ⟨N - 1, by omega⟩
    show jo (jf_223 (jG_S N') M) _
    by_cases h7 : kU3 f n i = 7
    · have e : wRd f n c (D + 1) i = wAg f n (wRd f n c D) (kLe f n i) := by unfold wRd; rw [if_neg (by omega), if_pos h7]
      rw [e]
      exact sl_223a hn hv (by omega) (wMSz hn hv D (o + 1) N' (by omega) (by omega)) H h7
    · have e : wRd f n c (D + 1) i = (if kU3 f n i = -1 then Sum.inl (1, kSkp f n i) else wEnd (β := wT (D + 1)) (kSs f n 59 (wS f n c (kU3 f n i) (kLe f n i)).1) (fun e => Sum.inl e) (wS f n c (kU3 f n i) (kLe f n i)).2) := by unfold wRd; rw [if_neg h7]
      rw [e]
      exact sl_223n (D := D + 1) (g := fun e => Sum.inl e) hn hv H h7 (fun e => rfl)
noncomputable def wMt (s18 : jm) : Option (jm ⊕ jm) := Option.bind (α := Int) (jf_196 s18) fun p24 => if p24 = 0 then some (Sum.inr (s18)) else Option.bind (α := Int × jm) (jf_197 s18) fun p25 => if p25.1 = 0 then some (Sum.inr (p25.2)) else Option.bind (α := jm) (jG_S 20 0 (0 : Int) 0 p25.2) fun p26 => some (Sum.inl (p26))
def qWm (f : Nat → Int) (n : Nat) (c : kC) (b : jm) (r : wPr) : Prop := match r with
  | Sum.inl e => kMz b f n (Sum.inl e)
  | Sum.inr l => ∃ j, qMr f n c 0 b (Sum.inr j) (wFl (wM 6) (wCn 6) 0 l)
theorem sl_222r {M : jm} {f : Nat → Int} {n : Nat} {c : kC} (hn : n ≤ 150) (hv : kV c) (H : qMr f n c 0 M (Sum.inr 0) []) : jo (jlp wMt jfu M) (fun b => qWm f n c b (wTop f n c)) := by
  obtain ⟨r, r1, r2⟩ := jo_run2 (body := wMt) (step := wTst f n c) (fun (a : jm) (s : Nat × List (wT 6)) => qMr f n c 0 a (Sum.inr s.1) (wFl (wM 6) (wCn 6) 0 s.2)) (fun s => n - s.1) (Q := fun b r => qWm f n c b r) (fun a s hs => by
    obtain ⟨p, acc⟩ := s
    dsimp only at hs
    have hp := hs.1.1.1.2.1
    unfold wTst
    dsimp only
    obtain ⟨p25, e25, b1, b2, b3⟩ := jo_ex.1 (sl_197 hs.1.1)
    have H25 : qMr f n c 0 p25.2 (Sum.inr (kSkp f n p)) (wFl (wM 6) (wCn 6) 0 acc) := qMr_fr hs b3 (fun k j h => by unfold jW_198 at h; omega) b2 kSkp_ge
    have eb : wMt a = if p25.1 = 0 then some (Sum.inr (p25.2)) else Option.bind (α := jm) (jG_S 20 0 (0 : Int) 0 p25.2) fun p26 => some (Sum.inl (p26)) := by
      unfold wMt
      rw [kMz_g hs.1, kOkz_r, jsb, if_neg Int.one_ne_zero, e25, jsb]
    rw [eb, b1]
    by_cases g : kSkp f n p < n
    · rw [if_pos g, if_pos g, if_neg Int.one_ne_zero]
      have sp := wMSz (f := f) (c := c) hn hv 6 0 20 rfl (by decide) p25.2 (kSkp f n p) _ H25
      rw [wRd_sk] at sp
      have hlen : (wFl (wM 6) (wCn 6) 0 acc).length = wSm (wCn 6) acc := wFl_len (wM_len 6) acc 0
      cases hz : wRd f n c 6 p with
      | inl e =>
        rw [hz] at sp
        refine Or.inl ⟨Sum.inl e, rfl, jo_c sp (fun p26 h26 => ?_)⟩
        show jo (wMt p26) _
        have e26 : wMt p26 = some (Sum.inr p26) := by
          unfold wMt
          rw [kMz_g (show kMz p26 f n (Sum.inl e) from h26), kOkz_l, jsb, if_pos rfl]
        rw [e26]
        exact h26
      | inr z =>
        rw [hz] at sp
        obtain ⟨k, τ⟩ := z
        have gd := wG_ok (by omega) hv hp hz
        refine Or.inr ⟨(k, acc ++ [τ]), rfl, by show n - k < n - p; omega, jo_c sp (fun p26 h26 => ?_)⟩
        have h26' : qMr f n c 0 p26 (Sum.inr k) (wFl (wM 6) (wCn 6) 0 acc ++ wM 6 (wFl (wM 6) (wCn 6) 0 acc).length τ) := h26
        show qMr f n c 0 p26 (Sum.inr k) (wFl (wM 6) (wCn 6) 0 (acc ++ [τ]))
        rw [wFl_a, Nat.zero_add, ← hlen]
        exact h26'
    · rw [if_neg g, if_neg g, if_pos rfl]
      exact Or.inl ⟨_, rfl, kSkp f n p, H25⟩) jfu M (0, []) (jfu_lt (by show n - 0 + 1 < 4000000; omega)) H
  have e := (wTop_r (f := f) (n := n) (c := c) (by omega) hv).1
  rw [e] at r1
  cases r1
  exact r2
