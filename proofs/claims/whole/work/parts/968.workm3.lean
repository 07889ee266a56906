/-! WORK: again, in the model. -/
theorem kCx_2 {m : jm} {L R : List wE} {k x y : Int} (H : kCx m (L ++ (7, k, x) :: R)) (hy : jg y) : kCx (js m 86 (3 * L.length + 2) y) (L ++ (7, k, y) :: R) := by
  have hlen : (L ++ (7, k, y) :: R).length = (L ++ (7, k, x) :: R).length := by simp
  refine ⟨by rw [hlen, ja_jsk (by decide)]; exact H.1, fun t ht => ?_⟩
  rw [hlen] at ht
  have h := H.2 t ht
  by_cases e : t = L.length
  · subst e
    have e1 : ∀ z : Int, (L ++ (7, k, z) :: R).getD L.length (0, 0, 0) = (7, k, z) := fun z => by
      rw [List.getD_eq_getElem?_getD, List.getElem?_append_right (Nat.le_refl _), Nat.sub_self]; rfl
    rw [e1] at h
    rw [e1, ja_jsj (by omega), ja_jsj (by omega), ja_js1]
    exact ⟨h.1, h.2.1, jw_id hy⟩
  · have e1 : (L ++ (7, k, y) :: R).getD t (0, 0, 0) = (L ++ (7, k, x) :: R).getD t (0, 0, 0) := by
      by_cases e2 : t < L.length
      · rw [List.getD_eq_getElem?_getD, List.getElem?_append_left e2, List.getD_eq_getElem?_getD, List.getElem?_append_left e2]
      · rw [List.getD_eq_getElem?_getD, List.getElem?_append_right (by omega), List.getD_eq_getElem?_getD, List.getElem?_append_right (by omega)]
        obtain ⟨u, hu⟩ : ∃ u, t - L.length = u + 1 := ⟨t - L.length - 1, by omega⟩
        rw [hu]; rfl
    rw [e1, ja_jsj (by omega), ja_jsj (by omega), ja_jsj (by omega)]
    exact h
noncomputable def wMb (rec : Nat → Int → Int → jm → Option jm) (s89 : jm) : Option (jm ⊕ jm) := Option.bind (α := Int) (jf_196 s89) fun p95 => if p95 = 0 then some (Sum.inr (s89)) else Option.bind (α := Int × jm) (jf_198 s89) fun p96 => if p96.1 = (93 : Int) then some (Sum.inr (p96.2)) else Option.bind (α := jm) (rec 0 0 0 p96.2) fun p97 => some (Sum.inl (p97))
theorem wMb_f {rec : Nat → Int → Int → jm → Option jm} {M : jm} {f : Nat → Int} {n : Nat} {e : Int × Nat} (H : kMz M f n (Sum.inl e)) : wMb rec M = some (Sum.inr M) := by
  unfold wMb
  rw [kMz_g H, kOkz_l, jsb, if_pos rfl]
/-- one tree, in the model -/
def qMS (f : Nat → Int) (n : Nat) (c : kC) (o : Nat) {D : Nat} (g : jm → Option jm) (R : Nat → wR D) : Prop := ∀ M i L, qMr f n c o M (Sum.inr i) L → jo (g M) (fun r => qMe f n c o L (R i) r)
def qML (f : Nat → Int) (n : Nat) (c : kC) (o D : Nat) (L1 : List wE) (b : jm) (r : wRL D) : Prop := match r with
  | Sum.inl e => kMz b f n (Sum.inl e)
  | Sum.inr z => qMr f n c o b (Sum.inr z.1) (L1 ++ wFl (wM D) (wCn D) L1.length z.2)
theorem sl_body {M : jm} {f : Nat → Int} {n o D j : Nat} {c : kC} {L1 : List wE} {rec : Nat → Int → Int → jm → Option jm} (hn : n ≤ 150) (hv : kV c) (hR : qMS f n c o (fun m => rec 0 0 0 m) (wRd f n c D)) (H : qMr f n c o M (Sum.inr j) L1) : jo (jlp (wMb rec) jfu M) (fun b => qML f n c o D L1 b (wB f n (wRd f n c D) (Sum.inr j))) := by
  have hj := H.1.1.1.2.1
  obtain ⟨r, r1, r2⟩ := jo_run2 (body := wMb rec) (step := wBst f n (wRd f n c D)) (fun (a : jm) (s : Nat × List (wT D)) => qMr f n c o a (Sum.inr s.1) (L1 ++ wFl (wM D) (wCn D) L1.length s.2)) (fun s => n - s.1) (Q := fun b r => qML f n c o D L1 b r) (fun a s hs => by
    obtain ⟨p, acc⟩ := s
    dsimp only at hs
    have hp := hs.1.1.1.2.1
    unfold wBst
    dsimp only
    obtain ⟨p96, e96, b1, b2⟩ := jo_ex.1 (qMr_look hs)
    have eb : wMb rec a = if p96.1 = (93 : Int) then some (Sum.inr (p96.2)) else Option.bind (α := jm) (rec 0 0 0 p96.2) fun p97 => some (Sum.inl (p97)) := by
      unfold wMb
      rw [kMz_g hs.1, kOkz_r, jsb, if_neg Int.one_ne_zero, e96, jsb]
    rw [eb]
    by_cases g : kGb f n p 93 = true
    · have v : p96.1 = 93 := by rw [b1, if_pos (kGb_l g).2]; exact kGb_v g
      rw [if_pos g, if_pos v]
      exact Or.inl ⟨_, rfl, b2⟩
    · have v : ¬ p96.1 = 93 := fun z => g (by
        unfold kGb
        rw [b1] at z
        by_cases y : kSkp f n p < n
        · rw [if_pos y] at z; exact decide_eq_true ⟨y, z⟩
        · rw [if_neg y] at z; omega)
      rw [if_neg g, if_neg v]
      have sp := hR p96.2 (kSkp f n p) _ b2
      rw [wRd_sk] at sp
      have hlen : (L1 ++ wFl (wM D) (wCn D) L1.length acc).length = L1.length + wSm (wCn D) acc := by rw [List.length_append, wFl_len (wM_len D)]
      cases hz : wRd f n c D p with
      | inl e =>
        rw [hz] at sp
        refine Or.inl ⟨Sum.inl e, rfl, jo_c sp (fun p97 h97 => ?_)⟩
        show jo (wMb rec p97) _
        rw [wMb_f h97]
        exact h97
      | inr z =>
        rw [hz] at sp
        obtain ⟨k, τ⟩ := z
        have gd := wG_ok (by omega) hv hp hz
        refine Or.inr ⟨(k, acc ++ [τ]), rfl, by show n - k < n - p; omega, jo_c sp (fun p97 h97 => ?_)⟩
        have h97' : qMr f n c o p97 (Sum.inr k) (L1 ++ wFl (wM D) (wCn D) L1.length acc ++ wM D (L1 ++ wFl (wM D) (wCn D) L1.length acc).length τ) := h97
        rw [hlen, List.append_assoc, ← wFl_a] at h97'
        exact h97') jfu M (j, []) (jfu_lt (by show n - j + 1 < 4000000; omega)) (by
      show qMr f n c o M (Sum.inr j) (L1 ++ [])
      rw [List.append_nil]; exact H)
  have eB : wB f n (wRd f n c D) (Sum.inr j) = r := by unfold wB; dsimp only; rw [r1]; rfl
  rw [eB]
  exact r2
/-- the tail of a tree that has a fault -/
theorem sl_tailf {M P87 : jm} {f : Nat → Int} {n : Nat} {e : Int × Nat} (H : kMz M f n (Sum.inl e)) : jo (Option.bind (α := jm) (Option.bind (α := jm) (jf_211 93 M) fun p108 => jle (js p108 67 7 (jw ((ja p108 67 7) - (1 : Int)))) fun m109 => Option.bind (α := Int) (jf_196 m109) fun p110 => Option.bind (α := jm) (if p110 = 0 then some (m109) else if 0 ≤ (jw ((ja P87 67 38) + (2 : Int))) ∧ (jw ((ja P87 67 38) + (2 : Int))) < 150 then jle (js m109 86 (jw ((ja P87 67 38) + (2 : Int))).toNat (ja m109 67 38)) fun m113 => some (m113) else none) fun t111 => some (t111)) fun t3 => Option.bind (α := jm) (jf_211 59 t3) fun p136 => some p136) (fun r => kMz r f n (Sum.inl e)) := by
  refine jo_c (R := fun r => kMz r f n (Sum.inl e)) ?_ (fun r hr => jo_c (sl_211g hr (by decide)) (fun r2 hr2 => hr2.1))
  refine jo_c (sl_211g H (by decide)) (fun p108 h108 => ?_)
  have h9 : kMz (js p108 67 7 (jw ((ja p108 67 7) - (1 : Int)))) f n (Sum.inl e) := kMz_js h108.1 (by omega)
  rw [jle_eq, kMz_g h9, kOkz_l, jsb, if_pos rfl, jsb]
  exact h9
theorem sl_223a {M : jm} {f : Nat → Int} {n o i D : Nat} {c : kC} {L : List wE} {rec : Nat → Int → Int → jm → Option jm} (hn : n ≤ 150) (hv : kV c) (ho : o < 6) (hR : qMS f n c (o + 1) (fun m => rec 0 0 0 m) (wRd f n c D)) (H : qMr f n c o M (Sum.inr i) L) (h7 : kU3 f n i = 7) : jo (jf_223 rec M) (fun r => qMe f n c o L (wAg f n (wRd f n c D) (kLe f n i)) r) := by
  obtain ⟨p0, p1, p2, p3, p4, p5, p6, p7⟩ := kPwr
  have e21 : ∀ M, jf_202 21 M = some 656741 := fun M => by rw [← p0]; exact sp_202 (s := 21) (L := 4) rfl (by decide)
  have e22 : ∀ M, jf_202 22 M = some 239301 := fun M => by rw [← p1]; exact sp_202 (s := 22) (L := 4) rfl (by decide)
  have e23 : ∀ M, jf_202 23 M = some 239 := fun M => by rw [← p2]; exact sp_202 (s := 23) (L := 2) rfl (by decide)
  have e12 : ∀ M, jf_202 12 M = some 20317291 := fun M => by rw [← p3]; exact sp_202 (s := 12) (L := 5) rfl (by decide)
  have e18 : ∀ M, jf_202 18 M = some 19057966 := fun M => by rw [← p4]; exact sp_202 (s := 18) (L := 5) rfl (by decide)
  have e17 : ∀ M, jf_202 17 M = some 6631 := fun M => by rw [← p5]; exact sp_202 (s := 17) (L := 3) rfl (by decide)
  have e20 : ∀ M, jf_202 20 M = some 14982420 := fun M => by rw [← p6]; exact sp_202 (s := 20) (L := 5) rfl (by decide)
  have e24 : ∀ M, jf_202 24 M = some 1279278 := fun M => by rw [← p7]; exact sp_202 (s := 24) (L := 5) rfl (by decide)
  have hi := H.1.1.1.2.1
  have h6 := H.1.1.1.1
  have hsk := kSkp_ge (f := f) (n := n) (i := i)
  have hsl := kSkp_le (f := f) hi
  have hle := kLe_le (f := f) hi
  have hl := (H.2.2.2 i rfl).2
  obtain ⟨v, l⟩ : kWv f n i = 1279278 ∧ kLe f n i = kSkp f n i + 5 := by
    rcases kU3_cs (f := f) (n := n) (i := i) with z | z | z | z | z | z | z | z | z
    · omega
    · omega
    · omega
    · omega
    · omega
    · omega
    · omega
    · omega
    · exact ⟨z.2.1, z.2.2⟩
  unfold jf_223
  refine jo_c (qMr_word H) (fun q1 hq1 => ?_)
  obtain ⟨a1, a2⟩ := hq1
  rw [e17, jsb, a1, v, if_neg (by decide), e20, jsb, if_neg (by decide), e21, jsb, if_neg (by decide), e22, jsb, if_neg (by decide), e23, jsb, if_neg (by decide), e12, jsb, if_neg (by decide), e18, jsb, if_neg (by decide), e24, jsb, if_pos rfl]
  have fz : false = decide (6 ≤ o) := by rw [decide_eq_false (by omega)]
  have eo : qOp false (kSkp f n i) 5 = Sum.inr (kLe f n i) := by unfold qOp; rw [if_neg (by simp), l]
  rw [jo_bind]
  refine jo_c (sl_217w (x := 5) (by omega) fz a2 (by omega)) (fun p85 h85 => ?_)
  rw [eo] at h85
  refine jo_c (qMr_num h85 (by decide)) (fun p86 h86 => ?_)
  obtain ⟨h86, v86⟩ := h86
  refine jo_c (qMr_sig h86 (by decide)) (fun p87 h87 => ?_)
  have b30 := kNs_b (f := f) (n := n) (s := Sum.inr (kLe f n i)) (lo := 0) (hi := 30) (by decide) (by decide)
  unfold wAg
  rw [v86]
  generalize hx : (kNs f n 0 30 (Sum.inr (kLe f n i))).2 = x at *
  have hs1 : ∀ j, kSs f n 91 (kNs f n 0 30 (Sum.inr (kLe f n i))).1 = Sum.inr j → 3 * L.length + 3 ≤ j := fun j hj => by
    obtain ⟨k, d1, d2, -⟩ := kSs_in hj
    obtain ⟨k', c1, -, -, -, c5, -⟩ := kNs_in d1
    cases c1
    omega
  generalize kSs f n 91 (kNs f n 0 30 (Sum.inr (kLe f n i))).1 = s1 at *
  refine jo_c (sl_224 hn h87 hs1 (jg_c rfl) ⟨by omega, by omega⟩ (jg_c rfl)) (fun p88 h88 => ?_)
  rw [show (jlp (α := jm) (β := jm) (fun s89 => Option.bind (α := Int) (jf_196 s89) fun p95 => if p95 = 0 then some (Sum.inr (s89)) else Option.bind (α := Int × jm) (jf_198 s89) fun p96 => if p96.1 = (93 : Int) then some (Sum.inr (p96.2)) else Option.bind (α := jm) (rec 0 0 0 p96.2) fun p97 => some (Sum.inl (p97))) jfu p88) = jlp (wMb rec) jfu p88 from rfl]
  cases s1 with
  | inl e =>
    refine jo_c (R := fun r => kMz r f n (Sum.inl e)) (jo_one (by rw [wMb_f h88.1]; exact h88.1)) (fun t92 h92 => ?_)
    have tf := sl_tailf (P87 := p87) h92
    rw [jo_bind] at tf
    exact tf
  | inr j =>
    have h88' : qMr f n c (o + 1) p88 (Sum.inr j) (L ++ [(7, x, 0)]) := h88
    refine jo_c (sl_body hn hv hR h88') (fun t92 h92 => ?_)
    have gl := (wB_g (f := f) (c := c) (R := wRd f n c D) (by omega) h88'.1.1.1.2.1 (fun k hk => wRd_g (by omega) hv D k hk)).2
    cases hb : wB f n (wRd f n c D) (Sum.inr j) with
    | inl e =>
      rw [hb] at h92
      have tf := sl_tailf (P87 := p87) (M := t92) h92
      rw [jo_bind] at tf
      exact tf
    | inr z =>
      obtain ⟨q, ls⟩ := z
      rw [hb] at h92 gl
      obtain ⟨g1, g2, g3, g4⟩ := gl
      dsimp only at g1 g2 g3 g4
      have l1 : (L ++ [((7 : Int), x, (0 : Int))]).length = L.length + 1 := by rw [List.length_append]; rfl
      have hRl : (wFl (wM D) (wCn D) (L.length + 1) ls).length = wSm (wCn D) ls := wFl_len (wM_len D) ls _
      have eL : L ++ [((7 : Int), x, (0 : Int))] ++ wFl (wM D) (wCn D) (L ++ [((7 : Int), x, (0 : Int))]).length ls = L ++ (7, x, 0) :: wFl (wM D) (wCn D) (L.length + 1) ls := by rw [l1, List.append_assoc]; rfl
      have h92' : qMr f n c (o + 1) t92 (Sum.inr q) (L ++ (7, x, 0) :: wFl (wM D) (wCn D) (L.length + 1) ls) := by rw [← eL]; exact h92
      have lenA : (L ++ ((7 : Int), x, (0 : Int)) :: wFl (wM D) (wCn D) (L.length + 1) ls).length = L.length + 1 + wSm (wCn D) ls := by rw [List.length_append, List.length_cons, hRl]; omega
      have hq3 := (h92'.2.2.2 q rfl).2
      rw [lenA] at hq3
      refine jo_c (qMr_sig h92' (by decide)) (fun p108 h108 => ?_)
      rw [kSs_y g4] at h108
      obtain ⟨o7, o3⟩ := h108.2.2.2 _ rfl
      have gq := kGb_l g4
      have F7 : jfr true (fun a b => a = 67 ∧ b = 7) p108 (js p108 67 7 (o : Int)) := jfr_js jfr_r ⟨rfl, rfl⟩
      have e7 : jw (ja p108 67 7 - 1) = (o : Int) := by rw [o7, jwi (by omega) (by omega)]; omega
      have Z9 : kMz (js p108 67 7 (o : Int)) f n (Sum.inr (kSkp f n q + 1)) := kMz_js h108.1 (by omega)
      have C9 : kCx (js p108 67 7 (o : Int)) (L ++ (7, x, 0) :: wFl (wM D) (wCn D) (L.length + 1) ls) := kCx_fr h108.2.1 F7 (fun a b h => by omega)
      have j2 : jw (((3 * L.length : Nat) : Int) + 2) = ((3 * L.length + 2 : Nat) : Int) := by rw [jwi (by omega) (by omega)]; omega
      rw [e7, jle_eq, kMz_g Z9, kOkz_r, jsb, if_neg Int.one_ne_zero, h87.2.1.1, j2, if_pos (by omega), Int.toNat_natCast, C9.1, lenA, jle_eq, jsb]
      have CZ := kCx_2 (y := ((3 * (L.length + 1 + wSm (wCn D) ls) : Nat) : Int)) C9 ⟨by omega, by omega⟩
      have FZ : jfr true (fun a b => (a = 67 ∧ b = 7) ∨ a = 86) p108 (js (js p108 67 7 (o : Int)) 86 (3 * L.length + 2) ((3 * (L.length + 1 + wSm (wCn D) ls) : Nat) : Int)) := jfr_js (jfr_t jfr_r F7 (fun e => e) (fun a b h => Or.inl h)) (Or.inr rfl)
      have HZ : qMr f n c o (js (js p108 67 7 (o : Int)) 86 (3 * L.length + 2) ((3 * (L.length + 1 + wSm (wCn D) ls) : Nat) : Int)) (Sum.inr (kSkp f n q + 1)) (L ++ (7, x, ((3 * (L.length + 1 + wSm (wCn D) ls) : Nat) : Int)) :: wFl (wM D) (wCn D) (L.length + 1) ls) := by
        refine ⟨kMz_js Z9 (by omega), CZ, fun u hu => by rw [ja_fr FZ (by omega)]; exact h108.2.2.1 u hu, fun i hi => ⟨?_, ?_⟩⟩
        · rw [ja_jsk (by decide), ja_js1, jwi (by omega) (by omega)]
        · cases hi
          rw [List.length_append, List.length_cons, hRl]; omega
      rw [jo_some]
      refine jo_c (qMr_sig HZ (by decide)) (fun r hr => ?_)
      show qMe f n c o L (wEnd (α := List (wT D)) (β := wT (D + 1)) (kSs f n 59 (kSs f n 93 (Sum.inr q))) (fun l => Sum.inr (x, l)) ls) r
      have key : ∀ s : kFS, s = kSs f n 59 (Sum.inr (kSkp f n q + 1)) → qMe f n c o L (wEnd (α := List (wT D)) (β := wT (D + 1)) s (fun l => Sum.inr (x, l)) ls) r := fun s hs => by
        rw [← hs] at hr
        cases s with
        | inl e => exact hr.1
        | inr k => exact hr
      exact key _ (by rw [kSs_y g4])
