/-! WORK: the class reads trees. -/
theorem wFr3 {m0 M : jm} {c : kC} (F : jfr true jW_99 m0 M) (h3 : ∀ k, k < 4 → ja m0 3 k = (c 11 k : Int)) : ∀ k, k < 4 → ja M 3 k = (c 11 k : Int) := fun k hk => by rw [ja_fr F (fun z => by have := jW_99_o z; omega)]; exact h3 k hk
set_option maxRecDepth 20000 in
theorem wC_simple {m0 M : jm} {f : Nat → Int} {n i o t N : Nat} {c : kC} {L : List wE} {st : Nat → Nat} {Q : Int × jm → Prop} (hn : n ≤ 150) (hv : kV c) (h3 : ∀ k, k < 4 → ja m0 3 k = (c 11 k : Int)) (H : qCr m0 f n M i L o st) (ht : 2 * t ≤ i) (hL : L.length ≤ i) (hN : n - i < N) (h0 : o = 0 → kSkp f n i < n) (h93 : 0 < o → kGb f n i 93 = false) (h1 : kU3 f n i ≠ -1) (h7 : kU3 f n i ≠ 7) (kb : ∀ e b, kSs f n 59 (wS f n c (kU3 f n i) (kLe f n i)).1 = Sum.inl e → qFa m0 e b → Q b) (kg : ∀ j t' M' N', kSs f n 59 (wS f n c (kU3 f n i) (kLe f n i)).1 = Sum.inr j → qCr m0 f n M' j (L ++ [(wS f n c (kU3 f n i) (kLe f n i)).2]) o st → 2 * t' ≤ j → n - j < N' → jo (jlp wCb N' ((t' : Int), M')) Q) : jo (jlp wCb N ((t : Int), M)) Q := by
  have hi := H.1.1.2.1
  have hsk := kSkp_ge (f := f) (n := n) (i := i)
  have hle := kLe_le (f := f) hi
  have cs := kU3_cs (f := f) (n := n) (i := i)
  obtain ⟨N', rfl⟩ : ∃ N', N = N' + 1 := ⟨N - 1, by omega⟩
  refine jo_stp (wCb_s H (by omega) h0 h93 (fun M1 H1 => ?_))
  refine jo_c (jo_and (sl_102s hv H1.1 H1.2.1 (wFr3 H1.2.2.2.2.2 h3) (by omega) h1 h7) jx_102) (fun r hr => ?_)
  obtain ⟨r1, r2⟩ := hr
  have FR := jfr_t H1.2.2.2.2.2 r2 (fun e => e) (fun k j h => jW_102i h)
  have g := wS_g (f := f) (c := c) hv hi h1 h7
  unfold kOw at r1
  cases hz : kSs f n 59 (wS f n c (kU3 f n i) (kLe f n i)).1 with
  | inl e =>
    rw [hz] at r1
    rw [r1.1, if_pos rfl]
    exact kb e _ hz ⟨rfl, r1.2.1, r1.2.2.1, r1.2.2.2, FR⟩
  | inr j =>
    rw [hz] at r1
    obtain ⟨a1, a2, a3, a4, a5⟩ := r1
    rw [a1, if_neg Int.one_ne_zero]
    have gj : i + 3 + 1 ≤ j := by
      rcases g with ⟨e, e1, -⟩ | ⟨j', e1, e2, -⟩
      · rw [hz] at e1; cases e1
      · rw [hz] at e1; cases e1; exact e2
    clear g
    refine kg j (t + 1) r.2 N' hz ⟨a2, a3, ?_, fun u hu => ?_, a4.trans H1.2.2.2.2.1, FR⟩ (by omega) (by omega)
    · rw [ja_fr a5 (by unfold qWs; omega)]; exact H1.2.2.1
    · rw [ja_fr a5 (by unfold qWs; omega)]; exact H1.2.2.2.1 u hu
set_option maxRecDepth 20000 in
theorem wC_bad {m0 M : jm} {f : Nat → Int} {n i o t N : Nat} {L : List wE} {st : Nat → Nat} {Q : Int × jm → Prop} (hn : n ≤ 150) (H : qCr m0 f n M i L o st) (ht : 2 * t ≤ i) (hN : n - i < N) (h0 : o = 0 → kSkp f n i < n) (h93 : 0 < o → kGb f n i 93 = false) (h1 : kU3 f n i = -1) (kb : ∀ b, qFa m0 (1, kSkp f n i) b → Q b) : jo (jlp wCb N ((t : Int), M)) Q := by
  have hi := H.1.1.2.1
  have hsl := kSkp_le (f := f) hi
  obtain ⟨N', rfl⟩ : ∃ N', N = N' + 1 := ⟨N - 1, by omega⟩
  refine jo_stp (wCb_s H (by omega) h0 h93 (fun M1 H1 => ?_))
  unfold jf_102
  rw [jo_bind]
  refine jo_c (sl_117v H1.1) (fun p hp => ?_)
  obtain ⟨⟨q1, q2, q3, q4, q5⟩, q6⟩ := hp
  rw [q1, h1, if_pos rfl]
  exact kb _ ⟨rfl, (q4 h1).1, (q4 h1).2, by show kSkp f n i ≤ 600; omega, jfr_t H1.2.2.2.2.2 q6 (fun e => e) (fun k j h => jW_99_i (by unfold jW_117 at h; unfold wW99; rcases h with ⟨rfl, rfl⟩ | ⟨rfl, rfl⟩ | ⟨rfl, rfl⟩ | ⟨rfl, rfl⟩ <;> simp))⟩
theorem jW_117i {k j : Nat} (h : jW_117 k j) : jW_99 k j := jW_99_i (by unfold jW_117 at h; unfold wW99; rcases h with ⟨rfl, rfl⟩ | ⟨rfl, rfl⟩ | ⟨rfl, rfl⟩ | ⟨rfl, rfl⟩ <;> simp)
set_option maxRecDepth 20000 in
theorem wC_ag {m0 M : jm} {f : Nat → Int} {n i o t N : Nat} {L : List wE} {st : Nat → Nat} {Q : Int × jm → Prop} (hn : n ≤ 150) (H : qCr m0 f n M i L o st) (ht : 2 * t ≤ i) (hL : L.length ≤ i) (hN : n - i < N) (h0 : o = 0 → kSkp f n i < n) (h93 : 0 < o → kGb f n i 93 = false) (h7 : kU3 f n i = 7) (ho : o < 6) (kb : ∀ e b, kSs f n 91 (kNs f n 0 30 (Sum.inr (kLe f n i))).1 = Sum.inl e → qFa m0 e b → Q b) (kg : ∀ j t' M' N', kSs f n 91 (kNs f n 0 30 (Sum.inr (kLe f n i))).1 = Sum.inr j → qCr m0 f n M' j (L ++ [(7, (kNs f n 0 30 (Sum.inr (kLe f n i))).2, 0)]) (o + 1) (fun u => if u = o then L.length else st u) → 2 * t' ≤ j → n - j < N' → jo (jlp wCb N' ((t' : Int), M')) Q) : jo (jlp wCb N ((t : Int), M)) Q := by
  have hi := H.1.1.2.1
  have hsk := kSkp_ge (f := f) (n := n) (i := i)
  have hle := kLe_le (f := f) hi
  have cs := kU3_cs (f := f) (n := n) (i := i)
  obtain ⟨N', rfl⟩ : ∃ N', N = N' + 1 := ⟨N - 1, by omega⟩
  refine jo_stp (wCb_s H (by omega) h0 h93 (fun M1 H1 => ?_))
  rw [jo_bind]
  have fr := jx_102 (m := M1)
  refine jo_mono (jo_and (P := fun (r : Int × jm) => match kSs f n 91 (kNs f n 0 30 (Sum.inr (kLe f n i))).1 with
    | Sum.inl e => r.1 = 0 ∧ ja r.2 1 5 = e.1 ∧ ja r.2 1 6 = (e.2 : Int) ∧ e.2 ≤ 600
    | Sum.inr j => r.1 = 1 ∧ kTc r.2 f n j ∧ kCw r.2 (L ++ [(7, (kNs f n 0 30 (Sum.inr (kLe f n i))).2, 0)]) ∧ ja r.2 41 6 = ((o + 1 : Nat) : Int) ∧ (∀ u, u < o + 1 → ja r.2 46 u = ((if u = o then L.length else st u : Nat) : Int)) ∧ ja r.2 1 6 = ja m0 1 6) ?_ fr) (fun r hr => ?_)
  · unfold jf_102
    refine jo_c (sl_117v H1.1) (fun p hp => ?_)
    obtain ⟨⟨q1, q2, q3, q4, q5⟩, q6⟩ := hp
    have x6 : ja p.2 1 6 = ja m0 1 6 := by rw [(q5 (by omega)).2]; exact H1.2.2.2.2.1
    have e6 : ja p.2 41 6 = (o : Int) := by rw [ja_fr q6 (by unfold jW_117; omega)]; exact H1.2.2.1
    have C1 : kCw p.2 L := kCw_fr H1.2.1 q6 (fun a b h => by unfold jW_117 at h; omega)
    have s1 : ∀ u, u < o → ja p.2 46 u = (st u : Int) := fun u hu => by rw [ja_fr q6 (by unfold jW_117; omega)]; exact H1.2.2.2.1 u hu
    rw [q1, h7, if_neg (show ¬ (7 : Int) = -1 by decide), if_neg (show ¬ (7 : Int) = 0 by decide), if_neg (show ¬ (7 : Int) = 1 by decide), if_neg (show ¬ (7 : Int) = 2 by decide), if_neg (show ¬ (7 : Int) = 3 by decide), if_neg (show ¬ (7 : Int) = 4 by decide), if_neg (show ¬ (7 : Int) = 5 by decide), if_neg (show ¬ (7 : Int) = 6 by decide), if_pos rfl]
    unfold jf_103
    rw [e6, if_pos (show (o : Int) < 6 by omega), jo_bind]
    refine cl_num q2 (fun r a1 a2 a3 a4 a5 a6 => ?_) (fun r v a1 a2 a3 a4 a5 a6 a7 a8 => ?_) (by decide)
    · rw [a2, if_pos rfl, a1]
      exact ⟨rfl, a3, a4, a5⟩
    · rw [a4, if_neg (show ¬ (v : Int) = -1 by omega), a1]
      refine cl_sig a5 (by decide) (fun r2 b1 b2 b3 b4 b5 b6 => ?_) (fun r2 b1 b2 b3 b4 b5 => ?_)
      · rw [b2, if_pos rfl, b1]
        exact ⟨rfl, b3, b4, b5⟩
      · have g6 : ja r2.2 41 6 = (o : Int) := by rw [ja_fr b5 (by unfold jW_123; omega), ja_fr a8 (by unfold jW_121; omega)]; exact e6
        have C2 : kCw r2.2 L := kCw_fr (kCw_fr C1 a8 (fun a b h => by unfold jW_121 at h; omega)) b5 (fun a b h => by unfold jW_123 at h; omega)
        rw [b2, if_neg Int.one_ne_zero, g6, if_pos (by omega), Int.toNat_natCast, C2.1, jle_eq, ja_jsk (show (41 : Nat) ≠ 46 by decide), g6, jle_eq, jwn (by omega), b1]
        have C4 : kCw (js (js r2.2 46 o (L.length : Int)) 41 6 ((o + 1 : Nat) : Int)) L := kCw_fr (W := fun a b => (a = 46 ∧ b = o) ∨ (a = 41 ∧ b = 6)) (b := true) C2 (jfr_js (jfr_js jfr_r (Or.inl ⟨rfl, rfl⟩)) (Or.inr ⟨rfl, rfl⟩)) (fun a b h => by omega)
        obtain ⟨M4, y1, y2, y3⟩ := sl_101 (x0 := 7) (x1 := (v : Int)) (x2 := 0) C4 (by omega) (jg_c rfl) (by omega) (by omega)
        rw [y1, jsb]
        refine ⟨rfl, kTc_fr (kTc_js (kTc_js b3 (by omega)) (by omega)) y3 (fun a b h => by omega), y2, ?_, fun u hu => ?_, ?_⟩
        · show ja M4 41 6 = _
          rw [ja_fr y3 (by omega), ja_js1, jwi (by omega) (by omega)]
        · show ja M4 46 u = _
          rw [ja_fr y3 (by omega), ja_jsk (by decide)]
          by_cases e : u = o
          · rw [e, ja_js1, if_pos rfl, jwi (by omega) (by omega)]
          · rw [ja_jsj e, if_neg e, ja_fr b5 (by unfold jW_123; omega), ja_fr a8 (by unfold jW_121; omega)]; exact s1 u (by omega)
        · show ja M4 1 6 = _
          rw [ja_fr y3 (by omega), ja_jsk (by decide), ja_jsk (by decide), b4, a7]; exact x6
  · obtain ⟨r1, r2⟩ := hr
    have FR := jfr_t H1.2.2.2.2.2 r2 (fun e => e) (fun k j h => jW_102i h)
    cases hz : kSs f n 91 (kNs f n 0 30 (Sum.inr (kLe f n i))).1 with
    | inl e =>
      rw [hz] at r1
      rw [r1.1, if_pos rfl]
      exact kb e _ hz ⟨rfl, r1.2.1, r1.2.2.1, r1.2.2.2, FR⟩
    | inr j =>
      rw [hz] at r1
      obtain ⟨a1, a2, a3, a4, a5, a6⟩ := r1
      rw [a1, if_neg Int.one_ne_zero]
      have gj : kLe f n i < j := by
        obtain ⟨k, e1, e2, -⟩ := kSs_in hz
        obtain ⟨k', d1, -, -, -, d5, -⟩ := kNs_in e1
        cases d1
        omega
      exact kg j (t + 1) r.2 N' hz ⟨a2, a3, a4, a5, a6, FR⟩ (by omega) (by omega)
set_option maxRecDepth 20000 in
theorem wC_full {m0 M : jm} {f : Nat → Int} {n i o t N : Nat} {L : List wE} {st : Nat → Nat} {Q : Int × jm → Prop} (hn : n ≤ 150) (H : qCr m0 f n M i L o st) (ht : 2 * t ≤ i) (hN : n - i < N) (h0 : o = 0 → kSkp f n i < n) (h93 : 0 < o → kGb f n i 93 = false) (h7 : kU3 f n i = 7) (ho : 6 ≤ o) (kb : ∀ b, qFa m0 (3, kSkp f n i) b → Q b) : jo (jlp wCb N ((t : Int), M)) Q := by
  have hi := H.1.1.2.1
  have hsl := kSkp_le (f := f) hi
  obtain ⟨N', rfl⟩ : ∃ N', N = N' + 1 := ⟨N - 1, by omega⟩
  refine jo_stp (wCb_s H (by omega) h0 h93 (fun M1 H1 => ?_))
  unfold jf_102
  rw [jo_bind]
  refine jo_c (sl_117v H1.1) (fun p hp => ?_)
  obtain ⟨⟨q1, q2, q3, q4, q5⟩, q6⟩ := hp
  have e6 : ja p.2 41 6 = (o : Int) := by rw [ja_fr q6 (by unfold jW_117; omega)]; exact H1.2.2.1
  rw [q1, h7, if_neg (show ¬ (7 : Int) = -1 by decide), if_neg (show ¬ (7 : Int) = 0 by decide), if_neg (show ¬ (7 : Int) = 1 by decide), if_neg (show ¬ (7 : Int) = 2 by decide), if_neg (show ¬ (7 : Int) = 3 by decide), if_neg (show ¬ (7 : Int) = 4 by decide), if_neg (show ¬ (7 : Int) = 5 by decide), if_neg (show ¬ (7 : Int) = 6 by decide), if_pos rfl]
  unfold jf_103
  rw [e6, if_neg (show ¬ (o : Int) < 6 by omega), q3, sp_120, jsb, jsb]
  refine kb _ ⟨rfl, ?_, ?_, by show kSkp f n i ≤ 600; omega, jfr_js (jfr_js (jfr_t H1.2.2.2.2.2 q6 (fun e => e) (fun k j h => jW_117i h)) (jW_99_i rfl)) (jW_99_i rfl)⟩
  · show ja (js (js p.2 1 5 3) 1 6 _) 1 5 = 3
    rw [ja_jsj (by decide), ja_js1]; exact jwi (by decide) (by decide)
  · show ja (js (js p.2 1 5 3) 1 6 _) 1 6 = (kSkp f n i : Int)
    rw [ja_js1, jwi (by omega) (by omega)]
set_option maxRecDepth 20000 in
theorem wC_close {m0 M : jm} {f : Nat → Int} {n i o t N : Nat} {L R : List wE} {x : Int} {st : Nat → Nat} {Q : Int × jm → Prop} (hn : n ≤ 150) (ho : o < 6) (H : qCr m0 f n M i (L ++ (7, x, 0) :: R) (o + 1) st) (hst : st o = L.length) (ht : 2 * t ≤ i) (hL : (L ++ (7, x, 0) :: R).length ≤ i) (hN : n - i < N) (hg : kGb f n i 93 = true) (kb : ∀ e b, kSs f n 59 (Sum.inr (kSkp f n i + 1)) = Sum.inl e → qFa m0 e b → Q b) (kg : ∀ j t' M' N', kSs f n 59 (Sum.inr (kSkp f n i + 1)) = Sum.inr j → qCr m0 f n M' j (L ++ (7, x, (((L ++ (7, x, 0) :: R).length : Nat) : Int)) :: (R ++ [(8, (L.length : Int), 0)])) o st → 2 * t' ≤ j → n - j < N' → jo (jlp wCb N' ((t' : Int), M')) Q) : jo (jlp wCb N ((t : Int), M)) Q := by
  have hi := H.1.1.2.1
  have hl := kGb_l hg
  have hLL : L.length < (L ++ (7, x, 0) :: R).length := by rw [List.length_append, List.length_cons]; omega
  obtain ⟨N', rfl⟩ : ∃ N', N = N' + 1 := ⟨N - 1, by omega⟩
  refine jo_stp (wCb_c H (by omega) (by omega) hg (fun M1 H1 => ?_))
  rw [jo_bind]
  have fr := jx_100 (m := M1)
  refine jo_mono (jo_and (P := fun (r : Int × jm) => match kSs f n 59 (Sum.inr (kSkp f n i + 1)) with
    | Sum.inl e => r.1 = 0 ∧ ja r.2 1 5 = e.1 ∧ ja r.2 1 6 = (e.2 : Int) ∧ e.2 ≤ 600
    | Sum.inr j => r.1 = 1 ∧ kTc r.2 f n j ∧ kCw r.2 (L ++ (7, x, (((L ++ (7, x, 0) :: R).length : Nat) : Int)) :: (R ++ [(8, (L.length : Int), 0)])) ∧ ja r.2 41 6 = (o : Int) ∧ (∀ u, u < o → ja r.2 46 u = (st u : Int)) ∧ ja r.2 1 6 = ja m0 1 6) ?_ fr) (fun r hr => ?_)
  · unfold jf_100
    obtain ⟨e1, e2⟩ := sp_124 H1.1 hl.2
    have C1 : kCw (js (js M1 1 3 ((kSkp f n i + 1 : Nat) : Int)) 41 6 (o : Int)) (L ++ (7, x, 0) :: R) := kCw_fr (W := fun a b => (a = 1 ∧ b = 3) ∨ (a = 41 ∧ b = 6)) (b := true) H1.2.1 (jfr_js (jfr_js jfr_r (Or.inl ⟨rfl, rfl⟩)) (Or.inr ⟨rfl, rfl⟩)) (fun a b h => by omega)
    have T1 : kTc (js (js M1 1 3 ((kSkp f n i + 1 : Nat) : Int)) 41 6 (o : Int)) f n (kSkp f n i + 1) := kTc_js e2 (by omega)
    have g6 : ja (js (js M1 1 3 ((kSkp f n i + 1 : Nat) : Int)) 41 6 (o : Int)) 41 6 = (o : Int) := by rw [ja_js1, jwi (by omega) (by omega)]
    have g46 : ∀ u, u < o + 1 → ja (js (js M1 1 3 ((kSkp f n i + 1 : Nat) : Int)) 41 6 (o : Int)) 46 u = (st u : Int) := fun u hu => by rw [ja_jsk (by decide), ja_jsk (by decide)]; exact H1.2.2.2.1 u hu
    have x6 : ja (js (js M1 1 3 ((kSkp f n i + 1 : Nat) : Int)) 41 6 (o : Int)) 1 6 = ja m0 1 6 := by rw [ja_jsk (by decide), ja_jsj (by decide)]; exact H1.2.2.2.2.1
    have e5 : jw (ja (js M1 1 3 ((kSkp f n i + 1 : Nat) : Int)) 41 6 - 1) = (o : Int) := by rw [ja_jsk (by decide), H1.2.2.1, jwi (by omega) (by omega)]; omega
    rw [e1, jsb, e5, jle_eq]
    generalize js (js M1 1 3 ((kSkp f n i + 1 : Nat) : Int)) 41 6 (o : Int) = M2 at *
    rw [g6, if_pos (by omega), Int.toNat_natCast, g46 o (by omega), hst, if_pos (by omega), Int.toNat_natCast, C1.1, jle_eq]
    have C2 := kCw_2 (y := (((L ++ (7, x, 0) :: R).length : Nat) : Int)) C1 ⟨by omega, by omega⟩
    have hlen : (L ++ (7, x, (((L ++ (7, x, 0) :: R).length : Nat) : Int)) :: R).length = (L ++ (7, x, 0) :: R).length := by rw [List.length_append, List.length_append, List.length_cons, List.length_cons]
    obtain ⟨M4, y1, y2, y3⟩ := sl_101 (x0 := 8) (x1 := (L.length : Int)) (x2 := 0) C2 (by omega) (jg_c rfl) (by omega) (by omega)
    rw [show L ++ (7, x, (((L ++ (7, x, 0) :: R).length : Nat) : Int)) :: R ++ [(8, (L.length : Int), 0)] = L ++ (7, x, (((L ++ (7, x, 0) :: R).length : Nat) : Int)) :: (R ++ [(8, (L.length : Int), 0)]) by rw [List.append_assoc]; rfl] at y2
    rw [y1, jsb, if_neg Int.one_ne_zero, jo_bind]
    have T4 : kTc M4 f n (kSkp f n i + 1) := kTc_fr (kTc_js T1 (by omega)) y3 (fun a b h => by omega)
    refine cl_sig T4 (by decide) (fun r2 b1 b2 b3 b4 b5 b6 => ?_) (fun r2 b1 b2 b3 b4 b5 => ?_)
    · rw [b2, if_pos rfl, b1]
      exact ⟨rfl, b3, b4, b5⟩
    · rw [b2, if_neg Int.one_ne_zero, b1]
      refine ⟨rfl, b3, kCw_fr y2 b5 (fun a b h => by unfold jW_123 at h; omega), ?_, fun u hu => ?_, ?_⟩
      · show ja r2.2 41 6 = _
        rw [ja_fr b5 (by unfold jW_123; omega), ja_fr y3 (by omega), ja_jsk (by decide)]; exact g6
      · show ja r2.2 46 u = _
        rw [ja_fr b5 (by unfold jW_123; omega), ja_fr y3 (by omega), ja_jsk (by decide)]; exact g46 u (by omega)
      · show ja r2.2 1 6 = _
        rw [b4, ja_fr y3 (by omega), ja_jsk (by decide)]; exact x6
  · obtain ⟨r1, r2⟩ := hr
    have FR := jfr_t H1.2.2.2.2.2 r2 (fun e => e) (fun k j h => jW_100i h)
    cases hz : kSs f n 59 (Sum.inr (kSkp f n i + 1)) with
    | inl e =>
      rw [hz] at r1
      rw [r1.1, if_pos rfl]
      exact kb e _ hz ⟨rfl, r1.2.1, r1.2.2.1, r1.2.2.2, FR⟩
    | inr j =>
      rw [hz] at r1
      obtain ⟨a1, a2, a3, a4, a5, a6⟩ := r1
      rw [a1, if_neg Int.one_ne_zero]
      have gj : kSkp f n i + 1 < j := by
        obtain ⟨k, e1, e2, -⟩ := kSs_in hz
        cases e1
        exact e2
      exact kg j (t + 1) r.2 N' hz ⟨a2, a3, a4, a5, a6, FR⟩ (by omega) (by omega)
