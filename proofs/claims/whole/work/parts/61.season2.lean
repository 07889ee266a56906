/-! SEASON: the class's run. -/
theorem kZc_g {m : jm} {c : kC} {cl : List Int} {z : kZt5} (H : kZc m c cl z) : kZc (js m 63 2 (kSd z.1)) c cl (kSd z.1, z.2) := by
  obtain ⟨H0, z1, z2, z3, z4⟩ := H
  exact ⟨kK_js H0 (by unfold kQK; omega), by rw [ja_js1, kSd_w], by rw [ja_jsj (by decide)]; exact z2, by rw [ja_jsj (by decide)]; exact z3, by rw [ja_jsj (by decide)]; exact z4⟩
theorem sl_110 {m : jm} {c : kC} {cl : List Int} {z : kZt5} {n : Nat} (H : kZc m c cl z) (hn : n < 100) (h0 : 0 < n) : jo (jf_110 n m) (fun r => r.1 = ((kDr (kSd z.1) n : Nat) : Int) ∧ kZc r.2 c cl (kSd z.1, z.2)) := by
  rw [sp_110 hn h0, H.2.1]
  exact ⟨rfl, kZc_g H⟩
theorem kZc_p {m m' : jm} {c : kC} {cl : List Int} {g f k n : Int} {p p' : kP} (H : kZc m c cl (g, f, k, n, p)) (h : kK 17 m' c p' cl) (e : ∀ j, ja m' 63 j = ja m 63 j) : kZc m' c cl (g, f, k, n, p') := by
  obtain ⟨H0, z1, z2, z3, z4⟩ := H
  exact ⟨h, by rw [e]; exact z1, by rw [e]; exact z2, by rw [e]; exact z3, by rw [e]; exact z4⟩
/-- one step -/
theorem sl_109s {m : jm} {c : kC} {cl : List Int} {z : kZt5} {i : Nat} {fog : Int} (H : kZc m c cl z) (hi : i < 200) (h0 : 0 < c 11 2) : jo ((jf_110 (ja m 3 2) m).bind fun p13 => (jf_110 (ja p13.2 3 0) p13.2).bind fun p14 => (jf_111 p13.1 p14.1 p14.2).bind fun p15 => (jf_110 16 p15).bind fun p16 => (if p16.1 < fog then (jf_82 17 p16.2).bind fun p19 => some p19.2 else some p16.2).bind fun t17 => (if jrem (i : Int) 8 = 0 then (jf_84 17 t17).bind fun p32 => jle (js p32 63 5 (jw (ja p32 63 5 + 1))) fun m33 => some m33 else some t17).bind fun t30 => some (Sum.inl (β := jm) (jw ((i : Int) + 1), t30))) (jcase (fun s => s.1 = ((i + 1 : Nat) : Int) ∧ kZc s.2 c cl (kZs c cl fog i z)) (fun _ => False)) := by
  have hn := H.1.1.1
  have hT : 0 < c 11 0 := by have := (H.1.1.2.2.2.2.1 0 h0).1; omega
  rw [kK_n H.1 (by decide)]
  refine jo_c (sl_110 H (by omega) h0) (fun r1 hr1 => ?_)
  rw [kK_n hr1.2.1 (by decide)]
  refine jo_c (sl_110 hr1.2 (by omega) hT) (fun r2 hr2 => ?_)
  rw [hr1.1, hr2.1]
  refine jo_c (sl_111 hr2.2 (kDr_lt h0) (kDr_lt hT)) (fun r3 hr3 => ?_)
  refine jo_c (sl_110 (n := 16) hr3 (by decide) (by decide)) (fun r4 hr4 => ?_)
  rw [hr4.1]
  obtain ⟨-, hr4⟩ := hr4
  refine jo_c (R := fun M => kZc M c cl (kSd (kSd (kSd z.1)), jw (z.2.1 + b2i ((kZg c cl z).1 && decide ((kZg c cl z).2 2 (kZw c z) = -1))), jw (z.2.2.1 + b2i (kZg c cl z).1), z.2.2.2.1, kZ4 c cl fog z)) ?_ (fun r5 hr5 => ?_)
  · unfold kZ4
    by_cases h : ((kDr (kSd (kSd (kSd z.1))) 16 : Nat) : Int) < fog
    · rw [if_pos h, if_pos h]
      refine jo_c (jo_and (sl_82 hr4.1) jx_82) (fun r5 hr5 => ?_)
      exact kZc_p hr4 hr5.1.2 (fun j => ja_fr hr5.2 (by unfold jW_82; omega))
    · rw [if_neg h, if_neg h]
      exact hr4
  · rw [show jrem (i : Int) 8 = ((i % 8 : Nat) : Int) from jrem_n (b := 8) (by omega) (by decide)]
    unfold kZs
    by_cases h : i % 8 = 0
    · rw [if_pos (show ((i % 8 : Nat) : Int) = 0 by omega), if_pos h, jo_bind, jo_bind]
      refine jo_mono (jo_and (sl_84 hr5.1) jx_84) (fun r6 hr6 => ?_)
      have e : ∀ j, ja r6 63 j = ja r5 63 j := fun j => ja_fr hr6.2 (by unfold jW_84; omega)
      have hz := kZc_p hr5 hr6.1 e
      obtain ⟨a0, a1, a2, a3, a4⟩ := hz
      refine ⟨?_, kK_js a0 (by unfold kQK; omega), ?_, ?_, ?_, ?_⟩
      · show jw ((i : Int) + 1) = _
        rw [jwn (by omega)]
      · rw [ja_jsj (by decide)]; exact a1
      · rw [ja_jsj (by decide)]; exact a2
      · rw [ja_jsj (by decide)]; exact a3
      · rw [ja_js1, jw_w, a4]
    · rw [if_neg (show ¬ ((i % 8 : Nat) : Int) = 0 by omega), if_neg h, jsb]
      refine ⟨?_, hr5⟩
      show jw ((i : Int) + 1) = _
      rw [jwn (by omega)]
def kZr (c : kC) (cl : List Int) (fog : Int) (z : kZt5) (N : Nat) : kZt5 := if 0 < c 11 2 then kZn c cl fog z N else z
theorem kK_cp {m : jm} {c : kC} {p : kP} {cl : List Int} (H : kK 0 m c p cl) : kK 17 (jcp m (m.1 48) 65 0 0 52) c p cl := by
  obtain ⟨h1, h2, h3, h4, h5, h6⟩ := H
  have hn := h1.1
  have r : ∀ k j, k ≠ 65 → ja (jcp m (m.1 48) 65 0 0 52) k j = ja m k j := fun k j hk => by rw [ja_jcp, if_neg (by omega)]
  have s : ∀ j, j < 52 → ja (jcp m (m.1 48) 65 0 0 52) (48 + 17) j = ja m 48 j := fun j hj => by
    rw [ja_jcp, if_pos (by omega)]
    show (m.1 48 (0 + (j - 0))).toInt = (m.1 48 j).toInt
    rw [Nat.zero_add, Nat.sub_zero]
  refine ⟨h1, h2, h3, ⟨fun i hi => by rw [r _ _ (by omega)]; exact h4.1 i hi, fun k i hk hi => by rw [r _ _ (by omega)]; exact h4.2 k i hk hi⟩, ⟨?_, ?_, fun e he => ⟨?_, ?_⟩, fun w hw => ⟨?_, ?_, ?_⟩, fun l hl => ?_⟩, ⟨by rw [r _ _ (by omega)]; exact h6.1, fun i hi => by rw [r _ _ (by omega)]; exact h6.2 i hi⟩⟩
  · exact (s 0 (by omega)).trans h5.1
  · exact (s 1 (by omega)).trans h5.2.1
  · exact (s (2 + e) (by omega)).trans (h5.2.2.1 e he).1
  · exact (s (14 + e) (by omega)).trans (h5.2.2.1 e he).2
  · exact (s (26 + w) (by omega)).trans (h5.2.2.2.1 w hw).1
  · exact (s (32 + w) (by omega)).trans (h5.2.2.2.1 w hw).2.1
  · exact (s (38 + w) (by omega)).trans (h5.2.2.2.1 w hw).2.2
  · exact (s (44 + l) (by omega)).trans (h5.2.2.2.2 l hl)
theorem sl_109 {m : jm} {c : kC} {p : kP} {cl : List Int} {g fog : Int} {N : Nat} (H : kK 0 m c p cl) (hg : jg g) (hN : N ≤ 96) : jo (jf_109 g fog N m) (fun r => kZc r c cl (kZr c cl fog (g, 0, 0, 0, p) N)) := by
  have hn := H.1.1
  unfold jf_109
  rw [show jf_96 17 m = some (jcp m (m.1 48) 65 0 0 52) from rfl, jsb, jle_eq, jle_eq, jle_eq, jle_eq]
  have HK := kK_cp H
  have HZ : kZc (js (js (js (js (jcp m (m.1 48) 65 0 0 52) 63 2 g) 63 3 0) 63 4 0) 63 5 0) c cl (g, 0, 0, 0, p) := by
    refine ⟨kK_js (kK_js (kK_js (kK_js HK (by unfold kQK; omega)) (by unfold kQK; omega)) (by unfold kQK; omega)) (by unfold kQK; omega), ?_, ?_, ?_, ?_⟩
    · show _ = g
      rw [ja_jsj (by decide), ja_jsj (by decide), ja_jsj (by decide), ja_js1, jw_id hg]
    · show _ = (0 : Int)
      rw [ja_jsj (by decide), ja_jsj (by decide), ja_js1, wz0]
    · show _ = (0 : Int)
      rw [ja_jsj (by decide), ja_js1, wz0]
    · show _ = (0 : Int)
      rw [ja_js1, wz0]
  rw [jo_bind]
  unfold kZr
  by_cases h0 : 0 < c 11 2
  · rw [if_pos h0]
    refine jo_for N jfu (fun i (s : Int × jm) => s.1 = ((i + 1 : Nat) : Int) ∧ kZc s.2 c cl (kZn c cl fog (g, 0, 0, 0, p) i)) (jfu_lt (by omega)) (fun i hi s hs => ?_) (fun s hs => ?_) _ ⟨rfl, HZ⟩
    · rw [if_neg (show ¬ (N : Int) < s.1 by rw [hs.1]; omega), if_pos (show (0 : Int) < ja s.2 3 2 by rw [kK_n hs.2.1 (by decide)]; omega)]
      have := sl_109s (i := i + 1) (fog := fog) hs.2 (by omega) h0
      rw [hs.1]
      refine jo_mono this (fun x hx => ?_)
      cases x with
      | inl a => exact hx
      | inr b => exact hx.elim
    · rw [if_pos (show (N : Int) < s.1 by rw [hs.1]; omega)]
      exact hs.2
  · rw [if_neg h0]
    refine jo_for 0 jfu (fun i (s : Int × jm) => s.1 = 1 ∧ kZc s.2 c cl (g, 0, 0, 0, p)) (jfu_lt (by omega)) (fun i hi s hs => absurd hi (Nat.not_lt_zero _)) (fun s hs => ?_) _ ⟨rfl, HZ⟩
    by_cases hx : (N : Int) < s.1
    · rw [if_pos hx]; exact hs.2
    · rw [if_neg hx, if_neg (show ¬ (0 : Int) < ja s.2 3 2 by rw [kK_n hs.2.1 (by decide)]; omega)]
      exact hs.2
/-! and the model's -/
def kZm (m : jm) (c : kC) (cl : List Int) (z : kZt5) : Prop := kM m c z.2.2.2.2 cl ∧ ja m 67 61 = z.1 ∧ ja m 67 62 = z.2.1 ∧ ja m 67 63 = z.2.2.1 ∧ ja m 67 64 = z.2.2.2.1
theorem kZm_g {m : jm} {c : kC} {cl : List Int} {z : kZt5} (H : kZm m c cl z) : kZm (js m 67 61 (kSd z.1)) c cl (kSd z.1, z.2) := by
  obtain ⟨H0, z1, z2, z3, z4⟩ := H
  exact ⟨kM_js H0 (by unfold kQM; omega), by rw [ja_js1, kSd_w], by rw [ja_jsj (by decide)]; exact z2, by rw [ja_jsj (by decide)]; exact z3, by rw [ja_jsj (by decide)]; exact z4⟩
theorem sl_296 {m : jm} {c : kC} {cl : List Int} {z : kZt5} {n : Nat} (H : kZm m c cl z) (hn : n < 100) (h0 : 0 < n) : jo (jf_296 n m) (fun r => r.1 = ((kDr (kSd z.1) n : Nat) : Int) ∧ kZm r.2 c cl (kSd z.1, z.2)) := by
  rw [sp_296 hn h0, H.2.1]
  exact ⟨rfl, kZm_g H⟩
theorem kZm_p {m m' : jm} {c : kC} {cl : List Int} {g f k n : Int} {p p' : kP} (H : kZm m c cl (g, f, k, n, p)) (h : kM m' c p' cl) (e : ∀ j, 61 ≤ j → j ≤ 64 → ja m' 67 j = ja m 67 j) : kZm m' c cl (g, f, k, n, p') := by
  obtain ⟨H0, z1, z2, z3, z4⟩ := H
  exact ⟨h, by rw [e _ (by decide) (by decide)]; exact z1, by rw [e _ (by decide) (by decide)]; exact z2, by rw [e _ (by decide) (by decide)]; exact z3, by rw [e _ (by decide) (by decide)]; exact z4⟩
theorem sl_295a {m : jm} {c : kC} {cl : List Int} {w : Nat} {g f k n : Int} {p : kP} (H : kZm m c cl (g, f, k, n, p)) (hw : w < c 11 2) : jo (jlp (α := Int × jm) (β := jm) (fun s36 => if s36.1 < ja s36.2 67 27 then (jf_232 w s36.1 s36.2).bind fun p43 => some (Sum.inl (jw (s36.1 + 1), p43.2)) else some (Sum.inr s36.2)) jfu (0, m)) (fun r => kZm r c cl (g, f, k, n, kAg c p w (c 11 3))) := by
  have hn := H.1.1.1
  refine jo_for (c 11 3) jfu (fun i (s : Int × jm) => s.1 = (i : Int) ∧ kZm s.2 c cl (g, f, k, n, kAg c p w i)) (jfu_lt (by omega)) (fun i hi s hs => ?_) (fun s hs => ?_) _ ⟨rfl, H⟩
  · rw [show ja s.2 67 27 = c 11 3 from kM_n hs.2.1 (i := 3) (by decide), hs.1, if_pos (show (i : Int) < (c 11 3 : Int) by omega)]
    refine jo_c (jo_and (sl_232 hs.2.1 hw hi) jx_232) (fun r hr => ⟨?_, kZm_p hs.2 hr.1.2 (fun j _ _ => ja_fr hr.2 (by unfold jW_232; omega))⟩)
    show jw ((i : Int) + 1) = _
    rw [jwn (by omega)]
  · rw [show ja s.2 67 27 = c 11 3 from kM_n hs.2.1 (i := 3) (by decide), hs.1, if_neg (show ¬ ((c 11 3 : Nat) : Int) < (c 11 3 : Int) by omega)]
    exact hs.2
theorem sl_295b {m : jm} {c : kC} {cl : List Int} {w : Nat} {g f k n : Int} {p : kP} (H : kZm m c cl (g, f, k, n, p)) (hw : w < c 11 2) : jo (jlp (α := Int × jm) (β := jm) (fun s54 => if s54.1 < ja s54.2 67 27 then (jf_229 w s54.1 s54.2).bind fun p61 => some (Sum.inl (jw (s54.1 + 1), p61.2)) else some (Sum.inr s54.2)) jfu (0, m)) (fun r => kZm r c cl (g, f, k, n, kAt c p w (c 11 3))) := by
  have hn := H.1.1.1
  refine jo_for (c 11 3) jfu (fun i (s : Int × jm) => s.1 = (i : Int) ∧ kZm s.2 c cl (g, f, k, n, kAt c p w i)) (jfu_lt (by omega)) (fun i hi s hs => ?_) (fun s hs => ?_) _ ⟨rfl, H⟩
  · rw [show ja s.2 67 27 = c 11 3 from kM_n hs.2.1 (i := 3) (by decide), hs.1, if_pos (show (i : Int) < (c 11 3 : Int) by omega)]
    refine jo_c (jo_and (sl_229 hs.2.1 hw hi) jx_229) (fun r hr => ⟨?_, kZm_p hs.2 hr.1.2 (fun j _ _ => ja_fr hr.2 (by unfold jW_229; omega))⟩)
    show jw ((i : Int) + 1) = _
    rw [jwn (by omega)]
  · rw [show ja s.2 67 27 = c 11 3 from kM_n hs.2.1 (i := 3) (by decide), hs.1, if_neg (show ¬ ((c 11 3 : Nat) : Int) < (c 11 3 : Int) by omega)]
    exact hs.2
