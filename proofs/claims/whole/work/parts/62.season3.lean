/-! SEASON: the model's run. -/
theorem sl_295 {m : jm} {c : kC} {p : kP} {cl : List Int} {g fog : Int} {N : Nat} (H : kM (kT0 m) c p cl) (hg : jg g) (hN : N ≤ 96) : jo (jf_295 g fog N m) (fun r => kZm r c cl (kZr c cl fog (g, 0, 0, 0, p) N)) := by
  have hn := H.1.1
  unfold jf_295
  rw [sp_226, jsb, jle_eq, jle_eq, jle_eq, jle_eq]
  have HZ : kZm (js (js (js (js (kT0 m) 67 61 g) 67 62 0) 67 63 0) 67 64 0) c cl (g, 0, 0, 0, p) := by
    refine ⟨kM_js (kM_js (kM_js (kM_js H (by unfold kQM; omega)) (by unfold kQM; omega)) (by unfold kQM; omega)) (by unfold kQM; omega), ?_, ?_, ?_, ?_⟩
    · show _ = g
      rw [ja_jsj (by decide), ja_jsj (by decide), ja_jsj (by decide), ja_js1, jw_id hg]
    · show _ = (0 : Int)
      rw [ja_jsj (by decide), ja_jsj (by decide), ja_js1, wz0]
    · show _ = (0 : Int)
      rw [ja_jsj (by decide), ja_js1, wz0]
    · show _ = (0 : Int)
      rw [ja_js1, wz0]
  rw [jo_bind]
  unfold kZr
  by_cases h0 : 0 < c 11 2
  · rw [if_pos h0]
    have hT : 0 < c 11 0 := by have := (H.1.2.2.2.2.1 0 h0).1; omega
    refine jo_for N jfu (fun i (s : Int × jm) => s.1 = ((i + 1 : Nat) : Int) ∧ kZm s.2 c cl (kZn c cl fog (g, 0, 0, 0, p) i)) (jfu_lt (by omega)) (fun i hi s hs => ?_) (fun s hs => ?_) _ ⟨rfl, HZ⟩
    · show jo _ (jcase (fun (s : Int × jm) => s.1 = ((i + 1 + 1 : Nat) : Int) ∧ kZm s.2 c cl (kZs c cl fog (i + 1) (kZn c cl fog (g, 0, 0, 0, p) i))) _)
      obtain ⟨s1, s2⟩ := hs
      generalize kZn c cl fog (g, 0, 0, 0, p) i = z at s2
      obtain ⟨zg, zf, zk, zn, zp⟩ := z
      rw [show ja s.2 67 26 = c 11 2 from kM_n s2.1 (i := 2) (by decide), s1, if_neg (show ¬ (N : Int) < ((i + 1 : Nat) : Int) by omega), if_pos (show (0 : Int) < (c 11 2 : Int) by omega)]
      refine jo_c (sl_296 s2 (by omega) h0) (fun r1 hr1 => ?_)
      obtain ⟨e1, hr1⟩ := hr1
      have hw : kDr (kSd zg) (c 11 2) < c 11 2 := kDr_lt h0
      have ht : kDr (kSd (kSd zg)) (c 11 0) < c 11 0 := kDr_lt hT
      dsimp only at e1 hr1
      obtain ⟨c1, c2⟩ := pmi (a := 36) (i := kDr (kSd zg) (c 11 2)) (by omega)
      have c1' : jw ((36 : Int) + ((kDr (kSd zg) (c 11 2) : Nat) : Int)) = ((36 + kDr (kSd zg) (c 11 2) : Nat) : Int) := c1
      rw [e1, c1', if_pos c2, Int.toNat_natCast, show ja r1.2 67 24 = c 11 0 from kM_n hr1.1 (i := 0) (by decide), show ja r1.2 89 (36 + kDr (kSd zg) (c 11 2)) = zp 4 (kDr (kSd zg) (c 11 2)) from kM_s4 hr1.1 hw, show ja r1.2 67 63 = zk from hr1.2.2.2.1]
      refine jo_c (sl_296 hr1 (by omega) hT) (fun r2 hr2 => ?_)
      obtain ⟨e2, hr2⟩ := hr2
      dsimp only at e2 hr2
      rw [e2]
      refine jo_c (jo_and (sl_234 hr2.1 hw ht) jx_234) (fun r3 hr3 => ?_)
      obtain ⟨⟨e3, hr3⟩, hf3⟩ := hr3
      have q4 : jg (zp 4 (kDr (kSd zg) (c 11 2))) := by rw [← show ja r1.2 89 (36 + kDr (kSd zg) (c 11 2)) = zp 4 (kDr (kSd zg) (c 11 2)) from kM_s4 hr1.1 hw]; exact jg_a
      have hfall := kGo_f (c := c) (cl := cl) (t := kDr (kSd (kSd zg)) (c 11 0)) q4
      dsimp only at e3 hr3
      have e67 : ∀ j, 61 ≤ j → j ≤ 64 → ja r3.2 67 j = ja r2.2 67 j := fun j _ _ => ja_fr hf3 (by unfold jW_234; omega)
      have hb : (if r3.1 = 0 then some (0 : Int) else some 1) = some (b2i (kGo c zp cl (kDr (kSd zg) (c 11 2)) (kDr (kSd (kSd zg)) (c 11 0))).1) := by
        rw [e3]; cases (kGo c zp cl (kDr (kSd zg) (c 11 2)) (kDr (kSd (kSd zg)) (c 11 0))).1 <;> rfl
      rw [hb, jsb, jle_eq, if_pos c2, jle_eq, ja_jsj (show (62 : Nat) ≠ 63 by decide), ja_jsk (show (89 : Nat) ≠ 67 by decide), kM_s4 hr3 hw, hfall, e67 62 (by decide) (by decide), show ja r2.2 67 62 = zf from hr2.2.2.1]
      have H4 : kZm (js (js r3.2 67 63 (jw (zk + b2i (kGo c zp cl (kDr (kSd zg) (c 11 2)) (kDr (kSd (kSd zg)) (c 11 0))).1))) 67 62 (jw (zf + b2i ((kGo c zp cl (kDr (kSd zg) (c 11 2)) (kDr (kSd (kSd zg)) (c 11 0))).1 && decide ((kGo c zp cl (kDr (kSd zg) (c 11 2)) (kDr (kSd (kSd zg)) (c 11 0))).2 2 (kDr (kSd zg) (c 11 2)) = -1))))) c cl (kSd (kSd zg), jw (zf + b2i ((kGo c zp cl (kDr (kSd zg) (c 11 2)) (kDr (kSd (kSd zg)) (c 11 0))).1 && decide ((kGo c zp cl (kDr (kSd zg) (c 11 2)) (kDr (kSd (kSd zg)) (c 11 0))).2 2 (kDr (kSd zg) (c 11 2)) = -1))), jw (zk + b2i (kGo c zp cl (kDr (kSd zg) (c 11 2)) (kDr (kSd (kSd zg)) (c 11 0))).1), zn, (kGo c zp cl (kDr (kSd zg) (c 11 2)) (kDr (kSd (kSd zg)) (c 11 0))).2) := by
        refine ⟨kM_js (kM_js hr3 (by unfold kQM; omega)) (by unfold kQM; omega), ?_, ?_, ?_, ?_⟩
        · rw [ja_jsj (by decide), ja_jsj (by decide), e67 61 (by decide) (by decide)]; exact hr2.2.1
        · rw [ja_js1, jw_w]
        · rw [ja_jsj (by decide), ja_js1, jw_w]
        · rw [ja_jsj (by decide), ja_jsj (by decide), e67 64 (by decide) (by decide)]; exact hr2.2.2.2.2
      refine jo_c (sl_295a H4 hw) (fun r5 hr5 => ?_)
      refine jo_c (sl_295b hr5 hw) (fun r6 hr6 => ?_)
      refine jo_c (sl_296 (n := 16) hr6 (by decide) (by decide)) (fun r7 hr7 => ?_)
      obtain ⟨e7, hr7⟩ := hr7
      dsimp only at e7 hr7
      rw [e7]
      have hfg := kM_fg hr7.1
      have h81 := hr7.1.2.1.1
      dsimp only at hfg h81
      refine jo_c (R := fun M => kZm M c cl (kSd (kSd (kSd zg)), jw (zf + b2i ((kGo c zp cl (kDr (kSd zg) (c 11 2)) (kDr (kSd (kSd zg)) (c 11 0))).1 && decide ((kGo c zp cl (kDr (kSd zg) (c 11 2)) (kDr (kSd (kSd zg)) (c 11 0))).2 2 (kDr (kSd zg) (c 11 2)) = -1))), jw (zk + b2i (kGo c zp cl (kDr (kSd zg) (c 11 2)) (kDr (kSd (kSd zg)) (c 11 0))).1), zn, kZ4 c cl fog (zg, zf, zk, zn, zp))) ?_ (fun r8 hr8 => ?_)
      · show jo _ (fun M => kZm M c cl (_, _, _, _, if ((kDr (kSd (kSd (kSd zg))) 16 : Nat) : Int) < fog then kFo (kZ3 c cl (zg, zf, zk, zn, zp)) else kZ3 c cl (zg, zf, zk, zn, zp)))
        by_cases h : ((kDr (kSd (kSd (kSd zg))) 16 : Nat) : Int) < fog
        · rw [if_pos h, if_pos h, if_pos (show (0 : Int) ≤ 67 ∧ (67 : Int) < 68 by decide), if_pos (show (0 : Int) ≤ 67 ∧ (67 : Int) < 68 by decide), jle_eq, show ja r7.2 89 (67 : Int).toNat = kZ3 c cl (zg, zf, zk, zn, zp) 8 1 from hfg]
          have w1 : jw (1 - kZ3 c cl (zg, zf, zk, zn, zp) 8 1) = 1 - kZ3 c cl (zg, zf, zk, zn, zp) 8 1 := jwi (by have := h81; unfold kZ3 kZg kZw kZt; dsimp only; omega) (by have := h81; unfold kZ3 kZg kZw kZt; dsimp only; omega)
          have H8 := kM_u8 (i := 1) (x := 1 - kZ3 c cl (zg, zf, zk, zn, zp) 8 1) hr7.1 (by decide) (by rw [w1]; exact kVp_fo hr7.1.2.1)
          rw [w1] at H8
          rw [w1]
          exact kZm_p hr7 H8 (fun j _ _ => ja_jsk (by decide))
        · rw [if_neg h, if_neg h]
          exact hr7
      · rw [show jrem ((i + 1 : Nat) : Int) 8 = (((i + 1) % 8 : Nat) : Int) from jrem_n (b := 8) (by omega) (by decide)]
        unfold kZs
        by_cases h : (i + 1) % 8 = 0
        · rw [if_pos (show (((i + 1) % 8 : Nat) : Int) = 0 by omega), if_pos h, jo_bind, jo_bind]
          refine jo_mono (jo_and (sl_243 hr8.1) jx_243) (fun r9 hr9 => ?_)
          have hz := kZm_p hr8 hr9.1 (fun j _ _ => ja_fr hr9.2 (by unfold jW_243; omega))
          obtain ⟨a0, a1, a2, a3, a4⟩ := hz
          refine ⟨?_, kM_js a0 (by unfold kQM; omega), ?_, ?_, ?_, ?_⟩
          · show jw (((i + 1 : Nat) : Int) + 1) = _
            rw [jwn (by omega)]
          · rw [ja_jsj (by decide)]; exact a1
          · rw [ja_jsj (by decide)]; exact a2
          · rw [ja_jsj (by decide)]; exact a3
          · rw [ja_js1, jw_w, a4]
        · rw [if_neg (show ¬ (((i + 1) % 8 : Nat) : Int) = 0 by omega), if_neg h, jsb]
          refine ⟨?_, hr8⟩
          show jw (((i + 1 : Nat) : Int) + 1) = _
          rw [jwn (by omega)]
    · rw [if_pos (show (N : Int) < s.1 by rw [hs.1]; omega)]
      exact hs.2
  · rw [if_neg h0]
    refine jo_for 0 jfu (fun i (s : Int × jm) => s.1 = 1 ∧ kZm s.2 c cl (g, 0, 0, 0, p)) (jfu_lt (by omega)) (fun i hi s hs => absurd hi (Nat.not_lt_zero _)) (fun s hs => ?_) _ ⟨rfl, HZ⟩
    by_cases hx : (N : Int) < s.1
    · rw [if_pos hx]; exact hs.2
    · rw [if_neg hx, if_neg (show ¬ (0 : Int) < ja s.2 67 26 by rw [show ja s.2 67 26 = c 11 2 from kM_n hs.2.1 (i := 2) (by decide)]; omega)]
      exact hs.2
