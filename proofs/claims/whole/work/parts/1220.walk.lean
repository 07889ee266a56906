/-! the pure machine follows the functions, 21 (written by wip/whole/gen/walk.py) -/
set_option maxRecDepth 20000 in
set_option maxHeartbeats 1000000 in
theorem jc_293 {X : Nat × (Nat → Int32)} {N d : Nat} {x0 : Int} {x1 : Int} {x2 : Int} {x3 : Int} (hN : 102 ≤ N) (hd : 9 ≤ d) (hx0 : jg x0) (hx1 : jg x1) (hx2 : jg x2) (hx3 : jg x3) {m : jm} {P : Int × jm → Prop} {Q : px_Q} (h : jo (jf_293 x0 x1 x2 x3 m) P) (hQ : ∀ p : Int × jm, jg p.1 → P p → Q (.inl (some (jv p.1))) (jmem N p.2)) : px_C X d 293 [.ref 67, jv x0, jv x1, jv x2, jv x3] (jmem N m) Q := by
  unfold jf_293 at h
  have hu : ju px_m293 (0, 0) := ju_0
  refine jr_in (M := px_m293) (lev := 8) (L := [some (.ref 67), some (jv x0), some (jv x1), some (jv x2), some (jv x3)]) hd rfl jbd_293 (jl rfl) rfl (fun d hd Q' hQ' => ?_)
  refine jr_al_n (pc' := 1) rfl rfl rfl (jr_ic (pc' := 2) rfl rfl (jr_pi (pc' := 5) rfl rfl jlk_12_3 (.inl rfl) rfl hN jd_67 rfl rfl ?_))
  refine jr_le h (fun m1 h => ?_)
  refine jr_al_n (pc' := 6) rfl rfl rfl (jr_il_n (pc' := 7) rfl rfl rfl (jr_il_n (pc' := 8) rfl rfl rfl ?_))
  refine jr_cs_p (pc' := 11) [_] rfl rfl jlk_12_503 jq_294 jbd_294 (jl rfl) rfl (jl rfl) hu (fun Q' hq => jc_294 hN (Nat.le_trans (jl rfl) hd) hx1 hx2 (jo_b h) hq) (fun p2 hp2 h => ?_)
  refine jr_reg (fun t3 => jb t3) (fun t3 => jp X (px_C X d) px_m293 Q' N 29 [some (.ref 67), some (jv x0), some (jv x1), some (jv x2), some (jv x3)] [(jv t3), (.ref 67)] m1 (0, 0)) h (fun t3 ht3 h => ?_) (fun R32 k4 h => ?_)
  · refine jr_ic (pc' := 30) rfl rfl (jr_ic (pc' := 31) rfl rfl ?_)
    refine jr_cv_i (pc' := 34) [] rfl rfl jlk_12_233 jq_194 jbd_194 (jl rfl) rfl (jl rfl) hu rfl (jk rfl hN) (jd_67.trans jo_194.symm) (fun Q' hq => jc_194 hN (Nat.le_trans (jl rfl) hd) (jg_b ht3) jgc_1 jgc_1 (jo_b h) hq) (fun p16 hp16 h => ?_)
    refine jr_zne (pa := 37) (pb := 39) rfl rfl rfl (jg_b hp16) h (fun hc h => ?_) (fun hc h => ?_)
    · refine jr_ic (pc' := 38) rfl rfl ?_
      exact jr_ret rfl hu rfl (hQ' _ _ (hQ ((0 : Int), p16.2) jgc_0 h))
    · refine jr_al_n (pc' := 40) rfl rfl rfl (jr_il_n (pc' := 41) rfl rfl rfl (jr_il_n (pc' := 42) rfl rfl rfl (jr_il_n (pc' := 43) rfl rfl rfl ?_)))
      refine jr_cv_v (pc' := 46) [] rfl rfl jlk_12_506 jq_295 jbd_295 (jl rfl) rfl (jl rfl) hu rfl (jk rfl hN) (jd_67.trans jo_295.symm) (fun Q' hq => jc_295 hN (Nat.le_trans (jl rfl) hd) hx0 hx1 hx2 (jo_b h) hq) (fun p17 hp17 h => ?_)
      refine jr_il (pc' := 48) rfl rfl rfl ?_
      refine jr_reg (fun t18 => jg t18) (fun t18 => jp X (px_C X d) px_m293 Q' N 88 [some (.ref 67), some (jv x0), some (jv x1), some (jv x2), some (jv x3)] [(jv t18)] p17 (0, 0)) h (fun t18 ht18 h => ?_) (fun R31 k19 h => ?_)
      · exact jr_ret rfl hu rfl (hQ' _ _ (hQ (t18, p17) ht18 h))
      · refine jr_zne (pa := 51) (pb := 58) rfl rfl rfl hx3 h (fun hc h => ?_) (fun hc h => ?_)
        · refine jr_al_n (pc' := 52) rfl rfl rfl ?_
          refine jr_cv_p (pc' := 55) [] rfl rfl jlk_12_417 jq_248 jbd_248 (jl rfl) rfl (jl rfl) hu rfl (jk rfl hN) (jd_67.trans jo_248.symm) (fun Q' hq => jc_248 hN (Nat.le_trans (jl rfl) hd)  (jo_b h) hq) (fun p20 hp20 h => ?_)
          refine jr_goto (pc' := 88) rfl rfl ?_
          exact k19 (p20) hp20 h
        · refine jr_il (pc' := 60) rfl rfl rfl (jr_ic (pc' := 61) rfl rfl ?_)
          refine jr_cne (pa := 64) (pb := 71) rfl rfl rfl hx3 jgc_1 h (fun hc h => ?_) (fun hc h => ?_)
          · refine jr_al_n (pc' := 65) rfl rfl rfl (jr_gi (pc' := 68) rfl rfl jlk_12_491 (.inl rfl) rfl hN jd_67 rfl rfl (jr_goto (pc' := 88) rfl rfl ?_))
            exact k19 (ja p17 67 62) jg_a h
          · refine jr_il (pc' := 73) rfl rfl rfl (jr_ic (pc' := 74) rfl rfl ?_)
            refine jr_cne (pa := 77) (pb := 84) rfl rfl rfl hx3 jgc_2 h (fun hc h => ?_) (fun hc h => ?_)
            · refine jr_al_n (pc' := 78) rfl rfl rfl (jr_gi (pc' := 81) rfl rfl jlk_12_494 (.inl rfl) rfl hN jd_67 rfl rfl (jr_goto (pc' := 88) rfl rfl ?_))
              exact k19 (ja p17 67 63) jg_a h
            · refine jr_al_n (pc' := 85) rfl rfl rfl (jr_gi (pc' := 88) rfl rfl jlk_12_497 (.inl rfl) rfl hN jd_67 rfl rfl ?_)
              exact k19 (ja p17 67 64) jg_a h
  · refine jr_zeq (pa := 28) (pb := 14) rfl rfl rfl (jg_b hp2) h (fun hc h => ?_) (fun hc h => ?_)
    · refine jr_ic (pc' := 29) rfl rfl ?_
      exact k4 ((0 : Int)) jb_0 h
    · refine jr_il (pc' := 16) rfl rfl rfl (jr_ic (pc' := 17) rfl rfl (jr_ic (pc' := 18) rfl rfl ?_))
      refine jr_cs_p (pc' := 21) [_] rfl rfl jlk_12_414 jq_247 jbd_247 (jl rfl) rfl (jl rfl) hu (fun Q' hq => jc_247 hN (Nat.le_trans (jl rfl) hd) hx3 jgc_0 jgc_3 (jo_b h) hq) (fun p5 hp5 h => ?_)
      refine jr_zeq (pa := 28) (pb := 24) rfl rfl rfl (jg_b hp5) h (fun hc h => ?_) (fun hc h => ?_)
      · refine jr_ic (pc' := 29) rfl rfl ?_
        exact k4 ((0 : Int)) jb_0 h
      · refine jr_ic (pc' := 25) rfl rfl (jr_goto (pc' := 29) rfl rfl ?_)
        exact k4 ((1 : Int)) jb_1 h

set_option maxRecDepth 20000 in
set_option maxHeartbeats 1000000 in
theorem jc_297 {X : Nat × (Nat → Int32)} {N d : Nat} {x0 : Int} {x1 : Int} {x2 : Int} {x3 : Int} {x4 : Int} (hN : 102 ≤ N) (hd : 9 ≤ d) (hx0 : jg x0) (hx1 : jg x1) (hx2 : jg x2) (hx3 : jg x3) (hx4 : jg x4) {m : jm} {P : Int × jm → Prop} {Q : px_Q} (h : jo (jf_297 x0 x1 x2 x3 x4 m) P) (hQ : ∀ p : Int × jm, jg p.1 → P p → Q (.inl (some (jv p.1))) (jmem N p.2)) : px_C X d 297 [.ref 67, jv x0, jv x1, jv x2, jv x3, jv x4] (jmem N m) Q := by
  unfold jf_297 at h
  have hu : ju px_m297 (0, 0) := ju_0
  refine jr_in (M := px_m297) (lev := 8) (L := [some (.ref 67), some (jv x0), some (jv x1), some (jv x2), some (jv x3), some (jv x4), none, none, none, none, none]) hd rfl jbd_297 (jl rfl) rfl (fun d hd Q' hQ' => ?_)
  refine jr_al_n (pc' := 1) rfl rfl rfl (jr_ic (pc' := 2) rfl rfl (jr_pi (pc' := 5) rfl rfl jlk_12_3 (.inl rfl) rfl hN jd_67 rfl rfl ?_))
  refine jr_le h (fun m1 h => ?_)
  refine jr_al_n (pc' := 6) rfl rfl rfl (jr_il_n (pc' := 7) rfl rfl rfl (jr_ic (pc' := 8) rfl rfl (jr_bi (pc' := 10) rfl rfl rfl ?_)))
  refine jr_cs_p (pc' := 13) [_] rfl rfl jlk_12_414 jq_247 jbd_247 (jl rfl) rfl (jl rfl) hu (fun Q' hq => jc_247 hN (Nat.le_trans (jl rfl) hd) hx1 jgc_1 jgc_20 (jo_b h) hq) (fun p2 hp2 h => ?_)
  refine jr_reg (fun t3 => jb t3) (fun t3 => jp X (px_C X d) px_m297 Q' N 40 [some (.ref 67), some (jv x0), some (jv x1), some (jv x2), some (jv x3), some (jv x4), none, none, none, none, none] [(jv t3), (.ref 67)] m1 (0, 0)) h (fun t3 ht3 h => ?_) (fun R92 k4 h => ?_)
  · refine jr_ic (pc' := 41) rfl rfl (jr_ic (pc' := 42) rfl rfl ?_)
    refine jr_cv_i (pc' := 45) [] rfl rfl jlk_12_233 jq_194 jbd_194 (jl rfl) rfl (jl rfl) hu rfl (jk rfl hN) (jd_67.trans jo_194.symm) (fun Q' hq => jc_194 hN (Nat.le_trans (jl rfl) hd) (jg_b ht3) jgc_1 jgc_1 (jo_b h) hq) (fun p17 hp17 h => ?_)
    refine jr_zne (pa := 48) (pb := 50) rfl rfl rfl (jg_b hp17) h (fun hc h => ?_) (fun hc h => ?_)
    · refine jr_ic (pc' := 49) rfl rfl ?_
      exact jr_ret rfl hu rfl (hQ' _ _ (hQ ((0 : Int), p17.2) jgc_0 h))
    · refine jr_ic (pc' := 51) rfl rfl (jr_is (pc' := 53) (L' := [_, _, _, _, _, _, _, _, _, _, _]) rfl rfl (jl rfl) rfl rfl (jr_ic (pc' := 54) rfl rfl (jr_is (pc' := 56) (L' := [_, _, _, _, _, _, _, _, _, _, _]) rfl rfl (jl rfl) rfl rfl (jr_ic (pc' := 57) rfl rfl (jr_is (pc' := 59) (L' := [_, _, _, _, _, _, _, _, _, _, _]) rfl rfl (jl rfl) rfl rfl ?_)))))
      refine jr_ic (pc' := 60) rfl rfl (jr_is (pc' := 62) (L' := [_, _, _, _, _, _, _, _, _, _, _]) rfl rfl (jl rfl) rfl rfl ?_)
      refine jr_reg (fun t22 => jg t22.1 ∧ jg t22.2.1 ∧ jg t22.2.2.1) (fun t22 => ∀ o23, jn o23 → ∀ o24, jn o24 → jp X (px_C X d) px_m297 Q' N 149 [some (.ref 67), some (jv x0), some (jv x1), some (jv x2), some (jv x3), some (jv x4), some (jv t22.1), some (jv t22.2.1), some (jv t22.2.2.1), o23, o24] [] t22.2.2.2 (0, 0)) h (fun t22 ht22 h o23 ho23 o24 ho24 => ?_) (fun R26 k25 h => ?_)
      · refine jr_il (pc' := 151) rfl rfl rfl ?_
        refine jr_reg (fun t79 => jg t79) (fun t79 => jp X (px_C X d) px_m297 Q' N 172 [some (.ref 67), some (jv x0), some (jv x1), some (jv x2), some (jv x3), some (jv x4), some (jv t22.1), some (jv t22.2.1), some (jv t22.2.2.1), o23, o24] [(jv t79)] t22.2.2.2 (0, 0)) h (fun t79 ht79 h => ?_) (fun R91 k80 h => ?_)
        · exact jr_ret rfl hu rfl (hQ' _ _ (hQ (t79, t22.2.2.2) ht79 h))
        · refine jr_zne (pa := 154) (pb := 159) rfl rfl rfl hx4 h (fun hc h => ?_) (fun hc h => ?_)
          · refine jr_il (pc' := 156) rfl rfl rfl (jr_goto (pc' := 172) rfl rfl ?_)
            exact k80 (t22.1) ht22.1 h
          · refine jr_il (pc' := 161) rfl rfl rfl (jr_ic (pc' := 162) rfl rfl ?_)
            refine jr_cne (pa := 165) (pb := 170) rfl rfl rfl hx4 jgc_1 h (fun hc h => ?_) (fun hc h => ?_)
            · refine jr_il (pc' := 167) rfl rfl rfl (jr_goto (pc' := 172) rfl rfl ?_)
              exact k80 (t22.2.1) ht22.2.1 h
            · refine jr_il (pc' := 172) rfl rfl rfl ?_
              exact k80 (t22.2.2.1) ht22.2.2 h
      · refine jr_lp (fun s18 => jg s18.1 ∧ jg s18.2.1 ∧ jg s18.2.2.1 ∧ jg s18.2.2.2.1) (fun s18 => ∀ o19, jn o19 → jp X (px_C X d) px_m297 Q' N 62 [some (.ref 67), some (jv x0), some (jv x1), some (jv x2), some (jv x3), some (jv x4), some (jv s18.1), some (jv s18.2.1), some (jv s18.2.2.1), some (jv s18.2.2.2.1), o19] [] s18.2.2.2.2 (0, 0)) h ⟨jgc_m1, jgc_0, jgc_0, jgc_0⟩ (fun s18 hs18 R21 k20 h o19 ho19 => ?_) _ jn_n
        refine jr_il (pc' := 64) rfl rfl rfl (jr_il_n (pc' := 65) rfl rfl rfl ?_)
        refine jr_cge (pa := 68) (pb := 149) rfl rfl rfl hs18.2.2.2 hx1 h (fun hc h => ?_) (fun hc h => ?_)
        · refine jr_al_n (pc' := 69) rfl rfl rfl (jr_il_n (pc' := 70) rfl rfl rfl (jr_il (pc' := 72) rfl rfl rfl (jr_add (pc' := 73) rfl rfl (jr_il_n (pc' := 74) rfl rfl rfl (jr_il (pc' := 76) rfl rfl rfl ?_)))))
          refine jr_cv_v (pc' := 79) [] rfl rfl jlk_12_506 jq_295 jbd_295 (jl rfl) rfl (jl rfl) hu rfl (jk rfl hN) (jd_67.trans jo_295.symm) (fun Q' hq => jc_295 hN (Nat.le_trans (jl rfl) hd) jg_w hx2 hx3 (jo_b h) hq) (fun p27 hp27 h => ?_)
          refine jr_al_n (pc' := 80) rfl rfl rfl ?_
          refine jr_cv_p (pc' := 83) [] rfl rfl jlk_12_417 jq_248 jbd_248 (jl rfl) rfl (jl rfl) hu rfl (jk rfl hN) (jd_67.trans jo_248.symm) (fun Q' hq => jc_248 hN (Nat.le_trans (jl rfl) hd)  (jo_b h) hq) (fun p28 hp28 h => ?_)
          refine jr_cs_p (pc' := 86) [] rfl rfl jlk_12_466 jq_279 jbd_279 (jl rfl) rfl (jl rfl) hu (fun Q' hq => jc_279 hN (Nat.le_trans (jl rfl) hd) hp28 (jo_b h) hq) (fun p29 hp29 h => ?_)
          refine jr_is (pc' := 88) (L' := [_, _, _, _, _, _, _, _, _, _, _]) rfl rfl (jl rfl) rfl rfl (jr_il (pc' := 90) rfl rfl rfl (jr_ic (pc' := 91) rfl rfl ?_))
          refine jr_reg (fun t30 => jg t30) (fun t30 => jp X (px_C X d) px_m297 Q' N 108 [some (.ref 67), some (jv x0), some (jv x1), some (jv x2), some (jv x3), some (jv x4), some (jv s18.1), some (jv s18.2.1), some (jv s18.2.2.1), some (jv s18.2.2.2.1), some (jv p29)] [(jv t30)] p27 (0, 0)) h (fun t30 ht30 h => ?_) (fun R68 k31 h => ?_)
          · refine jr_is (pc' := 110) (L' := [_, _, _, _, _, _, _, _, _, _, _]) rfl rfl (jl rfl) rfl rfl (jr_il (pc' := 112) rfl rfl rfl (jr_il (pc' := 114) rfl rfl rfl ?_))
            refine jr_reg (fun t42 => jg t42) (fun t42 => jp X (px_C X d) px_m297 Q' N 124 [some (.ref 67), some (jv x0), some (jv x1), some (jv x2), some (jv x3), some (jv x4), some (jv t30), some (jv s18.2.1), some (jv s18.2.2.1), some (jv s18.2.2.2.1), some (jv p29)] [(jv t42)] p27 (0, 0)) h (fun t42 ht42 h => ?_) (fun R67 k43 h => ?_)
            · refine jr_is (pc' := 126) (L' := [_, _, _, _, _, _, _, _, _, _, _]) rfl rfl (jl rfl) rfl rfl (jr_il (pc' := 128) rfl rfl rfl (jr_al_n (pc' := 129) rfl rfl rfl (jr_gi (pc' := 132) rfl rfl jlk_12_491 (.inl rfl) rfl hN jd_67 rfl rfl ?_)))
              refine jr_reg (fun t54 => jb t54) (fun t54 => jp X (px_C X d) px_m297 Q' N 140 [some (.ref 67), some (jv x0), some (jv x1), some (jv x2), some (jv x3), some (jv x4), some (jv t30), some (jv t42), some (jv s18.2.2.1), some (jv s18.2.2.2.1), some (jv p29)] [(jv t54), (jv s18.2.2.1)] p27 (0, 0)) h (fun t54 ht54 h => ?_) (fun R66 k55 h => ?_)
              · refine jr_add (pc' := 141) rfl rfl (jr_is (pc' := 143) (L' := [_, _, _, _, _, _, _, _, _, _, _]) rfl rfl (jl rfl) rfl rfl (jr_inc (pc' := 146) (L' := [_, _, _, _, _, _, _, _, _, _, _]) rfl rfl rfl (jl rfl) rfl rfl (jr_goto (pc' := 62) rfl rfl ?_)))
                exact k20 (t30, t42, jw (s18.2.2.1 + t54), jw (s18.2.2.2.1 + 1), p27) ⟨ht30, ht42, jg_w, jg_w⟩ h _ jn_i
              · refine jr_zne (pa := 135) (pb := 139) rfl rfl rfl jg_a h (fun hc h => ?_) (fun hc h => ?_)
                · refine jr_ic (pc' := 136) rfl rfl (jr_goto (pc' := 140) rfl rfl ?_)
                  exact k55 ((1 : Int)) jb_1 h
                · refine jr_ic (pc' := 140) rfl rfl ?_
                  exact k55 ((0 : Int)) jb_0 h
            · refine jr_cle (pa := 117) (pb := 122) rfl rfl rfl hp29 hs18.2.1 h (fun hc h => ?_) (fun hc h => ?_)
              · refine jr_il (pc' := 119) rfl rfl rfl (jr_goto (pc' := 124) rfl rfl ?_)
                exact k43 (p29) hp29 h
              · refine jr_il (pc' := 124) rfl rfl rfl ?_
                exact k43 (s18.2.1) hs18.2.1 h
          · refine jr_ceq (pa := 101) (pb := 94) rfl rfl rfl hs18.1 jgc_m1 h (fun hc h => ?_) (fun hc h => ?_)
            · refine jr_il (pc' := 103) rfl rfl rfl (jr_goto (pc' := 108) rfl rfl ?_)
              exact k31 (p29) hp29 h
            · refine jr_il (pc' := 96) rfl rfl rfl (jr_il (pc' := 98) rfl rfl rfl ?_)
              refine jr_cge (pa := 101) (pb := 106) rfl rfl rfl hp29 hs18.1 h (fun hc h => ?_) (fun hc h => ?_)
              · refine jr_il (pc' := 103) rfl rfl rfl (jr_goto (pc' := 108) rfl rfl ?_)
                exact k31 (p29) hp29 h
              · refine jr_il (pc' := 108) rfl rfl rfl ?_
                exact k31 (s18.1) hs18.1 h
        · exact k25 (s18.1, s18.2.1, s18.2.2.1, s18.2.2.2.2) ⟨hs18.1, hs18.2.1, hs18.2.2.1⟩ h _ jn_i _ ho19
  · refine jr_zeq (pa := 39) (pb := 16) rfl rfl rfl (jg_b hp2) h (fun hc h => ?_) (fun hc h => ?_)
    · refine jr_ic (pc' := 40) rfl rfl ?_
      exact k4 ((0 : Int)) jb_0 h
    · refine jr_il_n (pc' := 17) rfl rfl rfl (jr_il (pc' := 19) rfl rfl rfl ?_)
      refine jr_cs_p (pc' := 22) [_] rfl rfl jlk_12_503 jq_294 jbd_294 (jl rfl) rfl (jl rfl) hu (fun Q' hq => jc_294 hN (Nat.le_trans (jl rfl) hd) hx2 hx3 (jo_b h) hq) (fun p5 hp5 h => ?_)
      refine jr_zeq (pa := 39) (pb := 25) rfl rfl rfl (jg_b hp5) h (fun hc h => ?_) (fun hc h => ?_)
      · refine jr_ic (pc' := 40) rfl rfl ?_
        exact k4 ((0 : Int)) jb_0 h
      · refine jr_il (pc' := 27) rfl rfl rfl (jr_ic (pc' := 28) rfl rfl (jr_ic (pc' := 29) rfl rfl ?_))
        refine jr_cs_p (pc' := 32) [_] rfl rfl jlk_12_414 jq_247 jbd_247 (jl rfl) rfl (jl rfl) hu (fun Q' hq => jc_247 hN (Nat.le_trans (jl rfl) hd) hx4 jgc_0 jgc_2 (jo_b h) hq) (fun p6 hp6 h => ?_)
        refine jr_zeq (pa := 39) (pb := 35) rfl rfl rfl (jg_b hp6) h (fun hc h => ?_) (fun hc h => ?_)
        · refine jr_ic (pc' := 40) rfl rfl ?_
          exact k4 ((0 : Int)) jb_0 h
        · refine jr_ic (pc' := 36) rfl rfl (jr_goto (pc' := 40) rfl rfl ?_)
          exact k4 ((1 : Int)) jb_1 h

set_option maxRecDepth 20000 in
set_option maxHeartbeats 1000000 in
theorem jc_300 {X : Nat × (Nat → Int32)} {N d : Nat} {x0 : Int} {a1 : Nat} {x2 : Int} {x3 : Int} (hN : 102 ≤ N) (hd : 1 ≤ d) (hx0 : jg x0) (ha1 : a1 < 102 ∧ px_kd a1 = 20) (hx2 : jg x2) (hx3 : jg x3) {m : jm} {P : Int × jm → Prop} {Q : px_Q} (h : jo (jf_300 x0 a1 x2 x3 m) P) (hQ : ∀ p : Int × jm, jg p.1 → P p → Q (.inl (some (jv p.1))) (jmem N p.2)) : px_C X d 300 [.ref 67, jv x0, .ref a1, jv x2, jv x3] (jmem N m) Q := by
  unfold jf_300 at h
  have hu : ju px_m300 (0, 0) := ju_0
  refine jr_in (M := px_m300) (lev := 0) (L := [some (.ref 67), some (jv x0), some (.ref a1), some (jv x2), some (jv x3), none]) hd rfl jbd_300 (jl rfl) rfl (fun d hd Q' hQ' => ?_)
  refine jr_ic (pc' := 1) rfl rfl (jr_is (pc' := 3) (L' := [_, _, _, _, _, _]) rfl rfl (jl rfl) rfl rfl ?_)
  refine jr_reg (fun t4 => True) (fun t4 => ∀ o5, jn o5 → jp X (px_C X d) px_m300 Q' N 49 [some (.ref 67), some (jv x0), some (.ref a1), some (jv x2), some (jv x3), o5] [] t4 (0, 0)) h (fun t4 ht4 h o5 ho5 => ?_) (fun R7 k6 h => ?_)
  · refine jr_il_n (pc' := 50) rfl rfl rfl (jr_il_n (pc' := 51) rfl rfl rfl (jr_add (pc' := 52) rfl rfl ?_))
    exact jr_ret rfl hu rfl (hQ' _ _ (hQ (jw (x0 + x2), t4) jg_w h))
  · refine jr_lp (fun s1 => jg s1.1) (fun s1 => jp X (px_C X d) px_m300 Q' N 3 [some (.ref 67), some (jv x0), some (.ref a1), some (jv x2), some (jv x3), some (jv s1.1)] [] s1.2 (0, 0)) h jgc_0 (fun s1 hs1 R3 k2 h => ?_)
    refine jr_il (pc' := 5) rfl rfl rfl (jr_il_n (pc' := 6) rfl rfl rfl ?_)
    refine jr_cge (pa := 9) (pb := 49) rfl rfl rfl hs1 hx2 h (fun hc h => ?_) (fun hc h => ?_)
    · refine jr_il (pc' := 11) rfl rfl rfl ?_
      refine jr_reg (fun t8 => True) (fun t8 => jp X (px_C X d) px_m300 Q' N 43 [some (.ref 67), some (jv x0), some (.ref a1), some (jv x2), some (jv x3), some (jv s1.1)] [] t8 (0, 0)) h (fun t8 ht8 h => ?_) (fun R22 k9 h => ?_)
      · refine jr_inc (pc' := 46) (L' := [_, _, _, _, _, _]) rfl rfl rfl (jl rfl) rfl rfl (jr_goto (pc' := 3) rfl rfl ?_)
        exact k2 (jw (s1.1 + 1), t8) jg_w h
      · refine jr_zeq (pa := 30) (pb := 14) rfl rfl rfl hx3 h (fun hc h => ?_) (fun hc h => ?_)
        · refine jr_al_n (pc' := 31) rfl rfl rfl (jr_il (pc' := 33) rfl rfl rfl (jr_al_n (pc' := 34) rfl rfl rfl (jr_gr (pc' := 37) (r := 101) rfl rfl jlk_12_117 (.inl rfl) rfl hN jd_67 rfl rfl rfl (jr_il_n (pc' := 38) rfl rfl rfl (jr_il (pc' := 40) rfl rfl rfl ?_)))))
          refine jr_add (pc' := 41) rfl rfl ?_
          refine jr_ia (pc' := 42) rfl rfl (jl rfl) hN jd_101 jn_101 jg_w h (fun hc h => ?_)
          refine jr_ist (pc' := 43) rfl rfl ha1.1 hN ha1.2 rfl hs1 h (fun hc h => ?_)
          refine jr_le h (fun m10 h => ?_)
          exact k9 (m10) trivial h
        · refine jr_al_n (pc' := 15) rfl rfl rfl (jr_gr (pc' := 18) (r := 101) rfl rfl jlk_12_117 (.inl rfl) rfl hN jd_67 rfl rfl rfl (jr_il_n (pc' := 19) rfl rfl rfl (jr_il (pc' := 21) rfl rfl rfl (jr_add (pc' := 22) rfl rfl (jr_al_n (pc' := 23) rfl rfl rfl ?_)))))
          refine jr_il (pc' := 25) rfl rfl rfl ?_
          refine jr_ia (pc' := 26) rfl rfl ha1.1 hN ha1.2 rfl hs1 h (fun hc h => ?_)
          refine jr_ist (pc' := 27) rfl rfl (jl rfl) hN jd_101 jn_101 jg_w h (fun hc h => ?_)
          refine jr_le h (fun m11 h => ?_)
          refine jr_goto (pc' := 43) rfl rfl ?_
          exact k9 (m11) trivial h
    · exact k6 (s1.2) trivial h _ jn_i

set_option maxRecDepth 20000 in
set_option maxHeartbeats 1000000 in
theorem jc_299 {X : Nat × (Nat → Int32)} {N d : Nat} {x0 : Int} {x1 : Int} (hN : 102 ≤ N) (hd : 2 ≤ d) (hx0 : jg x0) (hx1 : jg x1) {m : jm} {P : jm → Prop} {Q : px_Q} (h : jo (jf_299 x0 x1 m) P) (hQ : ∀ p : jm, True → P p → Q (.inl (none)) (jmem N p)) : px_C X d 299 [.ref 67, jv x0, jv x1] (jmem N m) Q := by
  unfold jf_299 at h
  have hu : ju px_m299 (0, 0) := ju_0
  refine jr_in (M := px_m299) (lev := 1) (L := [some (.ref 67), some (jv x0), some (jv x1), none]) hd rfl jbd_299 (jl rfl) rfl (fun d hd Q' hQ' => ?_)
  refine jr_al_n (pc' := 1) rfl rfl rfl (jr_si (pc' := 4) rfl rfl rfl (jr_il_n (pc' := 5) rfl rfl rfl (jr_mul (pc' := 6) rfl rfl (jr_al_n (pc' := 7) rfl rfl rfl (jr_gr (pc' := 10) (r := 88) rfl rfl jlk_12_77 (.inl rfl) rfl hN jd_67 rfl rfl rfl ?_)))))
  refine jr_bi (pc' := 12) rfl rfl rfl (jr_il_n (pc' := 13) rfl rfl rfl ?_)
  refine jr_cv_i (pc' := 16) [] rfl rfl jlk_12_509 jq_300 jbd_300 (jl rfl) rfl (jl rfl) hu rfl (jk rfl hN) (jd_67.trans jo_300.symm) (fun Q' hq => jc_300 hN (Nat.le_trans (jl rfl) hd) jg_w ⟨jl rfl, jd_88⟩ jgc_68 hx1 (jo_b h) hq) (fun p1 hp1 h => ?_)
  refine jr_is_n (pc' := 17) (L' := [_, _, _, _]) rfl rfl (jl rfl) rfl rfl (jr_al_n (pc' := 18) rfl rfl rfl (jr_il_n (pc' := 19) rfl rfl rfl (jr_al_n (pc' := 20) rfl rfl rfl (jr_gr (pc' := 23) (r := 90) rfl rfl jlk_12_83 (.inl rfl) rfl hN jd_67 rfl rfl rfl (jr_si (pc' := 26) rfl rfl rfl ?_)))))
  refine jr_il_n (pc' := 27) rfl rfl rfl ?_
  refine jr_cv_i (pc' := 30) [] rfl rfl jlk_12_509 jq_300 jbd_300 (jl rfl) rfl (jl rfl) hu rfl (jk rfl hN) (jd_67.trans jo_300.symm) (fun Q' hq => jc_300 hN (Nat.le_trans (jl rfl) hd) hp1 ⟨jl rfl, jd_90⟩ jgc_1088 hx1 (jo_b h) hq) (fun p2 hp2 h => ?_)
  refine jr_is_n (pc' := 31) (L' := [_, _, _, _]) rfl rfl (jl rfl) rfl rfl (jr_il_n (pc' := 32) rfl rfl rfl ?_)
  refine jr_reg (fun t3 => True) (fun t3 => jp X (px_C X d) px_m299 Q' N 58 [some (.ref 67), some (jv x0), some (jv x1), some (jv p2.1)] [] t3 (0, 0)) h (fun t3 ht3 h => ?_) (fun R17 k4 h => ?_)
  · exact jr_rv rfl hu rfl (hQ' _ _ (hQ t3 trivial h))
  · refine jr_zeq (pa := 48) (pb := 35) rfl rfl rfl hx1 h (fun hc h => ?_) (fun hc h => ?_)
    · refine jr_al_n (pc' := 49) rfl rfl rfl (jr_al_n (pc' := 50) rfl rfl rfl (jr_gr (pc' := 53) (r := 101) rfl rfl jlk_12_117 (.inl rfl) rfl hN jd_67 rfl rfl rfl (jr_il_n (pc' := 54) rfl rfl rfl ?_)))
      refine jr_ia (pc' := 55) rfl rfl (jl rfl) hN jd_101 jn_101 hp2 h (fun hc h => ?_)
      refine jr_pi (pc' := 58) rfl rfl jlk_12_206 (.inl rfl) rfl hN jd_67 rfl rfl ?_
      refine jr_le h (fun m5 h => ?_)
      exact k4 (m5) trivial h
    · refine jr_al_n (pc' := 36) rfl rfl rfl (jr_gr (pc' := 39) (r := 101) rfl rfl jlk_12_117 (.inl rfl) rfl hN jd_67 rfl rfl rfl (jr_il_n (pc' := 40) rfl rfl rfl (jr_al_n (pc' := 41) rfl rfl rfl (jr_gi (pc' := 44) rfl rfl jlk_12_206 (.inl rfl) rfl hN jd_67 rfl rfl ?_))))
      refine jr_ist (pc' := 45) rfl rfl (jl rfl) hN jd_101 jn_101 hp2 h (fun hc h => ?_)
      refine jr_le h (fun m6 h => ?_)
      refine jr_goto (pc' := 58) rfl rfl ?_
      exact k4 (m6) trivial h

set_option maxRecDepth 20000 in
set_option maxHeartbeats 1000000 in
theorem jc_298 {X : Nat × (Nat → Int32)} {N d : Nat}  (hN : 102 ≤ N) (hd : 3 ≤ d)  {m : jm} {P : Int × jm → Prop} {Q : px_Q} (h : jo (jf_298 m) P) (hQ : ∀ p : Int × jm, jg p.1 → P p → Q (.inl (some (jv p.1))) (jmem N p.2)) : px_C X d 298 [.ref 67] (jmem N m) Q := by
  unfold jf_298 at h
  have hu : ju px_m298 (0, 0) := ju_0
  refine jr_in (M := px_m298) (lev := 2) (L := [some (.ref 67)]) hd rfl jbd_298 (jl rfl) rfl (fun d hd Q' hQ' => ?_)
  refine jr_al_n (pc' := 1) rfl rfl rfl (jr_ic (pc' := 2) rfl rfl (jr_pi (pc' := 5) rfl rfl jlk_12_3 (.inl rfl) rfl hN jd_67 rfl rfl ?_))
  refine jr_le h (fun m1 h => ?_)
  refine jr_al_n (pc' := 6) rfl rfl rfl (jr_gi (pc' := 9) rfl rfl jlk_12_209 (.inl rfl) rfl hN jd_67 rfl rfl (jr_ic (pc' := 10) rfl rfl ?_))
  refine jr_cne (pa := 13) (pb := 15) rfl rfl rfl jg_a jgc_3 h (fun hc h => ?_) (fun hc h => ?_)
  · refine jr_ic (pc' := 14) rfl rfl ?_
    exact jr_ret rfl hu rfl (hQ' _ _ (hQ ((-1 : Int), m1) jgc_m1 h))
  · refine jr_al_n (pc' := 16) rfl rfl rfl (jr_al_n (pc' := 17) rfl rfl rfl (jr_gi (pc' := 20) rfl rfl jlk_12_209 (.inl rfl) rfl hN jd_67 rfl rfl (jr_ic (pc' := 21) rfl rfl ?_)))
    refine jr_cv_v (pc' := 24) [] rfl rfl jlk_12_513 jq_299 jbd_299 (jl rfl) rfl (jl rfl) hu rfl (jk rfl hN) (jd_67.trans jo_299.symm) (fun Q' hq => jc_299 hN (Nat.le_trans (jl rfl) hd) jg_a jgc_1 (jo_b h) hq) (fun p2 hp2 h => ?_)
    refine jr_al_n (pc' := 25) rfl rfl rfl (jr_dup (pc' := 26) rfl rfl rfl (jr_gi (pc' := 29) rfl rfl jlk_12_209 (.inl rfl) rfl hN jd_67 rfl rfl (jr_ic (pc' := 30) rfl rfl (jr_add (pc' := 31) rfl rfl (jr_pi (pc' := 34) rfl rfl jlk_12_209 (.inl rfl) rfl hN jd_67 rfl rfl ?_)))))
    refine jr_le h (fun m3 h => ?_)
    refine jr_al_n (pc' := 35) rfl rfl rfl (jr_gi (pc' := 38) rfl rfl jlk_12_209 (.inl rfl) rfl hN jd_67 rfl rfl ?_)
    exact jr_ret rfl hu rfl (hQ' _ _ (hQ (ja m3 67 66, m3) jg_a h))

set_option maxRecDepth 20000 in
set_option maxHeartbeats 1000000 in
theorem jc_301 {X : Nat × (Nat → Int32)} {N d : Nat}  (hN : 102 ≤ N) (hd : 3 ≤ d)  {m : jm} {P : Int × jm → Prop} {Q : px_Q} (h : jo (jf_301 m) P) (hQ : ∀ p : Int × jm, jg p.1 → P p → Q (.inl (some (jv p.1))) (jmem N p.2)) : px_C X d 301 [.ref 67] (jmem N m) Q := by
  unfold jf_301 at h
  have hu : ju px_m301 (0, 0) := ju_0
  refine jr_in (M := px_m301) (lev := 2) (L := [some (.ref 67)]) hd rfl jbd_301 (jl rfl) rfl (fun d hd Q' hQ' => ?_)
  refine jr_al_n (pc' := 1) rfl rfl rfl (jr_ic (pc' := 2) rfl rfl (jr_pi (pc' := 5) rfl rfl jlk_12_3 (.inl rfl) rfl hN jd_67 rfl rfl ?_))
  refine jr_le h (fun m1 h => ?_)
  refine jr_al_n (pc' := 6) rfl rfl rfl (jr_gi (pc' := 9) rfl rfl jlk_12_209 (.inl rfl) rfl hN jd_67 rfl rfl ?_)
  refine jr_zne (pa := 12) (pb := 14) rfl rfl rfl jg_a h (fun hc h => ?_) (fun hc h => ?_)
  · refine jr_ic (pc' := 13) rfl rfl ?_
    exact jr_ret rfl hu rfl (hQ' _ _ (hQ ((-1 : Int), m1) jgc_m1 h))
  · refine jr_al_n (pc' := 15) rfl rfl rfl (jr_dup (pc' := 16) rfl rfl rfl (jr_gi (pc' := 19) rfl rfl jlk_12_209 (.inl rfl) rfl hN jd_67 rfl rfl (jr_ic (pc' := 20) rfl rfl (jr_sub (pc' := 21) rfl rfl (jr_pi (pc' := 24) rfl rfl jlk_12_209 (.inl rfl) rfl hN jd_67 rfl rfl ?_)))))
    refine jr_le h (fun m2 h => ?_)
    refine jr_al_n (pc' := 25) rfl rfl rfl (jr_al_n (pc' := 26) rfl rfl rfl (jr_gi (pc' := 29) rfl rfl jlk_12_209 (.inl rfl) rfl hN jd_67 rfl rfl (jr_ic (pc' := 30) rfl rfl ?_)))
    refine jr_cv_v (pc' := 33) [] rfl rfl jlk_12_513 jq_299 jbd_299 (jl rfl) rfl (jl rfl) hu rfl (jk rfl hN) (jd_67.trans jo_299.symm) (fun Q' hq => jc_299 hN (Nat.le_trans (jl rfl) hd) jg_a jgc_0 (jo_b h) hq) (fun p3 hp3 h => ?_)
    refine jr_al_n (pc' := 34) rfl rfl rfl (jr_ic (pc' := 35) rfl rfl (jr_pi (pc' := 38) rfl rfl jlk_12_212 (.inl rfl) rfl hN jd_67 rfl rfl ?_))
    refine jr_le h (fun m4 h => ?_)
    refine jr_al_n (pc' := 39) rfl rfl rfl (jr_gi (pc' := 42) rfl rfl jlk_12_209 (.inl rfl) rfl hN jd_67 rfl rfl ?_)
    exact jr_ret rfl hu rfl (hQ' _ _ (hQ (ja m4 67 66, m4) jg_a h))

set_option maxRecDepth 20000 in
set_option maxHeartbeats 1000000 in
theorem jc_302 {X : Nat × (Nat → Int32)} {N d : Nat} {x0 : Int} (hN : 102 ≤ N) (hd : 2 ≤ d) (hx0 : jg x0) {m : jm} {P : Int × jm → Prop} {Q : px_Q} (h : jo (jf_302 x0 m) P) (hQ : ∀ p : Int × jm, jg p.1 → P p → Q (.inl (some (jv p.1))) (jmem N p.2)) : px_C X d 302 [.ref 67, jv x0] (jmem N m) Q := by
  unfold jf_302 at h
  have hu : ju px_m302 (0, 0) := ju_0
  refine jr_in (M := px_m302) (lev := 1) (L := [some (.ref 67), some (jv x0)]) hd rfl jbd_302 (jl rfl) rfl (fun d hd Q' hQ' => ?_)
  refine jr_al_n (pc' := 1) rfl rfl rfl (jr_ic (pc' := 2) rfl rfl (jr_pi (pc' := 5) rfl rfl jlk_12_3 (.inl rfl) rfl hN jd_67 rfl rfl ?_))
  refine jr_le h (fun m1 h => ?_)
  refine jr_il_n (pc' := 6) rfl rfl rfl (jr_ic (pc' := 7) rfl rfl (jr_ic (pc' := 8) rfl rfl ?_))
  refine jr_cs_p (pc' := 11) [] rfl rfl jlk_12_414 jq_247 jbd_247 (jl rfl) rfl (jl rfl) hu (fun Q' hq => jc_247 hN (Nat.le_trans (jl rfl) hd) hx0 jgc_0 jgc_1 (jo_b h) hq) (fun p2 hp2 h => ?_)
  refine jr_reg (fun t3 => jg t3) (fun t3 => jp X (px_C X d) px_m302 Q' N 24 [some (.ref 67), some (jv x0)] [(jv t3)] m1 (0, 0)) h (fun t3 ht3 h => ?_) (fun R15 k4 h => ?_)
  · exact jr_ret rfl hu rfl (hQ' _ _ (hQ (t3, m1) ht3 h))
  · refine jr_zeq (pa := 23) (pb := 14) rfl rfl rfl (jg_b hp2) h (fun hc h => ?_) (fun hc h => ?_)
    · refine jr_ic (pc' := 24) rfl rfl ?_
      exact k4 ((-1 : Int)) jgc_m1 h
    · refine jr_al_n (pc' := 15) rfl rfl rfl (jr_gr (pc' := 18) (r := 68) rfl rfl jlk_12_7 (.inl rfl) rfl hN jd_67 rfl rfl rfl (jr_il_n (pc' := 19) rfl rfl rfl ?_))
      refine jr_ia (pc' := 20) rfl rfl (jl rfl) hN jd_68 jn_68 hx0 h (fun hc h => ?_)
      refine jr_goto (pc' := 24) rfl rfl ?_
      exact k4 (ja m1 68 x0.toNat) jg_a h

set_option maxRecDepth 20000 in
set_option maxHeartbeats 1000000 in
theorem jc_303 {X : Nat × (Nat → Int32)} {N d : Nat} {x0 : Int} (hN : 102 ≤ N) (hd : 1 ≤ d) (hx0 : jg x0) {m : jm} {P : Int × jm → Prop} {Q : px_Q} (h : jo (jf_303 x0 m) P) (hQ : ∀ p : Int × jm, jg p.1 → P p → Q (.inl (some (jv p.1))) (jmem N p.2)) : px_C X d 303 [.ref 67, jv x0] (jmem N m) Q := by
  unfold jf_303 at h
  have hu : ju px_m303 (0, 0) := ju_0
  refine jr_in (M := px_m303) (lev := 0) (L := [some (.ref 67), some (jv x0)]) hd rfl jbd_303 (jl rfl) rfl (fun d hd Q' hQ' => ?_)
  refine jr_al_n (pc' := 1) rfl rfl rfl (jr_ic (pc' := 2) rfl rfl (jr_pi (pc' := 5) rfl rfl jlk_12_3 (.inl rfl) rfl hN jd_67 rfl rfl ?_))
  refine jr_le h (fun m1 h => ?_)
  refine jr_il_n (pc' := 6) rfl rfl rfl ?_
  refine jr_reg (fun t2 => jg t2) (fun t2 => jp X (px_C X d) px_m303 Q' N 41 [some (.ref 67), some (jv x0)] [(jv t2)] m1 (0, 0)) h (fun t2 ht2 h => ?_) (fun R14 k3 h => ?_)
  · exact jr_ret rfl hu rfl (hQ' _ _ (hQ (t2, m1) ht2 h))
  · refine jr_zne (pa := 9) (pb := 16) rfl rfl rfl hx0 h (fun hc h => ?_) (fun hc h => ?_)
    · refine jr_al_n (pc' := 10) rfl rfl rfl (jr_gi (pc' := 13) rfl rfl jlk_12_209 (.inl rfl) rfl hN jd_67 rfl rfl (jr_goto (pc' := 41) rfl rfl ?_))
      exact k3 (ja m1 67 66) jg_a h
    · refine jr_il_n (pc' := 17) rfl rfl rfl (jr_ic (pc' := 18) rfl rfl ?_)
      refine jr_cne (pa := 21) (pb := 28) rfl rfl rfl hx0 jgc_1 h (fun hc h => ?_) (fun hc h => ?_)
      · refine jr_al_n (pc' := 22) rfl rfl rfl (jr_gi (pc' := 25) rfl rfl jlk_12_126 (.inl rfl) rfl hN jd_67 rfl rfl (jr_goto (pc' := 41) rfl rfl ?_))
        exact k3 (ja m1 67 2) jg_a h
      · refine jr_il_n (pc' := 29) rfl rfl rfl (jr_ic (pc' := 30) rfl rfl ?_)
        refine jr_cne (pa := 33) (pb := 40) rfl rfl rfl hx0 jgc_2 h (fun hc h => ?_) (fun hc h => ?_)
        · refine jr_al_n (pc' := 34) rfl rfl rfl (jr_gi (pc' := 37) rfl rfl jlk_12_206 (.inl rfl) rfl hN jd_67 rfl rfl (jr_goto (pc' := 41) rfl rfl ?_))
          exact k3 (ja m1 67 39) jg_a h
        · refine jr_ic (pc' := 41) rfl rfl ?_
          exact k3 ((-1 : Int)) jgc_m1 h

set_option maxRecDepth 20000 in
set_option maxHeartbeats 1000000 in
theorem jc_304 {X : Nat × (Nat → Int32)} {N d : Nat} {x1 : Int} (hN3 : 103 ≤ N) (hd : 8 ≤ d) (hx1 : jg x1) {m : jm} {P : Int × jm → Prop} {Q : px_Q} (h : jo (jf_304 x1 m) P) (hQ : ∀ p : Int × jm, jg p.1 → P p → Q (.inl (some (jv p.1))) (jmem N p.2)) : px_C X d 304 [.ref 0, jv x1, .ref 102] (jmem N m) Q := by
  unfold jf_304 at h
  have hN : 102 ≤ N := Nat.le_of_succ_le hN3
  have hu : ju px_m304 (0, 0) := ju_0
  refine jr_inT (M := px_m304) (lev := 7) (L := [some (.ref 0), some (jv x1), some (.ref 102), none]) hd hN3 rfl (jl rfl) rfl (fun d hd Q' hQ' => ?_)
  refine jr_al_n (pc' := 1) rfl rfl rfl (jr_ic (pc' := 2) rfl rfl (jr_al_n (pc' := 3) rfl rfl rfl (jr_il_n (pc' := 4) rfl rfl rfl ?_)))
  refine jr_ct_i (pc' := 7) [_, _] rfl rfl jlk_13_7 jq_150 (u' := (1, 6)) rfl (ju_l rfl rfl) (jl rfl) rfl (jl rfl) rfl (jk rfl hN) (jd_0.trans jo_150.symm) (fun Q' hq0 hq1 => jc_150 hN3 (Nat.le_trans (jl rfl) hd) hx1 (jo_b h) hq0 hq1) (fun p1 h0 hp1 h => jo_i h (fun _ h => ?_) (fun hc _ => absurd h0 hc)) (fun p1 e he h => jo_i h (fun hc _ => absurd (he.symm.trans hc) (Nat.succ_ne_zero e)) (fun _ h => ?_))
  · refine jr_i2l (pc' := 8) rfl rfl hp1 (jr_lst (pc' := 9) rfl rfl hN3 ?_)
    refine jr_le h (fun m2 h => ?_)
    refine jr_goto (pc' := 15) rfl rfl (jr_ic (pc' := 16) rfl rfl ?_)
    exact jr_ret rfl (ju_l rfl rfl) rfl (hQ' _ _ (hQ ((0 : Int), m2) jgc_0 h))
  · refine jo_i h (fun hc h => jhe (Nat.succ.inj (he.symm.trans hc)) (jh_n (L' := [_, _, _, _]) rfl rfl rfl rfl (jl rfl) rfl ?_)) (fun _ h => ?_)
    · refine jr_ic (pc' := 14) rfl rfl ?_
      exact jr_ret rfl (ju_l rfl rfl) rfl (hQ' _ _ (hQ ((1 : Int), p1.2.2) jgc_1 h))
    · exact h.elim

set_option maxRecDepth 20000 in
set_option maxHeartbeats 1000000 in
theorem jc_305 {X : Nat × (Nat → Int32)} {N d : Nat} {x1 : Int} (hN3 : 103 ≤ N) (hd : 66 ≤ d) (hx1 : jg x1) {m : jm} {P : Int × jm → Prop} {Q : px_Q} (h : jo (jf_305 x1 m) P) (hQ : ∀ p : Int × jm, jg p.1 → P p → Q (.inl (some (jv p.1))) (jmem N p.2)) : px_C X d 305 [.ref 0, jv x1, .ref 102] (jmem N m) Q := by
  unfold jf_305 at h
  have hN : 102 ≤ N := Nat.le_of_succ_le hN3
  have hu : ju px_m305 (0, 0) := ju_0
  refine jr_inT (M := px_m305) (lev := 65) (L := [some (.ref 0), some (jv x1), some (.ref 102), none]) hd hN3 rfl (jl rfl) rfl (fun d hd Q' hQ' => ?_)
  refine jr_al_n (pc' := 1) rfl rfl rfl (jr_ic (pc' := 2) rfl rfl (jr_al_n (pc' := 3) rfl rfl rfl (jr_il_n (pc' := 4) rfl rfl rfl ?_)))
  refine jr_ct_i (pc' := 7) [_, _] rfl rfl jlk_13_15 jq_155 (u' := (1, 6)) rfl (ju_l rfl rfl) (jl rfl) rfl (jl rfl) rfl (jk rfl hN) (jd_0.trans jo_155.symm) (fun Q' hq0 hq1 => jc_155 hN3 (Nat.le_trans (jl rfl) hd) hx1 (jo_b h) hq0 hq1) (fun p1 h0 hp1 h => jo_i h (fun _ h => ?_) (fun hc _ => absurd h0 hc)) (fun p1 e he h => jo_i h (fun hc _ => absurd (he.symm.trans hc) (Nat.succ_ne_zero e)) (fun _ h => ?_))
  · refine jr_i2l (pc' := 8) rfl rfl hp1 (jr_lst (pc' := 9) rfl rfl hN3 ?_)
    refine jr_le h (fun m2 h => ?_)
    refine jr_goto (pc' := 15) rfl rfl (jr_ic (pc' := 16) rfl rfl ?_)
    exact jr_ret rfl (ju_l rfl rfl) rfl (hQ' _ _ (hQ ((0 : Int), m2) jgc_0 h))
  · refine jo_i h (fun hc h => jhe (Nat.succ.inj (he.symm.trans hc)) (jh_n (L' := [_, _, _, _]) rfl rfl rfl rfl (jl rfl) rfl ?_)) (fun _ h => ?_)
    · refine jr_ic (pc' := 14) rfl rfl ?_
      exact jr_ret rfl (ju_l rfl rfl) rfl (hQ' _ _ (hQ ((1 : Int), p1.2.2) jgc_1 h))
    · exact h.elim

set_option maxRecDepth 20000 in
set_option maxHeartbeats 1000000 in
theorem jc_306 {X : Nat × (Nat → Int32)} {N d : Nat} {x1 : Int} (hN3 : 103 ≤ N) (hd : 8 ≤ d) (hx1 : jg x1) {m : jm} {P : Int × jm → Prop} {Q : px_Q} (h : jo (jf_306 x1 m) P) (hQ : ∀ p : Int × jm, jg p.1 → P p → Q (.inl (some (jv p.1))) (jmem N p.2)) : px_C X d 306 [.ref 0, jv x1, .ref 102] (jmem N m) Q := by
  unfold jf_306 at h
  have hN : 102 ≤ N := Nat.le_of_succ_le hN3
  have hu : ju px_m306 (0, 0) := ju_0
  refine jr_inT (M := px_m306) (lev := 7) (L := [some (.ref 0), some (jv x1), some (.ref 102), none]) hd hN3 rfl (jl rfl) rfl (fun d hd Q' hQ' => ?_)
  refine jr_al_n (pc' := 1) rfl rfl rfl (jr_ic (pc' := 2) rfl rfl (jr_al_n (pc' := 3) rfl rfl rfl (jr_il_n (pc' := 4) rfl rfl rfl ?_)))
  refine jr_ct_i (pc' := 7) [_, _] rfl rfl jlk_13_18 jq_156 (u' := (1, 6)) rfl (ju_l rfl rfl) (jl rfl) rfl (jl rfl) rfl (jk rfl hN) (jd_0.trans jo_156.symm) (fun Q' hq0 hq1 => jc_156 hN3 (Nat.le_trans (jl rfl) hd) hx1 (jo_b h) hq0 hq1) (fun p1 h0 hp1 h => jo_i h (fun _ h => ?_) (fun hc _ => absurd h0 hc)) (fun p1 e he h => jo_i h (fun hc _ => absurd (he.symm.trans hc) (Nat.succ_ne_zero e)) (fun _ h => ?_))
  · refine jr_i2l (pc' := 8) rfl rfl hp1 (jr_lst (pc' := 9) rfl rfl hN3 ?_)
    refine jr_le h (fun m2 h => ?_)
    refine jr_goto (pc' := 15) rfl rfl (jr_ic (pc' := 16) rfl rfl ?_)
    exact jr_ret rfl (ju_l rfl rfl) rfl (hQ' _ _ (hQ ((0 : Int), m2) jgc_0 h))
  · refine jo_i h (fun hc h => jhe (Nat.succ.inj (he.symm.trans hc)) (jh_n (L' := [_, _, _, _]) rfl rfl rfl rfl (jl rfl) rfl ?_)) (fun _ h => ?_)
    · refine jr_ic (pc' := 14) rfl rfl ?_
      exact jr_ret rfl (ju_l rfl rfl) rfl (hQ' _ _ (hQ ((1 : Int), p1.2.2) jgc_1 h))
    · exact h.elim

set_option maxRecDepth 20000 in
set_option maxHeartbeats 1000000 in
theorem jc_307 {X : Nat × (Nat → Int32)} {N d : Nat} {x1 : Int} (hN3 : 103 ≤ N) (hd : 6 ≤ d) (hx1 : jg x1) {m : jm} {P : Int × jm → Prop} {Q : px_Q} (h : jo (jf_307 x1 m) P) (hQ : ∀ p : Int × jm, jg p.1 → P p → Q (.inl (some (jv p.1))) (jmem N p.2)) : px_C X d 307 [.ref 0, jv x1, .ref 102] (jmem N m) Q := by
  unfold jf_307 at h
  have hN : 102 ≤ N := Nat.le_of_succ_le hN3
  have hu : ju px_m307 (0, 0) := ju_0
  refine jr_inT (M := px_m307) (lev := 5) (L := [some (.ref 0), some (jv x1), some (.ref 102), none]) hd hN3 rfl (jl rfl) rfl (fun d hd Q' hQ' => ?_)
  refine jr_al_n (pc' := 1) rfl rfl rfl (jr_ic (pc' := 2) rfl rfl (jr_al_n (pc' := 3) rfl rfl rfl (jr_il_n (pc' := 4) rfl rfl rfl ?_)))
  refine jr_ct_i (pc' := 7) [_, _] rfl rfl jlk_13_21 jq_157 (u' := (1, 6)) rfl (ju_l rfl rfl) (jl rfl) rfl (jl rfl) rfl (jk rfl hN) (jd_0.trans jo_157.symm) (fun Q' hq0 hq1 => jc_157 hN3 (Nat.le_trans (jl rfl) hd) hx1 (jo_b h) hq0 hq1) (fun p1 h0 hp1 h => jo_i h (fun _ h => ?_) (fun hc _ => absurd h0 hc)) (fun p1 e he h => jo_i h (fun hc _ => absurd (he.symm.trans hc) (Nat.succ_ne_zero e)) (fun _ h => ?_))
  · refine jr_i2l (pc' := 8) rfl rfl hp1 (jr_lst (pc' := 9) rfl rfl hN3 ?_)
    refine jr_le h (fun m2 h => ?_)
    refine jr_goto (pc' := 15) rfl rfl (jr_ic (pc' := 16) rfl rfl ?_)
    exact jr_ret rfl (ju_l rfl rfl) rfl (hQ' _ _ (hQ ((0 : Int), m2) jgc_0 h))
  · refine jo_i h (fun hc h => jhe (Nat.succ.inj (he.symm.trans hc)) (jh_n (L' := [_, _, _, _]) rfl rfl rfl rfl (jl rfl) rfl ?_)) (fun _ h => ?_)
    · refine jr_ic (pc' := 14) rfl rfl ?_
      exact jr_ret rfl (ju_l rfl rfl) rfl (hQ' _ _ (hQ ((1 : Int), p1.2.2) jgc_1 h))
    · exact h.elim

set_option maxRecDepth 20000 in
set_option maxHeartbeats 1000000 in
theorem jc_308 {X : Nat × (Nat → Int32)} {N d : Nat} {x1 : Int} (hN3 : 103 ≤ N) (hd : 5 ≤ d) (hx1 : jg x1) {m : jm} {P : Int × jm → Prop} {Q : px_Q} (h : jo (jf_308 x1 m) P) (hQ : ∀ p : Int × jm, jg p.1 → P p → Q (.inl (some (jv p.1))) (jmem N p.2)) : px_C X d 308 [.ref 0, jv x1, .ref 102] (jmem N m) Q := by
  unfold jf_308 at h
  have hN : 102 ≤ N := Nat.le_of_succ_le hN3
  have hu : ju px_m308 (0, 0) := ju_0
  refine jr_inT (M := px_m308) (lev := 4) (L := [some (.ref 0), some (jv x1), some (.ref 102), none]) hd hN3 rfl (jl rfl) rfl (fun d hd Q' hQ' => ?_)
  refine jr_al_n (pc' := 1) rfl rfl rfl (jr_ic (pc' := 2) rfl rfl (jr_al_n (pc' := 3) rfl rfl rfl (jr_il_n (pc' := 4) rfl rfl rfl ?_)))
  refine jr_ct_i (pc' := 7) [_, _] rfl rfl jlk_13_24 jq_158 (u' := (1, 6)) rfl (ju_l rfl rfl) (jl rfl) rfl (jl rfl) rfl (jk rfl hN) (jd_0.trans jo_158.symm) (fun Q' hq0 hq1 => jc_158 hN3 (Nat.le_trans (jl rfl) hd) hx1 (jo_b h) hq0 hq1) (fun p1 h0 hp1 h => jo_i h (fun _ h => ?_) (fun hc _ => absurd h0 hc)) (fun p1 e he h => jo_i h (fun hc _ => absurd (he.symm.trans hc) (Nat.succ_ne_zero e)) (fun _ h => ?_))
  · refine jr_i2l (pc' := 8) rfl rfl hp1 (jr_lst (pc' := 9) rfl rfl hN3 ?_)
    refine jr_le h (fun m2 h => ?_)
    refine jr_goto (pc' := 15) rfl rfl (jr_ic (pc' := 16) rfl rfl ?_)
    exact jr_ret rfl (ju_l rfl rfl) rfl (hQ' _ _ (hQ ((0 : Int), m2) jgc_0 h))
  · refine jo_i h (fun hc h => jhe (Nat.succ.inj (he.symm.trans hc)) (jh_n (L' := [_, _, _, _]) rfl rfl rfl rfl (jl rfl) rfl ?_)) (fun _ h => ?_)
    · refine jr_ic (pc' := 14) rfl rfl ?_
      exact jr_ret rfl (ju_l rfl rfl) rfl (hQ' _ _ (hQ ((1 : Int), p1.2.2) jgc_1 h))
    · exact h.elim

set_option maxRecDepth 20000 in
set_option maxHeartbeats 1000000 in
theorem jc_309 {X : Nat × (Nat → Int32)} {N d : Nat} {x1 : Int} {x2 : Int} (hN3 : 103 ≤ N) (hd : 4 ≤ d) (hx1 : jg x1) (hx2 : jg x2) {m : jm} {P : Int × jm → Prop} {Q : px_Q} (h : jo (jf_309 x1 x2 m) P) (hQ : ∀ p : Int × jm, jg p.1 → P p → Q (.inl (some (jv p.1))) (jmem N p.2)) : px_C X d 309 [.ref 0, jv x1, jv x2, .ref 102] (jmem N m) Q := by
  unfold jf_309 at h
  have hN : 102 ≤ N := Nat.le_of_succ_le hN3
  have hu : ju px_m309 (0, 0) := ju_0
  refine jr_inT (M := px_m309) (lev := 3) (L := [some (.ref 0), some (jv x1), some (jv x2), some (.ref 102), none]) hd hN3 rfl (jl rfl) rfl (fun d hd Q' hQ' => ?_)
  refine jr_al_n (pc' := 1) rfl rfl rfl (jr_ic (pc' := 2) rfl rfl (jr_al_n (pc' := 3) rfl rfl rfl (jr_il_n (pc' := 4) rfl rfl rfl (jr_il_n (pc' := 5) rfl rfl rfl ?_))))
  refine jr_ct_i (pc' := 8) [_, _] rfl rfl jlk_13_27 jq_159 (u' := (2, 12)) rfl (ju_l rfl rfl) (jl rfl) rfl (jl rfl) rfl (jk rfl hN) (jd_0.trans jo_159.symm) (fun Q' hq0 hq1 => jc_159 hN3 (Nat.le_trans (jl rfl) hd) hx1 hx2 (jo_b h) hq0 hq1) (fun p1 h0 hp1 h => jo_i h (fun _ h => ?_) (fun hc _ => absurd h0 hc)) (fun p1 e he h => jo_i h (fun hc _ => absurd (he.symm.trans hc) (Nat.succ_ne_zero e)) (fun _ h => ?_))
  · refine jr_i2l (pc' := 9) rfl rfl hp1 (jr_lst (pc' := 10) rfl rfl hN3 ?_)
    refine jr_le h (fun m2 h => ?_)
    refine jr_goto (pc' := 21) rfl rfl (jr_ic (pc' := 22) rfl rfl ?_)
    exact jr_ret rfl (ju_l rfl rfl) rfl (hQ' _ _ (hQ ((0 : Int), m2) jgc_0 h))
  · refine jo_i h (fun hc h => jhe (Nat.succ.inj (he.symm.trans hc)) (jh_a (L' := [_, _, _, _, _]) rfl rfl rfl rfl (jl rfl) rfl ?_)) (fun _ h => ?_)
    · refine jr_ic (pc' := 16) rfl rfl ?_
      exact jr_ret rfl (ju_l rfl rfl) rfl (hQ' _ _ (hQ ((1 : Int), p1.2.2) jgc_1 h))
    · refine jo_i h (fun hc h => jhe (Nat.succ.inj (he.symm.trans hc)) (jh_a (L' := [_, _, _, _, _]) rfl rfl rfl rfl (jl rfl) rfl ?_)) (fun _ h => ?_)
      · refine jr_ic (pc' := 20) rfl rfl ?_
        exact jr_ret rfl (ju_l rfl rfl) rfl (hQ' _ _ (hQ ((2 : Int), p1.2.2) jgc_2 h))
      · exact h.elim

set_option maxRecDepth 20000 in
set_option maxHeartbeats 1000000 in
theorem jc_310 {X : Nat × (Nat → Int32)} {N d : Nat} {x1 : Int} {x2 : Int} (hN3 : 103 ≤ N) (hd : 4 ≤ d) (hx1 : jg x1) (hx2 : jg x2) {m : jm} {P : Int × jm → Prop} {Q : px_Q} (h : jo (jf_310 x1 x2 m) P) (hQ : ∀ p : Int × jm, jg p.1 → P p → Q (.inl (some (jv p.1))) (jmem N p.2)) : px_C X d 310 [.ref 0, jv x1, jv x2, .ref 102] (jmem N m) Q := by
  unfold jf_310 at h
  have hN : 102 ≤ N := Nat.le_of_succ_le hN3
  have hu : ju px_m310 (0, 0) := ju_0
  refine jr_inT (M := px_m310) (lev := 3) (L := [some (.ref 0), some (jv x1), some (jv x2), some (.ref 102), none]) hd hN3 rfl (jl rfl) rfl (fun d hd Q' hQ' => ?_)
  refine jr_al_n (pc' := 1) rfl rfl rfl (jr_ic (pc' := 2) rfl rfl (jr_al_n (pc' := 3) rfl rfl rfl (jr_il_n (pc' := 4) rfl rfl rfl (jr_il_n (pc' := 5) rfl rfl rfl ?_))))
  refine jr_ct_i (pc' := 8) [_, _] rfl rfl jlk_13_33 jq_161 (u' := (2, 12)) rfl (ju_l rfl rfl) (jl rfl) rfl (jl rfl) rfl (jk rfl hN) (jd_0.trans jo_161.symm) (fun Q' hq0 hq1 => jc_161 hN3 (Nat.le_trans (jl rfl) hd) hx1 hx2 (jo_b h) hq0 hq1) (fun p1 h0 hp1 h => jo_i h (fun _ h => ?_) (fun hc _ => absurd h0 hc)) (fun p1 e he h => jo_i h (fun hc _ => absurd (he.symm.trans hc) (Nat.succ_ne_zero e)) (fun _ h => ?_))
  · refine jr_i2l (pc' := 9) rfl rfl hp1 (jr_lst (pc' := 10) rfl rfl hN3 ?_)
    refine jr_le h (fun m2 h => ?_)
    refine jr_goto (pc' := 21) rfl rfl (jr_ic (pc' := 22) rfl rfl ?_)
    exact jr_ret rfl (ju_l rfl rfl) rfl (hQ' _ _ (hQ ((0 : Int), m2) jgc_0 h))
  · refine jo_i h (fun hc h => jhe (Nat.succ.inj (he.symm.trans hc)) (jh_a (L' := [_, _, _, _, _]) rfl rfl rfl rfl (jl rfl) rfl ?_)) (fun _ h => ?_)
    · refine jr_ic (pc' := 16) rfl rfl ?_
      exact jr_ret rfl (ju_l rfl rfl) rfl (hQ' _ _ (hQ ((1 : Int), p1.2.2) jgc_1 h))
    · refine jo_i h (fun hc h => jhe (Nat.succ.inj (he.symm.trans hc)) (jh_a (L' := [_, _, _, _, _]) rfl rfl rfl rfl (jl rfl) rfl ?_)) (fun _ h => ?_)
      · refine jr_ic (pc' := 20) rfl rfl ?_
        exact jr_ret rfl (ju_l rfl rfl) rfl (hQ' _ _ (hQ ((2 : Int), p1.2.2) jgc_2 h))
      · exact h.elim

set_option maxRecDepth 20000 in
set_option maxHeartbeats 1000000 in
theorem jc_311 {X : Nat × (Nat → Int32)} {N d : Nat} {x1 : Int} {x2 : Int} (hN3 : 103 ≤ N) (hd : 4 ≤ d) (hx1 : jg x1) (hx2 : jg x2) {m : jm} {P : Int × jm → Prop} {Q : px_Q} (h : jo (jf_311 x1 x2 m) P) (hQ : ∀ p : Int × jm, jg p.1 → P p → Q (.inl (some (jv p.1))) (jmem N p.2)) : px_C X d 311 [.ref 0, jv x1, jv x2, .ref 102] (jmem N m) Q := by
  unfold jf_311 at h
  have hN : 102 ≤ N := Nat.le_of_succ_le hN3
  have hu : ju px_m311 (0, 0) := ju_0
  refine jr_inT (M := px_m311) (lev := 3) (L := [some (.ref 0), some (jv x1), some (jv x2), some (.ref 102), none]) hd hN3 rfl (jl rfl) rfl (fun d hd Q' hQ' => ?_)
  refine jr_al_n (pc' := 1) rfl rfl rfl (jr_ic (pc' := 2) rfl rfl (jr_al_n (pc' := 3) rfl rfl rfl (jr_il_n (pc' := 4) rfl rfl rfl (jr_il_n (pc' := 5) rfl rfl rfl ?_))))
  refine jr_ct_i (pc' := 8) [_, _] rfl rfl jlk_13_36 jq_162 (u' := (2, 12)) rfl (ju_l rfl rfl) (jl rfl) rfl (jl rfl) rfl (jk rfl hN) (jd_0.trans jo_162.symm) (fun Q' hq0 hq1 => jc_162 hN3 (Nat.le_trans (jl rfl) hd) hx1 hx2 (jo_b h) hq0 hq1) (fun p1 h0 hp1 h => jo_i h (fun _ h => ?_) (fun hc _ => absurd h0 hc)) (fun p1 e he h => jo_i h (fun hc _ => absurd (he.symm.trans hc) (Nat.succ_ne_zero e)) (fun _ h => ?_))
  · refine jr_i2l (pc' := 9) rfl rfl hp1 (jr_lst (pc' := 10) rfl rfl hN3 ?_)
    refine jr_le h (fun m2 h => ?_)
    refine jr_goto (pc' := 21) rfl rfl (jr_ic (pc' := 22) rfl rfl ?_)
    exact jr_ret rfl (ju_l rfl rfl) rfl (hQ' _ _ (hQ ((0 : Int), m2) jgc_0 h))
  · refine jo_i h (fun hc h => jhe (Nat.succ.inj (he.symm.trans hc)) (jh_a (L' := [_, _, _, _, _]) rfl rfl rfl rfl (jl rfl) rfl ?_)) (fun _ h => ?_)
    · refine jr_ic (pc' := 16) rfl rfl ?_
      exact jr_ret rfl (ju_l rfl rfl) rfl (hQ' _ _ (hQ ((1 : Int), p1.2.2) jgc_1 h))
    · refine jo_i h (fun hc h => jhe (Nat.succ.inj (he.symm.trans hc)) (jh_a (L' := [_, _, _, _, _]) rfl rfl rfl rfl (jl rfl) rfl ?_)) (fun _ h => ?_)
      · refine jr_ic (pc' := 20) rfl rfl ?_
        exact jr_ret rfl (ju_l rfl rfl) rfl (hQ' _ _ (hQ ((2 : Int), p1.2.2) jgc_2 h))
      · exact h.elim

set_option maxRecDepth 20000 in
set_option maxHeartbeats 1000000 in
theorem jc_312 {X : Nat × (Nat → Int32)} {N d : Nat} {x1 : Int} {x2 : Int} (hN3 : 103 ≤ N) (hd : 4 ≤ d) (hx1 : jg x1) (hx2 : jg x2) {m : jm} {P : Int × jm → Prop} {Q : px_Q} (h : jo (jf_312 x1 x2 m) P) (hQ : ∀ p : Int × jm, jg p.1 → P p → Q (.inl (some (jv p.1))) (jmem N p.2)) : px_C X d 312 [.ref 0, jv x1, jv x2, .ref 102] (jmem N m) Q := by
  unfold jf_312 at h
  have hN : 102 ≤ N := Nat.le_of_succ_le hN3
  have hu : ju px_m312 (0, 0) := ju_0
  refine jr_inT (M := px_m312) (lev := 3) (L := [some (.ref 0), some (jv x1), some (jv x2), some (.ref 102), none]) hd hN3 rfl (jl rfl) rfl (fun d hd Q' hQ' => ?_)
  refine jr_al_n (pc' := 1) rfl rfl rfl (jr_ic (pc' := 2) rfl rfl (jr_al_n (pc' := 3) rfl rfl rfl (jr_il_n (pc' := 4) rfl rfl rfl (jr_il_n (pc' := 5) rfl rfl rfl ?_))))
  refine jr_ct_i (pc' := 8) [_, _] rfl rfl jlk_13_39 jq_163 (u' := (2, 12)) rfl (ju_l rfl rfl) (jl rfl) rfl (jl rfl) rfl (jk rfl hN) (jd_0.trans jo_163.symm) (fun Q' hq0 hq1 => jc_163 hN3 (Nat.le_trans (jl rfl) hd) hx1 hx2 (jo_b h) hq0 hq1) (fun p1 h0 hp1 h => jo_i h (fun _ h => ?_) (fun hc _ => absurd h0 hc)) (fun p1 e he h => jo_i h (fun hc _ => absurd (he.symm.trans hc) (Nat.succ_ne_zero e)) (fun _ h => ?_))
  · refine jr_i2l (pc' := 9) rfl rfl hp1 (jr_lst (pc' := 10) rfl rfl hN3 ?_)
    refine jr_le h (fun m2 h => ?_)
    refine jr_goto (pc' := 21) rfl rfl (jr_ic (pc' := 22) rfl rfl ?_)
    exact jr_ret rfl (ju_l rfl rfl) rfl (hQ' _ _ (hQ ((0 : Int), m2) jgc_0 h))
  · refine jo_i h (fun hc h => jhe (Nat.succ.inj (he.symm.trans hc)) (jh_a (L' := [_, _, _, _, _]) rfl rfl rfl rfl (jl rfl) rfl ?_)) (fun _ h => ?_)
    · refine jr_ic (pc' := 16) rfl rfl ?_
      exact jr_ret rfl (ju_l rfl rfl) rfl (hQ' _ _ (hQ ((1 : Int), p1.2.2) jgc_1 h))
    · refine jo_i h (fun hc h => jhe (Nat.succ.inj (he.symm.trans hc)) (jh_a (L' := [_, _, _, _, _]) rfl rfl rfl rfl (jl rfl) rfl ?_)) (fun _ h => ?_)
      · refine jr_ic (pc' := 20) rfl rfl ?_
        exact jr_ret rfl (ju_l rfl rfl) rfl (hQ' _ _ (hQ ((2 : Int), p1.2.2) jgc_2 h))
      · exact h.elim

set_option maxRecDepth 20000 in
set_option maxHeartbeats 1000000 in
theorem jc_313 {X : Nat × (Nat → Int32)} {N d : Nat} {x1 : Int} {x2 : Int} (hN3 : 103 ≤ N) (hd : 5 ≤ d) (hx1 : jg x1) (hx2 : jg x2) {m : jm} {P : Int × jm → Prop} {Q : px_Q} (h : jo (jf_313 x1 x2 m) P) (hQ : ∀ p : Int × jm, jg p.1 → P p → Q (.inl (some (jv p.1))) (jmem N p.2)) : px_C X d 313 [.ref 0, jv x1, jv x2, .ref 102] (jmem N m) Q := by
  unfold jf_313 at h
  have hN : 102 ≤ N := Nat.le_of_succ_le hN3
  have hu : ju px_m313 (0, 0) := ju_0
  refine jr_inT (M := px_m313) (lev := 4) (L := [some (.ref 0), some (jv x1), some (jv x2), some (.ref 102), none]) hd hN3 rfl (jl rfl) rfl (fun d hd Q' hQ' => ?_)
  refine jr_al_n (pc' := 1) rfl rfl rfl (jr_ic (pc' := 2) rfl rfl (jr_al_n (pc' := 3) rfl rfl rfl (jr_il_n (pc' := 4) rfl rfl rfl (jr_il_n (pc' := 5) rfl rfl rfl ?_))))
  refine jr_ct_i (pc' := 8) [_, _] rfl rfl jlk_13_42 jq_164 (u' := (2, 12)) rfl (ju_l rfl rfl) (jl rfl) rfl (jl rfl) rfl (jk rfl hN) (jd_0.trans jo_164.symm) (fun Q' hq0 hq1 => jc_164 hN3 (Nat.le_trans (jl rfl) hd) hx1 hx2 (jo_b h) hq0 hq1) (fun p1 h0 hp1 h => jo_i h (fun _ h => ?_) (fun hc _ => absurd h0 hc)) (fun p1 e he h => jo_i h (fun hc _ => absurd (he.symm.trans hc) (Nat.succ_ne_zero e)) (fun _ h => ?_))
  · refine jr_i2l (pc' := 9) rfl rfl hp1 (jr_lst (pc' := 10) rfl rfl hN3 ?_)
    refine jr_le h (fun m2 h => ?_)
    refine jr_goto (pc' := 17) rfl rfl (jr_ic (pc' := 18) rfl rfl ?_)
    exact jr_ret rfl (ju_l rfl rfl) rfl (hQ' _ _ (hQ ((0 : Int), m2) jgc_0 h))
  · refine jo_i h (fun hc h => jhe (Nat.succ.inj (he.symm.trans hc)) (jh_a (L' := [_, _, _, _, _]) rfl rfl rfl rfl (jl rfl) rfl ?_)) (fun _ h => ?_)
    · refine jr_ic (pc' := 16) rfl rfl ?_
      exact jr_ret rfl (ju_l rfl rfl) rfl (hQ' _ _ (hQ ((1 : Int), p1.2.2) jgc_1 h))
    · exact h.elim

set_option maxRecDepth 20000 in
set_option maxHeartbeats 1000000 in
theorem jc_314 {X : Nat × (Nat → Int32)} {N d : Nat} {x1 : Int} {x2 : Int} {x3 : Int} (hN3 : 103 ≤ N) (hd : 6 ≤ d) (hx1 : jg x1) (hx2 : jg x2) (hx3 : jg x3) {m : jm} {P : Int × jm → Prop} {Q : px_Q} (h : jo (jf_314 x1 x2 x3 m) P) (hQ : ∀ p : Int × jm, jg p.1 → P p → Q (.inl (some (jv p.1))) (jmem N p.2)) : px_C X d 314 [.ref 0, jv x1, jv x2, jv x3, .ref 102] (jmem N m) Q := by
  unfold jf_314 at h
  have hN : 102 ≤ N := Nat.le_of_succ_le hN3
  have hu : ju px_m314 (0, 0) := ju_0
  refine jr_inT (M := px_m314) (lev := 5) (L := [some (.ref 0), some (jv x1), some (jv x2), some (jv x3), some (.ref 102), none]) hd hN3 rfl (jl rfl) rfl (fun d hd Q' hQ' => ?_)
  refine jr_al (pc' := 2) rfl rfl rfl (jr_ic (pc' := 3) rfl rfl (jr_al_n (pc' := 4) rfl rfl rfl (jr_il_n (pc' := 5) rfl rfl rfl (jr_il_n (pc' := 6) rfl rfl rfl (jr_il_n (pc' := 7) rfl rfl rfl ?_)))))
  refine jr_ct_i (pc' := 10) [_, _] rfl rfl jlk_13_45 jq_166 (u' := (3, 18)) rfl (ju_l rfl rfl) (jl rfl) rfl (jl rfl) rfl (jk rfl hN) (jd_0.trans jo_166.symm) (fun Q' hq0 hq1 => jc_166 hN3 (Nat.le_trans (jl rfl) hd) hx1 hx2 hx3 (jo_b h) hq0 hq1) (fun p1 h0 hp1 h => jo_i h (fun _ h => ?_) (fun hc _ => absurd h0 hc)) (fun p1 e he h => jo_i h (fun hc _ => absurd (he.symm.trans hc) (Nat.succ_ne_zero e)) (fun _ h => ?_))
  · refine jr_i2l (pc' := 11) rfl rfl hp1 (jr_lst (pc' := 12) rfl rfl hN3 ?_)
    refine jr_le h (fun m2 h => ?_)
    refine jr_goto (pc' := 23) rfl rfl (jr_ic (pc' := 24) rfl rfl ?_)
    exact jr_ret rfl (ju_l rfl rfl) rfl (hQ' _ _ (hQ ((0 : Int), m2) jgc_0 h))
  · refine jo_i h (fun hc h => jhe (Nat.succ.inj (he.symm.trans hc)) (jh_a (L' := [_, _, _, _, _, _]) rfl rfl rfl rfl (jl rfl) rfl ?_)) (fun _ h => ?_)
    · refine jr_ic (pc' := 18) rfl rfl ?_
      exact jr_ret rfl (ju_l rfl rfl) rfl (hQ' _ _ (hQ ((1 : Int), p1.2.2) jgc_1 h))
    · refine jo_i h (fun hc h => jhe (Nat.succ.inj (he.symm.trans hc)) (jh_a (L' := [_, _, _, _, _, _]) rfl rfl rfl rfl (jl rfl) rfl ?_)) (fun _ h => ?_)
      · refine jr_ic (pc' := 22) rfl rfl ?_
        exact jr_ret rfl (ju_l rfl rfl) rfl (hQ' _ _ (hQ ((2 : Int), p1.2.2) jgc_2 h))
      · exact h.elim

set_option maxRecDepth 20000 in
set_option maxHeartbeats 1000000 in
theorem jc_315 {X : Nat × (Nat → Int32)} {N d : Nat} {x1 : Int} {x2 : Int} {x3 : Int} {x4 : Int} {x5 : Int} {x6 : Int} {x7 : Int} {x8 : Int} {x9 : Int} (hN3 : 103 ≤ N) (hd : 5 ≤ d) (hx1 : jg x1) (hx2 : jg x2) (hx3 : jg x3) (hx4 : jg x4) (hx5 : jg x5) (hx6 : jg x6) (hx7 : jg x7) (hx8 : jg x8) (hx9 : jg x9) {m : jm} {P : Int × jm → Prop} {Q : px_Q} (h : jo (jf_315 x1 x2 x3 x4 x5 x6 x7 x8 x9 m) P) (hQ : ∀ p : Int × jm, jg p.1 → P p → Q (.inl (some (jv p.1))) (jmem N p.2)) : px_C X d 315 [.ref 0, jv x1, jv x2, jv x3, jv x4, jv x5, jv x6, jv x7, jv x8, jv x9, .ref 102] (jmem N m) Q := by
  unfold jf_315 at h
  have hN : 102 ≤ N := Nat.le_of_succ_le hN3
  have hu : ju px_m315 (0, 0) := ju_0
  refine jr_inT (M := px_m315) (lev := 4) (L := [some (.ref 0), some (jv x1), some (jv x2), some (jv x3), some (jv x4), some (jv x5), some (jv x6), some (jv x7), some (jv x8), some (jv x9), some (.ref 102), none]) hd hN3 rfl (jl rfl) rfl (fun d hd Q' hQ' => ?_)
  refine jr_al (pc' := 2) rfl rfl rfl (jr_ic (pc' := 3) rfl rfl (jr_al_n (pc' := 4) rfl rfl rfl (jr_il_n (pc' := 5) rfl rfl rfl (jr_il_n (pc' := 6) rfl rfl rfl (jr_il_n (pc' := 7) rfl rfl rfl ?_)))))
  refine jr_il (pc' := 9) rfl rfl rfl (jr_il (pc' := 11) rfl rfl rfl (jr_il (pc' := 13) rfl rfl rfl (jr_il (pc' := 15) rfl rfl rfl (jr_il (pc' := 17) rfl rfl rfl (jr_il (pc' := 19) rfl rfl rfl ?_)))))
  refine jr_ct_i (pc' := 22) [_, _] rfl rfl jlk_13_49 jq_167 (u' := (1, 6)) rfl (ju_l rfl rfl) (jl rfl) rfl (jl rfl) rfl (jk rfl hN) (jd_0.trans jo_167.symm) (fun Q' hq0 hq1 => jc_167 hN3 (Nat.le_trans (jl rfl) hd) hx1 hx2 hx3 hx4 hx5 hx6 hx7 hx8 hx9 (jo_b h) hq0 hq1) (fun p1 h0 hp1 h => jo_i h (fun _ h => ?_) (fun hc _ => absurd h0 hc)) (fun p1 e he h => jo_i h (fun hc _ => absurd (he.symm.trans hc) (Nat.succ_ne_zero e)) (fun _ h => ?_))
  · refine jr_i2l (pc' := 23) rfl rfl hp1 (jr_lst (pc' := 24) rfl rfl hN3 ?_)
    refine jr_le h (fun m2 h => ?_)
    refine jr_goto (pc' := 31) rfl rfl (jr_ic (pc' := 32) rfl rfl ?_)
    exact jr_ret rfl (ju_l rfl rfl) rfl (hQ' _ _ (hQ ((0 : Int), m2) jgc_0 h))
  · refine jo_i h (fun hc h => jhe (Nat.succ.inj (he.symm.trans hc)) (jh_a (L' := [_, _, _, _, _, _, _, _, _, _, _, _]) rfl rfl rfl rfl (jl rfl) rfl ?_)) (fun _ h => ?_)
    · refine jr_ic (pc' := 30) rfl rfl ?_
      exact jr_ret rfl (ju_l rfl rfl) rfl (hQ' _ _ (hQ ((1 : Int), p1.2.2) jgc_1 h))
    · exact h.elim

set_option maxRecDepth 20000 in
set_option maxHeartbeats 1000000 in
theorem jc_316 {X : Nat × (Nat → Int32)} {N d : Nat} {x1 : Int} {x2 : Int} {x3 : Int} (hN3 : 103 ≤ N) (hd : 6 ≤ d) (hx1 : jg x1) (hx2 : jg x2) (hx3 : jg x3) {m : jm} {P : Int × jm → Prop} {Q : px_Q} (h : jo (jf_316 x1 x2 x3 m) P) (hQ : ∀ p : Int × jm, jg p.1 → P p → Q (.inl (some (jv p.1))) (jmem N p.2)) : px_C X d 316 [.ref 0, jv x1, jv x2, jv x3, .ref 102] (jmem N m) Q := by
  unfold jf_316 at h
  have hN : 102 ≤ N := Nat.le_of_succ_le hN3
  have hu : ju px_m316 (0, 0) := ju_0
  refine jr_inT (M := px_m316) (lev := 5) (L := [some (.ref 0), some (jv x1), some (jv x2), some (jv x3), some (.ref 102), none]) hd hN3 rfl (jl rfl) rfl (fun d hd Q' hQ' => ?_)
  refine jr_al (pc' := 2) rfl rfl rfl (jr_ic (pc' := 3) rfl rfl (jr_al_n (pc' := 4) rfl rfl rfl (jr_il_n (pc' := 5) rfl rfl rfl (jr_il_n (pc' := 6) rfl rfl rfl (jr_il_n (pc' := 7) rfl rfl rfl ?_)))))
  refine jr_ct_i (pc' := 10) [_, _] rfl rfl jlk_13_53 jq_168 (u' := (3, 18)) rfl (ju_l rfl rfl) (jl rfl) rfl (jl rfl) rfl (jk rfl hN) (jd_0.trans jo_168.symm) (fun Q' hq0 hq1 => jc_168 hN3 (Nat.le_trans (jl rfl) hd) hx1 hx2 hx3 (jo_b h) hq0 hq1) (fun p1 h0 hp1 h => jo_i h (fun _ h => ?_) (fun hc _ => absurd h0 hc)) (fun p1 e he h => jo_i h (fun hc _ => absurd (he.symm.trans hc) (Nat.succ_ne_zero e)) (fun _ h => ?_))
  · refine jr_reg (fun t2 => jgl t2) (fun t2 => jp X (px_C X d) px_m316 Q' N 18 [some (.ref 0), some (jv x1), some (jv x2), some (jv x3), some (.ref 102), none] [(jvl t2), (jv (0 : Int)), (.ref 102)] p1.2.2 (3, 18)) h (fun t2 ht2 h => ?_) (fun R15 k3 h => ?_)
    · refine jr_lst (pc' := 19) rfl rfl hN3 ?_
      refine jr_le h (fun m14 h => ?_)
      refine jr_goto (pc' := 30) rfl rfl (jr_ic (pc' := 31) rfl rfl ?_)
      exact jr_ret rfl (ju_l rfl rfl) rfl (hQ' _ _ (hQ ((0 : Int), m14) jgc_0 h))
    · refine jr_zeq (pa := 17) (pb := 13) rfl rfl rfl (jg_b hp1) h (fun hc h => ?_) (fun hc h => ?_)
      · refine jr_lc (pc' := 18) (x := 0) rfl rfl rfl ?_
        exact k3 ((0 : Int)) jglc_0 h
      · refine jr_lc (pc' := 14) (x := 1) rfl rfl rfl (jr_goto (pc' := 18) rfl rfl ?_)
        exact k3 ((1 : Int)) jglc_1 h
  · refine jo_i h (fun hc h => jhe (Nat.succ.inj (he.symm.trans hc)) (jh_a (L' := [_, _, _, _, _, _]) rfl rfl rfl rfl (jl rfl) rfl ?_)) (fun _ h => ?_)
    · refine jr_ic (pc' := 25) rfl rfl ?_
      exact jr_ret rfl (ju_l rfl rfl) rfl (hQ' _ _ (hQ ((1 : Int), p1.2.2) jgc_1 h))
    · refine jo_i h (fun hc h => jhe (Nat.succ.inj (he.symm.trans hc)) (jh_a (L' := [_, _, _, _, _, _]) rfl rfl rfl rfl (jl rfl) rfl ?_)) (fun _ h => ?_)
      · refine jr_ic (pc' := 29) rfl rfl ?_
        exact jr_ret rfl (ju_l rfl rfl) rfl (hQ' _ _ (hQ ((2 : Int), p1.2.2) jgc_2 h))
      · exact h.elim

set_option maxRecDepth 20000 in
set_option maxHeartbeats 1000000 in
theorem jc_317 {X : Nat × (Nat → Int32)} {N d : Nat} {x1 : Int} (hN3 : 103 ≤ N) (hd : 8 ≤ d) (hx1 : jg x1) {m : jm} {P : Int × jm → Prop} {Q : px_Q} (h : jo (jf_317 x1 m) P) (hQ : ∀ p : Int × jm, jg p.1 → P p → Q (.inl (some (jv p.1))) (jmem N p.2)) : px_C X d 317 [.ref 0, jv x1, .ref 102] (jmem N m) Q := by
  unfold jf_317 at h
  have hN : 102 ≤ N := Nat.le_of_succ_le hN3
  have hu : ju px_m317 (0, 0) := ju_0
  refine jr_inT (M := px_m317) (lev := 7) (L := [some (.ref 0), some (jv x1), some (.ref 102), none]) hd hN3 rfl (jl rfl) rfl (fun d hd Q' hQ' => ?_)
  refine jr_al_n (pc' := 1) rfl rfl rfl (jr_ic (pc' := 2) rfl rfl (jr_al_n (pc' := 3) rfl rfl rfl (jr_il_n (pc' := 4) rfl rfl rfl ?_)))
  refine jr_ct_i (pc' := 7) [_, _] rfl rfl jlk_13_57 jq_169 (u' := (1, 6)) rfl (ju_l rfl rfl) (jl rfl) rfl (jl rfl) rfl (jk rfl hN) (jd_0.trans jo_169.symm) (fun Q' hq0 hq1 => jc_169 hN3 (Nat.le_trans (jl rfl) hd) hx1 (jo_b h) hq0 hq1) (fun p1 h0 hp1 h => jo_i h (fun _ h => ?_) (fun hc _ => absurd h0 hc)) (fun p1 e he h => jo_i h (fun hc _ => absurd (he.symm.trans hc) (Nat.succ_ne_zero e)) (fun _ h => ?_))
  · refine jr_i2l (pc' := 8) rfl rfl hp1 (jr_lst (pc' := 9) rfl rfl hN3 ?_)
    refine jr_le h (fun m2 h => ?_)
    refine jr_goto (pc' := 15) rfl rfl (jr_ic (pc' := 16) rfl rfl ?_)
    exact jr_ret rfl (ju_l rfl rfl) rfl (hQ' _ _ (hQ ((0 : Int), m2) jgc_0 h))
  · refine jo_i h (fun hc h => jhe (Nat.succ.inj (he.symm.trans hc)) (jh_n (L' := [_, _, _, _]) rfl rfl rfl rfl (jl rfl) rfl ?_)) (fun _ h => ?_)
    · refine jr_ic (pc' := 14) rfl rfl ?_
      exact jr_ret rfl (ju_l rfl rfl) rfl (hQ' _ _ (hQ ((1 : Int), p1.2.2) jgc_1 h))
    · exact h.elim

set_option maxRecDepth 20000 in
set_option maxHeartbeats 1000000 in
theorem jc_318 {X : Nat × (Nat → Int32)} {N d : Nat} {x1 : Int} {x2 : Int} {x3 : Int} (hN3 : 103 ≤ N) (hd : 8 ≤ d) (hx1 : jg x1) (hx2 : jg x2) (hx3 : jg x3) {m : jm} {P : Int × jm → Prop} {Q : px_Q} (h : jo (jf_318 x1 x2 x3 m) P) (hQ : ∀ p : Int × jm, jg p.1 → P p → Q (.inl (some (jv p.1))) (jmem N p.2)) : px_C X d 318 [.ref 0, jv x1, jv x2, jv x3, .ref 102] (jmem N m) Q := by
  unfold jf_318 at h
  have hN : 102 ≤ N := Nat.le_of_succ_le hN3
  have hu : ju px_m318 (0, 0) := ju_0
  refine jr_inT (M := px_m318) (lev := 7) (L := [some (.ref 0), some (jv x1), some (jv x2), some (jv x3), some (.ref 102), none]) hd hN3 rfl (jl rfl) rfl (fun d hd Q' hQ' => ?_)
  refine jr_al (pc' := 2) rfl rfl rfl (jr_ic (pc' := 3) rfl rfl (jr_al_n (pc' := 4) rfl rfl rfl (jr_il_n (pc' := 5) rfl rfl rfl (jr_il_n (pc' := 6) rfl rfl rfl (jr_il_n (pc' := 7) rfl rfl rfl ?_)))))
  refine jr_ct_i (pc' := 10) [_, _] rfl rfl jlk_13_60 jq_170 (u' := (3, 18)) rfl (ju_l rfl rfl) (jl rfl) rfl (jl rfl) rfl (jk rfl hN) (jd_0.trans jo_170.symm) (fun Q' hq0 hq1 => jc_170 hN3 (Nat.le_trans (jl rfl) hd) hx1 hx2 hx3 (jo_b h) hq0 hq1) (fun p1 h0 hp1 h => jo_i h (fun _ h => ?_) (fun hc _ => absurd h0 hc)) (fun p1 e he h => jo_i h (fun hc _ => absurd (he.symm.trans hc) (Nat.succ_ne_zero e)) (fun _ h => ?_))
  · refine jr_i2l (pc' := 11) rfl rfl hp1 (jr_lst (pc' := 12) rfl rfl hN3 ?_)
    refine jr_le h (fun m2 h => ?_)
    refine jr_goto (pc' := 23) rfl rfl (jr_ic (pc' := 24) rfl rfl ?_)
    exact jr_ret rfl (ju_l rfl rfl) rfl (hQ' _ _ (hQ ((0 : Int), m2) jgc_0 h))
  · refine jo_i h (fun hc h => jhe (Nat.succ.inj (he.symm.trans hc)) (jh_a (L' := [_, _, _, _, _, _]) rfl rfl rfl rfl (jl rfl) rfl ?_)) (fun _ h => ?_)
    · refine jr_ic (pc' := 18) rfl rfl ?_
      exact jr_ret rfl (ju_l rfl rfl) rfl (hQ' _ _ (hQ ((1 : Int), p1.2.2) jgc_1 h))
    · refine jo_i h (fun hc h => jhe (Nat.succ.inj (he.symm.trans hc)) (jh_a (L' := [_, _, _, _, _, _]) rfl rfl rfl rfl (jl rfl) rfl ?_)) (fun _ h => ?_)
      · refine jr_ic (pc' := 22) rfl rfl ?_
        exact jr_ret rfl (ju_l rfl rfl) rfl (hQ' _ _ (hQ ((2 : Int), p1.2.2) jgc_2 h))
      · exact h.elim

set_option maxRecDepth 20000 in
set_option maxHeartbeats 1000000 in
theorem jc_319 {X : Nat × (Nat → Int32)} {N d : Nat} {x1 : Int} {x2 : Int} (hN3 : 103 ≤ N) (hd : 8 ≤ d) (hx1 : jg x1) (hx2 : jg x2) {m : jm} {P : Int × jm → Prop} {Q : px_Q} (h : jo (jf_319 x1 x2 m) P) (hQ : ∀ p : Int × jm, jg p.1 → P p → Q (.inl (some (jv p.1))) (jmem N p.2)) : px_C X d 319 [.ref 0, jv x1, jv x2, .ref 102] (jmem N m) Q := by
  unfold jf_319 at h
  have hN : 102 ≤ N := Nat.le_of_succ_le hN3
  have hu : ju px_m319 (0, 0) := ju_0
  refine jr_inT (M := px_m319) (lev := 7) (L := [some (.ref 0), some (jv x1), some (jv x2), some (.ref 102), none]) hd hN3 rfl (jl rfl) rfl (fun d hd Q' hQ' => ?_)
  refine jr_al_n (pc' := 1) rfl rfl rfl (jr_ic (pc' := 2) rfl rfl (jr_al_n (pc' := 3) rfl rfl rfl (jr_il_n (pc' := 4) rfl rfl rfl (jr_il_n (pc' := 5) rfl rfl rfl ?_))))
  refine jr_ct_i (pc' := 8) [_, _] rfl rfl jlk_13_63 jq_171 (u' := (2, 12)) rfl (ju_l rfl rfl) (jl rfl) rfl (jl rfl) rfl (jk rfl hN) (jd_0.trans jo_171.symm) (fun Q' hq0 hq1 => jc_171 hN3 (Nat.le_trans (jl rfl) hd) hx1 hx2 (jo_b h) hq0 hq1) (fun p1 h0 hp1 h => jo_i h (fun _ h => ?_) (fun hc _ => absurd h0 hc)) (fun p1 e he h => jo_i h (fun hc _ => absurd (he.symm.trans hc) (Nat.succ_ne_zero e)) (fun _ h => ?_))
  · refine jr_i2l (pc' := 9) rfl rfl hp1 (jr_lst (pc' := 10) rfl rfl hN3 ?_)
    refine jr_le h (fun m2 h => ?_)
    refine jr_goto (pc' := 21) rfl rfl (jr_ic (pc' := 22) rfl rfl ?_)
    exact jr_ret rfl (ju_l rfl rfl) rfl (hQ' _ _ (hQ ((0 : Int), m2) jgc_0 h))
  · refine jo_i h (fun hc h => jhe (Nat.succ.inj (he.symm.trans hc)) (jh_a (L' := [_, _, _, _, _]) rfl rfl rfl rfl (jl rfl) rfl ?_)) (fun _ h => ?_)
    · refine jr_ic (pc' := 16) rfl rfl ?_
      exact jr_ret rfl (ju_l rfl rfl) rfl (hQ' _ _ (hQ ((1 : Int), p1.2.2) jgc_1 h))
    · refine jo_i h (fun hc h => jhe (Nat.succ.inj (he.symm.trans hc)) (jh_a (L' := [_, _, _, _, _]) rfl rfl rfl rfl (jl rfl) rfl ?_)) (fun _ h => ?_)
      · refine jr_ic (pc' := 20) rfl rfl ?_
        exact jr_ret rfl (ju_l rfl rfl) rfl (hQ' _ _ (hQ ((2 : Int), p1.2.2) jgc_2 h))
      · exact h.elim

