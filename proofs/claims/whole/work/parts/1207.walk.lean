/-! the pure machine follows the functions, 8 (written by wip/whole/gen/walk.py) -/
set_option maxRecDepth 20000 in
set_option maxHeartbeats 1000000 in
theorem jc_102 {X : Nat × (Nat → Int32)} {N d : Nat}  (hN : 102 ≤ N) (hd : 5 ≤ d)  {m : jm} {P : Int × jm → Prop} {Q : px_Q} (h : jo (jf_102 m) P) (hQ : ∀ p : Int × jm, jb p.1 → P p → Q (.inl (some (jv p.1))) (jmem N p.2)) : px_C X d 102 [.ref 41, .ref 1, .ref 3] (jmem N m) Q := by
  unfold jf_102 at h
  have hu : ju px_m102 (0, 0) := ju_0
  refine jr_in (M := px_m102) (lev := 4) (L := [some (.ref 41), some (.ref 1), some (.ref 3), none]) hd rfl jbd_102 (jl rfl) rfl (fun d hd Q' hQ' => ?_)
  refine jr_al_n (pc' := 1) rfl rfl rfl (jr_lds (pc' := 3) rfl rfl jlk_7_59 ?_)
  refine jr_cv_i (pc' := 6) [] rfl rfl jlk_7_61 jq_117 jbd_117 (jl rfl) rfl (jl rfl) hu rfl (jk rfl hN) (jd_1.trans jo_117.symm) (fun Q' hq => jc_117 hN (Nat.le_trans (jl rfl) hd) (jl rfl) (jo_b h) hq) (fun p1 hp1 h => ?_)
  refine jr_is_n (pc' := 7) (L' := [_, _, _, _]) rfl rfl (jl rfl) rfl rfl (jr_il_n (pc' := 8) rfl rfl rfl ?_)
  refine jo_i h (fun hc h => ?_) (fun hc0 h => ?_)
  · refine jr_tsc (pc' := 60) (-1) rfl hp1 hc (by decide) rfl rfl (jr_ic (pc' := 61) rfl rfl ?_)
    exact jr_retb rfl hu rfl jb_0 (hQ' _ _ (hQ ((0 : Int), p1.2) jb_0 h))
  · refine jo_i h (fun hc h => ?_) (fun hc1 h => ?_)
    · refine jr_tsc (pc' := 93) (0) rfl hp1 hc (by decide) rfl rfl (jr_al_n (pc' := 94) rfl rfl rfl (jr_al_n (pc' := 95) rfl rfl rfl (jr_al_n (pc' := 96) rfl rfl rfl (jr_il_n (pc' := 97) rfl rfl rfl ?_))))
      refine jr_cv_i (pc' := 100) [] rfl rfl jlk_7_68 jq_104 jbd_104 (jl rfl) rfl (jl rfl) hu rfl (jk rfl hN) (jd_41.trans jo_104.symm) (fun Q' hq => jc_104 hN (Nat.le_trans (jl rfl) hd) hp1 (jo_b h) hq) (fun p108 hp108 h => ?_)
      refine jr_reg (fun t109 => jb t109.1) (fun t109 => jp X (px_C X d) px_m102 Q' N 117 [some (.ref 41), some (.ref 1), some (.ref 3), some (jv p1.1)] [(jv t109.1)] t109.2 (0, 0)) h (fun t109 ht109 h => ?_) (fun R122 k110 h => ?_)
      · exact jr_retb rfl hu rfl ht109 (hQ' _ _ (hQ (t109.1, t109.2) ht109 h))
      · refine jr_zeq (pa := 116) (pb := 103) rfl rfl rfl (jg_b hp108) h (fun hc h => ?_) (fun hc h => ?_)
        · refine jr_ic (pc' := 117) rfl rfl ?_
          exact k110 ((0 : Int), p108.2) jb_0 h
        · refine jr_al_n (pc' := 104) rfl rfl rfl (jr_bi (pc' := 106) rfl rfl rfl ?_)
          refine jr_cv_i (pc' := 109) [] rfl rfl jlk_7_55 jq_123 jbd_123 (jl rfl) rfl (jl rfl) hu rfl (jk rfl hN) (jd_1.trans jo_123.symm) (fun Q' hq => jc_123 hN (Nat.le_trans (jl rfl) hd) jgc_59 (jo_b h) hq) (fun p111 hp111 h => ?_)
          refine jr_zeq (pa := 116) (pb := 112) rfl rfl rfl (jg_b hp111) h (fun hc h => ?_) (fun hc h => ?_)
          · refine jr_ic (pc' := 117) rfl rfl ?_
            exact k110 ((0 : Int), p111.2) jb_0 h
          · refine jr_ic (pc' := 113) rfl rfl (jr_goto (pc' := 117) rfl rfl ?_)
            exact k110 ((1 : Int), p111.2) jb_1 h
    · refine jo_i h (fun hc h => ?_) (fun hc2 h => ?_)
      · refine jr_tsc (pc' := 93) (1) rfl hp1 hc (by decide) rfl rfl (jr_al_n (pc' := 94) rfl rfl rfl (jr_al_n (pc' := 95) rfl rfl rfl (jr_al_n (pc' := 96) rfl rfl rfl (jr_il_n (pc' := 97) rfl rfl rfl ?_))))
        refine jr_cv_i (pc' := 100) [] rfl rfl jlk_7_68 jq_104 jbd_104 (jl rfl) rfl (jl rfl) hu rfl (jk rfl hN) (jd_41.trans jo_104.symm) (fun Q' hq => jc_104 hN (Nat.le_trans (jl rfl) hd) hp1 (jo_b h) hq) (fun p93 hp93 h => ?_)
        refine jr_reg (fun t94 => jb t94.1) (fun t94 => jp X (px_C X d) px_m102 Q' N 117 [some (.ref 41), some (.ref 1), some (.ref 3), some (jv p1.1)] [(jv t94.1)] t94.2 (0, 0)) h (fun t94 ht94 h => ?_) (fun R107 k95 h => ?_)
        · exact jr_retb rfl hu rfl ht94 (hQ' _ _ (hQ (t94.1, t94.2) ht94 h))
        · refine jr_zeq (pa := 116) (pb := 103) rfl rfl rfl (jg_b hp93) h (fun hc h => ?_) (fun hc h => ?_)
          · refine jr_ic (pc' := 117) rfl rfl ?_
            exact k95 ((0 : Int), p93.2) jb_0 h
          · refine jr_al_n (pc' := 104) rfl rfl rfl (jr_bi (pc' := 106) rfl rfl rfl ?_)
            refine jr_cv_i (pc' := 109) [] rfl rfl jlk_7_55 jq_123 jbd_123 (jl rfl) rfl (jl rfl) hu rfl (jk rfl hN) (jd_1.trans jo_123.symm) (fun Q' hq => jc_123 hN (Nat.le_trans (jl rfl) hd) jgc_59 (jo_b h) hq) (fun p96 hp96 h => ?_)
            refine jr_zeq (pa := 116) (pb := 112) rfl rfl rfl (jg_b hp96) h (fun hc h => ?_) (fun hc h => ?_)
            · refine jr_ic (pc' := 117) rfl rfl ?_
              exact k95 ((0 : Int), p96.2) jb_0 h
            · refine jr_ic (pc' := 113) rfl rfl (jr_goto (pc' := 117) rfl rfl ?_)
              exact k95 ((1 : Int), p96.2) jb_1 h
      · refine jo_i h (fun hc h => ?_) (fun hc3 h => ?_)
        · refine jr_tsc (pc' := 93) (2) rfl hp1 hc (by decide) rfl rfl (jr_al_n (pc' := 94) rfl rfl rfl (jr_al_n (pc' := 95) rfl rfl rfl (jr_al_n (pc' := 96) rfl rfl rfl (jr_il_n (pc' := 97) rfl rfl rfl ?_))))
          refine jr_cv_i (pc' := 100) [] rfl rfl jlk_7_68 jq_104 jbd_104 (jl rfl) rfl (jl rfl) hu rfl (jk rfl hN) (jd_41.trans jo_104.symm) (fun Q' hq => jc_104 hN (Nat.le_trans (jl rfl) hd) hp1 (jo_b h) hq) (fun p78 hp78 h => ?_)
          refine jr_reg (fun t79 => jb t79.1) (fun t79 => jp X (px_C X d) px_m102 Q' N 117 [some (.ref 41), some (.ref 1), some (.ref 3), some (jv p1.1)] [(jv t79.1)] t79.2 (0, 0)) h (fun t79 ht79 h => ?_) (fun R92 k80 h => ?_)
          · exact jr_retb rfl hu rfl ht79 (hQ' _ _ (hQ (t79.1, t79.2) ht79 h))
          · refine jr_zeq (pa := 116) (pb := 103) rfl rfl rfl (jg_b hp78) h (fun hc h => ?_) (fun hc h => ?_)
            · refine jr_ic (pc' := 117) rfl rfl ?_
              exact k80 ((0 : Int), p78.2) jb_0 h
            · refine jr_al_n (pc' := 104) rfl rfl rfl (jr_bi (pc' := 106) rfl rfl rfl ?_)
              refine jr_cv_i (pc' := 109) [] rfl rfl jlk_7_55 jq_123 jbd_123 (jl rfl) rfl (jl rfl) hu rfl (jk rfl hN) (jd_1.trans jo_123.symm) (fun Q' hq => jc_123 hN (Nat.le_trans (jl rfl) hd) jgc_59 (jo_b h) hq) (fun p81 hp81 h => ?_)
              refine jr_zeq (pa := 116) (pb := 112) rfl rfl rfl (jg_b hp81) h (fun hc h => ?_) (fun hc h => ?_)
              · refine jr_ic (pc' := 117) rfl rfl ?_
                exact k80 ((0 : Int), p81.2) jb_0 h
              · refine jr_ic (pc' := 113) rfl rfl (jr_goto (pc' := 117) rfl rfl ?_)
                exact k80 ((1 : Int), p81.2) jb_1 h
        · refine jo_i h (fun hc h => ?_) (fun hc4 h => ?_)
          · refine jr_tsc (pc' := 93) (3) rfl hp1 hc (by decide) rfl rfl (jr_al_n (pc' := 94) rfl rfl rfl (jr_al_n (pc' := 95) rfl rfl rfl (jr_al_n (pc' := 96) rfl rfl rfl (jr_il_n (pc' := 97) rfl rfl rfl ?_))))
            refine jr_cv_i (pc' := 100) [] rfl rfl jlk_7_68 jq_104 jbd_104 (jl rfl) rfl (jl rfl) hu rfl (jk rfl hN) (jd_41.trans jo_104.symm) (fun Q' hq => jc_104 hN (Nat.le_trans (jl rfl) hd) hp1 (jo_b h) hq) (fun p63 hp63 h => ?_)
            refine jr_reg (fun t64 => jb t64.1) (fun t64 => jp X (px_C X d) px_m102 Q' N 117 [some (.ref 41), some (.ref 1), some (.ref 3), some (jv p1.1)] [(jv t64.1)] t64.2 (0, 0)) h (fun t64 ht64 h => ?_) (fun R77 k65 h => ?_)
            · exact jr_retb rfl hu rfl ht64 (hQ' _ _ (hQ (t64.1, t64.2) ht64 h))
            · refine jr_zeq (pa := 116) (pb := 103) rfl rfl rfl (jg_b hp63) h (fun hc h => ?_) (fun hc h => ?_)
              · refine jr_ic (pc' := 117) rfl rfl ?_
                exact k65 ((0 : Int), p63.2) jb_0 h
              · refine jr_al_n (pc' := 104) rfl rfl rfl (jr_bi (pc' := 106) rfl rfl rfl ?_)
                refine jr_cv_i (pc' := 109) [] rfl rfl jlk_7_55 jq_123 jbd_123 (jl rfl) rfl (jl rfl) hu rfl (jk rfl hN) (jd_1.trans jo_123.symm) (fun Q' hq => jc_123 hN (Nat.le_trans (jl rfl) hd) jgc_59 (jo_b h) hq) (fun p66 hp66 h => ?_)
                refine jr_zeq (pa := 116) (pb := 112) rfl rfl rfl (jg_b hp66) h (fun hc h => ?_) (fun hc h => ?_)
                · refine jr_ic (pc' := 117) rfl rfl ?_
                  exact k65 ((0 : Int), p66.2) jb_0 h
                · refine jr_ic (pc' := 113) rfl rfl (jr_goto (pc' := 117) rfl rfl ?_)
                  exact k65 ((1 : Int), p66.2) jb_1 h
          · refine jo_i h (fun hc h => ?_) (fun hc5 h => ?_)
            · refine jr_tsc (pc' := 93) (4) rfl hp1 hc (by decide) rfl rfl (jr_al_n (pc' := 94) rfl rfl rfl (jr_al_n (pc' := 95) rfl rfl rfl (jr_al_n (pc' := 96) rfl rfl rfl (jr_il_n (pc' := 97) rfl rfl rfl ?_))))
              refine jr_cv_i (pc' := 100) [] rfl rfl jlk_7_68 jq_104 jbd_104 (jl rfl) rfl (jl rfl) hu rfl (jk rfl hN) (jd_41.trans jo_104.symm) (fun Q' hq => jc_104 hN (Nat.le_trans (jl rfl) hd) hp1 (jo_b h) hq) (fun p48 hp48 h => ?_)
              refine jr_reg (fun t49 => jb t49.1) (fun t49 => jp X (px_C X d) px_m102 Q' N 117 [some (.ref 41), some (.ref 1), some (.ref 3), some (jv p1.1)] [(jv t49.1)] t49.2 (0, 0)) h (fun t49 ht49 h => ?_) (fun R62 k50 h => ?_)
              · exact jr_retb rfl hu rfl ht49 (hQ' _ _ (hQ (t49.1, t49.2) ht49 h))
              · refine jr_zeq (pa := 116) (pb := 103) rfl rfl rfl (jg_b hp48) h (fun hc h => ?_) (fun hc h => ?_)
                · refine jr_ic (pc' := 117) rfl rfl ?_
                  exact k50 ((0 : Int), p48.2) jb_0 h
                · refine jr_al_n (pc' := 104) rfl rfl rfl (jr_bi (pc' := 106) rfl rfl rfl ?_)
                  refine jr_cv_i (pc' := 109) [] rfl rfl jlk_7_55 jq_123 jbd_123 (jl rfl) rfl (jl rfl) hu rfl (jk rfl hN) (jd_1.trans jo_123.symm) (fun Q' hq => jc_123 hN (Nat.le_trans (jl rfl) hd) jgc_59 (jo_b h) hq) (fun p51 hp51 h => ?_)
                  refine jr_zeq (pa := 116) (pb := 112) rfl rfl rfl (jg_b hp51) h (fun hc h => ?_) (fun hc h => ?_)
                  · refine jr_ic (pc' := 117) rfl rfl ?_
                    exact k50 ((0 : Int), p51.2) jb_0 h
                  · refine jr_ic (pc' := 113) rfl rfl (jr_goto (pc' := 117) rfl rfl ?_)
                    exact k50 ((1 : Int), p51.2) jb_1 h
            · refine jo_i h (fun hc h => ?_) (fun hc6 h => ?_)
              · refine jr_tsc (pc' := 68) (5) rfl hp1 hc (by decide) rfl rfl (jr_al_n (pc' := 69) rfl rfl rfl (jr_il_n (pc' := 70) rfl rfl rfl (jr_ic (pc' := 71) rfl rfl (jr_ic (pc' := 72) rfl rfl ?_))))
                refine jr_cv_i (pc' := 75) [] rfl rfl jlk_7_51 jq_101 jbd_101 (jl rfl) rfl (jl rfl) hu rfl (jk rfl hN) (jd_41.trans jo_101.symm) (fun Q' hq => jc_101 hN (Nat.le_trans (jl rfl) hd) hp1 jgc_0 jgc_0 (jo_b h) hq) (fun p33 hp33 h => ?_)
                refine jr_reg (fun t34 => jb t34.1) (fun t34 => jp X (px_C X d) px_m102 Q' N 92 [some (.ref 41), some (.ref 1), some (.ref 3), some (jv p1.1)] [(jv t34.1)] t34.2 (0, 0)) h (fun t34 ht34 h => ?_) (fun R47 k35 h => ?_)
                · exact jr_retb rfl hu rfl ht34 (hQ' _ _ (hQ (t34.1, t34.2) ht34 h))
                · refine jr_zeq (pa := 91) (pb := 78) rfl rfl rfl (jg_b hp33) h (fun hc h => ?_) (fun hc h => ?_)
                  · refine jr_ic (pc' := 92) rfl rfl ?_
                    exact k35 ((0 : Int), p33.2) jb_0 h
                  · refine jr_al_n (pc' := 79) rfl rfl rfl (jr_bi (pc' := 81) rfl rfl rfl ?_)
                    refine jr_cv_i (pc' := 84) [] rfl rfl jlk_7_55 jq_123 jbd_123 (jl rfl) rfl (jl rfl) hu rfl (jk rfl hN) (jd_1.trans jo_123.symm) (fun Q' hq => jc_123 hN (Nat.le_trans (jl rfl) hd) jgc_59 (jo_b h) hq) (fun p36 hp36 h => ?_)
                    refine jr_zeq (pa := 91) (pb := 87) rfl rfl rfl (jg_b hp36) h (fun hc h => ?_) (fun hc h => ?_)
                    · refine jr_ic (pc' := 92) rfl rfl ?_
                      exact k35 ((0 : Int), p36.2) jb_0 h
                    · refine jr_ic (pc' := 88) rfl rfl (jr_goto (pc' := 92) rfl rfl ?_)
                      exact k35 ((1 : Int), p36.2) jb_1 h
              · refine jo_i h (fun hc h => ?_) (fun hc7 h => ?_)
                · refine jr_tsc (pc' := 68) (6) rfl hp1 hc (by decide) rfl rfl (jr_al_n (pc' := 69) rfl rfl rfl (jr_il_n (pc' := 70) rfl rfl rfl (jr_ic (pc' := 71) rfl rfl (jr_ic (pc' := 72) rfl rfl ?_))))
                  refine jr_cv_i (pc' := 75) [] rfl rfl jlk_7_51 jq_101 jbd_101 (jl rfl) rfl (jl rfl) hu rfl (jk rfl hN) (jd_41.trans jo_101.symm) (fun Q' hq => jc_101 hN (Nat.le_trans (jl rfl) hd) hp1 jgc_0 jgc_0 (jo_b h) hq) (fun p18 hp18 h => ?_)
                  refine jr_reg (fun t19 => jb t19.1) (fun t19 => jp X (px_C X d) px_m102 Q' N 92 [some (.ref 41), some (.ref 1), some (.ref 3), some (jv p1.1)] [(jv t19.1)] t19.2 (0, 0)) h (fun t19 ht19 h => ?_) (fun R32 k20 h => ?_)
                  · exact jr_retb rfl hu rfl ht19 (hQ' _ _ (hQ (t19.1, t19.2) ht19 h))
                  · refine jr_zeq (pa := 91) (pb := 78) rfl rfl rfl (jg_b hp18) h (fun hc h => ?_) (fun hc h => ?_)
                    · refine jr_ic (pc' := 92) rfl rfl ?_
                      exact k20 ((0 : Int), p18.2) jb_0 h
                    · refine jr_al_n (pc' := 79) rfl rfl rfl (jr_bi (pc' := 81) rfl rfl rfl ?_)
                      refine jr_cv_i (pc' := 84) [] rfl rfl jlk_7_55 jq_123 jbd_123 (jl rfl) rfl (jl rfl) hu rfl (jk rfl hN) (jd_1.trans jo_123.symm) (fun Q' hq => jc_123 hN (Nat.le_trans (jl rfl) hd) jgc_59 (jo_b h) hq) (fun p21 hp21 h => ?_)
                      refine jr_zeq (pa := 91) (pb := 87) rfl rfl rfl (jg_b hp21) h (fun hc h => ?_) (fun hc h => ?_)
                      · refine jr_ic (pc' := 92) rfl rfl ?_
                        exact k20 ((0 : Int), p21.2) jb_0 h
                      · refine jr_ic (pc' := 88) rfl rfl (jr_goto (pc' := 92) rfl rfl ?_)
                        exact k20 ((1 : Int), p21.2) jb_1 h
                · refine jo_i h (fun hc h => ?_) (fun hc8 h => ?_)
                  · refine jr_tsc (pc' := 62) (7) rfl hp1 hc (by decide) rfl rfl (jr_al_n (pc' := 63) rfl rfl rfl (jr_al_n (pc' := 64) rfl rfl rfl ?_))
                    refine jr_cv_i (pc' := 67) [] rfl rfl jlk_7_65 jq_103 jbd_103 (jl rfl) rfl (jl rfl) hu rfl (jk rfl hN) (jd_41.trans jo_103.symm) (fun Q' hq => jc_103 hN (Nat.le_trans (jl rfl) hd)  (jo_b h) hq) (fun p17 hp17 h => ?_)
                    exact jr_retb rfl hu rfl hp17 (hQ' _ _ (hQ (p17.1, p17.2) hp17 h))
                  · refine jr_tsd (pc' := 93) rfl hp1 (by omega) rfl (jr_al_n (pc' := 94) rfl rfl rfl (jr_al_n (pc' := 95) rfl rfl rfl (jr_al_n (pc' := 96) rfl rfl rfl (jr_il_n (pc' := 97) rfl rfl rfl ?_))))
                    refine jr_cv_i (pc' := 100) [] rfl rfl jlk_7_68 jq_104 jbd_104 (jl rfl) rfl (jl rfl) hu rfl (jk rfl hN) (jd_41.trans jo_104.symm) (fun Q' hq => jc_104 hN (Nat.le_trans (jl rfl) hd) hp1 (jo_b h) hq) (fun p2 hp2 h => ?_)
                    refine jr_reg (fun t3 => jb t3.1) (fun t3 => jp X (px_C X d) px_m102 Q' N 117 [some (.ref 41), some (.ref 1), some (.ref 3), some (jv p1.1)] [(jv t3.1)] t3.2 (0, 0)) h (fun t3 ht3 h => ?_) (fun R16 k4 h => ?_)
                    · exact jr_retb rfl hu rfl ht3 (hQ' _ _ (hQ (t3.1, t3.2) ht3 h))
                    · refine jr_zeq (pa := 116) (pb := 103) rfl rfl rfl (jg_b hp2) h (fun hc h => ?_) (fun hc h => ?_)
                      · refine jr_ic (pc' := 117) rfl rfl ?_
                        exact k4 ((0 : Int), p2.2) jb_0 h
                      · refine jr_al_n (pc' := 104) rfl rfl rfl (jr_bi (pc' := 106) rfl rfl rfl ?_)
                        refine jr_cv_i (pc' := 109) [] rfl rfl jlk_7_55 jq_123 jbd_123 (jl rfl) rfl (jl rfl) hu rfl (jk rfl hN) (jd_1.trans jo_123.symm) (fun Q' hq => jc_123 hN (Nat.le_trans (jl rfl) hd) jgc_59 (jo_b h) hq) (fun p5 hp5 h => ?_)
                        refine jr_zeq (pa := 116) (pb := 112) rfl rfl rfl (jg_b hp5) h (fun hc h => ?_) (fun hc h => ?_)
                        · refine jr_ic (pc' := 117) rfl rfl ?_
                          exact k4 ((0 : Int), p5.2) jb_0 h
                        · refine jr_ic (pc' := 113) rfl rfl (jr_goto (pc' := 117) rfl rfl ?_)
                          exact k4 ((1 : Int), p5.2) jb_1 h

set_option maxRecDepth 20000 in
set_option maxHeartbeats 1000000 in
theorem jc_99 {X : Nat × (Nat → Int32)} {N d : Nat}  (hN : 102 ≤ N) (hd : 6 ≤ d)  {m : jm} {P : Int × jm → Prop} {Q : px_Q} (h : jo (jf_99 m) P) (hQ : ∀ p : Int × jm, jb p.1 → P p → Q (.inl (some (jv p.1))) (jmem N p.2)) : px_C X d 99 [.ref 41, .ref 1, .ref 3] (jmem N m) Q := by
  unfold jf_99 at h
  have hu : ju px_m99 (0, 0) := ju_0
  refine jr_in (M := px_m99) (lev := 5) (L := [some (.ref 41), some (.ref 1), some (.ref 3), none, none, none]) hd rfl jbd_99 (jl rfl) rfl (fun d hd Q' hQ' => ?_)
  refine jr_al_n (pc' := 1) rfl rfl rfl (jr_ic (pc' := 2) rfl rfl (jr_pi (pc' := 5) rfl rfl jlk_7_27 (.inl rfl) rfl hN jd_41 rfl rfl ?_))
  refine jr_le h (fun m1 h => ?_)
  refine jr_al_n (pc' := 6) rfl rfl rfl (jr_ic (pc' := 7) rfl rfl (jr_pi (pc' := 10) rfl rfl jlk_7_31 (.inl rfl) rfl hN jd_41 rfl rfl ?_))
  refine jr_le h (fun m2 h => ?_)
  refine jr_ic (pc' := 11) rfl rfl (jr_is_n (pc' := 12) (L' := [_, _, _, _, _, _]) rfl rfl (jl rfl) rfl rfl ?_)
  refine jr_lp (fun s3 => jg s3.1) (fun s3 => ∀ o4, jn o4 → ∀ o5, jn o5 → jp X (px_C X d) px_m99 Q' N 12 [some (.ref 41), some (.ref 1), some (.ref 3), some (jv s3.1), o4, o5] [] s3.2 (0, 0)) h jgc_0 (fun s3 hs3 R7 k6 h o4 ho4 o5 ho5 => ?_) _ jn_n _ jn_n
  refine jr_il_n (pc' := 13) rfl rfl rfl (jr_si (pc' := 16) rfl rfl rfl ?_)
  refine jr_cge (pa := 19) (pb := 83) rfl rfl rfl hs3 jgc_150 h (fun hc h => ?_) (fun hc h => ?_)
  · refine jr_al_n (pc' := 20) rfl rfl rfl ?_
    refine jr_cv_i (pc' := 23) [] rfl rfl jlk_7_34 jq_116 jbd_116 (jl rfl) rfl (jl rfl) hu rfl (jk rfl hN) (jd_1.trans jo_116.symm) (fun Q' hq => jc_116 hN (Nat.le_trans (jl rfl) hd)  (jo_b h) hq) (fun p8 hp8 h => ?_)
    refine jr_is (pc' := 25) (L' := [_, _, _, _, _, _]) rfl rfl (jl rfl) rfl rfl (jr_il (pc' := 27) rfl rfl rfl (jr_ic (pc' := 28) rfl rfl ?_))
    refine jr_cne (pa := 31) (pb := 40) rfl rfl rfl hp8 jgc_m1 h (fun hc h => ?_) (fun hc h => ?_)
    · refine jr_al_n (pc' := 32) rfl rfl rfl (jr_gi (pc' := 35) rfl rfl jlk_7_31 (.inl rfl) rfl hN jd_41 rfl rfl ?_)
      refine jr_zne (pa := 38) (pb := 40) rfl rfl rfl jg_a h (fun hc h => ?_) (fun hc h => ?_)
      · refine jr_ic (pc' := 39) rfl rfl ?_
        exact jr_retb rfl hu rfl jb_1 (hQ' _ _ (hQ ((1 : Int), p8.2) jb_1 h))
      · refine jr_il (pc' := 42) rfl rfl rfl (jr_bi (pc' := 44) rfl rfl rfl ?_)
        refine jr_reg (fun t9 => jb t9.1) (fun t9 => jp X (px_C X d) px_m99 Q' N 68 [some (.ref 41), some (.ref 1), some (.ref 3), some (jv s3.1), some (jv p8.1), o5] [(jv t9.1)] t9.2 (0, 0)) h (fun t9 ht9 h => ?_) (fun R24 k10 h => ?_)
        · refine jr_is (pc' := 70) (L' := [_, _, _, _, _, _]) rfl rfl (jl rfl) rfl rfl (jr_il (pc' := 72) rfl rfl rfl ?_)
          refine jr_zne (pa := 75) (pb := 77) rfl rfl rfl (jg_b ht9) h (fun hc h => ?_) (fun hc h => ?_)
          · refine jr_ic (pc' := 76) rfl rfl ?_
            exact jr_retb rfl hu rfl jb_0 (hQ' _ _ (hQ ((0 : Int), t9.2) jb_0 h))
          · refine jr_inc (pc' := 80) (L' := [_, _, _, _, _, _]) rfl rfl rfl (jl rfl) rfl rfl (jr_goto (pc' := 12) rfl rfl ?_)
            exact k6 (jw (s3.1 + 1), t9.2) jg_w h _ jn_i _ jn_i
        · refine jr_cne (pa := 47) (pb := 62) rfl rfl rfl hp8 jgc_93 h (fun hc h => ?_) (fun hc h => ?_)
          · refine jr_al_n (pc' := 48) rfl rfl rfl (jr_gi (pc' := 51) rfl rfl jlk_7_31 (.inl rfl) rfl hN jd_41 rfl rfl ?_)
            refine jr_zle (pa := 54) (pb := 62) rfl rfl rfl jg_a h (fun hc h => ?_) (fun hc h => ?_)
            · refine jr_al_n (pc' := 55) rfl rfl rfl (jr_al_n (pc' := 56) rfl rfl rfl ?_)
              refine jr_cv_i (pc' := 59) [] rfl rfl jlk_7_40 jq_100 jbd_100 (jl rfl) rfl (jl rfl) hu rfl (jk rfl hN) (jd_41.trans jo_100.symm) (fun Q' hq => jc_100 hN (Nat.le_trans (jl rfl) hd)  (jo_b h) hq) (fun p11 hp11 h => ?_)
              refine jr_goto (pc' := 68) rfl rfl ?_
              exact k10 (p11.1, p11.2) hp11 h
            · refine jr_al_n (pc' := 63) rfl rfl rfl (jr_al_n (pc' := 64) rfl rfl rfl (jr_al_n (pc' := 65) rfl rfl rfl ?_))
              refine jr_cv_i (pc' := 68) [] rfl rfl jlk_7_44 jq_102 jbd_102 (jl rfl) rfl (jl rfl) hu rfl (jk rfl hN) (jd_41.trans jo_102.symm) (fun Q' hq => jc_102 hN (Nat.le_trans (jl rfl) hd)  (jo_b h) hq) (fun p12 hp12 h => ?_)
              exact k10 (p12.1, p12.2) hp12 h
          · refine jr_al_n (pc' := 63) rfl rfl rfl (jr_al_n (pc' := 64) rfl rfl rfl (jr_al_n (pc' := 65) rfl rfl rfl ?_))
            refine jr_cv_i (pc' := 68) [] rfl rfl jlk_7_44 jq_102 jbd_102 (jl rfl) rfl (jl rfl) hu rfl (jk rfl hN) (jd_41.trans jo_102.symm) (fun Q' hq => jc_102 hN (Nat.le_trans (jl rfl) hd)  (jo_b h) hq) (fun p13 hp13 h => ?_)
            exact k10 (p13.1, p13.2) hp13 h
    · refine jr_il (pc' := 42) rfl rfl rfl (jr_bi (pc' := 44) rfl rfl rfl ?_)
      refine jr_reg (fun t25 => jb t25.1) (fun t25 => jp X (px_C X d) px_m99 Q' N 68 [some (.ref 41), some (.ref 1), some (.ref 3), some (jv s3.1), some (jv p8.1), o5] [(jv t25.1)] t25.2 (0, 0)) h (fun t25 ht25 h => ?_) (fun R40 k26 h => ?_)
      · refine jr_is (pc' := 70) (L' := [_, _, _, _, _, _]) rfl rfl (jl rfl) rfl rfl (jr_il (pc' := 72) rfl rfl rfl ?_)
        refine jr_zne (pa := 75) (pb := 77) rfl rfl rfl (jg_b ht25) h (fun hc h => ?_) (fun hc h => ?_)
        · refine jr_ic (pc' := 76) rfl rfl ?_
          exact jr_retb rfl hu rfl jb_0 (hQ' _ _ (hQ ((0 : Int), t25.2) jb_0 h))
        · refine jr_inc (pc' := 80) (L' := [_, _, _, _, _, _]) rfl rfl rfl (jl rfl) rfl rfl (jr_goto (pc' := 12) rfl rfl ?_)
          exact k6 (jw (s3.1 + 1), t25.2) jg_w h _ jn_i _ jn_i
      · refine jr_cne (pa := 47) (pb := 62) rfl rfl rfl hp8 jgc_93 h (fun hc h => ?_) (fun hc h => ?_)
        · refine jr_al_n (pc' := 48) rfl rfl rfl (jr_gi (pc' := 51) rfl rfl jlk_7_31 (.inl rfl) rfl hN jd_41 rfl rfl ?_)
          refine jr_zle (pa := 54) (pb := 62) rfl rfl rfl jg_a h (fun hc h => ?_) (fun hc h => ?_)
          · refine jr_al_n (pc' := 55) rfl rfl rfl (jr_al_n (pc' := 56) rfl rfl rfl ?_)
            refine jr_cv_i (pc' := 59) [] rfl rfl jlk_7_40 jq_100 jbd_100 (jl rfl) rfl (jl rfl) hu rfl (jk rfl hN) (jd_41.trans jo_100.symm) (fun Q' hq => jc_100 hN (Nat.le_trans (jl rfl) hd)  (jo_b h) hq) (fun p27 hp27 h => ?_)
            refine jr_goto (pc' := 68) rfl rfl ?_
            exact k26 (p27.1, p27.2) hp27 h
          · refine jr_al_n (pc' := 63) rfl rfl rfl (jr_al_n (pc' := 64) rfl rfl rfl (jr_al_n (pc' := 65) rfl rfl rfl ?_))
            refine jr_cv_i (pc' := 68) [] rfl rfl jlk_7_44 jq_102 jbd_102 (jl rfl) rfl (jl rfl) hu rfl (jk rfl hN) (jd_41.trans jo_102.symm) (fun Q' hq => jc_102 hN (Nat.le_trans (jl rfl) hd)  (jo_b h) hq) (fun p28 hp28 h => ?_)
            exact k26 (p28.1, p28.2) hp28 h
        · refine jr_al_n (pc' := 63) rfl rfl rfl (jr_al_n (pc' := 64) rfl rfl rfl (jr_al_n (pc' := 65) rfl rfl rfl ?_))
          refine jr_cv_i (pc' := 68) [] rfl rfl jlk_7_44 jq_102 jbd_102 (jl rfl) rfl (jl rfl) hu rfl (jk rfl hN) (jd_41.trans jo_102.symm) (fun Q' hq => jc_102 hN (Nat.le_trans (jl rfl) hd)  (jo_b h) hq) (fun p29 hp29 h => ?_)
          exact k26 (p29.1, p29.2) hp29 h
  · refine jr_ic (pc' := 84) rfl rfl ?_
    exact jr_retb rfl hu rfl jb_1 (hQ' _ _ (hQ ((1 : Int), s3.2) jb_1 h))

set_option maxRecDepth 20000 in
set_option maxHeartbeats 1000000 in
theorem jc_106 {X : Nat × (Nat → Int32)} {N d : Nat} {x0 : Int} (hN : 102 ≤ N) (hd : 1 ≤ d) (hx0 : jg x0) {m : jm} {P : Int × jm → Prop} {Q : px_Q} (h : jo (jf_106 x0 m) P) (hQ : ∀ p : Int × jm, jg p.1 → P p → Q (.inl (some (jv p.1))) (jmem N p.2)) : px_C X d 106 [.ref 41, jv x0] (jmem N m) Q := by
  unfold jf_106 at h
  have hu : ju px_m106 (0, 0) := ju_0
  refine jr_in (M := px_m106) (lev := 0) (L := [some (.ref 41), some (jv x0), none]) hd rfl jbd_106 (jl rfl) rfl (fun d hd Q' hQ' => ?_)
  refine jr_al_n (pc' := 1) rfl rfl rfl (jr_gr (pc' := 4) (r := 43) rfl rfl jlk_7_15 (.inl rfl) rfl hN jd_41 rfl rfl rfl (jr_il_n (pc' := 5) rfl rfl rfl ?_))
  refine jr_ia (pc' := 6) rfl rfl (jl rfl) hN jd_43 jn_43 hx0 h (fun hc h => ?_)
  refine jr_is_n (pc' := 7) (L' := [_, _, _]) rfl rfl (jl rfl) rfl rfl (jr_al_n (pc' := 8) rfl rfl rfl (jr_gr (pc' := 11) (r := 45) rfl rfl jlk_7_21 (.inl rfl) rfl hN jd_41 rfl rfl rfl (jr_il_n (pc' := 12) rfl rfl rfl (jr_dup2 (pc' := 13) rfl rfl rfl rfl ?_))))
  refine jr_ia (pc' := 14) rfl rfl (jl rfl) hN jd_45 jn_45 jg_a h (fun hc h => ?_)
  refine jr_ic (pc' := 15) rfl rfl (jr_sub (pc' := 16) rfl rfl ?_)
  refine jr_ist (pc' := 17) rfl rfl (jl rfl) hN jd_45 jn_45 jg_a h (fun hc h => ?_)
  refine jr_le h (fun m1 h => ?_)
  refine jr_al_n (pc' := 18) rfl rfl rfl (jr_gr (pc' := 21) (r := 45) rfl rfl jlk_7_21 (.inl rfl) rfl hN jd_41 rfl rfl rfl (jr_il_n (pc' := 22) rfl rfl rfl ?_))
  refine jr_ia (pc' := 23) rfl rfl (jl rfl) hN jd_45 jn_45 jg_a h (fun hc h => ?_)
  refine jr_reg (fun t2 => jg t2) (fun t2 => jp X (px_C X d) px_m106 Q' N 35 [some (.ref 41), some (jv x0), some (jv (ja m 43 x0.toNat))] [(jv t2)] m1 (0, 0)) h (fun t2 ht2 h => ?_) (fun R14 k3 h => ?_)
  · exact jr_ret rfl hu rfl (hQ' _ _ (hQ (t2, m1) ht2 h))
  · refine jr_zle (pa := 26) (pb := 32) rfl rfl rfl jg_a h (fun hc h => ?_) (fun hc h => ?_)
    · refine jr_il_n (pc' := 27) rfl rfl rfl (jr_ic (pc' := 28) rfl rfl (jr_add (pc' := 29) rfl rfl (jr_goto (pc' := 35) rfl rfl ?_)))
      exact k3 (jw ((ja m 43 x0.toNat) + (1 : Int))) jg_w h
    · refine jr_il_n (pc' := 33) rfl rfl rfl (jr_ic (pc' := 34) rfl rfl (jr_add (pc' := 35) rfl rfl ?_))
      exact k3 (jw (x0 + (1 : Int))) jg_w h

set_option maxRecDepth 20000 in
set_option maxHeartbeats 1000000 in
theorem jc_107 {X : Nat × (Nat → Int32)} {N d : Nat} {x1 : Int} (hN : 102 ≤ N) (hd : 5 ≤ d) (hx1 : jg x1) {m : jm} {P : Int × jm → Prop} {Q : px_Q} (h : jo (jf_107 x1 m) P) (hQ : ∀ p : Int × jm, jb p.1 → P p → Q (.inl (some (jv p.1))) (jmem N p.2)) : px_C X d 107 [.ref 41, .ref 47, jv x1] (jmem N m) Q := by
  unfold jf_107 at h
  have hu : ju px_m107 (0, 0) := ju_0
  refine jr_in (M := px_m107) (lev := 4) (L := [some (.ref 41), some (.ref 47), some (jv x1), none, none]) hd rfl jbd_107 (jl rfl) rfl (fun d hd Q' hQ' => ?_)
  refine jr_al_n (pc' := 1) rfl rfl rfl (jr_gr (pc' := 4) (r := 43) rfl rfl jlk_7_15 (.inl rfl) rfl hN jd_41 rfl rfl rfl (jr_il_n (pc' := 5) rfl rfl rfl ?_))
  refine jr_ia (pc' := 6) rfl rfl (jl rfl) hN jd_43 jn_43 hx1 h (fun hc h => ?_)
  refine jr_is_n (pc' := 7) (L' := [_, _, _, _, _]) rfl rfl (jl rfl) rfl rfl (jr_al_n (pc' := 8) rfl rfl rfl (jr_gr (pc' := 11) (r := 44) rfl rfl jlk_7_18 (.inl rfl) rfl hN jd_41 rfl rfl rfl (jr_il_n (pc' := 12) rfl rfl rfl ?_)))
  refine jr_ia (pc' := 13) rfl rfl (jl rfl) hN jd_44 jn_44 hx1 h (fun hc h => ?_)
  refine jr_is (pc' := 15) (L' := [_, _, _, _, _]) rfl rfl (jl rfl) rfl rfl (jr_al_n (pc' := 16) rfl rfl rfl (jr_gr (pc' := 19) (r := 42) rfl rfl jlk_7_9 (.inl rfl) rfl hN jd_41 rfl rfl rfl (jr_il_n (pc' := 20) rfl rfl rfl ?_)))
  refine jr_ia (pc' := 21) rfl rfl (jl rfl) hN jd_42 jn_42 hx1 h (fun hc h => ?_)
  refine jo_i h (fun hc h => ?_) (fun hc0 h => ?_)
  · refine jr_tsc (pc' := 60) (0) rfl jg_a hc (by decide) rfl rfl (jr_al_n (pc' := 61) rfl rfl rfl (jr_il_n (pc' := 62) rfl rfl rfl (jr_il (pc' := 64) rfl rfl rfl ?_)))
    refine jr_cv_i (pc' := 67) [] rfl rfl jlk_7_112 jq_75 jbd_75 (jl rfl) rfl (jl rfl) hu rfl (jk rfl hN) (jd_47.trans jo_75.symm) (fun Q' hq => jc_75 hN (Nat.le_trans (jl rfl) hd) (.inl rfl) jg_a jg_a (jo_b h) hq) (fun p7 hp7 h => ?_)
    exact jr_retb rfl hu rfl hp7 (hQ' _ _ (hQ (p7.1, p7.2) hp7 h))
  · refine jo_i h (fun hc h => ?_) (fun hc1 h => ?_)
    · refine jr_tsc (pc' := 68) (1) rfl jg_a hc (by decide) rfl rfl (jr_al_n (pc' := 69) rfl rfl rfl (jr_il_n (pc' := 70) rfl rfl rfl (jr_il (pc' := 72) rfl rfl rfl ?_)))
      refine jr_cv_i (pc' := 75) [] rfl rfl jlk_7_117 jq_76 jbd_76 (jl rfl) rfl (jl rfl) hu rfl (jk rfl hN) (jd_47.trans jo_76.symm) (fun Q' hq => jc_76 hN (Nat.le_trans (jl rfl) hd) (.inl rfl) jg_a jg_a (jo_b h) hq) (fun p6 hp6 h => ?_)
      exact jr_retb rfl hu rfl hp6 (hQ' _ _ (hQ (p6.1, p6.2) hp6 h))
    · refine jo_i h (fun hc h => ?_) (fun hc2 h => ?_)
      · refine jr_tsc (pc' := 76) (2) rfl jg_a hc (by decide) rfl rfl (jr_al_n (pc' := 77) rfl rfl rfl (jr_il_n (pc' := 78) rfl rfl rfl (jr_il (pc' := 80) rfl rfl rfl ?_)))
        refine jr_cv_i (pc' := 83) [] rfl rfl jlk_7_120 jq_77 jbd_77 (jl rfl) rfl (jl rfl) hu rfl (jk rfl hN) (jd_47.trans jo_77.symm) (fun Q' hq => jc_77 hN (Nat.le_trans (jl rfl) hd) (.inl rfl) jg_a jg_a (jo_b h) hq) (fun p5 hp5 h => ?_)
        exact jr_retb rfl hu rfl hp5 (hQ' _ _ (hQ (p5.1, p5.2) hp5 h))
      · refine jo_i h (fun hc h => ?_) (fun hc3 h => ?_)
        · refine jr_tsc (pc' := 84) (3) rfl jg_a hc (by decide) rfl rfl (jr_al_n (pc' := 85) rfl rfl rfl (jr_il_n (pc' := 86) rfl rfl rfl (jr_il (pc' := 88) rfl rfl rfl ?_)))
          refine jr_cv_i (pc' := 91) [] rfl rfl jlk_7_123 jq_80 jbd_80 (jl rfl) rfl (jl rfl) hu rfl (jk rfl hN) (jd_47.trans jo_80.symm) (fun Q' hq => jc_80 hN (Nat.le_trans (jl rfl) hd) (.inl rfl) jg_a jg_a (jo_b h) hq) (fun p4 hp4 h => ?_)
          exact jr_retb rfl hu rfl hp4 (hQ' _ _ (hQ (p4.1, p4.2) hp4 h))
        · refine jo_i h (fun hc h => ?_) (fun hc4 h => ?_)
          · refine jr_tsc (pc' := 92) (4) rfl jg_a hc (by decide) rfl rfl (jr_al_n (pc' := 93) rfl rfl rfl (jr_il_n (pc' := 94) rfl rfl rfl ?_))
            refine jr_cv_i (pc' := 97) [] rfl rfl jlk_7_126 jq_81 jbd_81 (jl rfl) rfl (jl rfl) hu rfl (jk rfl hN) (jd_47.trans jo_81.symm) (fun Q' hq => jc_81 hN (Nat.le_trans (jl rfl) hd) (.inl rfl) jg_a (jo_b h) hq) (fun p3 hp3 h => ?_)
            exact jr_retb rfl hu rfl hp3 (hQ' _ _ (hQ (p3.1, p3.2) hp3 h))
          · refine jo_i h (fun hc h => ?_) (fun hc5 h => ?_)
            · refine jr_tsc (pc' := 98) (5) rfl jg_a hc (by decide) rfl rfl (jr_al_n (pc' := 99) rfl rfl rfl ?_)
              refine jr_cv_i (pc' := 102) [] rfl rfl jlk_7_130 jq_82 jbd_82 (jl rfl) rfl (jl rfl) hu rfl (jk rfl hN) (jd_47.trans jo_82.symm) (fun Q' hq => jc_82 hN (Nat.le_trans (jl rfl) hd) (.inl rfl) (jo_b h) hq) (fun p2 hp2 h => ?_)
              exact jr_retb rfl hu rfl hp2 (hQ' _ _ (hQ (p2.1, p2.2) hp2 h))
            · refine jr_tsd (pc' := 103) rfl jg_a (by omega) rfl (jr_al_n (pc' := 104) rfl rfl rfl (jr_si (pc' := 107) rfl rfl rfl ?_))
              refine jr_cv_i (pc' := 110) [] rfl rfl jlk_7_134 jq_83 jbd_83 (jl rfl) rfl (jl rfl) hu rfl (jk rfl hN) (jd_47.trans jo_83.symm) (fun Q' hq => jc_83 hN (Nat.le_trans (jl rfl) hd) (.inl rfl) jgc_700 (jo_b h) hq) (fun p1 hp1 h => ?_)
              exact jr_retb rfl hu rfl hp1 (hQ' _ _ (hQ (p1.1, p1.2) hp1 h))

set_option maxRecDepth 20000 in
set_option maxHeartbeats 1000000 in
theorem jc_105 {X : Nat × (Nat → Int32)} {N d : Nat}  (hN : 102 ≤ N) (hd : 6 ≤ d)  {m : jm} {P : jm → Prop} {Q : px_Q} (h : jo (jf_105 m) P) (hQ : ∀ p : jm, True → P p → Q (.inl (none)) (jmem N p)) : px_C X d 105 [.ref 41, .ref 47] (jmem N m) Q := by
  unfold jf_105 at h
  have hu : ju px_m105 (0, 0) := ju_0
  refine jr_in (M := px_m105) (lev := 5) (L := [some (.ref 41), some (.ref 47), none, none, none]) hd rfl jbd_105 (jl rfl) rfl (fun d hd Q' hQ' => ?_)
  refine jr_al_n (pc' := 1) rfl rfl rfl (jr_ic (pc' := 2) rfl rfl (jr_pi (pc' := 5) rfl rfl jlk_7_97 (.inl rfl) rfl hN jd_41 rfl rfl ?_))
  refine jr_le h (fun m1 h => ?_)
  refine jr_al_n (pc' := 6) rfl rfl rfl (jr_ic (pc' := 7) rfl rfl (jr_pi (pc' := 10) rfl rfl jlk_7_100 (.inl rfl) rfl hN jd_41 rfl rfl ?_))
  refine jr_le h (fun m2 h => ?_)
  refine jr_ic (pc' := 11) rfl rfl (jr_is_n (pc' := 12) (L' := [_, _, _, _, _]) rfl rfl (jl rfl) rfl rfl (jr_ic (pc' := 13) rfl rfl (jr_is_n (pc' := 14) (L' := [_, _, _, _, _]) rfl rfl (jl rfl) rfl rfl (jr_ic (pc' := 15) rfl rfl (jr_is (pc' := 17) (L' := [_, _, _, _, _]) rfl rfl (jl rfl) rfl rfl ?_)))))
  refine jr_lp (fun s3 => jg s3.1 ∧ jg s3.2.1 ∧ jg s3.2.2.1) (fun s3 => jp X (px_C X d) px_m105 Q' N 17 [some (.ref 41), some (.ref 47), some (jv s3.1), some (jv s3.2.1), some (jv s3.2.2.1)] [] s3.2.2.2 (0, 0)) h ⟨jgc_0, jgc_0, jgc_0⟩ (fun s3 hs3 R5 k4 h => ?_)
  refine jr_il (pc' := 19) rfl rfl rfl (jr_ld (pc' := 21) (x := 1000000) rfl rfl jlk_7_103 rfl ?_)
  refine jr_cge (pa := 24) (pb := 157) rfl rfl rfl hs3.2.2 jgc_1000000 h (fun hc h => ?_) (fun hc h => ?_)
  · refine jr_il_n (pc' := 25) rfl rfl rfl (jr_al_n (pc' := 26) rfl rfl rfl (jr_gi (pc' := 29) rfl rfl jlk_7_27 (.inl rfl) rfl hN jd_41 rfl rfl ?_))
    refine jr_cge (pa := 32) (pb := 157) rfl rfl rfl hs3.2.1 jg_a h (fun hc h => ?_) (fun hc h => ?_)
    · refine jr_al_n (pc' := 33) rfl rfl rfl (jr_gr (pc' := 36) (r := 42) rfl rfl jlk_7_9 (.inl rfl) rfl hN jd_41 rfl rfl rfl (jr_il_n (pc' := 37) rfl rfl rfl ?_))
      refine jr_ia (pc' := 38) rfl rfl (jl rfl) hN jd_42 jn_42 hs3.2.1 h (fun hc h => ?_)
      refine jr_bi (pc' := 40) rfl rfl rfl ?_
      refine jr_cne (pa := 43) (pb := 52) rfl rfl rfl jg_a jgc_8 h (fun hc h => ?_) (fun hc h => ?_)
      · refine jr_al_n (pc' := 44) rfl rfl rfl (jr_il_n (pc' := 45) rfl rfl rfl ?_)
        refine jr_cv_i (pc' := 48) [] rfl rfl jlk_7_104 jq_106 jbd_106 (jl rfl) rfl (jl rfl) hu rfl (jk rfl hN) (jd_41.trans jo_106.symm) (fun Q' hq => jc_106 hN (Nat.le_trans (jl rfl) hd) hs3.2.1 (jo_b h) hq) (fun p6 hp6 h => ?_)
        refine jr_is_n (pc' := 49) (L' := [_, _, _, _, _]) rfl rfl (jl rfl) rfl rfl (jr_goto (pc' := 151) rfl rfl (jr_inc (pc' := 154) (L' := [_, _, _, _, _]) rfl rfl rfl (jl rfl) rfl rfl (jr_goto (pc' := 17) rfl rfl ?_)))
        exact k4 (s3.1, p6.1, jw (s3.2.2.1 + 1), p6.2) ⟨hs3.1, hp6, jg_w⟩ h
      · refine jr_il_n (pc' := 53) rfl rfl rfl (jr_si (pc' := 56) rfl rfl rfl ?_)
        refine jr_clt (pa := 60) (pb := 59) rfl rfl rfl hs3.1 jgc_200 h (fun hc h => ?_) (fun hc h => ?_)
        · refine jr_al_n (pc' := 61) rfl rfl rfl (jr_gr (pc' := 64) (r := 42) rfl rfl jlk_7_9 (.inl rfl) rfl hN jd_41 rfl rfl rfl (jr_il_n (pc' := 65) rfl rfl rfl ?_))
          refine jr_ia (pc' := 66) rfl rfl (jl rfl) hN jd_42 jn_42 hs3.2.1 h (fun hc h => ?_)
          refine jr_bi (pc' := 68) rfl rfl rfl ?_
          refine jr_reg (fun t7 => jg t7.1) (fun t7 => jp X (px_C X d) px_m105 Q' N 151 [some (.ref 41), some (.ref 47), some (jv (jw (s3.1 + 1))), some (jv t7.1), some (jv s3.2.2.1)] [] t7.2 (0, 0)) h (fun t7 ht7 h => ?_) (fun R49 k8 h => ?_)
          · refine jr_inc (pc' := 154) (L' := [_, _, _, _, _]) rfl rfl rfl (jl rfl) rfl rfl (jr_goto (pc' := 17) rfl rfl ?_)
            exact k4 (jw (s3.1 + 1), t7.1, jw (s3.2.2.1 + 1), t7.2) ⟨jg_w, ht7, jg_w⟩ h
          · refine jr_cne (pa := 71) (pb := 113) rfl rfl rfl jg_a jgc_7 h (fun hc h => ?_) (fun hc h => ?_)
            · refine jr_inc (pc' := 74) (L' := [_, _, _, _, _]) rfl rfl rfl (jl rfl) rfl rfl (jr_al_n (pc' := 75) rfl rfl rfl (jr_gr (pc' := 78) (r := 45) rfl rfl jlk_7_21 (.inl rfl) rfl hN jd_41 rfl rfl rfl (jr_il_n (pc' := 79) rfl rfl rfl (jr_al_n (pc' := 80) rfl rfl rfl (jr_gr (pc' := 83) (r := 43) rfl rfl jlk_7_15 (.inl rfl) rfl hN jd_41 rfl rfl rfl ?_)))))
              refine jr_il_n (pc' := 84) rfl rfl rfl ?_
              refine jr_ia (pc' := 85) rfl rfl (jl rfl) hN jd_43 jn_43 hs3.2.1 h (fun hc h => ?_)
              refine jr_ist (pc' := 86) rfl rfl (jl rfl) hN jd_45 jn_45 hs3.2.1 h (fun hc h => ?_)
              refine jr_le h (fun m9 h => ?_)
              refine jr_al_n (pc' := 87) rfl rfl rfl (jr_gr (pc' := 90) (r := 43) rfl rfl jlk_7_15 (.inl rfl) rfl hN jd_41 rfl rfl rfl (jr_il_n (pc' := 91) rfl rfl rfl ?_))
              refine jr_ia (pc' := 92) rfl rfl (jl rfl) hN jd_43 jn_43 hs3.2.1 h (fun hc h => ?_)
              refine jr_reg (fun t10 => jg t10) (fun t10 => jp X (px_C X d) px_m105 Q' N 109 [some (.ref 41), some (.ref 47), some (jv (jw (s3.1 + 1))), some (jv s3.2.1), some (jv s3.2.2.1)] [(jv t10)] m9 (0, 0)) h (fun t10 ht10 h => ?_) (fun R22 k11 h => ?_)
              · refine jr_is_n (pc' := 110) (L' := [_, _, _, _, _]) rfl rfl (jl rfl) rfl rfl (jr_goto (pc' := 151) rfl rfl ?_)
                exact k8 (t10, m9) ht10 h
              · refine jr_zle (pa := 95) (pb := 101) rfl rfl rfl jg_a h (fun hc h => ?_) (fun hc h => ?_)
                · refine jr_il_n (pc' := 96) rfl rfl rfl (jr_ic (pc' := 97) rfl rfl (jr_add (pc' := 98) rfl rfl (jr_goto (pc' := 109) rfl rfl ?_)))
                  exact k11 (jw (s3.2.1 + (1 : Int))) jg_w h
                · refine jr_al_n (pc' := 102) rfl rfl rfl (jr_gr (pc' := 105) (r := 44) rfl rfl jlk_7_18 (.inl rfl) rfl hN jd_41 rfl rfl rfl (jr_il_n (pc' := 106) rfl rfl rfl ?_))
                  refine jr_ia (pc' := 107) rfl rfl (jl rfl) hN jd_44 jn_44 hs3.2.1 h (fun hc h => ?_)
                  refine jr_ic (pc' := 108) rfl rfl (jr_add (pc' := 109) rfl rfl ?_)
                  exact k11 (jw ((ja m9 44 s3.2.1.toNat) + (1 : Int))) jg_w h
            · refine jr_inc (pc' := 116) (L' := [_, _, _, _, _]) rfl rfl rfl (jl rfl) rfl rfl (jr_al_n (pc' := 117) rfl rfl rfl (jr_al_n (pc' := 118) rfl rfl rfl (jr_il_n (pc' := 119) rfl rfl rfl ?_)))
              refine jr_cv_i (pc' := 122) [] rfl rfl jlk_7_108 jq_107 jbd_107 (jl rfl) rfl (jl rfl) hu rfl (jk rfl hN) (jd_41.trans jo_107.symm) (fun Q' hq => jc_107 hN (Nat.le_trans (jl rfl) hd) hs3.2.1 (jo_b h) hq) (fun p23 hp23 h => ?_)
              refine jr_reg (fun t24 => True) (fun t24 => jp X (px_C X d) px_m105 Q' N 148 [some (.ref 41), some (.ref 47), some (jv (jw (s3.1 + 1))), some (jv s3.2.1), some (jv s3.2.2.1)] [] t24 (0, 0)) h (fun t24 ht24 h => ?_) (fun R38 k25 h => ?_)
              · refine jr_inc (pc' := 151) (L' := [_, _, _, _, _]) rfl rfl rfl (jl rfl) rfl rfl ?_
                exact k8 (jw (s3.2.1 + 1), t24) jg_w h
              · refine jr_zeq (pa := 138) (pb := 125) rfl rfl rfl (jg_b hp23) h (fun hc h => ?_) (fun hc h => ?_)
                · refine jr_al_n (pc' := 139) rfl rfl rfl (jr_dup (pc' := 140) rfl rfl rfl (jr_gi (pc' := 143) rfl rfl jlk_7_100 (.inl rfl) rfl hN jd_41 rfl rfl (jr_ic (pc' := 144) rfl rfl (jr_add (pc' := 145) rfl rfl (jr_pi (pc' := 148) rfl rfl jlk_7_100 (.inl rfl) rfl hN jd_41 rfl rfl ?_)))))
                  refine jr_le h (fun m26 h => ?_)
                  exact k25 (m26) trivial h
                · refine jr_al_n (pc' := 126) rfl rfl rfl (jr_dup (pc' := 127) rfl rfl rfl (jr_gi (pc' := 130) rfl rfl jlk_7_97 (.inl rfl) rfl hN jd_41 rfl rfl (jr_ic (pc' := 131) rfl rfl (jr_add (pc' := 132) rfl rfl (jr_pi (pc' := 135) rfl rfl jlk_7_97 (.inl rfl) rfl hN jd_41 rfl rfl ?_)))))
                  refine jr_le h (fun m27 h => ?_)
                  refine jr_goto (pc' := 148) rfl rfl ?_
                  exact k25 (m27) trivial h
        · exact jr_rv rfl hu rfl (hQ' _ _ (hQ s3.2.2.2 trivial h))
    · exact jr_rv rfl hu rfl (hQ' _ _ (hQ s3.2.2.2 trivial h))
  · exact jr_rv rfl hu rfl (hQ' _ _ (hQ s3.2.2.2 trivial h))

set_option maxRecDepth 20000 in
set_option maxHeartbeats 1000000 in
theorem jc_110 {X : Nat × (Nat → Int32)} {N d : Nat} {x0 : Int} (hN : 102 ≤ N) (hd : 1 ≤ d) (hx0 : jg x0) {m : jm} {P : Int × jm → Prop} {Q : px_Q} (h : jo (jf_110 x0 m) P) (hQ : ∀ p : Int × jm, jg p.1 → P p → Q (.inl (some (jv p.1))) (jmem N p.2)) : px_C X d 110 [.ref 63, jv x0] (jmem N m) Q := by
  unfold jf_110 at h
  have hu : ju px_m110 (0, 0) := ju_0
  refine jr_in (M := px_m110) (lev := 0) (L := [some (.ref 63), some (jv x0)]) hd rfl jbd_110 (jl rfl) rfl (fun d hd Q' hQ' => ?_)
  refine jr_al_n (pc' := 1) rfl rfl rfl (jr_al_n (pc' := 2) rfl rfl rfl (jr_gi (pc' := 5) rfl rfl jlk_8_29 (.inl rfl) rfl hN jd_63 rfl rfl (jr_ld (pc' := 7) (x := 1103515245) rfl rfl jlk_8_80 rfl (jr_mul (pc' := 8) rfl rfl (jr_si (pc' := 11) rfl rfl rfl ?_)))))
  refine jr_add (pc' := 12) rfl rfl (jr_pi (pc' := 15) rfl rfl jlk_8_29 (.inl rfl) rfl hN jd_63 rfl rfl ?_)
  refine jr_le h (fun m1 h => ?_)
  refine jr_il_n (pc' := 16) rfl rfl rfl ?_
  refine jr_reg (fun t2 => jg t2) (fun t2 => jp X (px_C X d) px_m110 Q' N 36 [some (.ref 63), some (jv x0)] [(jv t2)] m1 (0, 0)) h (fun t2 ht2 h => ?_) (fun R14 k3 h => ?_)
  · exact jr_ret rfl hu rfl (hQ' _ _ (hQ (t2, m1) ht2 h))
  · refine jr_zle (pa := 19) (pb := 35) rfl rfl rfl hx0 h (fun hc h => ?_) (fun hc h => ?_)
    · refine jr_al_n (pc' := 20) rfl rfl rfl (jr_gi (pc' := 23) rfl rfl jlk_8_29 (.inl rfl) rfl hN jd_63 rfl rfl (jr_bi (pc' := 25) rfl rfl rfl (jr_ushr (pc' := 26) rfl rfl (jr_si (pc' := 29) rfl rfl rfl (jr_and (pc' := 30) rfl rfl ?_)))))
      refine jr_il_n (pc' := 31) rfl rfl rfl ?_
      refine jo_w0 h (fun hc h => jr_rem (pc' := 32) rfl rfl hx0 hc ?_)
      refine jr_goto (pc' := 36) rfl rfl ?_
      exact k3 (jrem (jband (jushr (ja m1 63 2) (16 : Int)) (32767 : Int)) x0) jg_rem h
    · refine jr_ic (pc' := 36) rfl rfl ?_
      exact k3 ((0 : Int)) jgc_0 h

set_option maxRecDepth 20000 in
set_option maxHeartbeats 1000000 in
theorem jc_111 {X : Nat × (Nat → Int32)} {N d : Nat} {x0 : Int} {x1 : Int} (hN : 102 ≤ N) (hd : 5 ≤ d) (hx0 : jg x0) (hx1 : jg x1) {m : jm} {P : jm → Prop} {Q : px_Q} (h : jo (jf_111 x0 x1 m) P) (hQ : ∀ p : jm, True → P p → Q (.inl (none)) (jmem N p)) : px_C X d 111 [.ref 63, jv x0, jv x1] (jmem N m) Q := by
  unfold jf_111 at h
  have hu : ju px_m111 (0, 0) := ju_0
  refine jr_in (M := px_m111) (lev := 4) (L := [some (.ref 63), some (jv x0), some (jv x1)]) hd rfl jbd_111 (jl rfl) rfl (fun d hd Q' hQ' => ?_)
  refine jr_al_n (pc' := 1) rfl rfl rfl (jr_gr (pc' := 4) (r := 64) rfl rfl jlk_8_15 (.inl rfl) rfl hN jd_63 rfl rfl rfl (jr_il_n (pc' := 5) rfl rfl rfl (jr_il_n (pc' := 6) rfl rfl rfl ?_)))
  refine jr_cv_i (pc' := 9) [] rfl rfl jlk_8_65 jq_77 jbd_77 (jl rfl) rfl (jl rfl) hu rfl (jk rfl hN) (jd_64.trans jo_77.symm) (fun Q' hq => jc_77 hN (Nat.le_trans (jl rfl) hd) (.inr rfl) hx0 hx1 (jo_b h) hq) (fun p1 hp1 h => ?_)
  refine jr_reg (fun t2 => True) (fun t2 => jp X (px_C X d) px_m111 Q' N 47 [some (.ref 63), some (jv x0), some (jv x1)] [] t2 (0, 0)) h (fun t2 ht2 h => ?_) (fun R32 k3 h => ?_)
  · refine jr_al_n (pc' := 48) rfl rfl rfl (jr_gr (pc' := 51) (r := 64) rfl rfl jlk_8_15 (.inl rfl) rfl hN jd_63 rfl rfl rfl (jr_il_n (pc' := 52) rfl rfl rfl ?_))
    refine jr_cv_v (pc' := 55) [] rfl rfl jlk_8_73 jq_79 jbd_79 (jl rfl) rfl (jl rfl) hu rfl (jk rfl hN) (jd_64.trans jo_79.symm) (fun Q' hq => jc_79 hN (Nat.le_trans (jl rfl) hd) (.inr rfl) hx0 (jo_b h) hq) (fun p30 hp30 h => ?_)
    refine jr_al_n (pc' := 56) rfl rfl rfl (jr_gr (pc' := 59) (r := 64) rfl rfl jlk_8_15 (.inl rfl) rfl hN jd_63 rfl rfl rfl (jr_il_n (pc' := 60) rfl rfl rfl ?_))
    refine jr_cv_v (pc' := 63) [] rfl rfl jlk_8_77 jq_97 jbd_97 (jl rfl) rfl (jl rfl) hu rfl (jk rfl hN) (jd_64.trans jo_97.symm) (fun Q' hq => jc_97 hN (Nat.le_trans (jl rfl) hd) (.inr rfl) hx0 (jo_b h) hq) (fun p31 hp31 h => ?_)
    exact jr_rv rfl hu rfl (hQ' _ _ (hQ p31 trivial h))
  · refine jr_zeq (pa := 47) (pb := 12) rfl rfl rfl (jg_b hp1) h (fun hc h => ?_) (fun hc h => ?_)
    · exact k3 (p1.2) trivial h
    · refine jr_al_n (pc' := 13) rfl rfl rfl (jr_dup (pc' := 14) rfl rfl rfl (jr_gi (pc' := 17) rfl rfl jlk_8_36 (.inl rfl) rfl hN jd_63 rfl rfl (jr_ic (pc' := 18) rfl rfl (jr_add (pc' := 19) rfl rfl (jr_pi (pc' := 22) rfl rfl jlk_8_36 (.inl rfl) rfl hN jd_63 rfl rfl ?_)))))
      refine jr_le h (fun m4 h => ?_)
      refine jr_al_n (pc' := 23) rfl rfl rfl (jr_dup (pc' := 24) rfl rfl rfl (jr_gi (pc' := 27) rfl rfl jlk_8_33 (.inl rfl) rfl hN jd_63 rfl rfl (jr_al_n (pc' := 28) rfl rfl rfl (jr_gr (pc' := 31) (r := 64) rfl rfl jlk_8_15 (.inl rfl) rfl hN jd_63 rfl rfl rfl (jr_il_n (pc' := 32) rfl rfl rfl ?_)))))
      refine jr_cv_p (pc' := 35) [_, _] rfl rfl jlk_8_69 jq_58 jbd_58 (jl rfl) rfl (jl rfl) hu rfl (jk rfl hN) (jd_64.trans jo_58.symm) (fun Q' hq => jc_58 hN (Nat.le_trans (jl rfl) hd) (.inr rfl) hx0 (jo_b h) hq) (fun p5 hp5 h => ?_)
      refine jr_reg (fun t6 => jb t6) (fun t6 => jp X (px_C X d) px_m111 Q' N 43 [some (.ref 63), some (jv x0), some (jv x1)] [(jv t6), (jv (ja m4 63 3)), (.ref 63)] m4 (0, 0)) h (fun t6 ht6 h => ?_) (fun R19 k7 h => ?_)
      · refine jr_add (pc' := 44) rfl rfl (jr_pi (pc' := 47) rfl rfl jlk_8_33 (.inl rfl) rfl hN jd_63 rfl rfl ?_)
        refine jr_le h (fun m18 h => ?_)
        exact k3 (m18) trivial h
      · refine jr_zeq (pa := 42) (pb := 38) rfl rfl rfl (jg_b hp5) h (fun hc h => ?_) (fun hc h => ?_)
        · refine jr_ic (pc' := 43) rfl rfl ?_
          exact k7 ((0 : Int)) jb_0 h
        · refine jr_ic (pc' := 39) rfl rfl (jr_goto (pc' := 43) rfl rfl ?_)
          exact k7 ((1 : Int)) jb_1 h

set_option maxRecDepth 20000 in
set_option maxHeartbeats 1000000 in
theorem jc_109 {X : Nat × (Nat → Int32)} {N d : Nat} {x1 : Int} {x2 : Int} {x3 : Int} (hN : 102 ≤ N) (hd : 6 ≤ d) (hx1 : jg x1) (hx2 : jg x2) (hx3 : jg x3) {m : jm} {P : jm → Prop} {Q : px_Q} (h : jo (jf_109 x1 x2 x3 m) P) (hQ : ∀ p : jm, True → P p → Q (.inl (none)) (jmem N p)) : px_C X d 109 [.ref 63, .ref 47, jv x1, jv x2, jv x3] (jmem N m) Q := by
  unfold jf_109 at h
  have hu : ju px_m109 (0, 0) := ju_0
  refine jr_in (M := px_m109) (lev := 5) (L := [some (.ref 63), some (.ref 47), some (jv x1), some (jv x2), some (jv x3), none]) hd rfl jbd_109 (jl rfl) rfl (fun d hd Q' hQ' => ?_)
  refine jr_al_n (pc' := 1) rfl rfl rfl (jr_gr (pc' := 4) (r := 64) rfl rfl jlk_8_15 (.inl rfl) rfl hN jd_63 rfl rfl rfl (jr_al_n (pc' := 5) rfl rfl rfl ?_))
  refine jr_cv_v (pc' := 8) [] rfl rfl jlk_8_25 jq_96 jbd_96 (jl rfl) rfl (jl rfl) hu rfl (jk rfl hN) (jd_64.trans jo_96.symm) (fun Q' hq => jc_96 hN (Nat.le_trans (jl rfl) hd) (.inr rfl) (jo_b h) hq) (fun p1 hp1 h => ?_)
  refine jr_al_n (pc' := 9) rfl rfl rfl (jr_il_n (pc' := 10) rfl rfl rfl (jr_pi (pc' := 13) rfl rfl jlk_8_29 (.inl rfl) rfl hN jd_63 rfl rfl ?_))
  refine jr_le h (fun m2 h => ?_)
  refine jr_al_n (pc' := 14) rfl rfl rfl (jr_ic (pc' := 15) rfl rfl (jr_pi (pc' := 18) rfl rfl jlk_8_33 (.inl rfl) rfl hN jd_63 rfl rfl ?_))
  refine jr_le h (fun m3 h => ?_)
  refine jr_al_n (pc' := 19) rfl rfl rfl (jr_ic (pc' := 20) rfl rfl (jr_pi (pc' := 23) rfl rfl jlk_8_36 (.inl rfl) rfl hN jd_63 rfl rfl ?_))
  refine jr_le h (fun m4 h => ?_)
  refine jr_al_n (pc' := 24) rfl rfl rfl (jr_ic (pc' := 25) rfl rfl (jr_pi (pc' := 28) rfl rfl jlk_8_39 (.inl rfl) rfl hN jd_63 rfl rfl ?_))
  refine jr_le h (fun m5 h => ?_)
  refine jr_ic (pc' := 29) rfl rfl (jr_is (pc' := 31) (L' := [_, _, _, _, _, _]) rfl rfl (jl rfl) rfl rfl ?_)
  refine jr_reg (fun t9 => True) (fun t9 => ∀ o10, jn o10 → jp X (px_C X d) px_m109 Q' N 123 [some (.ref 63), some (.ref 47), some (jv x1), some (jv x2), some (jv x3), o10] [] t9 (0, 0)) h (fun t9 ht9 h o10 ho10 => ?_) (fun R12 k11 h => ?_)
  · exact jr_rv rfl hu rfl (hQ' _ _ (hQ t9 trivial h))
  · refine jr_lp (fun s6 => jg s6.1) (fun s6 => jp X (px_C X d) px_m109 Q' N 31 [some (.ref 63), some (.ref 47), some (jv x1), some (jv x2), some (jv x3), some (jv s6.1)] [] s6.2 (0, 0)) h jgc_1 (fun s6 hs6 R8 k7 h => ?_)
    refine jr_il (pc' := 33) rfl rfl rfl (jr_il (pc' := 35) rfl rfl rfl ?_)
    refine jr_cgt (pa := 123) (pb := 38) rfl rfl rfl hs6 hx3 h (fun hc h => ?_) (fun hc h => ?_)
    · exact k11 (s6.2) trivial h _ jn_i
    · refine jr_al_n (pc' := 39) rfl rfl rfl (jr_gr (pc' := 42) (r := 3) rfl rfl jlk_8_9 (.inl rfl) rfl hN jd_63 rfl rfl rfl (jr_gi (pc' := 45) rfl rfl jlk_8_42 (.inr rfl) rfl hN jd_3 rfl rfl ?_))
      refine jr_zle (pa := 48) (pb := 123) rfl rfl rfl jg_a h (fun hc h => ?_) (fun hc h => ?_)
      · refine jr_al_n (pc' := 49) rfl rfl rfl (jr_al_n (pc' := 50) rfl rfl rfl (jr_al_n (pc' := 51) rfl rfl rfl (jr_gr (pc' := 54) (r := 3) rfl rfl jlk_8_9 (.inl rfl) rfl hN jd_63 rfl rfl rfl (jr_gi (pc' := 57) rfl rfl jlk_8_42 (.inr rfl) rfl hN jd_3 rfl rfl ?_))))
        refine jr_cv_i (pc' := 60) [_] rfl rfl jlk_8_47 jq_110 jbd_110 (jl rfl) rfl (jl rfl) hu rfl (jk rfl hN) (jd_63.trans jo_110.symm) (fun Q' hq => jc_110 hN (Nat.le_trans (jl rfl) hd) jg_a (jo_b h) hq) (fun p13 hp13 h => ?_)
        refine jr_al_n (pc' := 61) rfl rfl rfl (jr_al_n (pc' := 62) rfl rfl rfl (jr_gr (pc' := 65) (r := 3) rfl rfl jlk_8_9 (.inl rfl) rfl hN jd_63 rfl rfl rfl (jr_gi (pc' := 68) rfl rfl jlk_8_51 (.inr rfl) rfl hN jd_3 rfl rfl ?_)))
        refine jr_cv_i (pc' := 71) [_, _] rfl rfl jlk_8_47 jq_110 jbd_110 (jl rfl) rfl (jl rfl) hu rfl (jk rfl hN) (jd_63.trans jo_110.symm) (fun Q' hq => jc_110 hN (Nat.le_trans (jl rfl) hd) jg_a (jo_b h) hq) (fun p14 hp14 h => ?_)
        refine jr_cv_v (pc' := 74) [] rfl rfl jlk_8_54 jq_111 jbd_111 (jl rfl) rfl (jl rfl) hu rfl (jk rfl hN) (jd_63.trans jo_111.symm) (fun Q' hq => jc_111 hN (Nat.le_trans (jl rfl) hd) hp13 hp14 (jo_b h) hq) (fun p15 hp15 h => ?_)
        refine jr_al_n (pc' := 75) rfl rfl rfl (jr_bi (pc' := 77) rfl rfl rfl ?_)
        refine jr_cv_i (pc' := 80) [] rfl rfl jlk_8_47 jq_110 jbd_110 (jl rfl) rfl (jl rfl) hu rfl (jk rfl hN) (jd_63.trans jo_110.symm) (fun Q' hq => jc_110 hN (Nat.le_trans (jl rfl) hd) jgc_16 (jo_b h) hq) (fun p16 hp16 h => ?_)
        refine jr_il_n (pc' := 81) rfl rfl rfl ?_
        refine jr_reg (fun t17 => True) (fun t17 => jp X (px_C X d) px_m109 Q' N 92 [some (.ref 63), some (.ref 47), some (jv x1), some (jv x2), some (jv x3), some (jv s6.1)] [] t17 (0, 0)) h (fun t17 ht17 h => ?_) (fun R45 k18 h => ?_)
        · refine jr_il (pc' := 94) rfl rfl rfl (jr_bi (pc' := 96) rfl rfl rfl (jr_rem (pc' := 97) rfl rfl jgc_8 (by decide) ?_))
          refine jr_reg (fun t30 => True) (fun t30 => jp X (px_C X d) px_m109 Q' N 117 [some (.ref 63), some (.ref 47), some (jv x1), some (jv x2), some (jv x3), some (jv s6.1)] [] t30 (0, 0)) h (fun t30 ht30 h => ?_) (fun R44 k31 h => ?_)
          · refine jr_inc (pc' := 120) (L' := [_, _, _, _, _, _]) rfl rfl rfl (jl rfl) rfl rfl (jr_goto (pc' := 31) rfl rfl ?_)
            exact k7 (jw (s6.1 + 1), t30) jg_w h
          · refine jr_zne (pa := 100) (pb := 117) rfl rfl rfl jg_rem h (fun hc h => ?_) (fun hc h => ?_)
            · refine jr_al_n (pc' := 101) rfl rfl rfl (jr_gr (pc' := 104) (r := 64) rfl rfl jlk_8_15 (.inl rfl) rfl hN jd_63 rfl rfl rfl ?_)
              refine jr_cv_v (pc' := 107) [] rfl rfl jlk_8_62 jq_84 jbd_84 (jl rfl) rfl (jl rfl) hu rfl (jk rfl hN) (jd_64.trans jo_84.symm) (fun Q' hq => jc_84 hN (Nat.le_trans (jl rfl) hd) (.inr rfl) (jo_b h) hq) (fun p32 hp32 h => ?_)
              refine jr_al_n (pc' := 108) rfl rfl rfl (jr_dup (pc' := 109) rfl rfl rfl (jr_gi (pc' := 112) rfl rfl jlk_8_39 (.inl rfl) rfl hN jd_63 rfl rfl (jr_ic (pc' := 113) rfl rfl (jr_add (pc' := 114) rfl rfl (jr_pi (pc' := 117) rfl rfl jlk_8_39 (.inl rfl) rfl hN jd_63 rfl rfl ?_)))))
              refine jr_le h (fun m33 h => ?_)
              exact k31 (m33) trivial h
            · exact k31 (t17) trivial h
        · refine jr_cge (pa := 84) (pb := 92) rfl rfl rfl hp16 hx2 h (fun hc h => ?_) (fun hc h => ?_)
          · refine jr_al_n (pc' := 85) rfl rfl rfl (jr_gr (pc' := 88) (r := 64) rfl rfl jlk_8_15 (.inl rfl) rfl hN jd_63 rfl rfl rfl ?_)
            refine jr_cv_i (pc' := 91) [] rfl rfl jlk_8_58 jq_82 jbd_82 (jl rfl) rfl (jl rfl) hu rfl (jk rfl hN) (jd_64.trans jo_82.symm) (fun Q' hq => jc_82 hN (Nat.le_trans (jl rfl) hd) (.inr rfl) (jo_b h) hq) (fun p19 hp19 h => ?_)
            refine jr_pop (pc' := 92) rfl rfl rfl ?_
            exact k18 (p19.2) trivial h
          · exact k18 (p16.2) trivial h
      · exact k11 (s6.2) trivial h _ jn_i

set_option maxRecDepth 20000 in
set_option maxHeartbeats 1000000 in
theorem jc_112 {X : Nat × (Nat → Int32)} {N d : Nat}  (hN : 102 ≤ N) (hd : 3 ≤ d)  {m : jm} {P : Int → Prop} {Q : px_Q} (h : jo (jf_112 m) P) (hQ : ∀ p : Int, jg p → P p → Q (.inl (some (jv p))) (jmem N m)) : px_C X d 112 [.ref 63] (jmem N m) Q := by
  unfold jf_112 at h
  have hu : ju px_m112 (0, 0) := ju_0
  refine jr_in (M := px_m112) (lev := 2) (L := [some (.ref 63)]) hd rfl jbd_112 (jl rfl) rfl (fun d hd Q' hQ' => ?_)
  refine jr_al_n (pc' := 1) rfl rfl rfl (jr_gr (pc' := 4) (r := 64) rfl rfl jlk_8_15 (.inl rfl) rfl hN jd_63 rfl rfl rfl ?_)
  refine jr_cv_p (pc' := 7) [] rfl rfl jlk_8_19 jq_85 jbd_85 (jl rfl) rfl (jl rfl) hu rfl (jk rfl hN) (jd_64.trans jo_85.symm) (fun Q' hq => jc_85 hN (Nat.le_trans (jl rfl) hd) (.inr rfl) (jo_b h) hq) (fun p1 hp1 h => ?_)
  exact jr_ret rfl hu rfl (hQ' _ _ (hQ p1 hp1 h))

set_option maxRecDepth 20000 in
set_option maxHeartbeats 1000000 in
theorem jc_114 {X : Nat × (Nat → Int32)} {N d : Nat} {x0 : Int} (hN : 102 ≤ N) (hd : 1 ≤ d) (hx0 : jg x0) {m : jm} {P : jm → Prop} {Q : px_Q} (h : jo (jf_114 x0 m) P) (hQ : ∀ p : jm, True → P p → Q (.inl (none)) (jmem N p)) : px_C X d 114 [.ref 1, jv x0] (jmem N m) Q := by
  unfold jf_114 at h
  have hu : ju px_m114 (0, 0) := ju_0
  refine jr_in (M := px_m114) (lev := 0) (L := [some (.ref 1), some (jv x0), none]) hd rfl jbd_114 (jl rfl) rfl (fun d hd Q' hQ' => ?_)
  refine jr_bi (pc' := 2) rfl rfl rfl (jr_is_n (pc' := 3) (L' := [_, _, _]) rfl rfl (jl rfl) rfl rfl ?_)
  refine jr_reg (fun t4 => True) (fun t4 => ∀ o5, jn o5 → jp X (px_C X d) px_m114 Q' N 51 [some (.ref 1), some (jv x0), o5] [] t4 (0, 0)) h (fun t4 ht4 h o5 ho5 => ?_) (fun R7 k6 h => ?_)
  · exact jr_rv rfl hu rfl (hQ' _ _ (hQ t4 trivial h))
  · refine jr_lp (fun s1 => jg s1.1) (fun s1 => jp X (px_C X d) px_m114 Q' N 3 [some (.ref 1), some (jv x0), some (jv s1.1)] [] s1.2 (0, 0)) h jgc_24 (fun s1 hs1 R3 k2 h => ?_)
    refine jr_il_n (pc' := 4) rfl rfl rfl ?_
    refine jr_zlt (pa := 51) (pb := 7) rfl rfl rfl hs1 h (fun hc h => ?_) (fun hc h => ?_)
    · exact k6 (s1.2) trivial h _ jn_i
    · refine jr_al_n (pc' := 8) rfl rfl rfl (jr_gi (pc' := 11) rfl rfl jlk_9_19 (.inl rfl) rfl hN jd_1 rfl rfl (jr_al_n (pc' := 12) rfl rfl rfl (jr_gr (pc' := 15) (r := 2) rfl rfl jlk_9_9 (.inl rfl) rfl hN jd_1 rfl rfl rfl (jr_len (pc' := 16) (b := 600) rfl rfl (jl rfl) hN jd_2 jn_2 ?_))))
      refine jr_reg (fun t8 => True) (fun t8 => jp X (px_C X d) px_m114 Q' N 45 [some (.ref 1), some (jv x0), some (jv s1.1)] [] t8 (0, 0)) h (fun t8 ht8 h => ?_) (fun R22 k9 h => ?_)
      · refine jr_inc (pc' := 48) (L' := [_, _, _]) rfl rfl rfl (jl rfl) rfl rfl (jr_goto (pc' := 3) rfl rfl ?_)
        exact k2 (jw (s1.1 + (-8)), t8) jg_w h
      · refine jr_cge (pa := 19) (pb := 45) rfl rfl rfl jg_a jgc_600 h (fun hc h => ?_) (fun hc h => ?_)
        · refine jr_al_n (pc' := 20) rfl rfl rfl (jr_gr (pc' := 23) (r := 2) rfl rfl jlk_9_9 (.inl rfl) rfl hN jd_1 rfl rfl rfl (jr_al_n (pc' := 24) rfl rfl rfl (jr_gi (pc' := 27) rfl rfl jlk_9_19 (.inl rfl) rfl hN jd_1 rfl rfl (jr_il_n (pc' := 28) rfl rfl rfl (jr_il_n (pc' := 29) rfl rfl rfl ?_)))))
          refine jr_ushr (pc' := 30) rfl rfl (jr_si (pc' := 33) rfl rfl rfl (jr_and (pc' := 34) rfl rfl ?_))
          refine jr_ist (pc' := 35) rfl rfl (jl rfl) hN jd_2 jn_2 jg_a h (fun hc h => ?_)
          refine jr_le h (fun m10 h => ?_)
          refine jr_al_n (pc' := 36) rfl rfl rfl (jr_dup (pc' := 37) rfl rfl rfl (jr_gi (pc' := 40) rfl rfl jlk_9_19 (.inl rfl) rfl hN jd_1 rfl rfl (jr_ic (pc' := 41) rfl rfl (jr_add (pc' := 42) rfl rfl (jr_pi (pc' := 45) rfl rfl jlk_9_19 (.inl rfl) rfl hN jd_1 rfl rfl ?_)))))
          refine jr_le h (fun m11 h => ?_)
          exact k9 (m11) trivial h
        · exact k9 (s1.2) trivial h

set_option maxRecDepth 20000 in
set_option maxHeartbeats 1000000 in
theorem jc_115 {X : Nat × (Nat → Int32)} {N d : Nat} {x0 : Int} (hN : 102 ≤ N) (hd : 1 ≤ d) (hx0 : jg x0) {m : jm} {P : jm → Prop} {Q : px_Q} (h : jo (jf_115 x0 m) P) (hQ : ∀ p : jm, True → P p → Q (.inl (none)) (jmem N p)) : px_C X d 115 [.ref 1, jv x0] (jmem N m) Q := by
  unfold jf_115 at h
  have hu : ju px_m115 (0, 0) := ju_0
  refine jr_in (M := px_m115) (lev := 0) (L := [some (.ref 1), some (jv x0)]) hd rfl jbd_115 (jl rfl) rfl (fun d hd Q' hQ' => ?_)
  refine jr_al_n (pc' := 1) rfl rfl rfl (jr_il_n (pc' := 2) rfl rfl rfl (jr_al_n (pc' := 3) rfl rfl rfl (jr_gr (pc' := 6) (r := 2) rfl rfl jlk_9_9 (.inl rfl) rfl hN jd_1 rfl rfl rfl (jr_len (pc' := 7) (b := 600) rfl rfl (jl rfl) hN jd_2 jn_2 (jr_min (pc' := 10) rfl rfl jlk_9_22 (jl rfl) hu hx0 jgc_600 ?_)))))
  refine jr_pi (pc' := 13) rfl rfl jlk_9_28 (.inl rfl) rfl hN jd_1 rfl rfl ?_
  refine jr_le h (fun m1 h => ?_)
  refine jr_al_n (pc' := 14) rfl rfl rfl (jr_ic (pc' := 15) rfl rfl (jr_pi (pc' := 18) rfl rfl jlk_9_19 (.inl rfl) rfl hN jd_1 rfl rfl ?_))
  refine jr_le h (fun m2 h => ?_)
  refine jr_al_n (pc' := 19) rfl rfl rfl (jr_ic (pc' := 20) rfl rfl (jr_pi (pc' := 23) rfl rfl jlk_9_31 (.inl rfl) rfl hN jd_1 rfl rfl ?_))
  refine jr_le h (fun m3 h => ?_)
  refine jr_al_n (pc' := 24) rfl rfl rfl (jr_ic (pc' := 25) rfl rfl (jr_pi (pc' := 28) rfl rfl jlk_9_34 (.inl rfl) rfl hN jd_1 rfl rfl ?_))
  refine jr_le h (fun m4 h => ?_)
  refine jr_al_n (pc' := 29) rfl rfl rfl (jr_ic (pc' := 30) rfl rfl (jr_pi (pc' := 33) rfl rfl jlk_9_37 (.inl rfl) rfl hN jd_1 rfl rfl ?_))
  refine jr_le h (fun m5 h => ?_)
  refine jr_al_n (pc' := 34) rfl rfl rfl (jr_ic (pc' := 35) rfl rfl (jr_pi (pc' := 38) rfl rfl jlk_9_15 (.inl rfl) rfl hN jd_1 rfl rfl ?_))
  refine jr_le h (fun m6 h => ?_)
  exact jr_rv rfl hu rfl (hQ' _ _ (hQ m6 trivial h))

set_option maxRecDepth 20000 in
set_option maxHeartbeats 1000000 in
theorem jc_131 {X : Nat × (Nat → Int32)} {N d : Nat} {x0 : Int} (hN : 102 ≤ N) (hd : 5 ≤ d) (hx0 : jg x0) {m : jm} {P : jm → Prop} {Q : px_Q} (h : jo (jf_131 x0 m) P) (hQ : ∀ p : jm, True → P p → Q (.inl (none)) (jmem N p)) : px_C X d 131 [.ref 56, jv x0] (jmem N m) Q := by
  unfold jf_131 at h
  have hu : ju px_m131 (0, 0) := ju_0
  refine jr_in (M := px_m131) (lev := 4) (L := [some (.ref 56), some (jv x0)]) hd rfl jbd_131 (jl rfl) rfl (fun d hd Q' hQ' => ?_)
  refine jr_al_n (pc' := 1) rfl rfl rfl (jr_il_n (pc' := 2) rfl rfl rfl (jr_al_n (pc' := 3) rfl rfl rfl (jr_gr (pc' := 6) (r := 47) rfl rfl jlk_10_22 (.inl rfl) rfl hN jd_56 rfl rfl rfl (jr_il_n (pc' := 7) rfl rfl rfl ?_))))
  refine jr_cv_p (pc' := 10) [_, _] rfl rfl jlk_10_54 jq_60 jbd_60 (jl rfl) rfl (jl rfl) hu rfl (jk rfl hN) (jd_47.trans jo_60.symm) (fun Q' hq => jc_60 hN (Nat.le_trans (jl rfl) hd) (.inl rfl) hx0 (jo_b h) hq) (fun p1 hp1 h => ?_)
  refine jr_cv_v (pc' := 13) [] rfl rfl jlk_10_58 jq_127 jbd_127 (jl rfl) rfl (jl rfl) hu rfl (jk rfl hN) (jd_56.trans jo_127.symm) (fun Q' hq => jc_127 hN (Nat.le_trans (jl rfl) hd) hx0 hp1 (jo_b h) hq) (fun p2 hp2 h => ?_)
  exact jr_rv rfl hu rfl (hQ' _ _ (hQ p2 trivial h))

set_option maxRecDepth 20000 in
set_option maxHeartbeats 1000000 in
theorem jc_130 {X : Nat × (Nat → Int32)} {N d : Nat} {x0 : Int} (hN : 102 ≤ N) (hd : 6 ≤ d) (hx0 : jg x0) {m : jm} {P : Int × jm → Prop} {Q : px_Q} (h : jo (jf_130 x0 m) P) (hQ : ∀ p : Int × jm, jg p.1 → P p → Q (.inl (some (jv p.1))) (jmem N p.2)) : px_C X d 130 [.ref 56, jv x0] (jmem N m) Q := by
  unfold jf_130 at h
  have hu : ju px_m130 (0, 0) := ju_0
  refine jr_in (M := px_m130) (lev := 5) (L := [some (.ref 56), some (jv x0), none, none]) hd rfl jbd_130 (jl rfl) rfl (fun d hd Q' hQ' => ?_)
  refine jr_al_n (pc' := 1) rfl rfl rfl (jr_gr (pc' := 4) (r := 47) rfl rfl jlk_10_22 (.inl rfl) rfl hN jd_56 rfl rfl rfl (jr_il_n (pc' := 5) rfl rfl rfl ?_))
  refine jr_cv_p (pc' := 8) [] rfl rfl jlk_10_72 jq_58 jbd_58 (jl rfl) rfl (jl rfl) hu rfl (jk rfl hN) (jd_47.trans jo_58.symm) (fun Q' hq => jc_58 hN (Nat.le_trans (jl rfl) hd) (.inl rfl) hx0 (jo_b h) hq) (fun p1 hp1 h => ?_)
  refine jr_zeq (pa := 13) (pb := 11) rfl rfl rfl (jg_b hp1) h (fun hc h => ?_) (fun hc h => ?_)
  · refine jr_al_n (pc' := 14) rfl rfl rfl (jr_il_n (pc' := 15) rfl rfl rfl ?_)
    refine jr_cv_v (pc' := 18) [] rfl rfl jlk_10_76 jq_131 jbd_131 (jl rfl) rfl (jl rfl) hu rfl (jk rfl hN) (jd_56.trans jo_131.symm) (fun Q' hq => jc_131 hN (Nat.le_trans (jl rfl) hd) hx0 (jo_b h) hq) (fun p2 hp2 h => ?_)
    refine jr_ic (pc' := 19) rfl rfl (jr_al_n (pc' := 20) rfl rfl rfl (jr_gr (pc' := 23) (r := 47) rfl rfl jlk_10_22 (.inl rfl) rfl hN jd_56 rfl rfl rfl (jr_il_n (pc' := 24) rfl rfl rfl ?_)))
    refine jr_cv_p (pc' := 27) [_] rfl rfl jlk_10_80 jq_59 jbd_59 (jl rfl) rfl (jl rfl) hu rfl (jk rfl hN) (jd_47.trans jo_59.symm) (fun Q' hq => jc_59 hN (Nat.le_trans (jl rfl) hd) (.inl rfl) hx0 (jo_b h) hq) (fun p3 hp3 h => ?_)
    refine jr_shl (pc' := 28) rfl rfl (jr_is_n (pc' := 29) (L' := [_, _, _, _]) rfl rfl (jl rfl) rfl rfl (jr_ic (pc' := 30) rfl rfl (jr_is_n (pc' := 31) (L' := [_, _, _, _]) rfl rfl (jl rfl) rfl rfl ?_)))
    refine jr_reg (fun t7 => jg t7) (fun t7 => ∀ o8, jn o8 → jp X (px_C X d) px_m130 Q' N 49 [some (.ref 56), some (jv x0), some (jv t7), o8] [] p2 (0, 0)) h (fun t7 ht7 h o8 ho8 => ?_) (fun R10 k9 h => ?_)
    · refine jr_il_n (pc' := 50) rfl rfl rfl ?_
      exact jr_ret rfl hu rfl (hQ' _ _ (hQ (t7, p2) ht7 h))
    · refine jr_lp (fun s4 => jg s4.1 ∧ jg s4.2) (fun s4 => jp X (px_C X d) px_m130 Q' N 31 [some (.ref 56), some (jv x0), some (jv s4.1), some (jv s4.2)] [] p2 (0, 0)) h ⟨jg_shl, jgc_0⟩ (fun s4 hs4 R6 k5 h => ?_)
      refine jr_il_n (pc' := 32) rfl rfl rfl (jr_bi (pc' := 34) rfl rfl rfl ?_)
      refine jr_cge (pa := 37) (pb := 49) rfl rfl rfl hs4.2 jgc_8 h (fun hc h => ?_) (fun hc h => ?_)
      · refine jr_al_n (pc' := 38) rfl rfl rfl (jr_il_n (pc' := 39) rfl rfl rfl ?_)
        refine jr_cv_p (pc' := 42) [] rfl rfl jlk_10_65 jq_129 jbd_129 (jl rfl) rfl (jl rfl) hu rfl (jk rfl hN) (jd_56.trans jo_129.symm) (fun Q' hq => jc_129 hN (Nat.le_trans (jl rfl) hd) hs4.1 (jo_b h) hq) (fun p11 hp11 h => ?_)
        refine jr_is_n (pc' := 43) (L' := [_, _, _, _]) rfl rfl (jl rfl) rfl rfl (jr_inc (pc' := 46) (L' := [_, _, _, _]) rfl rfl rfl (jl rfl) rfl rfl (jr_goto (pc' := 31) rfl rfl ?_))
        exact k5 (p11, jw (s4.2 + 1)) ⟨hp11, jg_w⟩ h
      · exact k9 (s4.1) hs4.1 h _ jn_i
  · refine jr_ic (pc' := 12) rfl rfl ?_
    exact jr_ret rfl hu rfl (hQ' _ _ (hQ ((0 : Int), m) jgc_0 h))

