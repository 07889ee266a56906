/-! the pure machine follows the functions, 17 (written by wip/whole/gen/walk.py) -/
set_option maxRecDepth 20000 in
set_option maxHeartbeats 1000000 in
theorem jc_252 {X : Nat × (Nat → Int32)} {N d : Nat} {x0 : Int} {x1 : Int} (hN : 102 ≤ N) (hd : 2 ≤ d) (hx0 : jg x0) (hx1 : jg x1) {m : jm} {P : Int × jm → Prop} {Q : px_Q} (h : jo (jf_252 x0 x1 m) P) (hQ : ∀ p : Int × jm, jb p.1 → P p → Q (.inl (some (jv p.1))) (jmem N p.2)) : px_C X d 252 [.ref 67, jv x0, jv x1] (jmem N m) Q := by
  unfold jf_252 at h
  have hu : ju px_m252 (0, 0) := ju_0
  refine jr_in (M := px_m252) (lev := 1) (L := [some (.ref 67), some (jv x0), some (jv x1)]) hd rfl jbd_252 (jl rfl) rfl (fun d hd Q' hQ' => ?_)
  refine jr_al_n (pc' := 1) rfl rfl rfl (jr_il_n (pc' := 2) rfl rfl rfl (jr_ic (pc' := 3) rfl rfl (jr_al_n (pc' := 4) rfl rfl rfl (jr_gi (pc' := 7) rfl rfl jlk_12_184 (.inl rfl) rfl hN jd_67 rfl rfl (jr_ic (pc' := 8) rfl rfl ?_)))))
  refine jr_sub (pc' := 9) rfl rfl ?_
  refine jr_cs_p (pc' := 12) [_] rfl rfl jlk_12_414 jq_247 jbd_247 (jl rfl) rfl (jl rfl) hu (fun Q' hq => jc_247 hN (Nat.le_trans (jl rfl) hd) hx0 jgc_0 jg_w (jo_b h) hq) (fun p1 hp1 h => ?_)
  refine jr_il_n (pc' := 13) rfl rfl rfl (jr_ic (pc' := 14) rfl rfl ?_)
  refine jr_cv_i (pc' := 17) [] rfl rfl jlk_12_233 jq_194 jbd_194 (jl rfl) rfl (jl rfl) hu rfl (jk rfl hN) (jd_67.trans jo_194.symm) (fun Q' hq => jc_194 hN (Nat.le_trans (jl rfl) hd) (jg_b hp1) hx1 jgc_0 (jo_b h) hq) (fun p2 hp2 h => ?_)
  exact jr_retb rfl hu rfl hp2 (hQ' _ _ (hQ (p2.1, p2.2) hp2 h))

set_option maxRecDepth 20000 in
set_option maxHeartbeats 1000000 in
theorem jc_251 {X : Nat × (Nat → Int32)} {N d : Nat} {x0 : Int} {x1 : Int} (hN : 102 ≤ N) (hd : 3 ≤ d) (hx0 : jg x0) (hx1 : jg x1) {m : jm} {P : Int × jm → Prop} {Q : px_Q} (h : jo (jf_251 x0 x1 m) P) (hQ : ∀ p : Int × jm, jg p.1 → P p → Q (.inl (some (jv p.1))) (jmem N p.2)) : px_C X d 251 [.ref 67, jv x0, jv x1] (jmem N m) Q := by
  unfold jf_251 at h
  have hu : ju px_m251 (0, 0) := ju_0
  refine jr_in (M := px_m251) (lev := 2) (L := [some (.ref 67), some (jv x0), some (jv x1), none, none]) hd rfl jbd_251 (jl rfl) rfl (fun d hd Q' hQ' => ?_)
  refine jr_al_n (pc' := 1) rfl rfl rfl (jr_ic (pc' := 2) rfl rfl (jr_pi (pc' := 5) rfl rfl jlk_12_3 (.inl rfl) rfl hN jd_67 rfl rfl ?_))
  refine jr_le h (fun m1 h => ?_)
  refine jr_al_n (pc' := 6) rfl rfl rfl (jr_il_n (pc' := 7) rfl rfl rfl (jr_ic (pc' := 8) rfl rfl ?_))
  refine jr_cv_i (pc' := 11) [] rfl rfl jlk_12_426 jq_252 jbd_252 (jl rfl) rfl (jl rfl) hu rfl (jk rfl hN) (jd_67.trans jo_252.symm) (fun Q' hq => jc_252 hN (Nat.le_trans (jl rfl) hd) hx0 jgc_1 (jo_b h) hq) (fun p2 hp2 h => ?_)
  refine jr_zeq (pa := 29) (pb := 14) rfl rfl rfl (jg_b hp2) h (fun hc h => ?_) (fun hc h => ?_)
  · refine jr_ic (pc' := 30) rfl rfl ?_
    exact jr_ret rfl hu rfl (hQ' _ _ (hQ ((0 : Int), p2.2) jgc_0 h))
  · refine jr_al_n (pc' := 15) rfl rfl rfl (jr_il_n (pc' := 16) rfl rfl rfl (jr_ic (pc' := 17) rfl rfl (jr_ic (pc' := 18) rfl rfl ?_)))
    refine jr_cs_p (pc' := 21) [_] rfl rfl jlk_12_414 jq_247 jbd_247 (jl rfl) rfl (jl rfl) hu (fun Q' hq => jc_247 hN (Nat.le_trans (jl rfl) hd) hx1 jgc_0 jgc_3 (jo_b h) hq) (fun p3 hp3 h => ?_)
    refine jr_ic (pc' := 22) rfl rfl (jr_ic (pc' := 23) rfl rfl ?_)
    refine jr_cv_i (pc' := 26) [] rfl rfl jlk_12_233 jq_194 jbd_194 (jl rfl) rfl (jl rfl) hu rfl (jk rfl hN) (jd_67.trans jo_194.symm) (fun Q' hq => jc_194 hN (Nat.le_trans (jl rfl) hd) (jg_b hp3) jgc_2 jgc_1 (jo_b h) hq) (fun p4 hp4 h => ?_)
    refine jr_zne (pa := 29) (pb := 31) rfl rfl rfl (jg_b hp4) h (fun hc h => ?_) (fun hc h => ?_)
    · refine jr_ic (pc' := 30) rfl rfl ?_
      exact jr_ret rfl hu rfl (hQ' _ _ (hQ ((0 : Int), p4.2) jgc_0 h))
    · refine jr_il_n (pc' := 32) rfl rfl rfl ?_
      refine jr_zne (pa := 35) (pb := 42) rfl rfl rfl hx1 h (fun hc h => ?_) (fun hc h => ?_)
      · refine jr_al_n (pc' := 36) rfl rfl rfl (jr_gr (pc' := 39) (r := 75) rfl rfl jlk_12_38 (.inl rfl) rfl hN jd_67 rfl rfl rfl (jr_il_n (pc' := 40) rfl rfl rfl ?_))
        refine jr_ia (pc' := 41) rfl rfl (jl rfl) hN jd_75 jn_75 hx0 h (fun hc h => ?_)
        exact jr_ret rfl hu rfl (hQ' _ _ (hQ (ja p4.2 75 x0.toNat, p4.2) jg_a h))
      · refine jr_ic (pc' := 43) rfl rfl (jr_is_n (pc' := 44) (L' := [_, _, _, _, _]) rfl rfl (jl rfl) rfl rfl (jr_il_n (pc' := 45) rfl rfl rfl (jr_ic (pc' := 46) rfl rfl ?_)))
        refine jr_reg (fun t5 => jg t5) (fun t5 => ∀ o6, jn o6 → jp X (px_C X d) px_m251 Q' N 106 [some (.ref 67), some (jv x0), some (jv x1), some (jv t5), o6] [] p4.2 (0, 0)) h (fun t5 ht5 h o6 ho6 => ?_) (fun R136 k7 h => ?_)
        · refine jr_il_n (pc' := 107) rfl rfl rfl (jr_ic (pc' := 108) rfl rfl ?_)
          refine jr_reg (fun t48 => jg t48) (fun t48 => ∀ o49, jn o49 → jp X (px_C X d) px_m251 Q' N 154 [some (.ref 67), some (jv x0), some (jv x1), some (jv t48), o49] [] p4.2 (0, 0)) h (fun t48 ht48 h o49 ho49 => ?_) (fun R135 k50 h => ?_)
          · refine jr_il_n (pc' := 155) rfl rfl rfl (jr_ic (pc' := 156) rfl rfl ?_)
            refine jr_reg (fun t91 => jg t91) (fun t91 => ∀ o92, jn o92 → jp X (px_C X d) px_m251 Q' N 215 [some (.ref 67), some (jv x0), some (jv x1), some (jv t91), o92] [] p4.2 (0, 0)) h (fun t91 ht91 h o92 ho92 => ?_) (fun R134 k93 h => ?_)
            · refine jr_il_n (pc' := 216) rfl rfl rfl ?_
              exact jr_ret rfl hu rfl (hQ' _ _ (hQ (t91, p4.2) ht91 h))
            · refine jr_cne (pa := 159) (pb := 215) rfl rfl rfl hx1 jgc_3 h (fun hc h => ?_) (fun hc h => ?_)
              · refine jr_ic (pc' := 160) rfl rfl (jr_is (pc' := 162) (L' := [_, _, _, _, _]) rfl rfl (jl rfl) rfl rfl ?_)
                refine jr_reg (fun t97 => jg t97) (fun t97 => ∀ o98, jn o98 → jp X (px_C X d) px_m251 Q' N 215 [some (.ref 67), some (jv x0), some (jv x1), some (jv t97), o98] [] p4.2 (0, 0)) h (fun t97 ht97 h o98 ho98 => ?_) (fun R100 k99 h => ?_)
                · exact k93 (t97) ht97 h _ ho98
                · refine jr_lp (fun s94 => jg s94.1 ∧ jg s94.2) (fun s94 => jp X (px_C X d) px_m251 Q' N 162 [some (.ref 67), some (jv x0), some (jv x1), some (jv s94.1), some (jv s94.2)] [] p4.2 (0, 0)) h ⟨ht48, jgc_0⟩ (fun s94 hs94 R96 k95 h => ?_)
                  refine jr_il (pc' := 164) rfl rfl rfl (jr_al_n (pc' := 165) rfl rfl rfl (jr_gi (pc' := 168) rfl rfl jlk_12_193 (.inl rfl) rfl hN jd_67 rfl rfl ?_))
                  refine jr_cge (pa := 171) (pb := 215) rfl rfl rfl hs94.2 jg_a h (fun hc h => ?_) (fun hc h => ?_)
                  · refine jr_il_n (pc' := 172) rfl rfl rfl (jr_al_n (pc' := 173) rfl rfl rfl (jr_gr (pc' := 176) (r := 88) rfl rfl jlk_12_77 (.inl rfl) rfl hN jd_67 rfl rfl rfl (jr_bi (pc' := 178) rfl rfl rfl (jr_il (pc' := 180) rfl rfl rfl (jr_add (pc' := 181) rfl rfl ?_)))))
                    refine jr_ia (pc' := 182) rfl rfl (jl rfl) hN jd_88 jn_88 jg_w h (fun hc h => ?_)
                    refine jr_il_n (pc' := 183) rfl rfl rfl ?_
                    refine jr_reg (fun t101 => jg t101) (fun t101 => jp X (px_C X d) px_m251 Q' N 207 [some (.ref 67), some (jv x0), some (jv x1), some (jv s94.1), some (jv s94.2)] [(jv t101), (jv s94.1)] p4.2 (0, 0)) h (fun t101 ht101 h => ?_) (fun R113 k102 h => ?_)
                    · refine jr_or (pc' := 208) rfl rfl (jr_is_n (pc' := 209) (L' := [_, _, _, _, _]) rfl rfl (jl rfl) rfl rfl (jr_inc (pc' := 212) (L' := [_, _, _, _, _]) rfl rfl rfl (jl rfl) rfl rfl (jr_goto (pc' := 162) rfl rfl ?_)))
                      exact k95 (jbor s94.1 t101, jw (s94.2 + 1)) ⟨jg_bor, jg_w⟩ h
                    · refine jr_cne (pa := 186) (pb := 206) rfl rfl rfl jg_a hx0 h (fun hc h => ?_) (fun hc h => ?_)
                      · refine jr_al_n (pc' := 187) rfl rfl rfl (jr_gr (pc' := 190) (r := 88) rfl rfl jlk_12_77 (.inl rfl) rfl hN jd_67 rfl rfl rfl (jr_bi (pc' := 192) rfl rfl rfl (jr_il (pc' := 194) rfl rfl rfl (jr_add (pc' := 195) rfl rfl ?_))))
                        refine jr_ia (pc' := 196) rfl rfl (jl rfl) hN jd_88 jn_88 jg_w h (fun hc h => ?_)
                        refine jr_zne (pa := 199) (pb := 206) rfl rfl rfl jg_a h (fun hc h => ?_) (fun hc h => ?_)
                        · refine jr_ic (pc' := 200) rfl rfl (jr_il (pc' := 202) rfl rfl rfl (jr_shl (pc' := 203) rfl rfl (jr_goto (pc' := 207) rfl rfl ?_)))
                          exact k102 (jshl (1 : Int) s94.2) jg_shl h
                        · refine jr_ic (pc' := 207) rfl rfl ?_
                          exact k102 ((0 : Int)) jgc_0 h
                      · refine jr_ic (pc' := 207) rfl rfl ?_
                        exact k102 ((0 : Int)) jgc_0 h
                  · exact k99 (s94.1) hs94.1 h _ jn_i
              · exact k93 (t48) ht48 h _ ho49
          · refine jr_cne (pa := 111) (pb := 154) rfl rfl rfl hx1 jgc_2 h (fun hc h => ?_) (fun hc h => ?_)
            · refine jr_ic (pc' := 112) rfl rfl (jr_is (pc' := 114) (L' := [_, _, _, _, _]) rfl rfl (jl rfl) rfl rfl ?_)
              refine jr_reg (fun t54 => jg t54) (fun t54 => ∀ o55, jn o55 → jp X (px_C X d) px_m251 Q' N 154 [some (.ref 67), some (jv x0), some (jv x1), some (jv t54), o55] [] p4.2 (0, 0)) h (fun t54 ht54 h o55 ho55 => ?_) (fun R57 k56 h => ?_)
              · exact k50 (t54) ht54 h _ ho55
              · refine jr_lp (fun s51 => jg s51.1 ∧ jg s51.2) (fun s51 => jp X (px_C X d) px_m251 Q' N 114 [some (.ref 67), some (jv x0), some (jv x1), some (jv s51.1), some (jv s51.2)] [] p4.2 (0, 0)) h ⟨ht5, jgc_0⟩ (fun s51 hs51 R53 k52 h => ?_)
                refine jr_il (pc' := 116) rfl rfl rfl (jr_al_n (pc' := 117) rfl rfl rfl (jr_gi (pc' := 120) rfl rfl jlk_12_190 (.inl rfl) rfl hN jd_67 rfl rfl ?_))
                refine jr_cge (pa := 123) (pb := 154) rfl rfl rfl hs51.2 jg_a h (fun hc h => ?_) (fun hc h => ?_)
                · refine jr_il_n (pc' := 124) rfl rfl rfl (jr_al_n (pc' := 125) rfl rfl rfl (jr_gr (pc' := 128) (r := 88) rfl rfl jlk_12_77 (.inl rfl) rfl hN jd_67 rfl rfl rfl (jr_bi (pc' := 130) rfl rfl rfl (jr_il (pc' := 132) rfl rfl rfl (jr_add (pc' := 133) rfl rfl ?_)))))
                  refine jr_ia (pc' := 134) rfl rfl (jl rfl) hN jd_88 jn_88 jg_w h (fun hc h => ?_)
                  refine jr_il_n (pc' := 135) rfl rfl rfl ?_
                  refine jr_reg (fun t58 => jg t58) (fun t58 => jp X (px_C X d) px_m251 Q' N 146 [some (.ref 67), some (jv x0), some (jv x1), some (jv s51.1), some (jv s51.2)] [(jv t58), (jv s51.1)] p4.2 (0, 0)) h (fun t58 ht58 h => ?_) (fun R70 k59 h => ?_)
                  · refine jr_or (pc' := 147) rfl rfl (jr_is_n (pc' := 148) (L' := [_, _, _, _, _]) rfl rfl (jl rfl) rfl rfl (jr_inc (pc' := 151) (L' := [_, _, _, _, _]) rfl rfl rfl (jl rfl) rfl rfl (jr_goto (pc' := 114) rfl rfl ?_)))
                    exact k52 (jbor s51.1 t58, jw (s51.2 + 1)) ⟨jg_bor, jg_w⟩ h
                  · refine jr_cne (pa := 138) (pb := 145) rfl rfl rfl jg_a hx0 h (fun hc h => ?_) (fun hc h => ?_)
                    · refine jr_ic (pc' := 139) rfl rfl (jr_il (pc' := 141) rfl rfl rfl (jr_shl (pc' := 142) rfl rfl (jr_goto (pc' := 146) rfl rfl ?_)))
                      exact k59 (jshl (1 : Int) s51.2) jg_shl h
                    · refine jr_ic (pc' := 146) rfl rfl ?_
                      exact k59 ((0 : Int)) jgc_0 h
                · exact k56 (s51.1) hs51.1 h _ jn_i
            · exact k50 (t5) ht5 h _ ho6
        · refine jr_cne (pa := 49) (pb := 106) rfl rfl rfl hx1 jgc_1 h (fun hc h => ?_) (fun hc h => ?_)
          · refine jr_ic (pc' := 50) rfl rfl (jr_is (pc' := 52) (L' := [_, _, _, _, _]) rfl rfl (jl rfl) rfl rfl ?_)
            refine jr_reg (fun t11 => jg t11) (fun t11 => ∀ o12, jn o12 → jp X (px_C X d) px_m251 Q' N 106 [some (.ref 67), some (jv x0), some (jv x1), some (jv t11), o12] [] p4.2 (0, 0)) h (fun t11 ht11 h o12 ho12 => ?_) (fun R14 k13 h => ?_)
            · exact k7 (t11) ht11 h _ ho12
            · refine jr_lp (fun s8 => jg s8.1 ∧ jg s8.2) (fun s8 => jp X (px_C X d) px_m251 Q' N 52 [some (.ref 67), some (jv x0), some (jv x1), some (jv s8.1), some (jv s8.2)] [] p4.2 (0, 0)) h ⟨jgc_0, jgc_0⟩ (fun s8 hs8 R10 k9 h => ?_)
              refine jr_il (pc' := 54) rfl rfl rfl (jr_al_n (pc' := 55) rfl rfl rfl (jr_gi (pc' := 58) rfl rfl jlk_12_187 (.inl rfl) rfl hN jd_67 rfl rfl ?_))
              refine jr_cge (pa := 61) (pb := 106) rfl rfl rfl hs8.2 jg_a h (fun hc h => ?_) (fun hc h => ?_)
              · refine jr_il_n (pc' := 62) rfl rfl rfl (jr_al_n (pc' := 63) rfl rfl rfl (jr_gr (pc' := 66) (r := 76) rfl rfl jlk_12_41 (.inl rfl) rfl hN jd_67 rfl rfl rfl (jr_ic (pc' := 67) rfl rfl (jr_il (pc' := 69) rfl rfl rfl (jr_mul (pc' := 70) rfl rfl ?_)))))
                refine jr_ia (pc' := 71) rfl rfl (jl rfl) hN jd_76 jn_76 jg_w h (fun hc h => ?_)
                refine jr_il_n (pc' := 72) rfl rfl rfl ?_
                refine jr_reg (fun t15 => jg t15) (fun t15 => jp X (px_C X d) px_m251 Q' N 98 [some (.ref 67), some (jv x0), some (jv x1), some (jv s8.1), some (jv s8.2)] [(jv t15), (jv s8.1)] p4.2 (0, 0)) h (fun t15 ht15 h => ?_) (fun R27 k16 h => ?_)
                · refine jr_or (pc' := 99) rfl rfl (jr_is_n (pc' := 100) (L' := [_, _, _, _, _]) rfl rfl (jl rfl) rfl rfl (jr_inc (pc' := 103) (L' := [_, _, _, _, _]) rfl rfl rfl (jl rfl) rfl rfl (jr_goto (pc' := 52) rfl rfl ?_)))
                  exact k9 (jbor s8.1 t15, jw (s8.2 + 1)) ⟨jg_bor, jg_w⟩ h
                · refine jr_ceq (pa := 90) (pb := 75) rfl rfl rfl jg_a hx0 h (fun hc h => ?_) (fun hc h => ?_)
                  · refine jr_ic (pc' := 91) rfl rfl (jr_il (pc' := 93) rfl rfl rfl (jr_shl (pc' := 94) rfl rfl (jr_goto (pc' := 98) rfl rfl ?_)))
                    exact k16 (jshl (1 : Int) s8.2) jg_shl h
                  · refine jr_al_n (pc' := 76) rfl rfl rfl (jr_gr (pc' := 79) (r := 76) rfl rfl jlk_12_41 (.inl rfl) rfl hN jd_67 rfl rfl rfl (jr_ic (pc' := 80) rfl rfl (jr_il (pc' := 82) rfl rfl rfl (jr_mul (pc' := 83) rfl rfl (jr_ic (pc' := 84) rfl rfl ?_)))))
                    refine jr_add (pc' := 85) rfl rfl ?_
                    refine jr_ia (pc' := 86) rfl rfl (jl rfl) hN jd_76 jn_76 jg_w h (fun hc h => ?_)
                    refine jr_il_n (pc' := 87) rfl rfl rfl ?_
                    refine jr_cne (pa := 90) (pb := 97) rfl rfl rfl jg_a hx0 h (fun hc h => ?_) (fun hc h => ?_)
                    · refine jr_ic (pc' := 91) rfl rfl (jr_il (pc' := 93) rfl rfl rfl (jr_shl (pc' := 94) rfl rfl (jr_goto (pc' := 98) rfl rfl ?_)))
                      exact k16 (jshl (1 : Int) s8.2) jg_shl h
                    · refine jr_ic (pc' := 98) rfl rfl ?_
                      exact k16 ((0 : Int)) jgc_0 h
              · exact k13 (s8.1) hs8.1 h _ jn_i
          · exact k7 ((0 : Int)) jgc_0 h _ jn_n

set_option maxRecDepth 20000 in
set_option maxHeartbeats 1000000 in
theorem jc_254 {X : Nat × (Nat → Int32)} {N d : Nat} {x0 : Int} {x1 : Int} (hN : 102 ≤ N) (hd : 2 ≤ d) (hx0 : jg x0) (hx1 : jg x1) {m : jm} {P : Int × jm → Prop} {Q : px_Q} (h : jo (jf_254 x0 x1 m) P) (hQ : ∀ p : Int × jm, jb p.1 → P p → Q (.inl (some (jv p.1))) (jmem N p.2)) : px_C X d 254 [.ref 67, jv x0, jv x1] (jmem N m) Q := by
  unfold jf_254 at h
  have hu : ju px_m254 (0, 0) := ju_0
  refine jr_in (M := px_m254) (lev := 1) (L := [some (.ref 67), some (jv x0), some (jv x1)]) hd rfl jbd_254 (jl rfl) rfl (fun d hd Q' hQ' => ?_)
  refine jr_al_n (pc' := 1) rfl rfl rfl (jr_il_n (pc' := 2) rfl rfl rfl (jr_ic (pc' := 3) rfl rfl (jr_al_n (pc' := 4) rfl rfl rfl (jr_gi (pc' := 7) rfl rfl jlk_12_187 (.inl rfl) rfl hN jd_67 rfl rfl (jr_ic (pc' := 8) rfl rfl ?_)))))
  refine jr_sub (pc' := 9) rfl rfl ?_
  refine jr_cs_p (pc' := 12) [_] rfl rfl jlk_12_414 jq_247 jbd_247 (jl rfl) rfl (jl rfl) hu (fun Q' hq => jc_247 hN (Nat.le_trans (jl rfl) hd) hx0 jgc_0 jg_w (jo_b h) hq) (fun p1 hp1 h => ?_)
  refine jr_il_n (pc' := 13) rfl rfl rfl (jr_ic (pc' := 14) rfl rfl ?_)
  refine jr_cv_i (pc' := 17) [] rfl rfl jlk_12_233 jq_194 jbd_194 (jl rfl) rfl (jl rfl) hu rfl (jk rfl hN) (jd_67.trans jo_194.symm) (fun Q' hq => jc_194 hN (Nat.le_trans (jl rfl) hd) (jg_b hp1) hx1 jgc_0 (jo_b h) hq) (fun p2 hp2 h => ?_)
  exact jr_retb rfl hu rfl hp2 (hQ' _ _ (hQ (p2.1, p2.2) hp2 h))

set_option maxRecDepth 20000 in
set_option maxHeartbeats 1000000 in
theorem jc_253 {X : Nat × (Nat → Int32)} {N d : Nat} {x0 : Int} {x1 : Int} (hN : 102 ≤ N) (hd : 3 ≤ d) (hx0 : jg x0) (hx1 : jg x1) {m : jm} {P : Int × jm → Prop} {Q : px_Q} (h : jo (jf_253 x0 x1 m) P) (hQ : ∀ p : Int × jm, jg p.1 → P p → Q (.inl (some (jv p.1))) (jmem N p.2)) : px_C X d 253 [.ref 67, jv x0, jv x1] (jmem N m) Q := by
  unfold jf_253 at h
  have hu : ju px_m253 (0, 0) := ju_0
  refine jr_in (M := px_m253) (lev := 2) (L := [some (.ref 67), some (jv x0), some (jv x1)]) hd rfl jbd_253 (jl rfl) rfl (fun d hd Q' hQ' => ?_)
  refine jr_al_n (pc' := 1) rfl rfl rfl (jr_ic (pc' := 2) rfl rfl (jr_pi (pc' := 5) rfl rfl jlk_12_3 (.inl rfl) rfl hN jd_67 rfl rfl ?_))
  refine jr_le h (fun m1 h => ?_)
  refine jr_al_n (pc' := 6) rfl rfl rfl (jr_il_n (pc' := 7) rfl rfl rfl (jr_ic (pc' := 8) rfl rfl ?_))
  refine jr_cv_i (pc' := 11) [] rfl rfl jlk_12_429 jq_254 jbd_254 (jl rfl) rfl (jl rfl) hu rfl (jk rfl hN) (jd_67.trans jo_254.symm) (fun Q' hq => jc_254 hN (Nat.le_trans (jl rfl) hd) hx0 jgc_1 (jo_b h) hq) (fun p2 hp2 h => ?_)
  refine jr_zeq (pa := 29) (pb := 14) rfl rfl rfl (jg_b hp2) h (fun hc h => ?_) (fun hc h => ?_)
  · refine jr_ic (pc' := 30) rfl rfl ?_
    exact jr_ret rfl hu rfl (hQ' _ _ (hQ ((0 : Int), p2.2) jgc_0 h))
  · refine jr_al_n (pc' := 15) rfl rfl rfl (jr_il_n (pc' := 16) rfl rfl rfl (jr_ic (pc' := 17) rfl rfl (jr_ic (pc' := 18) rfl rfl ?_)))
    refine jr_cs_p (pc' := 21) [_] rfl rfl jlk_12_414 jq_247 jbd_247 (jl rfl) rfl (jl rfl) hu (fun Q' hq => jc_247 hN (Nat.le_trans (jl rfl) hd) hx1 jgc_0 jgc_3 (jo_b h) hq) (fun p3 hp3 h => ?_)
    refine jr_ic (pc' := 22) rfl rfl (jr_ic (pc' := 23) rfl rfl ?_)
    refine jr_cv_i (pc' := 26) [] rfl rfl jlk_12_233 jq_194 jbd_194 (jl rfl) rfl (jl rfl) hu rfl (jk rfl hN) (jd_67.trans jo_194.symm) (fun Q' hq => jc_194 hN (Nat.le_trans (jl rfl) hd) (jg_b hp3) jgc_2 jgc_1 (jo_b h) hq) (fun p4 hp4 h => ?_)
    refine jr_zne (pa := 29) (pb := 31) rfl rfl rfl (jg_b hp4) h (fun hc h => ?_) (fun hc h => ?_)
    · refine jr_ic (pc' := 30) rfl rfl ?_
      exact jr_ret rfl hu rfl (hQ' _ _ (hQ ((0 : Int), p4.2) jgc_0 h))
    · refine jr_il_n (pc' := 32) rfl rfl rfl (jr_ic (pc' := 33) rfl rfl ?_)
      refine jr_reg (fun t5 => jg t5) (fun t5 => jp X (px_C X d) px_m253 Q' N 67 [some (.ref 67), some (jv x0), some (jv x1)] [(jv t5)] p4.2 (0, 0)) h (fun t5 ht5 h => ?_) (fun R30 k6 h => ?_)
      · exact jr_ret rfl hu rfl (hQ' _ _ (hQ (t5, p4.2) ht5 h))
      · refine jr_cge (pa := 36) (pb := 49) rfl rfl rfl hx1 jgc_2 h (fun hc h => ?_) (fun hc h => ?_)
        · refine jr_al_n (pc' := 37) rfl rfl rfl (jr_gr (pc' := 40) (r := 76) rfl rfl jlk_12_41 (.inl rfl) rfl hN jd_67 rfl rfl rfl (jr_ic (pc' := 41) rfl rfl (jr_il_n (pc' := 42) rfl rfl rfl (jr_mul (pc' := 43) rfl rfl (jr_il_n (pc' := 44) rfl rfl rfl ?_)))))
          refine jr_add (pc' := 45) rfl rfl ?_
          refine jr_ia (pc' := 46) rfl rfl (jl rfl) hN jd_76 jn_76 jg_w h (fun hc h => ?_)
          refine jr_goto (pc' := 67) rfl rfl ?_
          exact k6 (ja p4.2 76 (jw ((jw ((2 : Int) * x0)) + x1)).toNat) jg_a h
        · refine jr_al_n (pc' := 50) rfl rfl rfl (jr_gr (pc' := 53) (r := 88) rfl rfl jlk_12_77 (.inl rfl) rfl hN jd_67 rfl rfl rfl (jr_il_n (pc' := 54) rfl rfl rfl (jr_ic (pc' := 55) rfl rfl ?_)))
          refine jr_reg (fun t7 => jg t7) (fun t7 => jp X (px_C X d) px_m253 Q' N 64 [some (.ref 67), some (jv x0), some (jv x1)] [(jv t7), (.ref 88)] p4.2 (0, 0)) h (fun t7 ht7 h => ?_) (fun R19 k8 h => ?_)
          · refine jr_il_n (pc' := 65) rfl rfl rfl (jr_add (pc' := 66) rfl rfl ?_)
            refine jr_ia (pc' := 67) rfl rfl (jl rfl) hN jd_88 jn_88 jg_w h (fun hc h => ?_)
            exact k6 (ja p4.2 88 (jw (t7 + x0)).toNat) jg_a h
          · refine jr_cne (pa := 58) (pb := 62) rfl rfl rfl hx1 jgc_2 h (fun hc h => ?_) (fun hc h => ?_)
            · refine jr_ic (pc' := 59) rfl rfl (jr_goto (pc' := 64) rfl rfl ?_)
              exact k8 ((0 : Int)) jgc_0 h
            · refine jr_bi (pc' := 64) rfl rfl rfl ?_
              exact k8 ((12 : Int)) jgc_12 h

set_option maxRecDepth 20000 in
set_option maxHeartbeats 1000000 in
theorem jc_256 {X : Nat × (Nat → Int32)} {N d : Nat} {x0 : Int} {x1 : Int} (hN : 102 ≤ N) (hd : 2 ≤ d) (hx0 : jg x0) (hx1 : jg x1) {m : jm} {P : Int × jm → Prop} {Q : px_Q} (h : jo (jf_256 x0 x1 m) P) (hQ : ∀ p : Int × jm, jb p.1 → P p → Q (.inl (some (jv p.1))) (jmem N p.2)) : px_C X d 256 [.ref 67, jv x0, jv x1] (jmem N m) Q := by
  unfold jf_256 at h
  have hu : ju px_m256 (0, 0) := ju_0
  refine jr_in (M := px_m256) (lev := 1) (L := [some (.ref 67), some (jv x0), some (jv x1)]) hd rfl jbd_256 (jl rfl) rfl (fun d hd Q' hQ' => ?_)
  refine jr_al_n (pc' := 1) rfl rfl rfl (jr_il_n (pc' := 2) rfl rfl rfl (jr_ic (pc' := 3) rfl rfl (jr_al_n (pc' := 4) rfl rfl rfl (jr_gi (pc' := 7) rfl rfl jlk_12_190 (.inl rfl) rfl hN jd_67 rfl rfl (jr_ic (pc' := 8) rfl rfl ?_)))))
  refine jr_sub (pc' := 9) rfl rfl ?_
  refine jr_cs_p (pc' := 12) [_] rfl rfl jlk_12_414 jq_247 jbd_247 (jl rfl) rfl (jl rfl) hu (fun Q' hq => jc_247 hN (Nat.le_trans (jl rfl) hd) hx0 jgc_0 jg_w (jo_b h) hq) (fun p1 hp1 h => ?_)
  refine jr_il_n (pc' := 13) rfl rfl rfl (jr_ic (pc' := 14) rfl rfl ?_)
  refine jr_cv_i (pc' := 17) [] rfl rfl jlk_12_233 jq_194 jbd_194 (jl rfl) rfl (jl rfl) hu rfl (jk rfl hN) (jd_67.trans jo_194.symm) (fun Q' hq => jc_194 hN (Nat.le_trans (jl rfl) hd) (jg_b hp1) hx1 jgc_0 (jo_b h) hq) (fun p2 hp2 h => ?_)
  exact jr_retb rfl hu rfl hp2 (hQ' _ _ (hQ (p2.1, p2.2) hp2 h))

set_option maxRecDepth 20000 in
set_option maxHeartbeats 1000000 in
theorem jc_255 {X : Nat × (Nat → Int32)} {N d : Nat} {x0 : Int} {x1 : Int} (hN : 102 ≤ N) (hd : 3 ≤ d) (hx0 : jg x0) (hx1 : jg x1) {m : jm} {P : Int × jm → Prop} {Q : px_Q} (h : jo (jf_255 x0 x1 m) P) (hQ : ∀ p : Int × jm, jg p.1 → P p → Q (.inl (some (jv p.1))) (jmem N p.2)) : px_C X d 255 [.ref 67, jv x0, jv x1] (jmem N m) Q := by
  unfold jf_255 at h
  have hu : ju px_m255 (0, 0) := ju_0
  refine jr_in (M := px_m255) (lev := 2) (L := [some (.ref 67), some (jv x0), some (jv x1), none, none]) hd rfl jbd_255 (jl rfl) rfl (fun d hd Q' hQ' => ?_)
  refine jr_al_n (pc' := 1) rfl rfl rfl (jr_ic (pc' := 2) rfl rfl (jr_pi (pc' := 5) rfl rfl jlk_12_3 (.inl rfl) rfl hN jd_67 rfl rfl ?_))
  refine jr_le h (fun m1 h => ?_)
  refine jr_al_n (pc' := 6) rfl rfl rfl (jr_il_n (pc' := 7) rfl rfl rfl (jr_ic (pc' := 8) rfl rfl ?_))
  refine jr_cv_i (pc' := 11) [] rfl rfl jlk_12_432 jq_256 jbd_256 (jl rfl) rfl (jl rfl) hu rfl (jk rfl hN) (jd_67.trans jo_256.symm) (fun Q' hq => jc_256 hN (Nat.le_trans (jl rfl) hd) hx0 jgc_1 (jo_b h) hq) (fun p2 hp2 h => ?_)
  refine jr_zeq (pa := 30) (pb := 14) rfl rfl rfl (jg_b hp2) h (fun hc h => ?_) (fun hc h => ?_)
  · refine jr_ic (pc' := 31) rfl rfl ?_
    exact jr_ret rfl hu rfl (hQ' _ _ (hQ ((0 : Int), p2.2) jgc_0 h))
  · refine jr_al_n (pc' := 15) rfl rfl rfl (jr_il_n (pc' := 16) rfl rfl rfl (jr_ic (pc' := 17) rfl rfl (jr_bi (pc' := 19) rfl rfl rfl ?_)))
    refine jr_cs_p (pc' := 22) [_] rfl rfl jlk_12_414 jq_247 jbd_247 (jl rfl) rfl (jl rfl) hu (fun Q' hq => jc_247 hN (Nat.le_trans (jl rfl) hd) hx1 jgc_0 jgc_6 (jo_b h) hq) (fun p3 hp3 h => ?_)
    refine jr_ic (pc' := 23) rfl rfl (jr_ic (pc' := 24) rfl rfl ?_)
    refine jr_cv_i (pc' := 27) [] rfl rfl jlk_12_233 jq_194 jbd_194 (jl rfl) rfl (jl rfl) hu rfl (jk rfl hN) (jd_67.trans jo_194.symm) (fun Q' hq => jc_194 hN (Nat.le_trans (jl rfl) hd) (jg_b hp3) jgc_2 jgc_1 (jo_b h) hq) (fun p4 hp4 h => ?_)
    refine jr_zne (pa := 30) (pb := 32) rfl rfl rfl (jg_b hp4) h (fun hc h => ?_) (fun hc h => ?_)
    · refine jr_ic (pc' := 31) rfl rfl ?_
      exact jr_ret rfl hu rfl (hQ' _ _ (hQ ((0 : Int), p4.2) jgc_0 h))
    · refine jr_il_n (pc' := 33) rfl rfl rfl (jr_ic (pc' := 34) rfl rfl ?_)
      refine jr_cge (pa := 37) (pb := 64) rfl rfl rfl hx1 jgc_3 h (fun hc h => ?_) (fun hc h => ?_)
      · refine jr_il_n (pc' := 38) rfl rfl rfl ?_
        refine jr_reg (fun t5 => jg t5) (fun t5 => jp X (px_C X d) px_m255 Q' N 63 [some (.ref 67), some (jv x0), some (jv x1), none, none] [(jv t5)] p4.2 (0, 0)) h (fun t5 ht5 h => ?_) (fun R17 k6 h => ?_)
        · exact jr_ret rfl hu rfl (hQ' _ _ (hQ (t5, p4.2) ht5 h))
        · refine jr_zne (pa := 41) (pb := 53) rfl rfl rfl hx1 h (fun hc h => ?_) (fun hc h => ?_)
          · refine jr_al_n (pc' := 42) rfl rfl rfl (jr_gr (pc' := 45) (r := 88) rfl rfl jlk_12_77 (.inl rfl) rfl hN jd_67 rfl rfl rfl (jr_bi (pc' := 47) rfl rfl rfl (jr_il_n (pc' := 48) rfl rfl rfl (jr_add (pc' := 49) rfl rfl ?_))))
            refine jr_ia (pc' := 50) rfl rfl (jl rfl) hN jd_88 jn_88 jg_w h (fun hc h => ?_)
            refine jr_goto (pc' := 63) rfl rfl ?_
            exact k6 (ja p4.2 88 (jw ((24 : Int) + x0)).toNat) jg_a h
          · refine jr_al_n (pc' := 54) rfl rfl rfl (jr_gr (pc' := 57) (r := 78) rfl rfl jlk_12_47 (.inl rfl) rfl hN jd_67 rfl rfl rfl (jr_ic (pc' := 58) rfl rfl (jr_il_n (pc' := 59) rfl rfl rfl (jr_mul (pc' := 60) rfl rfl (jr_il_n (pc' := 61) rfl rfl rfl ?_)))))
            refine jr_add (pc' := 62) rfl rfl ?_
            refine jr_ia (pc' := 63) rfl rfl (jl rfl) hN jd_78 jn_78 jg_w h (fun hc h => ?_)
            exact k6 (ja p4.2 78 (jw ((jw ((3 : Int) * x0)) + x1)).toNat) jg_a h
      · refine jr_il_n (pc' := 65) rfl rfl rfl (jr_ic (pc' := 66) rfl rfl ?_)
        refine jr_cle (pa := 69) (pb := 112) rfl rfl rfl hx1 jgc_3 h (fun hc h => ?_) (fun hc h => ?_)
        · refine jr_il_n (pc' := 70) rfl rfl rfl (jr_ic (pc' := 71) rfl rfl ?_)
          refine jr_reg (fun t18 => jg t18) (fun t18 => jp X (px_C X d) px_m255 Q' N 111 [some (.ref 67), some (jv x0), some (jv x1), none, none] [(jv t18)] p4.2 (0, 0)) h (fun t18 ht18 h => ?_) (fun R30 k19 h => ?_)
          · exact jr_ret rfl hu rfl (hQ' _ _ (hQ (t18, p4.2) ht18 h))
          · refine jr_cne (pa := 74) (pb := 86) rfl rfl rfl hx1 jgc_4 h (fun hc h => ?_) (fun hc h => ?_)
            · refine jr_al_n (pc' := 75) rfl rfl rfl (jr_gr (pc' := 78) (r := 88) rfl rfl jlk_12_77 (.inl rfl) rfl hN jd_67 rfl rfl rfl (jr_bi (pc' := 80) rfl rfl rfl (jr_il_n (pc' := 81) rfl rfl rfl (jr_add (pc' := 82) rfl rfl ?_))))
              refine jr_ia (pc' := 83) rfl rfl (jl rfl) hN jd_88 jn_88 jg_w h (fun hc h => ?_)
              refine jr_goto (pc' := 111) rfl rfl ?_
              exact k19 (ja p4.2 88 (jw ((30 : Int) + x0)).toNat) jg_a h
            · refine jr_il_n (pc' := 87) rfl rfl rfl (jr_ic (pc' := 88) rfl rfl ?_)
              refine jr_cne (pa := 91) (pb := 103) rfl rfl rfl hx1 jgc_5 h (fun hc h => ?_) (fun hc h => ?_)
              · refine jr_al_n (pc' := 92) rfl rfl rfl (jr_gr (pc' := 95) (r := 88) rfl rfl jlk_12_77 (.inl rfl) rfl hN jd_67 rfl rfl rfl (jr_bi (pc' := 97) rfl rfl rfl (jr_il_n (pc' := 98) rfl rfl rfl (jr_add (pc' := 99) rfl rfl ?_))))
                refine jr_ia (pc' := 100) rfl rfl (jl rfl) hN jd_88 jn_88 jg_w h (fun hc h => ?_)
                refine jr_goto (pc' := 111) rfl rfl ?_
                exact k19 (ja p4.2 88 (jw ((36 : Int) + x0)).toNat) jg_a h
              · refine jr_al_n (pc' := 104) rfl rfl rfl (jr_gr (pc' := 107) (r := 78) rfl rfl jlk_12_47 (.inl rfl) rfl hN jd_67 rfl rfl rfl (jr_ic (pc' := 108) rfl rfl (jr_il_n (pc' := 109) rfl rfl rfl (jr_mul (pc' := 110) rfl rfl ?_))))
                refine jr_ia (pc' := 111) rfl rfl (jl rfl) hN jd_78 jn_78 jg_w h (fun hc h => ?_)
                exact k19 (ja p4.2 78 (jw ((3 : Int) * x0)).toNat) jg_a h
        · refine jr_ic (pc' := 113) rfl rfl (jr_is_n (pc' := 114) (L' := [_, _, _, _, _]) rfl rfl (jl rfl) rfl rfl (jr_ic (pc' := 115) rfl rfl (jr_is (pc' := 117) (L' := [_, _, _, _, _]) rfl rfl (jl rfl) rfl rfl ?_)))
          refine jr_reg (fun t34 => jg t34) (fun t34 => ∀ o35, jn o35 → jp X (px_C X d) px_m255 Q' N 157 [some (.ref 67), some (jv x0), some (jv x1), some (jv t34), o35] [] p4.2 (0, 0)) h (fun t34 ht34 h o35 ho35 => ?_) (fun R37 k36 h => ?_)
          · refine jr_il_n (pc' := 158) rfl rfl rfl ?_
            exact jr_ret rfl hu rfl (hQ' _ _ (hQ (t34, p4.2) ht34 h))
          · refine jr_lp (fun s31 => jg s31.1 ∧ jg s31.2) (fun s31 => jp X (px_C X d) px_m255 Q' N 117 [some (.ref 67), some (jv x0), some (jv x1), some (jv s31.1), some (jv s31.2)] [] p4.2 (0, 0)) h ⟨jgc_0, jgc_0⟩ (fun s31 hs31 R33 k32 h => ?_)
            refine jr_il (pc' := 119) rfl rfl rfl (jr_al_n (pc' := 120) rfl rfl rfl (jr_gi (pc' := 123) rfl rfl jlk_12_193 (.inl rfl) rfl hN jd_67 rfl rfl ?_))
            refine jr_cge (pa := 126) (pb := 157) rfl rfl rfl hs31.2 jg_a h (fun hc h => ?_) (fun hc h => ?_)
            · refine jr_il_n (pc' := 127) rfl rfl rfl (jr_al_n (pc' := 128) rfl rfl rfl (jr_gr (pc' := 131) (r := 88) rfl rfl jlk_12_77 (.inl rfl) rfl hN jd_67 rfl rfl rfl (jr_bi (pc' := 133) rfl rfl rfl (jr_il (pc' := 135) rfl rfl rfl (jr_add (pc' := 136) rfl rfl ?_)))))
              refine jr_ia (pc' := 137) rfl rfl (jl rfl) hN jd_88 jn_88 jg_w h (fun hc h => ?_)
              refine jr_il_n (pc' := 138) rfl rfl rfl ?_
              refine jr_reg (fun t38 => jg t38) (fun t38 => jp X (px_C X d) px_m255 Q' N 149 [some (.ref 67), some (jv x0), some (jv x1), some (jv s31.1), some (jv s31.2)] [(jv t38), (jv s31.1)] p4.2 (0, 0)) h (fun t38 ht38 h => ?_) (fun R50 k39 h => ?_)
              · refine jr_or (pc' := 150) rfl rfl (jr_is_n (pc' := 151) (L' := [_, _, _, _, _]) rfl rfl (jl rfl) rfl rfl (jr_inc (pc' := 154) (L' := [_, _, _, _, _]) rfl rfl rfl (jl rfl) rfl rfl (jr_goto (pc' := 117) rfl rfl ?_)))
                exact k32 (jbor s31.1 t38, jw (s31.2 + 1)) ⟨jg_bor, jg_w⟩ h
              · refine jr_cne (pa := 141) (pb := 148) rfl rfl rfl jg_a hx0 h (fun hc h => ?_) (fun hc h => ?_)
                · refine jr_ic (pc' := 142) rfl rfl (jr_il (pc' := 144) rfl rfl rfl (jr_shl (pc' := 145) rfl rfl (jr_goto (pc' := 149) rfl rfl ?_)))
                  exact k39 (jshl (1 : Int) s31.2) jg_shl h
                · refine jr_ic (pc' := 149) rfl rfl ?_
                  exact k39 ((0 : Int)) jgc_0 h
            · exact k36 (s31.1) hs31.1 h _ jn_i

set_option maxRecDepth 20000 in
set_option maxHeartbeats 1000000 in
theorem jc_258 {X : Nat × (Nat → Int32)} {N d : Nat} {x0 : Int} {x1 : Int} (hN : 102 ≤ N) (hd : 2 ≤ d) (hx0 : jg x0) (hx1 : jg x1) {m : jm} {P : Int × jm → Prop} {Q : px_Q} (h : jo (jf_258 x0 x1 m) P) (hQ : ∀ p : Int × jm, jb p.1 → P p → Q (.inl (some (jv p.1))) (jmem N p.2)) : px_C X d 258 [.ref 67, jv x0, jv x1] (jmem N m) Q := by
  unfold jf_258 at h
  have hu : ju px_m258 (0, 0) := ju_0
  refine jr_in (M := px_m258) (lev := 1) (L := [some (.ref 67), some (jv x0), some (jv x1)]) hd rfl jbd_258 (jl rfl) rfl (fun d hd Q' hQ' => ?_)
  refine jr_al_n (pc' := 1) rfl rfl rfl (jr_il_n (pc' := 2) rfl rfl rfl (jr_ic (pc' := 3) rfl rfl (jr_al_n (pc' := 4) rfl rfl rfl (jr_gi (pc' := 7) rfl rfl jlk_12_193 (.inl rfl) rfl hN jd_67 rfl rfl (jr_ic (pc' := 8) rfl rfl ?_)))))
  refine jr_sub (pc' := 9) rfl rfl ?_
  refine jr_cs_p (pc' := 12) [_] rfl rfl jlk_12_414 jq_247 jbd_247 (jl rfl) rfl (jl rfl) hu (fun Q' hq => jc_247 hN (Nat.le_trans (jl rfl) hd) hx0 jgc_0 jg_w (jo_b h) hq) (fun p1 hp1 h => ?_)
  refine jr_il_n (pc' := 13) rfl rfl rfl (jr_ic (pc' := 14) rfl rfl ?_)
  refine jr_cv_i (pc' := 17) [] rfl rfl jlk_12_233 jq_194 jbd_194 (jl rfl) rfl (jl rfl) hu rfl (jk rfl hN) (jd_67.trans jo_194.symm) (fun Q' hq => jc_194 hN (Nat.le_trans (jl rfl) hd) (jg_b hp1) hx1 jgc_0 (jo_b h) hq) (fun p2 hp2 h => ?_)
  exact jr_retb rfl hu rfl hp2 (hQ' _ _ (hQ (p2.1, p2.2) hp2 h))

set_option maxRecDepth 20000 in
set_option maxHeartbeats 1000000 in
theorem jc_257 {X : Nat × (Nat → Int32)} {N d : Nat} {x0 : Int} {x1 : Int} (hN : 102 ≤ N) (hd : 3 ≤ d) (hx0 : jg x0) (hx1 : jg x1) {m : jm} {P : Int × jm → Prop} {Q : px_Q} (h : jo (jf_257 x0 x1 m) P) (hQ : ∀ p : Int × jm, jg p.1 → P p → Q (.inl (some (jv p.1))) (jmem N p.2)) : px_C X d 257 [.ref 67, jv x0, jv x1] (jmem N m) Q := by
  unfold jf_257 at h
  have hu : ju px_m257 (0, 0) := ju_0
  refine jr_in (M := px_m257) (lev := 2) (L := [some (.ref 67), some (jv x0), some (jv x1)]) hd rfl jbd_257 (jl rfl) rfl (fun d hd Q' hQ' => ?_)
  refine jr_al_n (pc' := 1) rfl rfl rfl (jr_ic (pc' := 2) rfl rfl (jr_pi (pc' := 5) rfl rfl jlk_12_3 (.inl rfl) rfl hN jd_67 rfl rfl ?_))
  refine jr_le h (fun m1 h => ?_)
  refine jr_al_n (pc' := 6) rfl rfl rfl (jr_il_n (pc' := 7) rfl rfl rfl (jr_ic (pc' := 8) rfl rfl ?_))
  refine jr_cv_i (pc' := 11) [] rfl rfl jlk_12_435 jq_258 jbd_258 (jl rfl) rfl (jl rfl) hu rfl (jk rfl hN) (jd_67.trans jo_258.symm) (fun Q' hq => jc_258 hN (Nat.le_trans (jl rfl) hd) hx0 jgc_1 (jo_b h) hq) (fun p2 hp2 h => ?_)
  refine jr_zeq (pa := 30) (pb := 14) rfl rfl rfl (jg_b hp2) h (fun hc h => ?_) (fun hc h => ?_)
  · refine jr_ic (pc' := 31) rfl rfl ?_
    exact jr_ret rfl hu rfl (hQ' _ _ (hQ ((0 : Int), p2.2) jgc_0 h))
  · refine jr_al_n (pc' := 15) rfl rfl rfl (jr_il_n (pc' := 16) rfl rfl rfl (jr_ic (pc' := 17) rfl rfl (jr_bi (pc' := 19) rfl rfl rfl ?_)))
    refine jr_cs_p (pc' := 22) [_] rfl rfl jlk_12_414 jq_247 jbd_247 (jl rfl) rfl (jl rfl) hu (fun Q' hq => jc_247 hN (Nat.le_trans (jl rfl) hd) hx1 jgc_0 jgc_6 (jo_b h) hq) (fun p3 hp3 h => ?_)
    refine jr_ic (pc' := 23) rfl rfl (jr_ic (pc' := 24) rfl rfl ?_)
    refine jr_cv_i (pc' := 27) [] rfl rfl jlk_12_233 jq_194 jbd_194 (jl rfl) rfl (jl rfl) hu rfl (jk rfl hN) (jd_67.trans jo_194.symm) (fun Q' hq => jc_194 hN (Nat.le_trans (jl rfl) hd) (jg_b hp3) jgc_2 jgc_1 (jo_b h) hq) (fun p4 hp4 h => ?_)
    refine jr_zne (pa := 30) (pb := 32) rfl rfl rfl (jg_b hp4) h (fun hc h => ?_) (fun hc h => ?_)
    · refine jr_ic (pc' := 31) rfl rfl ?_
      exact jr_ret rfl hu rfl (hQ' _ _ (hQ ((0 : Int), p4.2) jgc_0 h))
    · refine jr_il_n (pc' := 33) rfl rfl rfl (jr_ic (pc' := 34) rfl rfl ?_)
      refine jr_cge (pa := 37) (pb := 48) rfl rfl rfl hx1 jgc_4 h (fun hc h => ?_) (fun hc h => ?_)
      · refine jr_al_n (pc' := 38) rfl rfl rfl (jr_gr (pc' := 41) (r := 79) rfl rfl jlk_12_50 (.inl rfl) rfl hN jd_67 rfl rfl rfl (jr_ic (pc' := 42) rfl rfl (jr_il_n (pc' := 43) rfl rfl rfl (jr_mul (pc' := 44) rfl rfl (jr_il_n (pc' := 45) rfl rfl rfl ?_)))))
        refine jr_add (pc' := 46) rfl rfl ?_
        refine jr_ia (pc' := 47) rfl rfl (jl rfl) hN jd_79 jn_79 jg_w h (fun hc h => ?_)
        exact jr_ret rfl hu rfl (hQ' _ _ (hQ (ja p4.2 79 (jw ((jw ((4 : Int) * x0)) + x1)).toNat, p4.2) jg_a h))
      · refine jr_il_n (pc' := 49) rfl rfl rfl (jr_ic (pc' := 50) rfl rfl ?_)
        refine jr_reg (fun t5 => jg t5) (fun t5 => jp X (px_C X d) px_m257 Q' N 91 [some (.ref 67), some (jv x0), some (jv x1)] [(jv t5)] p4.2 (0, 0)) h (fun t5 ht5 h => ?_) (fun R17 k6 h => ?_)
        · exact jr_ret rfl hu rfl (hQ' _ _ (hQ (t5, p4.2) ht5 h))
        · refine jr_cne (pa := 53) (pb := 65) rfl rfl rfl hx1 jgc_4 h (fun hc h => ?_) (fun hc h => ?_)
          · refine jr_al_n (pc' := 54) rfl rfl rfl (jr_gr (pc' := 57) (r := 88) rfl rfl jlk_12_77 (.inl rfl) rfl hN jd_67 rfl rfl rfl (jr_bi (pc' := 59) rfl rfl rfl (jr_il_n (pc' := 60) rfl rfl rfl (jr_add (pc' := 61) rfl rfl ?_))))
            refine jr_ia (pc' := 62) rfl rfl (jl rfl) hN jd_88 jn_88 jg_w h (fun hc h => ?_)
            refine jr_goto (pc' := 91) rfl rfl ?_
            exact k6 (ja p4.2 88 (jw ((42 : Int) + x0)).toNat) jg_a h
          · refine jr_il_n (pc' := 66) rfl rfl rfl (jr_ic (pc' := 67) rfl rfl ?_)
            refine jr_cne (pa := 70) (pb := 82) rfl rfl rfl hx1 jgc_5 h (fun hc h => ?_) (fun hc h => ?_)
            · refine jr_al_n (pc' := 71) rfl rfl rfl (jr_gr (pc' := 74) (r := 88) rfl rfl jlk_12_77 (.inl rfl) rfl hN jd_67 rfl rfl rfl (jr_bi (pc' := 76) rfl rfl rfl (jr_il_n (pc' := 77) rfl rfl rfl (jr_add (pc' := 78) rfl rfl ?_))))
              refine jr_ia (pc' := 79) rfl rfl (jl rfl) hN jd_88 jn_88 jg_w h (fun hc h => ?_)
              refine jr_goto (pc' := 91) rfl rfl ?_
              exact k6 (ja p4.2 88 (jw ((50 : Int) + x0)).toNat) jg_a h
            · refine jr_al_n (pc' := 83) rfl rfl rfl (jr_gr (pc' := 86) (r := 88) rfl rfl jlk_12_77 (.inl rfl) rfl hN jd_67 rfl rfl rfl (jr_bi (pc' := 88) rfl rfl rfl (jr_il_n (pc' := 89) rfl rfl rfl (jr_add (pc' := 90) rfl rfl ?_))))
              refine jr_ia (pc' := 91) rfl rfl (jl rfl) hN jd_88 jn_88 jg_w h (fun hc h => ?_)
              exact k6 (ja p4.2 88 (jw ((58 : Int) + x0)).toNat) jg_a h

set_option maxRecDepth 20000 in
set_option maxHeartbeats 1000000 in
theorem jc_259 {X : Nat × (Nat → Int32)} {N d : Nat} {x0 : Int} {x1 : Int} (hN : 102 ≤ N) (hd : 3 ≤ d) (hx0 : jg x0) (hx1 : jg x1) {m : jm} {P : Int × jm → Prop} {Q : px_Q} (h : jo (jf_259 x0 x1 m) P) (hQ : ∀ p : Int × jm, jg p.1 → P p → Q (.inl (some (jv p.1))) (jmem N p.2)) : px_C X d 259 [.ref 67, jv x0, jv x1] (jmem N m) Q := by
  unfold jf_259 at h
  have hu : ju px_m259 (0, 0) := ju_0
  refine jr_in (M := px_m259) (lev := 2) (L := [some (.ref 67), some (jv x0), some (jv x1)]) hd rfl jbd_259 (jl rfl) rfl (fun d hd Q' hQ' => ?_)
  refine jr_al_n (pc' := 1) rfl rfl rfl (jr_ic (pc' := 2) rfl rfl (jr_pi (pc' := 5) rfl rfl jlk_12_3 (.inl rfl) rfl hN jd_67 rfl rfl ?_))
  refine jr_le h (fun m1 h => ?_)
  refine jr_al_n (pc' := 6) rfl rfl rfl (jr_il_n (pc' := 7) rfl rfl rfl (jr_ic (pc' := 8) rfl rfl ?_))
  refine jr_cv_i (pc' := 11) [] rfl rfl jlk_12_426 jq_252 jbd_252 (jl rfl) rfl (jl rfl) hu rfl (jk rfl hN) (jd_67.trans jo_252.symm) (fun Q' hq => jc_252 hN (Nat.le_trans (jl rfl) hd) hx0 jgc_1 (jo_b h) hq) (fun p2 hp2 h => ?_)
  refine jr_zeq (pa := 23) (pb := 14) rfl rfl rfl (jg_b hp2) h (fun hc h => ?_) (fun hc h => ?_)
  · refine jr_ic (pc' := 24) rfl rfl ?_
    exact jr_ret rfl hu rfl (hQ' _ _ (hQ ((0 : Int), p2.2) jgc_0 h))
  · refine jr_al_n (pc' := 15) rfl rfl rfl (jr_il_n (pc' := 16) rfl rfl rfl (jr_ic (pc' := 17) rfl rfl ?_))
    refine jr_cv_i (pc' := 20) [] rfl rfl jlk_12_426 jq_252 jbd_252 (jl rfl) rfl (jl rfl) hu rfl (jk rfl hN) (jd_67.trans jo_252.symm) (fun Q' hq => jc_252 hN (Nat.le_trans (jl rfl) hd) hx1 jgc_1 (jo_b h) hq) (fun p3 hp3 h => ?_)
    refine jr_zne (pa := 23) (pb := 25) rfl rfl rfl (jg_b hp3) h (fun hc h => ?_) (fun hc h => ?_)
    · refine jr_ic (pc' := 24) rfl rfl ?_
      exact jr_ret rfl hu rfl (hQ' _ _ (hQ ((0 : Int), p3.2) jgc_0 h))
    · refine jr_al_n (pc' := 26) rfl rfl rfl (jr_il_n (pc' := 27) rfl rfl rfl (jr_il_n (pc' := 28) rfl rfl rfl ?_))
      refine jr_cv_p (pc' := 31) [] rfl rfl jlk_12_395 jq_235 jbd_235 (jl rfl) rfl (jl rfl) hu rfl (jk rfl hN) (jd_67.trans jo_235.symm) (fun Q' hq => jc_235 hN (Nat.le_trans (jl rfl) hd) hx0 hx1 (jo_b h) hq) (fun p4 hp4 h => ?_)
      exact jr_ret rfl hu rfl (hQ' _ _ (hQ (p4, p3.2) hp4 h))

set_option maxRecDepth 20000 in
set_option maxHeartbeats 1000000 in
theorem jc_260 {X : Nat × (Nat → Int32)} {N d : Nat} {x0 : Int} {x1 : Int} {x2 : Int} (hN : 102 ≤ N) (hd : 6 ≤ d) (hx0 : jg x0) (hx1 : jg x1) (hx2 : jg x2) {m : jm} {P : Int × jm → Prop} {Q : px_Q} (h : jo (jf_260 x0 x1 x2 m) P) (hQ : ∀ p : Int × jm, jg p.1 → P p → Q (.inl (some (jv p.1))) (jmem N p.2)) : px_C X d 260 [.ref 67, jv x0, jv x1, jv x2] (jmem N m) Q := by
  unfold jf_260 at h
  have hu : ju px_m260 (0, 0) := ju_0
  refine jr_in (M := px_m260) (lev := 5) (L := [some (.ref 67), some (jv x0), some (jv x1), some (jv x2)]) hd rfl jbd_260 (jl rfl) rfl (fun d hd Q' hQ' => ?_)
  refine jr_al_n (pc' := 1) rfl rfl rfl (jr_ic (pc' := 2) rfl rfl (jr_pi (pc' := 5) rfl rfl jlk_12_3 (.inl rfl) rfl hN jd_67 rfl rfl ?_))
  refine jr_le h (fun m1 h => ?_)
  refine jr_al_n (pc' := 6) rfl rfl rfl (jr_il_n (pc' := 7) rfl rfl rfl (jr_ic (pc' := 8) rfl rfl ?_))
  refine jr_cv_i (pc' := 11) [] rfl rfl jlk_12_432 jq_256 jbd_256 (jl rfl) rfl (jl rfl) hu rfl (jk rfl hN) (jd_67.trans jo_256.symm) (fun Q' hq => jc_256 hN (Nat.le_trans (jl rfl) hd) hx0 jgc_1 (jo_b h) hq) (fun p2 hp2 h => ?_)
  refine jr_zeq (pa := 38) (pb := 14) rfl rfl rfl (jg_b hp2) h (fun hc h => ?_) (fun hc h => ?_)
  · refine jr_ic (pc' := 39) rfl rfl ?_
    exact jr_ret rfl hu rfl (hQ' _ _ (hQ ((0 : Int), p2.2) jgc_0 h))
  · refine jr_al_n (pc' := 15) rfl rfl rfl (jr_il_n (pc' := 16) rfl rfl rfl (jr_ic (pc' := 17) rfl rfl ?_))
    refine jr_cv_i (pc' := 20) [] rfl rfl jlk_12_429 jq_254 jbd_254 (jl rfl) rfl (jl rfl) hu rfl (jk rfl hN) (jd_67.trans jo_254.symm) (fun Q' hq => jc_254 hN (Nat.le_trans (jl rfl) hd) hx1 jgc_1 (jo_b h) hq) (fun p3 hp3 h => ?_)
    refine jr_zeq (pa := 38) (pb := 23) rfl rfl rfl (jg_b hp3) h (fun hc h => ?_) (fun hc h => ?_)
    · refine jr_ic (pc' := 39) rfl rfl ?_
      exact jr_ret rfl hu rfl (hQ' _ _ (hQ ((0 : Int), p3.2) jgc_0 h))
    · refine jr_al_n (pc' := 24) rfl rfl rfl (jr_il_n (pc' := 25) rfl rfl rfl (jr_ic (pc' := 26) rfl rfl (jr_ic (pc' := 27) rfl rfl ?_)))
      refine jr_cs_p (pc' := 30) [_] rfl rfl jlk_12_414 jq_247 jbd_247 (jl rfl) rfl (jl rfl) hu (fun Q' hq => jc_247 hN (Nat.le_trans (jl rfl) hd) hx2 jgc_0 jgc_1 (jo_b h) hq) (fun p4 hp4 h => ?_)
      refine jr_ic (pc' := 31) rfl rfl (jr_ic (pc' := 32) rfl rfl ?_)
      refine jr_cv_i (pc' := 35) [] rfl rfl jlk_12_233 jq_194 jbd_194 (jl rfl) rfl (jl rfl) hu rfl (jk rfl hN) (jd_67.trans jo_194.symm) (fun Q' hq => jc_194 hN (Nat.le_trans (jl rfl) hd) (jg_b hp4) jgc_2 jgc_1 (jo_b h) hq) (fun p5 hp5 h => ?_)
      refine jr_zne (pa := 38) (pb := 40) rfl rfl rfl (jg_b hp5) h (fun hc h => ?_) (fun hc h => ?_)
      · refine jr_ic (pc' := 39) rfl rfl ?_
        exact jr_ret rfl hu rfl (hQ' _ _ (hQ ((0 : Int), p5.2) jgc_0 h))
      · refine jr_al_n (pc' := 41) rfl rfl rfl ?_
        refine jr_cv_v (pc' := 44) [] rfl rfl jlk_12_344 jq_226 jbd_226 (jl rfl) rfl (jl rfl) hu rfl (jk rfl hN) (jd_67.trans jo_226.symm) (fun Q' hq => jc_226 hN (Nat.le_trans (jl rfl) hd)  (jo_b h) hq) (fun p6 hp6 h => ?_)
        refine jr_al_n (pc' := 45) rfl rfl rfl (jr_il_n (pc' := 46) rfl rfl rfl ?_)
        refine jr_cv_v (pc' := 49) [] rfl rfl jlk_12_385 jq_230 jbd_230 (jl rfl) rfl (jl rfl) hu rfl (jk rfl hN) (jd_67.trans jo_230.symm) (fun Q' hq => jc_230 hN (Nat.le_trans (jl rfl) hd) hx0 (jo_b h) hq) (fun p7 hp7 h => ?_)
        refine jr_al_n (pc' := 50) rfl rfl rfl (jr_il_n (pc' := 51) rfl rfl rfl (jr_il_n (pc' := 52) rfl rfl rfl (jr_il_n (pc' := 53) rfl rfl rfl (jr_al_n (pc' := 54) rfl rfl rfl (jr_gr (pc' := 57) (r := 89) rfl rfl jlk_12_80 (.inl rfl) rfl hN jd_67 rfl rfl rfl ?_)))))
        refine jr_bi (pc' := 59) rfl rfl rfl ?_
        refine jr_ia (pc' := 60) rfl rfl (jl rfl) hN jd_89 jn_89 jgc_67 h (fun hc h => ?_)
        refine jr_cv_i (pc' := 63) [] rfl rfl jlk_12_379 jq_237 jbd_237 (jl rfl) rfl (jl rfl) hu rfl (jk rfl hN) (jd_67.trans jo_237.symm) (fun Q' hq => jc_237 hN (Nat.le_trans (jl rfl) hd) hx0 hx1 hx2 jg_a (jo_b h) hq) (fun p8 hp8 h => ?_)
        exact jr_ret rfl hu rfl (hQ' _ _ (hQ (p8.1, p8.2) hp8 h))

set_option maxRecDepth 20000 in
set_option maxHeartbeats 1000000 in
theorem jc_261 {X : Nat × (Nat → Int32)} {N d : Nat} {x0 : Int} {x1 : Int} {x2 : Int} (hN : 102 ≤ N) (hd : 7 ≤ d) (hx0 : jg x0) (hx1 : jg x1) (hx2 : jg x2) {m : jm} {P : Int × jm → Prop} {Q : px_Q} (h : jo (jf_261 x0 x1 x2 m) P) (hQ : ∀ p : Int × jm, jb p.1 → P p → Q (.inl (some (jv p.1))) (jmem N p.2)) : px_C X d 261 [.ref 67, jv x0, jv x1, jv x2] (jmem N m) Q := by
  unfold jf_261 at h
  have hu : ju px_m261 (0, 0) := ju_0
  refine jr_in (M := px_m261) (lev := 6) (L := [some (.ref 67), some (jv x0), some (jv x1), some (jv x2)]) hd rfl jbd_261 (jl rfl) rfl (fun d hd Q' hQ' => ?_)
  refine jr_al_n (pc' := 1) rfl rfl rfl (jr_ic (pc' := 2) rfl rfl (jr_pi (pc' := 5) rfl rfl jlk_12_3 (.inl rfl) rfl hN jd_67 rfl rfl ?_))
  refine jr_le h (fun m1 h => ?_)
  refine jr_al_n (pc' := 6) rfl rfl rfl (jr_il_n (pc' := 7) rfl rfl rfl (jr_ic (pc' := 8) rfl rfl ?_))
  refine jr_cv_i (pc' := 11) [] rfl rfl jlk_12_432 jq_256 jbd_256 (jl rfl) rfl (jl rfl) hu rfl (jk rfl hN) (jd_67.trans jo_256.symm) (fun Q' hq => jc_256 hN (Nat.le_trans (jl rfl) hd) hx0 jgc_1 (jo_b h) hq) (fun p2 hp2 h => ?_)
  refine jr_zeq (pa := 38) (pb := 14) rfl rfl rfl (jg_b hp2) h (fun hc h => ?_) (fun hc h => ?_)
  · refine jr_ic (pc' := 39) rfl rfl ?_
    exact jr_retb rfl hu rfl jb_0 (hQ' _ _ (hQ ((0 : Int), p2.2) jb_0 h))
  · refine jr_al_n (pc' := 15) rfl rfl rfl (jr_il_n (pc' := 16) rfl rfl rfl (jr_ic (pc' := 17) rfl rfl ?_))
    refine jr_cv_i (pc' := 20) [] rfl rfl jlk_12_429 jq_254 jbd_254 (jl rfl) rfl (jl rfl) hu rfl (jk rfl hN) (jd_67.trans jo_254.symm) (fun Q' hq => jc_254 hN (Nat.le_trans (jl rfl) hd) hx1 jgc_1 (jo_b h) hq) (fun p3 hp3 h => ?_)
    refine jr_zeq (pa := 38) (pb := 23) rfl rfl rfl (jg_b hp3) h (fun hc h => ?_) (fun hc h => ?_)
    · refine jr_ic (pc' := 39) rfl rfl ?_
      exact jr_retb rfl hu rfl jb_0 (hQ' _ _ (hQ ((0 : Int), p3.2) jb_0 h))
    · refine jr_al_n (pc' := 24) rfl rfl rfl (jr_il_n (pc' := 25) rfl rfl rfl (jr_ic (pc' := 26) rfl rfl (jr_ic (pc' := 27) rfl rfl ?_)))
      refine jr_cs_p (pc' := 30) [_] rfl rfl jlk_12_414 jq_247 jbd_247 (jl rfl) rfl (jl rfl) hu (fun Q' hq => jc_247 hN (Nat.le_trans (jl rfl) hd) hx2 jgc_0 jgc_1 (jo_b h) hq) (fun p4 hp4 h => ?_)
      refine jr_ic (pc' := 31) rfl rfl (jr_ic (pc' := 32) rfl rfl ?_)
      refine jr_cv_i (pc' := 35) [] rfl rfl jlk_12_233 jq_194 jbd_194 (jl rfl) rfl (jl rfl) hu rfl (jk rfl hN) (jd_67.trans jo_194.symm) (fun Q' hq => jc_194 hN (Nat.le_trans (jl rfl) hd) (jg_b hp4) jgc_2 jgc_1 (jo_b h) hq) (fun p5 hp5 h => ?_)
      refine jr_zne (pa := 38) (pb := 40) rfl rfl rfl (jg_b hp5) h (fun hc h => ?_) (fun hc h => ?_)
      · refine jr_ic (pc' := 39) rfl rfl ?_
        exact jr_retb rfl hu rfl jb_0 (hQ' _ _ (hQ ((0 : Int), p5.2) jb_0 h))
      · refine jr_al_n (pc' := 41) rfl rfl rfl ?_
        refine jr_cv_v (pc' := 44) [] rfl rfl jlk_12_344 jq_226 jbd_226 (jl rfl) rfl (jl rfl) hu rfl (jk rfl hN) (jd_67.trans jo_226.symm) (fun Q' hq => jc_226 hN (Nat.le_trans (jl rfl) hd)  (jo_b h) hq) (fun p6 hp6 h => ?_)
        refine jr_al_n (pc' := 45) rfl rfl rfl (jr_il_n (pc' := 46) rfl rfl rfl ?_)
        refine jr_cv_v (pc' := 49) [] rfl rfl jlk_12_385 jq_230 jbd_230 (jl rfl) rfl (jl rfl) hu rfl (jk rfl hN) (jd_67.trans jo_230.symm) (fun Q' hq => jc_230 hN (Nat.le_trans (jl rfl) hd) hx0 (jo_b h) hq) (fun p7 hp7 h => ?_)
        refine jr_al_n (pc' := 50) rfl rfl rfl (jr_il_n (pc' := 51) rfl rfl rfl (jr_il_n (pc' := 52) rfl rfl rfl (jr_il_n (pc' := 53) rfl rfl rfl (jr_al_n (pc' := 54) rfl rfl rfl (jr_gr (pc' := 57) (r := 89) rfl rfl jlk_12_80 (.inl rfl) rfl hN jd_67 rfl rfl rfl ?_)))))
        refine jr_bi (pc' := 59) rfl rfl rfl ?_
        refine jr_ia (pc' := 60) rfl rfl (jl rfl) hN jd_89 jn_89 jgc_67 h (fun hc h => ?_)
        refine jr_cv_i (pc' := 63) [] rfl rfl jlk_12_398 jq_236 jbd_236 (jl rfl) rfl (jl rfl) hu rfl (jk rfl hN) (jd_67.trans jo_236.symm) (fun Q' hq => jc_236 hN (Nat.le_trans (jl rfl) hd) hx0 hx1 hx2 jg_a (jo_b h) hq) (fun p8 hp8 h => ?_)
        exact jr_retb rfl hu rfl hp8 (hQ' _ _ (hQ (p8.1, p8.2) hp8 h))

set_option maxRecDepth 20000 in
set_option maxHeartbeats 1000000 in
theorem jc_262 {X : Nat × (Nat → Int32)} {N d : Nat} {x0 : Int} {x1 : Int} {x2 : Int} {x3 : Int} {x4 : Int} {x5 : Int} {x6 : Int} {x7 : Int} {x8 : Int} (hN : 102 ≤ N) (hd : 5 ≤ d) (hx0 : jg x0) (hx1 : jg x1) (hx2 : jg x2) (hx3 : jg x3) (hx4 : jg x4) (hx5 : jg x5) (hx6 : jg x6) (hx7 : jg x7) (hx8 : jg x8) {m : jm} {P : Int × jm → Prop} {Q : px_Q} (h : jo (jf_262 x0 x1 x2 x3 x4 x5 x6 x7 x8 m) P) (hQ : ∀ p : Int × jm, jg p.1 → P p → Q (.inl (some (jv p.1))) (jmem N p.2)) : px_C X d 262 [.ref 67, jv x0, jv x1, jv x2, jv x3, jv x4, jv x5, jv x6, jv x7, jv x8] (jmem N m) Q := by
  unfold jf_262 at h
  have hu : ju px_m262 (0, 0) := ju_0
  refine jr_in (M := px_m262) (lev := 4) (L := [some (.ref 67), some (jv x0), some (jv x1), some (jv x2), some (jv x3), some (jv x4), some (jv x5), some (jv x6), some (jv x7), some (jv x8)]) hd rfl jbd_262 (jl rfl) rfl (fun d hd Q' hQ' => ?_)
  refine jr_al_n (pc' := 1) rfl rfl rfl (jr_ic (pc' := 2) rfl rfl (jr_pi (pc' := 5) rfl rfl jlk_12_3 (.inl rfl) rfl hN jd_67 rfl rfl ?_))
  refine jr_le h (fun m1 h => ?_)
  refine jr_al_n (pc' := 6) rfl rfl rfl (jr_il_n (pc' := 7) rfl rfl rfl (jr_ic (pc' := 8) rfl rfl (jr_bi (pc' := 10) rfl rfl rfl ?_)))
  refine jr_cs_p (pc' := 13) [_] rfl rfl jlk_12_414 jq_247 jbd_247 (jl rfl) rfl (jl rfl) hu (fun Q' hq => jc_247 hN (Nat.le_trans (jl rfl) hd) hx0 jgc_0 jgc_9 (jo_b h) hq) (fun p2 hp2 h => ?_)
  refine jr_reg (fun t3 => jb t3) (fun t3 => jp X (px_C X d) px_m262 Q' N 107 [some (.ref 67), some (jv x0), some (jv x1), some (jv x2), some (jv x3), some (jv x4), some (jv x5), some (jv x6), some (jv x7), some (jv x8)] [(jv t3), (.ref 67)] m1 (0, 0)) h (fun t3 ht3 h => ?_) (fun R25 k4 h => ?_)
  · refine jr_ic (pc' := 108) rfl rfl (jr_ic (pc' := 109) rfl rfl ?_)
    refine jr_cv_i (pc' := 112) [] rfl rfl jlk_12_233 jq_194 jbd_194 (jl rfl) rfl (jl rfl) hu rfl (jk rfl hN) (jd_67.trans jo_194.symm) (fun Q' hq => jc_194 hN (Nat.le_trans (jl rfl) hd) (jg_b ht3) jgc_1 jgc_1 (jo_b h) hq) (fun p23 hp23 h => ?_)
    refine jr_zne (pa := 115) (pb := 117) rfl rfl rfl (jg_b hp23) h (fun hc h => ?_) (fun hc h => ?_)
    · refine jr_ic (pc' := 116) rfl rfl ?_
      exact jr_ret rfl hu rfl (hQ' _ _ (hQ ((0 : Int), p23.2) jgc_0 h))
    · refine jr_al_n (pc' := 118) rfl rfl rfl (jr_il_n (pc' := 119) rfl rfl rfl (jr_il_n (pc' := 120) rfl rfl rfl (jr_il_n (pc' := 121) rfl rfl rfl (jr_il (pc' := 123) rfl rfl rfl (jr_il (pc' := 125) rfl rfl rfl ?_)))))
      refine jr_il (pc' := 127) rfl rfl rfl (jr_il (pc' := 129) rfl rfl rfl (jr_il (pc' := 131) rfl rfl rfl (jr_il (pc' := 133) rfl rfl rfl ?_)))
      refine jr_cv_i (pc' := 136) [] rfl rfl jlk_12_375 jq_238 jbd_238 (jl rfl) rfl (jl rfl) hu rfl (jk rfl hN) (jd_67.trans jo_238.symm) (fun Q' hq => jc_238 hN (Nat.le_trans (jl rfl) hd) hx0 hx1 hx2 hx3 hx4 hx5 hx6 hx7 hx8 (jo_b h) hq) (fun p24 hp24 h => ?_)
      exact jr_ret rfl hu rfl (hQ' _ _ (hQ (p24.1, p24.2) hp24 h))
  · refine jr_zeq (pa := 106) (pb := 16) rfl rfl rfl (jg_b hp2) h (fun hc h => ?_) (fun hc h => ?_)
    · refine jr_ic (pc' := 107) rfl rfl ?_
      exact k4 ((0 : Int)) jb_0 h
    · refine jr_il_n (pc' := 17) rfl rfl rfl (jr_bi (pc' := 19) rfl rfl rfl (jr_bi (pc' := 21) rfl rfl rfl ?_))
      refine jr_cs_p (pc' := 24) [_] rfl rfl jlk_12_414 jq_247 jbd_247 (jl rfl) rfl (jl rfl) hu (fun Q' hq => jc_247 hN (Nat.le_trans (jl rfl) hd) hx1 jgc_m40 jgc_40 (jo_b h) hq) (fun p5 hp5 h => ?_)
      refine jr_zeq (pa := 106) (pb := 27) rfl rfl rfl (jg_b hp5) h (fun hc h => ?_) (fun hc h => ?_)
      · refine jr_ic (pc' := 107) rfl rfl ?_
        exact k4 ((0 : Int)) jb_0 h
      · refine jr_il_n (pc' := 28) rfl rfl rfl (jr_ic (pc' := 29) rfl rfl (jr_bi (pc' := 31) rfl rfl rfl ?_))
        refine jr_cs_p (pc' := 34) [_] rfl rfl jlk_12_414 jq_247 jbd_247 (jl rfl) rfl (jl rfl) hu (fun Q' hq => jc_247 hN (Nat.le_trans (jl rfl) hd) hx2 jgc_0 jgc_18 (jo_b h) hq) (fun p6 hp6 h => ?_)
        refine jr_zeq (pa := 106) (pb := 37) rfl rfl rfl (jg_b hp6) h (fun hc h => ?_) (fun hc h => ?_)
        · refine jr_ic (pc' := 107) rfl rfl ?_
          exact k4 ((0 : Int)) jb_0 h
        · refine jr_il (pc' := 39) rfl rfl rfl (jr_ic (pc' := 40) rfl rfl (jr_ic (pc' := 41) rfl rfl ?_))
          refine jr_cs_p (pc' := 44) [_] rfl rfl jlk_12_414 jq_247 jbd_247 (jl rfl) rfl (jl rfl) hu (fun Q' hq => jc_247 hN (Nat.le_trans (jl rfl) hd) hx3 jgc_0 jgc_5 (jo_b h) hq) (fun p7 hp7 h => ?_)
          refine jr_zeq (pa := 106) (pb := 47) rfl rfl rfl (jg_b hp7) h (fun hc h => ?_) (fun hc h => ?_)
          · refine jr_ic (pc' := 107) rfl rfl ?_
            exact k4 ((0 : Int)) jb_0 h
          · refine jr_il (pc' := 49) rfl rfl rfl (jr_ic (pc' := 50) rfl rfl (jr_ic (pc' := 51) rfl rfl ?_))
            refine jr_cs_p (pc' := 54) [_] rfl rfl jlk_12_414 jq_247 jbd_247 (jl rfl) rfl (jl rfl) hu (fun Q' hq => jc_247 hN (Nat.le_trans (jl rfl) hd) hx4 jgc_0 jgc_2 (jo_b h) hq) (fun p8 hp8 h => ?_)
            refine jr_zeq (pa := 106) (pb := 57) rfl rfl rfl (jg_b hp8) h (fun hc h => ?_) (fun hc h => ?_)
            · refine jr_ic (pc' := 107) rfl rfl ?_
              exact k4 ((0 : Int)) jb_0 h
            · refine jr_il (pc' := 59) rfl rfl rfl (jr_ic (pc' := 60) rfl rfl (jr_si (pc' := 63) rfl rfl rfl ?_))
              refine jr_cs_p (pc' := 66) [_] rfl rfl jlk_12_414 jq_247 jbd_247 (jl rfl) rfl (jl rfl) hu (fun Q' hq => jc_247 hN (Nat.le_trans (jl rfl) hd) hx5 jgc_0 jgc_999 (jo_b h) hq) (fun p9 hp9 h => ?_)
              refine jr_zeq (pa := 106) (pb := 69) rfl rfl rfl (jg_b hp9) h (fun hc h => ?_) (fun hc h => ?_)
              · refine jr_ic (pc' := 107) rfl rfl ?_
                exact k4 ((0 : Int)) jb_0 h
              · refine jr_il (pc' := 71) rfl rfl rfl (jr_ic (pc' := 72) rfl rfl (jr_ic (pc' := 73) rfl rfl ?_))
                refine jr_cs_p (pc' := 76) [_] rfl rfl jlk_12_414 jq_247 jbd_247 (jl rfl) rfl (jl rfl) hu (fun Q' hq => jc_247 hN (Nat.le_trans (jl rfl) hd) hx6 jgc_0 jgc_1 (jo_b h) hq) (fun p10 hp10 h => ?_)
                refine jr_zeq (pa := 106) (pb := 79) rfl rfl rfl (jg_b hp10) h (fun hc h => ?_) (fun hc h => ?_)
                · refine jr_ic (pc' := 107) rfl rfl ?_
                  exact k4 ((0 : Int)) jb_0 h
                · refine jr_il (pc' := 81) rfl rfl rfl (jr_ic (pc' := 82) rfl rfl (jr_bi (pc' := 84) rfl rfl rfl ?_))
                  refine jr_cs_p (pc' := 87) [_] rfl rfl jlk_12_414 jq_247 jbd_247 (jl rfl) rfl (jl rfl) hu (fun Q' hq => jc_247 hN (Nat.le_trans (jl rfl) hd) hx7 jgc_0 jgc_9 (jo_b h) hq) (fun p11 hp11 h => ?_)
                  refine jr_zeq (pa := 106) (pb := 90) rfl rfl rfl (jg_b hp11) h (fun hc h => ?_) (fun hc h => ?_)
                  · refine jr_ic (pc' := 107) rfl rfl ?_
                    exact k4 ((0 : Int)) jb_0 h
                  · refine jr_il (pc' := 92) rfl rfl rfl (jr_ic (pc' := 93) rfl rfl (jr_si (pc' := 96) rfl rfl rfl ?_))
                    refine jr_cs_p (pc' := 99) [_] rfl rfl jlk_12_414 jq_247 jbd_247 (jl rfl) rfl (jl rfl) hu (fun Q' hq => jc_247 hN (Nat.le_trans (jl rfl) hd) hx8 jgc_0 jgc_700 (jo_b h) hq) (fun p12 hp12 h => ?_)
                    refine jr_zeq (pa := 106) (pb := 102) rfl rfl rfl (jg_b hp12) h (fun hc h => ?_) (fun hc h => ?_)
                    · refine jr_ic (pc' := 107) rfl rfl ?_
                      exact k4 ((0 : Int)) jb_0 h
                    · refine jr_ic (pc' := 103) rfl rfl (jr_goto (pc' := 107) rfl rfl ?_)
                      exact k4 ((1 : Int)) jb_1 h

set_option maxRecDepth 20000 in
set_option maxHeartbeats 1000000 in
theorem jc_266 {X : Nat × (Nat → Int32)} {N d : Nat} {x0 : Int} {x1 : Int} {x2 : Int} (hN : 102 ≤ N) (hd : 7 ≤ d) (hx0 : jg x0) (hx1 : jg x1) (hx2 : jg x2) {m : jm} {P : Int × jm → Prop} {Q : px_Q} (h : jo (jf_266 x0 x1 x2 m) P) (hQ : ∀ p : Int × jm, jb p.1 → P p → Q (.inl (some (jv p.1))) (jmem N p.2)) : px_C X d 266 [.ref 67, jv x0, jv x1, jv x2] (jmem N m) Q := by
  unfold jf_266 at h
  have hu : ju px_m266 (0, 0) := ju_0
  refine jr_in (M := px_m266) (lev := 6) (L := [some (.ref 67), some (jv x0), some (jv x1), some (jv x2), none]) hd rfl jbd_266 (jl rfl) rfl (fun d hd Q' hQ' => ?_)
  refine jr_al_n (pc' := 1) rfl rfl rfl (jr_il_n (pc' := 2) rfl rfl rfl (jr_il_n (pc' := 3) rfl rfl rfl ?_))
  refine jr_cv_p (pc' := 6) [] rfl rfl jlk_12_395 jq_235 jbd_235 (jl rfl) rfl (jl rfl) hu rfl (jk rfl hN) (jd_67.trans jo_235.symm) (fun Q' hq => jc_235 hN (Nat.le_trans (jl rfl) hd) hx1 hx2 (jo_b h) hq) (fun p1 hp1 h => ?_)
  refine jr_is (pc' := 8) (L' := [_, _, _, _, _]) rfl rfl (jl rfl) rfl rfl (jr_il (pc' := 10) rfl rfl rfl (jr_ic (pc' := 11) rfl rfl ?_))
  refine jr_reg (fun t2 => jb t2.1) (fun t2 => jp X (px_C X d) px_m266 Q' N 54 [some (.ref 67), some (jv x0), some (jv x1), some (jv x2), some (jv p1)] [(jv t2.1)] t2.2 (0, 0)) h (fun t2 ht2 h => ?_) (fun R28 k3 h => ?_)
  · exact jr_retb rfl hu rfl ht2 (hQ' _ _ (hQ (t2.1, t2.2) ht2 h))
  · refine jr_ceq (pa := 53) (pb := 14) rfl rfl rfl hp1 jgc_m1 h (fun hc h => ?_) (fun hc h => ?_)
    · refine jr_ic (pc' := 54) rfl rfl ?_
      exact k3 ((0 : Int), m) jb_0 h
    · refine jr_al_n (pc' := 15) rfl rfl rfl (jr_il_n (pc' := 16) rfl rfl rfl (jr_il (pc' := 18) rfl rfl rfl (jr_al_n (pc' := 19) rfl rfl rfl (jr_gr (pc' := 22) (r := 76) rfl rfl jlk_12_41 (.inl rfl) rfl hN jd_67 rfl rfl rfl (jr_ic (pc' := 23) rfl rfl ?_)))))
      refine jr_il (pc' := 25) rfl rfl rfl (jr_mul (pc' := 26) rfl rfl ?_)
      refine jr_ia (pc' := 27) rfl rfl (jl rfl) hN jd_76 jn_76 jg_w h (fun hc h => ?_)
      refine jr_il_n (pc' := 28) rfl rfl rfl ?_
      refine jr_reg (fun t4 => jb t4) (fun t4 => jp X (px_C X d) px_m266 Q' N 36 [some (.ref 67), some (jv x0), some (jv x1), some (jv x2), some (jv p1)] [(jv t4), (jv p1), (jv x0), (.ref 67)] m (0, 0)) h (fun t4 ht4 h => ?_) (fun R17 k5 h => ?_)
      · refine jr_al_n (pc' := 37) rfl rfl rfl (jr_gr (pc' := 40) (r := 89) rfl rfl jlk_12_80 (.inl rfl) rfl hN jd_67 rfl rfl rfl (jr_bi (pc' := 42) rfl rfl rfl ?_))
        refine jr_ia (pc' := 43) rfl rfl (jl rfl) hN jd_89 jn_89 jgc_67 h (fun hc h => ?_)
        refine jr_cv_i (pc' := 46) [] rfl rfl jlk_12_398 jq_236 jbd_236 (jl rfl) rfl (jl rfl) hu rfl (jk rfl hN) (jd_67.trans jo_236.symm) (fun Q' hq => jc_236 hN (Nat.le_trans (jl rfl) hd) hx0 hp1 (jg_b ht4) jg_a (jo_b h) hq) (fun p16 hp16 h => ?_)
        refine jr_zeq (pa := 53) (pb := 49) rfl rfl rfl (jg_b hp16) h (fun hc h => ?_) (fun hc h => ?_)
        · refine jr_ic (pc' := 54) rfl rfl ?_
          exact k3 ((0 : Int), p16.2) jb_0 h
        · refine jr_ic (pc' := 50) rfl rfl (jr_goto (pc' := 54) rfl rfl ?_)
          exact k3 ((1 : Int), p16.2) jb_1 h
      · refine jr_cne (pa := 31) (pb := 35) rfl rfl rfl jg_a hx1 h (fun hc h => ?_) (fun hc h => ?_)
        · refine jr_ic (pc' := 32) rfl rfl (jr_goto (pc' := 36) rfl rfl ?_)
          exact k5 ((0 : Int)) jb_0 h
        · refine jr_ic (pc' := 36) rfl rfl ?_
          exact k5 ((1 : Int)) jb_1 h

set_option maxRecDepth 20000 in
set_option maxHeartbeats 1000000 in
theorem jc_265 {X : Nat × (Nat → Int32)} {N d : Nat} {x0 : Int} {x1 : Int} (hN : 102 ≤ N) (hd : 8 ≤ d) (hx0 : jg x0) (hx1 : jg x1) {m : jm} {P : jm → Prop} {Q : px_Q} (h : jo (jf_265 x0 x1 m) P) (hQ : ∀ p : jm, True → P p → Q (.inl (none)) (jmem N p)) : px_C X d 265 [.ref 67, jv x0, jv x1] (jmem N m) Q := by
  unfold jf_265 at h
  have hu : ju px_m265 (0, 0) := ju_0
  refine jr_in (M := px_m265) (lev := 7) (L := [some (.ref 67), some (jv x0), some (jv x1), none, none, none]) hd rfl jbd_265 (jl rfl) rfl (fun d hd Q' hQ' => ?_)
  refine jr_ic (pc' := 1) rfl rfl (jr_is_n (pc' := 2) (L' := [_, _, _, _, _, _]) rfl rfl (jl rfl) rfl rfl ?_)
  refine jr_reg (fun t4 => True) (fun t4 => ∀ o5, jn o5 → jp X (px_C X d) px_m265 Q' N 34 [some (.ref 67), some (jv x0), some (jv x1), o5, none, none] [] t4 (0, 0)) h (fun t4 ht4 h o5 ho5 => ?_) (fun R7 k6 h => ?_)
  · refine jr_ic (pc' := 35) rfl rfl (jr_is_n (pc' := 36) (L' := [_, _, _, _, _, _]) rfl rfl (jl rfl) rfl rfl ?_)
    refine jr_reg (fun t37 => True) (fun t37 => ∀ o38, jn o38 → ∀ o39, jn o39 → ∀ o40, jn o40 → jp X (px_C X d) px_m265 Q' N 132 [some (.ref 67), some (jv x0), some (jv x1), o38, o39, o40] [] t37 (0, 0)) h (fun t37 ht37 h o38 ho38 o39 ho39 o40 ho40 => ?_) (fun R42 k41 h => ?_)
    · exact jr_rv rfl hu rfl (hQ' _ _ (hQ t37 trivial h))
    · refine jr_lp (fun s32 => jg s32.1) (fun s32 => ∀ o33, jn o33 → ∀ o34, jn o34 → jp X (px_C X d) px_m265 Q' N 36 [some (.ref 67), some (jv x0), some (jv x1), some (jv s32.1), o33, o34] [] s32.2 (0, 0)) h jgc_1 (fun s32 hs32 R36 k35 h o33 ho33 o34 ho34 => ?_) _ jn_n _ jn_n
      refine jr_il_n (pc' := 37) rfl rfl rfl (jr_al_n (pc' := 38) rfl rfl rfl (jr_gi (pc' := 41) rfl rfl jlk_12_184 (.inl rfl) rfl hN jd_67 rfl rfl ?_))
      refine jr_cge (pa := 44) (pb := 132) rfl rfl rfl hs32 jg_a h (fun hc h => ?_) (fun hc h => ?_)
      · refine jr_ic (pc' := 45) rfl rfl (jr_is (pc' := 47) (L' := [_, _, _, _, _, _]) rfl rfl (jl rfl) rfl rfl ?_)
        refine jr_reg (fun t47 => True) (fun t47 => ∀ o48, jn o48 → ∀ o49, jn o49 → jp X (px_C X d) px_m265 Q' N 126 [some (.ref 67), some (jv x0), some (jv x1), some (jv s32.1), o48, o49] [] t47 (0, 0)) h (fun t47 ht47 h o48 ho48 o49 ho49 => ?_) (fun R51 k50 h => ?_)
        · refine jr_inc (pc' := 129) (L' := [_, _, _, _, _, _]) rfl rfl rfl (jl rfl) rfl rfl (jr_goto (pc' := 36) rfl rfl ?_)
          exact k35 (jw (s32.1 + 1), t47) jg_w h _ ho48 _ ho49
        · refine jr_lp (fun s43 => jg s43.1) (fun s43 => ∀ o44, jn o44 → jp X (px_C X d) px_m265 Q' N 47 [some (.ref 67), some (jv x0), some (jv x1), some (jv s32.1), some (jv s43.1), o44] [] s43.2 (0, 0)) h jgc_0 (fun s43 hs43 R46 k45 h o44 ho44 => ?_) _ ho34
          refine jr_il (pc' := 49) rfl rfl rfl (jr_al_n (pc' := 50) rfl rfl rfl (jr_gi (pc' := 53) rfl rfl jlk_12_184 (.inl rfl) rfl hN jd_67 rfl rfl ?_))
          refine jr_cge (pa := 56) (pb := 126) rfl rfl rfl hs43 jg_a h (fun hc h => ?_) (fun hc h => ?_)
          · refine jr_ic (pc' := 57) rfl rfl (jr_is (pc' := 59) (L' := [_, _, _, _, _, _]) rfl rfl (jl rfl) rfl rfl ?_)
            refine jr_reg (fun t55 => True) (fun t55 => ∀ o56, jn o56 → jp X (px_C X d) px_m265 Q' N 120 [some (.ref 67), some (jv x0), some (jv x1), some (jv s32.1), some (jv s43.1), o56] [] t55 (0, 0)) h (fun t55 ht55 h o56 ho56 => ?_) (fun R58 k57 h => ?_)
            · refine jr_inc (pc' := 123) (L' := [_, _, _, _, _, _]) rfl rfl rfl (jl rfl) rfl rfl (jr_goto (pc' := 47) rfl rfl ?_)
              exact k45 (jw (s43.1 + 1), t55) jg_w h _ ho56
            · refine jr_lp (fun s52 => jg s52.1) (fun s52 => jp X (px_C X d) px_m265 Q' N 59 [some (.ref 67), some (jv x0), some (jv x1), some (jv s32.1), some (jv s43.1), some (jv s52.1)] [] s52.2 (0, 0)) h jgc_0 (fun s52 hs52 R54 k53 h => ?_)
              refine jr_il (pc' := 61) rfl rfl rfl (jr_al_n (pc' := 62) rfl rfl rfl (jr_gi (pc' := 65) rfl rfl jlk_12_184 (.inl rfl) rfl hN jd_67 rfl rfl ?_))
              refine jr_cge (pa := 68) (pb := 120) rfl rfl rfl hs52 jg_a h (fun hc h => ?_) (fun hc h => ?_)
              · refine jr_al_n (pc' := 69) rfl rfl rfl (jr_gr (pc' := 72) (r := 93) rfl rfl jlk_12_92 (.inl rfl) rfl hN jd_67 rfl rfl rfl (jr_il (pc' := 74) rfl rfl rfl ?_))
                refine jr_ia (pc' := 75) rfl rfl (jl rfl) hN jd_93 jn_93 hs43 h (fun hc h => ?_)
                refine jr_ldw (pc' := 78) (x := 100000) rfl rfl jlk_12_438 rfl ?_
                refine jr_cne (pa := 81) (pb := 120) rfl rfl rfl jg_a jgc_100000 h (fun hc h => ?_) (fun hc h => ?_)
                · refine jr_al_n (pc' := 82) rfl rfl rfl (jr_gr (pc' := 85) (r := 93) rfl rfl jlk_12_92 (.inl rfl) rfl hN jd_67 rfl rfl rfl (jr_il (pc' := 87) rfl rfl rfl ?_))
                  refine jr_ia (pc' := 88) rfl rfl (jl rfl) hN jd_93 jn_93 hs52 h (fun hc h => ?_)
                  refine jr_il_n (pc' := 89) rfl rfl rfl (jr_ic (pc' := 90) rfl rfl (jr_sub (pc' := 91) rfl rfl ?_))
                  refine jr_reg (fun t59 => True) (fun t59 => jp X (px_C X d) px_m265 Q' N 114 [some (.ref 67), some (jv x0), some (jv x1), some (jv s32.1), some (jv s43.1), some (jv s52.1)] [] t59 (0, 0)) h (fun t59 ht59 h => ?_) (fun R73 k60 h => ?_)
                  · refine jr_inc (pc' := 117) (L' := [_, _, _, _, _, _]) rfl rfl rfl (jl rfl) rfl rfl (jr_goto (pc' := 59) rfl rfl ?_)
                    exact k53 (jw (s52.1 + 1), t59) jg_w h
                  · refine jr_cne (pa := 94) (pb := 114) rfl rfl rfl jg_a jg_w h (fun hc h => ?_) (fun hc h => ?_)
                    · refine jr_al_n (pc' := 95) rfl rfl rfl (jr_il_n (pc' := 96) rfl rfl rfl (jr_il (pc' := 98) rfl rfl rfl (jr_il (pc' := 100) rfl rfl rfl ?_)))
                      refine jr_cv_i (pc' := 103) [] rfl rfl jlk_12_439 jq_266 jbd_266 (jl rfl) rfl (jl rfl) hu rfl (jk rfl hN) (jd_67.trans jo_266.symm) (fun Q' hq => jc_266 hN (Nat.le_trans (jl rfl) hd) hx0 hs43 hs52 (jo_b h) hq) (fun p61 hp61 h => ?_)
                      refine jr_zeq (pa := 114) (pb := 106) rfl rfl rfl (jg_b hp61) h (fun hc h => ?_) (fun hc h => ?_)
                      · exact k60 (p61.2) trivial h
                      · refine jr_al_n (pc' := 107) rfl rfl rfl (jr_gr (pc' := 110) (r := 93) rfl rfl jlk_12_92 (.inl rfl) rfl hN jd_67 rfl rfl rfl (jr_il (pc' := 112) rfl rfl rfl (jr_il_n (pc' := 113) rfl rfl rfl ?_)))
                        refine jr_ist (pc' := 114) rfl rfl (jl rfl) hN jd_93 jn_93 hs43 h (fun hc h => ?_)
                        refine jr_le h (fun m62 h => ?_)
                        exact k60 (m62) trivial h
                    · exact k60 (s52.2) trivial h
                · exact k57 (s52.2) trivial h _ jn_i
              · exact k57 (s52.2) trivial h _ jn_i
          · exact k50 (s43.2) trivial h _ jn_i _ ho44
      · exact k41 (s32.2) trivial h _ jn_i _ ho33 _ ho34
  · refine jr_lp (fun s1 => jg s1.1) (fun s1 => jp X (px_C X d) px_m265 Q' N 2 [some (.ref 67), some (jv x0), some (jv x1), some (jv s1.1), none, none] [] s1.2 (0, 0)) h jgc_0 (fun s1 hs1 R3 k2 h => ?_)
    refine jr_il_n (pc' := 3) rfl rfl rfl (jr_al_n (pc' := 4) rfl rfl rfl (jr_gi (pc' := 7) rfl rfl jlk_12_184 (.inl rfl) rfl hN jd_67 rfl rfl ?_))
    refine jr_cge (pa := 10) (pb := 34) rfl rfl rfl hs1 jg_a h (fun hc h => ?_) (fun hc h => ?_)
    · refine jr_al_n (pc' := 11) rfl rfl rfl (jr_gr (pc' := 14) (r := 93) rfl rfl jlk_12_92 (.inl rfl) rfl hN jd_67 rfl rfl rfl (jr_il_n (pc' := 15) rfl rfl rfl (jr_il_n (pc' := 16) rfl rfl rfl (jr_il_n (pc' := 17) rfl rfl rfl ?_))))
      refine jr_reg (fun t8 => jg t8) (fun t8 => jp X (px_C X d) px_m265 Q' N 27 [some (.ref 67), some (jv x0), some (jv x1), some (jv s1.1), none, none] [(jv t8), (jv s1.1), (.ref 93)] s1.2 (0, 0)) h (fun t8 ht8 h => ?_) (fun R21 k9 h => ?_)
      · refine jr_ist (pc' := 28) rfl rfl (jl rfl) hN jd_93 jn_93 hs1 h (fun hc h => ?_)
        refine jr_le h (fun m20 h => ?_)
        refine jr_inc (pc' := 31) (L' := [_, _, _, _, _, _]) rfl rfl rfl (jl rfl) rfl rfl (jr_goto (pc' := 2) rfl rfl ?_)
        exact k2 (jw (s1.1 + 1), m20) jg_w h
      · refine jr_cne (pa := 20) (pb := 24) rfl rfl rfl hs1 hx1 h (fun hc h => ?_) (fun hc h => ?_)
        · refine jr_ic (pc' := 21) rfl rfl (jr_goto (pc' := 27) rfl rfl ?_)
          exact k9 ((0 : Int)) jgc_0 h
        · refine jr_ldw (pc' := 27) (x := 100000) rfl rfl jlk_12_438 rfl ?_
          exact k9 ((100000 : Int)) jgc_100000 h
    · exact k6 (s1.2) trivial h _ jn_i

