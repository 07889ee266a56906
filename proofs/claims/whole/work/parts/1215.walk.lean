/-! the pure machine follows the functions, 16 (written by wip/whole/gen/walk.py) -/
set_option maxRecDepth 20000 in
set_option maxHeartbeats 1000000 in
theorem jc_228 {X : Nat × (Nat → Int32)} {N d : Nat} {x0 : Int} {x1 : Int} {x2 : Int} (hN : 102 ≤ N) (hd : 8 ≤ d) (hx0 : jg x0) (hx1 : jg x1) (hx2 : jg x2) {m : jm} {P : Int × jm → Prop} {Q : px_Q} (h : jo (jf_228 x0 x1 x2 m) P) (hQ : ∀ p : Int × jm, jb p.1 → P p → Q (.inl (some (jv p.1))) (jmem N p.2)) : px_C X d 228 [.ref 67, jv x0, jv x1, jv x2] (jmem N m) Q := by
  unfold jf_228 at h
  have hu : ju px_m228 (0, 0) := ju_0
  refine jr_in (M := px_m228) (lev := 7) (L := [some (.ref 67), some (jv x0), some (jv x1), some (jv x2)]) hd rfl jbd_228 (jl rfl) rfl (fun d hd Q' hQ' => ?_)
  refine jr_il_n (pc' := 1) rfl rfl rfl ?_
  refine jr_zne (pa := 4) (pb := 11) rfl rfl rfl hx0 h (fun hc h => ?_) (fun hc h => ?_)
  · refine jr_al_n (pc' := 5) rfl rfl rfl (jr_il_n (pc' := 6) rfl rfl rfl (jr_il_n (pc' := 7) rfl rfl rfl ?_))
    refine jr_cv_i (pc' := 10) [] rfl rfl jlk_12_402 jq_229 jbd_229 (jl rfl) rfl (jl rfl) hu rfl (jk rfl hN) (jd_67.trans jo_229.symm) (fun Q' hq => jc_229 hN (Nat.le_trans (jl rfl) hd) hx1 hx2 (jo_b h) hq) (fun p1 hp1 h => ?_)
    exact jr_retb rfl hu rfl hp1 (hQ' _ _ (hQ (p1.1, p1.2) hp1 h))
  · refine jr_il_n (pc' := 12) rfl rfl rfl (jr_ic (pc' := 13) rfl rfl ?_)
    refine jr_cne (pa := 16) (pb := 23) rfl rfl rfl hx0 jgc_1 h (fun hc h => ?_) (fun hc h => ?_)
    · refine jr_al_n (pc' := 17) rfl rfl rfl (jr_il_n (pc' := 18) rfl rfl rfl (jr_il_n (pc' := 19) rfl rfl rfl ?_))
      refine jr_cv_i (pc' := 22) [] rfl rfl jlk_12_405 jq_232 jbd_232 (jl rfl) rfl (jl rfl) hu rfl (jk rfl hN) (jd_67.trans jo_232.symm) (fun Q' hq => jc_232 hN (Nat.le_trans (jl rfl) hd) hx1 hx2 (jo_b h) hq) (fun p2 hp2 h => ?_)
      exact jr_retb rfl hu rfl hp2 (hQ' _ _ (hQ (p2.1, p2.2) hp2 h))
    · refine jr_il_n (pc' := 24) rfl rfl rfl (jr_ic (pc' := 25) rfl rfl ?_)
      refine jr_cne (pa := 28) (pb := 35) rfl rfl rfl hx0 jgc_2 h (fun hc h => ?_) (fun hc h => ?_)
      · refine jr_al_n (pc' := 29) rfl rfl rfl (jr_il_n (pc' := 30) rfl rfl rfl (jr_il_n (pc' := 31) rfl rfl rfl ?_))
        refine jr_cv_i (pc' := 34) [] rfl rfl jlk_12_408 jq_234 jbd_234 (jl rfl) rfl (jl rfl) hu rfl (jk rfl hN) (jd_67.trans jo_234.symm) (fun Q' hq => jc_234 hN (Nat.le_trans (jl rfl) hd) hx1 hx2 (jo_b h) hq) (fun p3 hp3 h => ?_)
        exact jr_retb rfl hu rfl hp3 (hQ' _ _ (hQ (p3.1, p3.2) hp3 h))
      · refine jr_il_n (pc' := 36) rfl rfl rfl (jr_ic (pc' := 37) rfl rfl ?_)
        refine jr_cne (pa := 40) (pb := 65) rfl rfl rfl hx0 jgc_3 h (fun hc h => ?_) (fun hc h => ?_)
        · refine jr_al_n (pc' := 41) rfl rfl rfl (jr_gr (pc' := 44) (r := 89) rfl rfl jlk_12_80 (.inl rfl) rfl hN jd_67 rfl rfl rfl (jr_ic (pc' := 45) rfl rfl (jr_il_n (pc' := 46) rfl rfl rfl (jr_add (pc' := 47) rfl rfl ?_))))
          refine jr_ia (pc' := 48) rfl rfl (jl rfl) hN jd_89 jn_89 jg_w h (fun hc h => ?_)
          refine jr_il_n (pc' := 49) rfl rfl rfl ?_
          refine jr_cne (pa := 52) (pb := 54) rfl rfl rfl jg_a hx2 h (fun hc h => ?_) (fun hc h => ?_)
          · refine jr_ic (pc' := 53) rfl rfl ?_
            exact jr_retb rfl hu rfl jb_0 (hQ' _ _ (hQ ((0 : Int), m) jb_0 h))
          · refine jr_al_n (pc' := 55) rfl rfl rfl (jr_gr (pc' := 58) (r := 89) rfl rfl jlk_12_80 (.inl rfl) rfl hN jd_67 rfl rfl rfl (jr_ic (pc' := 59) rfl rfl (jr_il_n (pc' := 60) rfl rfl rfl (jr_add (pc' := 61) rfl rfl (jr_il_n (pc' := 62) rfl rfl rfl ?_)))))
            refine jr_ist (pc' := 63) rfl rfl (jl rfl) hN jd_89 jn_89 jg_w h (fun hc h => ?_)
            refine jr_le h (fun m4 h => ?_)
            refine jr_ic (pc' := 64) rfl rfl ?_
            exact jr_retb rfl hu rfl jb_1 (hQ' _ _ (hQ ((1 : Int), m4) jb_1 h))
        · refine jr_il_n (pc' := 66) rfl rfl rfl (jr_ic (pc' := 67) rfl rfl ?_)
          refine jr_cne (pa := 70) (pb := 114) rfl rfl rfl hx0 jgc_4 h (fun hc h => ?_) (fun hc h => ?_)
          · refine jr_al_n (pc' := 71) rfl rfl rfl (jr_gr (pc' := 74) (r := 89) rfl rfl jlk_12_80 (.inl rfl) rfl hN jd_67 rfl rfl rfl (jr_bi (pc' := 76) rfl rfl rfl (jr_il_n (pc' := 77) rfl rfl rfl (jr_add (pc' := 78) rfl rfl ?_))))
            refine jr_ia (pc' := 79) rfl rfl (jl rfl) hN jd_89 jn_89 jg_w h (fun hc h => ?_)
            refine jr_ic (pc' := 80) rfl rfl ?_
            refine jr_ceq (pa := 97) (pb := 83) rfl rfl rfl jg_a jgc_m1 h (fun hc h => ?_) (fun hc h => ?_)
            · refine jr_ic (pc' := 98) rfl rfl ?_
              exact jr_retb rfl hu rfl jb_0 (hQ' _ _ (hQ ((0 : Int), m) jb_0 h))
            · refine jr_al_n (pc' := 84) rfl rfl rfl (jr_gr (pc' := 87) (r := 89) rfl rfl jlk_12_80 (.inl rfl) rfl hN jd_67 rfl rfl rfl (jr_bi (pc' := 89) rfl rfl rfl (jr_il_n (pc' := 90) rfl rfl rfl (jr_add (pc' := 91) rfl rfl ?_))))
              refine jr_ia (pc' := 92) rfl rfl (jl rfl) hN jd_89 jn_89 jg_w h (fun hc h => ?_)
              refine jr_bi (pc' := 94) rfl rfl rfl ?_
              refine jr_cne (pa := 97) (pb := 99) rfl rfl rfl jg_a jgc_9 h (fun hc h => ?_) (fun hc h => ?_)
              · refine jr_ic (pc' := 98) rfl rfl ?_
                exact jr_retb rfl hu rfl jb_0 (hQ' _ _ (hQ ((0 : Int), m) jb_0 h))
              · refine jr_al_n (pc' := 100) rfl rfl rfl (jr_gr (pc' := 103) (r := 89) rfl rfl jlk_12_80 (.inl rfl) rfl hN jd_67 rfl rfl rfl (jr_bi (pc' := 105) rfl rfl rfl (jr_il_n (pc' := 106) rfl rfl rfl (jr_add (pc' := 107) rfl rfl (jr_dup2 (pc' := 108) rfl rfl rfl rfl ?_)))))
                refine jr_ia (pc' := 109) rfl rfl (jl rfl) hN jd_89 jn_89 jg_w h (fun hc h => ?_)
                refine jr_ic (pc' := 110) rfl rfl (jr_add (pc' := 111) rfl rfl ?_)
                refine jr_ist (pc' := 112) rfl rfl (jl rfl) hN jd_89 jn_89 jg_w h (fun hc h => ?_)
                refine jr_le h (fun m5 h => ?_)
                refine jr_ic (pc' := 113) rfl rfl ?_
                exact jr_retb rfl hu rfl jb_1 (hQ' _ _ (hQ ((1 : Int), m5) jb_1 h))
          · refine jr_il_n (pc' := 115) rfl rfl rfl (jr_ic (pc' := 116) rfl rfl ?_)
            refine jr_cne (pa := 119) (pb := 137) rfl rfl rfl hx0 jgc_5 h (fun hc h => ?_) (fun hc h => ?_)
            · refine jr_al_n (pc' := 120) rfl rfl rfl (jr_gr (pc' := 123) (r := 89) rfl rfl jlk_12_80 (.inl rfl) rfl hN jd_67 rfl rfl rfl (jr_bi (pc' := 125) rfl rfl rfl (jr_ic (pc' := 126) rfl rfl (jr_al_n (pc' := 127) rfl rfl rfl (jr_gr (pc' := 130) (r := 89) rfl rfl jlk_12_80 (.inl rfl) rfl hN jd_67 rfl rfl rfl ?_)))))
              refine jr_bi (pc' := 132) rfl rfl rfl ?_
              refine jr_ia (pc' := 133) rfl rfl (jl rfl) hN jd_89 jn_89 jgc_67 h (fun hc h => ?_)
              refine jr_sub (pc' := 134) rfl rfl ?_
              refine jr_ist (pc' := 135) rfl rfl (jl rfl) hN jd_89 jn_89 jgc_67 h (fun hc h => ?_)
              refine jr_le h (fun m6 h => ?_)
              refine jr_ic (pc' := 136) rfl rfl ?_
              exact jr_retb rfl hu rfl jb_1 (hQ' _ _ (hQ ((1 : Int), m6) jb_1 h))
            · refine jr_al_n (pc' := 138) rfl rfl rfl (jr_gr (pc' := 141) (r := 89) rfl rfl jlk_12_80 (.inl rfl) rfl hN jd_67 rfl rfl rfl (jr_bi (pc' := 143) rfl rfl rfl ?_))
              refine jr_ia (pc' := 144) rfl rfl (jl rfl) hN jd_89 jn_89 jgc_66 h (fun hc h => ?_)
              refine jr_si (pc' := 147) rfl rfl rfl ?_
              refine jr_cne (pa := 150) (pb := 152) rfl rfl rfl jg_a jgc_700 h (fun hc h => ?_) (fun hc h => ?_)
              · refine jr_ic (pc' := 151) rfl rfl ?_
                exact jr_retb rfl hu rfl jb_0 (hQ' _ _ (hQ ((0 : Int), m) jb_0 h))
              · refine jr_al_n (pc' := 153) rfl rfl rfl ?_
                refine jr_cv_v (pc' := 156) [] rfl rfl jlk_12_411 jq_243 jbd_243 (jl rfl) rfl (jl rfl) hu rfl (jk rfl hN) (jd_67.trans jo_243.symm) (fun Q' hq => jc_243 hN (Nat.le_trans (jl rfl) hd)  (jo_b h) hq) (fun p7 hp7 h => ?_)
                refine jr_ic (pc' := 157) rfl rfl ?_
                exact jr_retb rfl hu rfl jb_1 (hQ' _ _ (hQ ((1 : Int), p7) jb_1 h))

set_option maxRecDepth 20000 in
set_option maxHeartbeats 1000000 in
theorem jc_227 {X : Nat × (Nat → Int32)} {N d n : Nat} {rec : Nat → Int → Int → jm → Option (jm)} (hrec_227 : ∀ d, 8 + n ≤ d → ∀ {x0 : Int} {x1 : Int} {m : jm} {P : jm → Prop} {Q : px_Q}, jg x0 → jg x1 → jo (rec 0 x0 x1 m) P → (∀ p : jm, True → P p → Q (.inl (none)) (jmem N p)) → px_C X d 227 [.ref 67, jv x0, jv x1] (jmem N m) Q) {x0 : Int} {x1 : Int} (hN : 102 ≤ N) (hd : 8 + n + 1 ≤ d) (hx0 : jg x0) (hx1 : jg x1) {m : jm} {P : jm → Prop} {Q : px_Q} (h : jo (jf_227 rec x0 x1 m) P) (hQ : ∀ p : jm, True → P p → Q (.inl (none)) (jmem N p)) : px_C X d 227 [.ref 67, jv x0, jv x1] (jmem N m) Q := by
  unfold jf_227 at h
  have hu : ju px_m227 (0, 0) := ju_0
  refine jr_in (M := px_m227) (lev := 8 + n) (L := [some (.ref 67), some (jv x0), some (jv x1), none, none, none]) hd rfl jbd_227 (jl rfl) rfl (fun d hd Q' hQ' => ?_)
  refine jr_il_n (pc' := 1) rfl rfl rfl (jr_is_n (pc' := 2) (L' := [_, _, _, _, _, _]) rfl rfl (jl rfl) rfl rfl ?_)
  refine jr_reg (fun t6 => True) (fun t6 => ∀ o7, jn o7 → ∀ o8, jn o8 → ∀ o9, jn o9 → jp X (px_C X d) px_m227 Q' N 153 [some (.ref 67), some (jv x0), some (jv x1), o7, o8, o9] [] t6 (0, 0)) h (fun t6 ht6 h o7 ho7 o8 ho8 o9 ho9 => ?_) (fun R11 k10 h => ?_)
  · exact jr_rv rfl hu rfl (hQ' _ _ (hQ t6 trivial h))
  · refine jr_lp (fun s1 => jg s1.1) (fun s1 => ∀ o2, jn o2 → ∀ o3, jn o3 → jp X (px_C X d) px_m227 Q' N 2 [some (.ref 67), some (jv x0), some (jv x1), some (jv s1.1), o2, o3] [] s1.2 (0, 0)) h hx0 (fun s1 hs1 R5 k4 h o2 ho2 o3 ho3 => ?_) _ jn_n _ jn_n
    refine jr_il_n (pc' := 3) rfl rfl rfl (jr_il_n (pc' := 4) rfl rfl rfl ?_)
    refine jr_cge (pa := 7) (pb := 153) rfl rfl rfl hs1 hx1 h (fun hc h => ?_) (fun hc h => ?_)
    · refine jr_al_n (pc' := 8) rfl rfl rfl (jr_gi (pc' := 11) rfl rfl jlk_12_347 (.inl rfl) rfl hN jd_67 rfl rfl (jr_si (pc' := 14) rfl rfl rfl ?_))
      refine jr_cge (pa := 17) (pb := 153) rfl rfl rfl jg_a jgc_200 h (fun hc h => ?_) (fun hc h => ?_)
      · refine jr_al_n (pc' := 18) rfl rfl rfl (jr_dup (pc' := 19) rfl rfl rfl (jr_gi (pc' := 22) rfl rfl jlk_12_347 (.inl rfl) rfl hN jd_67 rfl rfl (jr_ic (pc' := 23) rfl rfl (jr_add (pc' := 24) rfl rfl (jr_pi (pc' := 27) rfl rfl jlk_12_347 (.inl rfl) rfl hN jd_67 rfl rfl ?_)))))
        refine jr_le h (fun m12 h => ?_)
        refine jr_al_n (pc' := 28) rfl rfl rfl (jr_gr (pc' := 31) (r := 87) rfl rfl jlk_12_74 (.inl rfl) rfl hN jd_67 rfl rfl rfl (jr_il_n (pc' := 32) rfl rfl rfl ?_))
        refine jr_ia (pc' := 33) rfl rfl (jl rfl) hN jd_87 jn_87 hs1 h (fun hc h => ?_)
        refine jr_bi (pc' := 35) rfl rfl rfl ?_
        refine jr_cne (pa := 38) (pb := 95) rfl rfl rfl jg_a jgc_7 h (fun hc h => ?_) (fun hc h => ?_)
        · refine jr_al_n (pc' := 39) rfl rfl rfl (jr_gr (pc' := 42) (r := 87) rfl rfl jlk_12_74 (.inl rfl) rfl hN jd_67 rfl rfl rfl (jr_il_n (pc' := 43) rfl rfl rfl (jr_ic (pc' := 44) rfl rfl (jr_add (pc' := 45) rfl rfl ?_))))
          refine jr_ia (pc' := 46) rfl rfl (jl rfl) hN jd_87 jn_87 jg_w h (fun hc h => ?_)
          refine jr_is (pc' := 48) (L' := [_, _, _, _, _, _]) rfl rfl (jl rfl) rfl rfl (jr_ic (pc' := 49) rfl rfl (jr_is (pc' := 51) (L' := [_, _, _, _, _, _]) rfl rfl (jl rfl) rfl rfl ?_))
          refine jr_reg (fun t16 => True) (fun t16 => ∀ o17, jn o17 → jp X (px_C X d) px_m227 Q' N 89 [some (.ref 67), some (jv x0), some (jv x1), some (jv s1.1), some (jv (ja m12 87 (jw (s1.1 + (2 : Int))).toNat)), o17] [] t16 (0, 0)) h (fun t16 ht16 h o17 ho17 => ?_) (fun R19 k18 h => ?_)
          · refine jr_il (pc' := 91) rfl rfl rfl (jr_is_n (pc' := 92) (L' := [_, _, _, _, _, _]) rfl rfl (jl rfl) rfl rfl (jr_goto (pc' := 2) rfl rfl ?_))
            exact k4 (ja m12 87 (jw (s1.1 + (2 : Int))).toNat, t16) jg_a h _ jn_i _ ho17
          · refine jr_lp (fun s13 => jg s13.1) (fun s13 => jp X (px_C X d) px_m227 Q' N 51 [some (.ref 67), some (jv x0), some (jv x1), some (jv s1.1), some (jv (ja m12 87 (jw (s1.1 + (2 : Int))).toNat)), some (jv s13.1)] [] s13.2 (0, 0)) h jgc_0 (fun s13 hs13 R15 k14 h => ?_)
            refine jr_il (pc' := 53) rfl rfl rfl (jr_al_n (pc' := 54) rfl rfl rfl (jr_gr (pc' := 57) (r := 87) rfl rfl jlk_12_74 (.inl rfl) rfl hN jd_67 rfl rfl rfl (jr_il_n (pc' := 58) rfl rfl rfl (jr_ic (pc' := 59) rfl rfl (jr_add (pc' := 60) rfl rfl ?_)))))
            refine jr_ia (pc' := 61) rfl rfl (jl rfl) hN jd_87 jn_87 jg_w h (fun hc h => ?_)
            refine jr_cge (pa := 64) (pb := 89) rfl rfl rfl hs13 jg_a h (fun hc h => ?_) (fun hc h => ?_)
            · refine jr_al_n (pc' := 65) rfl rfl rfl (jr_gi (pc' := 68) rfl rfl jlk_12_347 (.inl rfl) rfl hN jd_67 rfl rfl (jr_si (pc' := 71) rfl rfl rfl ?_))
              refine jr_cge (pa := 74) (pb := 89) rfl rfl rfl jg_a jgc_200 h (fun hc h => ?_) (fun hc h => ?_)
              · refine jr_al_n (pc' := 75) rfl rfl rfl (jr_il_n (pc' := 76) rfl rfl rfl (jr_ic (pc' := 77) rfl rfl (jr_add (pc' := 78) rfl rfl (jr_il (pc' := 80) rfl rfl rfl ?_))))
                refine jr_cv_v (pc' := 83) [] rfl rfl jlk_12_356 jq_227 jbd_227 (jl rfl) rfl (jl rfl) hu rfl (jk rfl hN) (jd_67.trans jo_227.symm) (fun Q' hq => hrec_227 d hd jg_w jg_a (jo_b h) hq) (fun p20 hp20 h => ?_)
                refine jr_inc (pc' := 86) (L' := [_, _, _, _, _, _]) rfl rfl rfl (jl rfl) rfl rfl (jr_goto (pc' := 51) rfl rfl ?_)
                exact k14 (jw (s13.1 + 1), p20) jg_w h
              · exact k18 (s13.2) trivial h _ jn_i
            · exact k18 (s13.2) trivial h _ jn_i
        · refine jr_al_n (pc' := 96) rfl rfl rfl (jr_al_n (pc' := 97) rfl rfl rfl (jr_gr (pc' := 100) (r := 87) rfl rfl jlk_12_74 (.inl rfl) rfl hN jd_67 rfl rfl rfl (jr_il_n (pc' := 101) rfl rfl rfl ?_)))
          refine jr_ia (pc' := 102) rfl rfl (jl rfl) hN jd_87 jn_87 hs1 h (fun hc h => ?_)
          refine jr_al_n (pc' := 103) rfl rfl rfl (jr_gr (pc' := 106) (r := 87) rfl rfl jlk_12_74 (.inl rfl) rfl hN jd_67 rfl rfl rfl (jr_il_n (pc' := 107) rfl rfl rfl (jr_ic (pc' := 108) rfl rfl (jr_add (pc' := 109) rfl rfl ?_))))
          refine jr_ia (pc' := 110) rfl rfl (jl rfl) hN jd_87 jn_87 jg_w h (fun hc h => ?_)
          refine jr_al_n (pc' := 111) rfl rfl rfl (jr_gr (pc' := 114) (r := 87) rfl rfl jlk_12_74 (.inl rfl) rfl hN jd_67 rfl rfl rfl (jr_il_n (pc' := 115) rfl rfl rfl (jr_ic (pc' := 116) rfl rfl (jr_add (pc' := 117) rfl rfl ?_))))
          refine jr_ia (pc' := 118) rfl rfl (jl rfl) hN jd_87 jn_87 jg_w h (fun hc h => ?_)
          refine jr_cv_i (pc' := 121) [] rfl rfl jlk_12_359 jq_228 jbd_228 (jl rfl) rfl (jl rfl) hu rfl (jk rfl hN) (jd_67.trans jo_228.symm) (fun Q' hq => jc_228 hN (Nat.le_trans (jl rfl) (Nat.le_trans (Nat.le_add_right 8 n) hd)) jg_a jg_a jg_a (jo_b h) hq) (fun p31 hp31 h => ?_)
          refine jr_reg (fun t32 => True) (fun t32 => jp X (px_C X d) px_m227 Q' N 147 [some (.ref 67), some (jv x0), some (jv x1), some (jv s1.1), o2, o3] [] t32 (0, 0)) h (fun t32 ht32 h => ?_) (fun R46 k33 h => ?_)
          · refine jr_inc (pc' := 150) (L' := [_, _, _, _, _, _]) rfl rfl rfl (jl rfl) rfl rfl (jr_goto (pc' := 2) rfl rfl ?_)
            exact k4 (jw (s1.1 + 3), t32) jg_w h _ ho2 _ ho3
          · refine jr_zeq (pa := 137) (pb := 124) rfl rfl rfl (jg_b hp31) h (fun hc h => ?_) (fun hc h => ?_)
            · refine jr_al_n (pc' := 138) rfl rfl rfl (jr_dup (pc' := 139) rfl rfl rfl (jr_gi (pc' := 142) rfl rfl jlk_12_353 (.inl rfl) rfl hN jd_67 rfl rfl (jr_ic (pc' := 143) rfl rfl (jr_add (pc' := 144) rfl rfl (jr_pi (pc' := 147) rfl rfl jlk_12_353 (.inl rfl) rfl hN jd_67 rfl rfl ?_)))))
              refine jr_le h (fun m34 h => ?_)
              exact k33 (m34) trivial h
            · refine jr_al_n (pc' := 125) rfl rfl rfl (jr_dup (pc' := 126) rfl rfl rfl (jr_gi (pc' := 129) rfl rfl jlk_12_350 (.inl rfl) rfl hN jd_67 rfl rfl (jr_ic (pc' := 130) rfl rfl (jr_add (pc' := 131) rfl rfl (jr_pi (pc' := 134) rfl rfl jlk_12_350 (.inl rfl) rfl hN jd_67 rfl rfl ?_)))))
              refine jr_le h (fun m35 h => ?_)
              refine jr_goto (pc' := 147) rfl rfl ?_
              exact k33 (m35) trivial h
      · exact k10 (s1.2) trivial h _ jn_i _ ho2 _ ho3
    · exact k10 (s1.2) trivial h _ jn_i _ ho2 _ ho3

theorem jcG_G {X : Nat × (Nat → Int32)} {N : Nat} (hN : 102 ≤ N) : ∀ n d, 8 + n ≤ d → (∀ {x0 : Int} {x1 : Int} {m : jm} {P : jm → Prop} {Q : px_Q}, jg x0 → jg x1 → jo (jG_G n 0 x0 x1 m) P → (∀ p : jm, True → P p → Q (.inl (none)) (jmem N p)) → px_C X d 227 [.ref 67, jv x0, jv x1] (jmem N m) Q)
  | 0, d, hd => fun _ _ h _ => h.elim
  | n + 1, d, hd => by
    have ih := jcG_G (X := X) (N := N) hN n
    exact fun h0 h1 h hQ => jc_227 (n := n) (hrec_227 := fun d hd => (ih d hd)) hN hd h0 h1 h hQ
theorem jcg_227 {X : Nat × (Nat → Int32)} {N d : Nat} {x0 : Int} {x1 : Int} (hN : 102 ≤ N) (hd : 28 ≤ d) (h0 : jg x0) (h1 : jg x1) {m : jm} {P : jm → Prop} {Q : px_Q} (h : jo (jG_G 20 0 x0 x1 m) P) (hQ : (∀ p : jm, True → P p → Q (.inl (none)) (jmem N p))) : px_C X d 227 [.ref 67, jv x0, jv x1] (jmem N m) Q := (jcG_G hN 20 d hd) h0 h1 h hQ

set_option maxRecDepth 20000 in
set_option maxHeartbeats 1000000 in
theorem jc_222 {X : Nat × (Nat → Int32)} {N d : Nat} {x0 : Int} (hN : 102 ≤ N) (hd : 29 ≤ d) (hx0 : jg x0) {m : jm} {P : Int × jm → Prop} {Q : px_Q} (h : jo (jf_222 x0 m) P) (hQ : ∀ p : Int × jm, jg p.1 → P p → Q (.inl (some (jv p.1))) (jmem N p.2)) : px_C X d 222 [.ref 67, jv x0] (jmem N m) Q := by
  unfold jf_222 at h
  have hu : ju px_m222 (0, 0) := ju_0
  refine jr_in (M := px_m222) (lev := 28) (L := [some (.ref 67), some (jv x0), none, none]) hd rfl jbd_222 (jl rfl) rfl (fun d hd Q' hQ' => ?_)
  refine jr_al_n (pc' := 1) rfl rfl rfl (jr_ic (pc' := 2) rfl rfl (jr_pi (pc' := 5) rfl rfl jlk_12_3 (.inl rfl) rfl hN jd_67 rfl rfl ?_))
  refine jr_le h (fun m1 h => ?_)
  refine jr_al_n (pc' := 6) rfl rfl rfl (jr_il_n (pc' := 7) rfl rfl rfl ?_)
  refine jr_reg (fun t2 => jb t2) (fun t2 => jp X (px_C X d) px_m222 Q' N 30 [some (.ref 67), some (jv x0), none, none] [(jv t2), (.ref 67)] m1 (0, 0)) h (fun t2 ht2 h => ?_) (fun R65 k3 h => ?_)
  · refine jr_ic (pc' := 31) rfl rfl (jr_ic (pc' := 32) rfl rfl ?_)
    refine jr_cv_i (pc' := 35) [] rfl rfl jlk_12_233 jq_194 jbd_194 (jl rfl) rfl (jl rfl) hu rfl (jk rfl hN) (jd_67.trans jo_194.symm) (fun Q' hq => jc_194 hN (Nat.le_trans (jl rfl) hd) (jg_b ht2) jgc_1 jgc_1 (jo_b h) hq) (fun p14 hp14 h => ?_)
    refine jr_zne (pa := 38) (pb := 40) rfl rfl rfl (jg_b hp14) h (fun hc h => ?_) (fun hc h => ?_)
    · refine jr_ic (pc' := 39) rfl rfl ?_
      exact jr_ret rfl hu rfl (hQ' _ _ (hQ ((0 : Int), p14.2) jgc_0 h))
    · refine jr_al_n (pc' := 41) rfl rfl rfl (jr_il_n (pc' := 42) rfl rfl rfl ?_)
      refine jr_cv_v (pc' := 45) [] rfl rfl jlk_12_237 jq_195 jbd_195 (jl rfl) rfl (jl rfl) hu rfl (jk rfl hN) (jd_67.trans jo_195.symm) (fun Q' hq => jc_195 hN (Nat.le_trans (jl rfl) hd) hx0 (jo_b h) hq) (fun p15 hp15 h => ?_)
      refine jr_al_n (pc' := 46) rfl rfl rfl (jr_gi (pc' := 49) rfl rfl jlk_12_206 (.inl rfl) rfl hN jd_67 rfl rfl (jr_bi (pc' := 51) rfl rfl rfl ?_))
      refine jr_cne (pa := 54) (pb := 63) rfl rfl rfl jg_a jgc_16 h (fun hc h => ?_) (fun hc h => ?_)
      · refine jr_al_n (pc' := 55) rfl rfl rfl (jr_ic (pc' := 56) rfl rfl ?_)
        refine jr_cv_i (pc' := 59) [] rfl rfl jlk_12_262 jq_212 jbd_212 (jl rfl) rfl (jl rfl) hu rfl (jk rfl hN) (jd_67.trans jo_212.symm) (fun Q' hq => jc_212 hN (Nat.le_trans (jl rfl) hd) jgc_0 (jo_b h) hq) (fun p16 hp16 h => ?_)
        refine jr_pop (pc' := 60) rfl rfl rfl (jr_bi (pc' := 62) rfl rfl rfl ?_)
        exact jr_ret rfl hu rfl (hQ' _ _ (hQ ((-20 : Int), p16.2) jgc_m20 h))
      · refine jr_al_n (pc' := 64) rfl rfl rfl (jr_ic (pc' := 65) rfl rfl (jr_pi (pc' := 68) rfl rfl jlk_12_321 (.inl rfl) rfl hN jd_67 rfl rfl ?_))
        refine jr_le h (fun m17 h => ?_)
        refine jr_reg (fun t21 => True) (fun t21 => jp X (px_C X d) px_m222 Q' N 89 [some (.ref 67), some (jv x0), none, none] [] t21 (0, 0)) h (fun t21 ht21 h => ?_) (fun R23 k22 h => ?_)
        · refine jr_al_n (pc' := 90) rfl rfl rfl (jr_ic (pc' := 91) rfl rfl ?_)
          refine jr_cv_i (pc' := 94) [] rfl rfl jlk_12_262 jq_212 jbd_212 (jl rfl) rfl (jl rfl) hu rfl (jk rfl hN) (jd_67.trans jo_212.symm) (fun Q' hq => jc_212 hN (Nat.le_trans (jl rfl) hd) jgc_0 (jo_b h) hq) (fun p37 hp37 h => ?_)
          refine jr_is_n (pc' := 95) (L' := [_, _, _, _]) rfl rfl (jl rfl) rfl rfl (jr_al_n (pc' := 96) rfl rfl rfl (jr_gi (pc' := 99) rfl rfl jlk_12_129 (.inl rfl) rfl hN jd_67 rfl rfl (jr_ic (pc' := 100) rfl rfl ?_)))
          refine jr_ceq (pa := 105) (pb := 103) rfl rfl rfl jg_a jgc_m1 h (fun hc h => ?_) (fun hc h => ?_)
          · refine jr_al_n (pc' := 106) rfl rfl rfl (jr_al_n (pc' := 107) rfl rfl rfl (jr_gr (pc' := 110) (r := 86) rfl rfl jlk_12_71 (.inl rfl) rfl hN jd_67 rfl rfl rfl (jr_al_n (pc' := 111) rfl rfl rfl (jr_gr (pc' := 114) (r := 87) rfl rfl jlk_12_74 (.inl rfl) rfl hN jd_67 rfl rfl rfl (jr_al_n (pc' := 115) rfl rfl rfl ?_)))))
            refine jr_gi (pc' := 118) rfl rfl jlk_12_321 (.inl rfl) rfl hN jd_67 rfl rfl ?_
            refine jr_cv_v (pc' := 121) [] rfl rfl jlk_12_196 jq_190 jbd_190 (jl rfl) rfl (jl rfl) hu rfl (jk rfl hN) (jd_67.trans jo_190.symm) (fun Q' hq => jc_190 hN (Nat.le_trans (jl rfl) hd) ⟨jl rfl, jd_86⟩ ⟨jl rfl, jd_87⟩ jg_a (jo_b h) hq) (fun p38 hp38 h => ?_)
            refine jr_ic (pc' := 122) rfl rfl (jr_is_n (pc' := 123) (L' := [_, _, _, _]) rfl rfl (jl rfl) rfl rfl ?_)
            refine jr_reg (fun t42 => True) (fun t42 => ∀ o43, jn o43 → jp X (px_C X d) px_m222 Q' N 155 [some (.ref 67), some (jv x0), some (jv p37.1), o43] [] t42 (0, 0)) h (fun t42 ht42 h o43 ho43 => ?_) (fun R45 k44 h => ?_)
            · refine jr_al_n (pc' := 156) rfl rfl rfl (jr_dup (pc' := 157) rfl rfl rfl (jr_gi (pc' := 160) rfl rfl jlk_12_206 (.inl rfl) rfl hN jd_67 rfl rfl (jr_ic (pc' := 161) rfl rfl (jr_add (pc' := 162) rfl rfl (jr_pi (pc' := 165) rfl rfl jlk_12_206 (.inl rfl) rfl hN jd_67 rfl rfl ?_)))))
              refine jr_le h (fun m57 h => ?_)
              refine jr_al_n (pc' := 166) rfl rfl rfl ?_
              refine jr_cv_v (pc' := 169) [] rfl rfl jlk_12_344 jq_226 jbd_226 (jl rfl) rfl (jl rfl) hu rfl (jk rfl hN) (jd_67.trans jo_226.symm) (fun Q' hq => jc_226 hN (Nat.le_trans (jl rfl) hd)  (jo_b h) hq) (fun p58 hp58 h => ?_)
              refine jr_al_n (pc' := 170) rfl rfl rfl (jr_ic (pc' := 171) rfl rfl (jr_pi (pc' := 174) rfl rfl jlk_12_347 (.inl rfl) rfl hN jd_67 rfl rfl ?_))
              refine jr_le h (fun m59 h => ?_)
              refine jr_al_n (pc' := 175) rfl rfl rfl (jr_ic (pc' := 176) rfl rfl (jr_pi (pc' := 179) rfl rfl jlk_12_350 (.inl rfl) rfl hN jd_67 rfl rfl ?_))
              refine jr_le h (fun m60 h => ?_)
              refine jr_al_n (pc' := 180) rfl rfl rfl (jr_ic (pc' := 181) rfl rfl (jr_pi (pc' := 184) rfl rfl jlk_12_353 (.inl rfl) rfl hN jd_67 rfl rfl ?_))
              refine jr_le h (fun m61 h => ?_)
              refine jr_al_n (pc' := 185) rfl rfl rfl (jr_ic (pc' := 186) rfl rfl (jr_al_n (pc' := 187) rfl rfl rfl (jr_gi (pc' := 190) rfl rfl jlk_12_321 (.inl rfl) rfl hN jd_67 rfl rfl ?_)))
              refine jr_cv_v (pc' := 193) [] rfl rfl jlk_12_356 jq_227 jbd_227 (jl rfl) rfl (jl rfl) hu rfl (jk rfl hN) (jd_67.trans jo_227.symm) (fun Q' hq => jcg_227 hN (Nat.le_trans (jl rfl) hd) jgc_0 jg_a (jo_b h) hq) (fun p62 hp62 h => ?_)
              refine jr_al_n (pc' := 194) rfl rfl rfl (jr_al_n (pc' := 195) rfl rfl rfl (jr_gr (pc' := 198) (r := 89) rfl rfl jlk_12_80 (.inl rfl) rfl hN jd_67 rfl rfl rfl (jr_al_n (pc' := 199) rfl rfl rfl (jr_gr (pc' := 202) (r := 88) rfl rfl jlk_12_77 (.inl rfl) rfl hN jd_67 rfl rfl rfl (jr_bi (pc' := 204) rfl rfl rfl ?_)))))
              refine jr_cv_v (pc' := 207) [] rfl rfl jlk_12_196 jq_190 jbd_190 (jl rfl) rfl (jl rfl) hu rfl (jk rfl hN) (jd_67.trans jo_190.symm) (fun Q' hq => jc_190 hN (Nat.le_trans (jl rfl) hd) ⟨jl rfl, jd_89⟩ ⟨jl rfl, jd_88⟩ jgc_68 (jo_b h) hq) (fun p63 hp63 h => ?_)
              refine jr_al_n (pc' := 208) rfl rfl rfl (jr_al_n (pc' := 209) rfl rfl rfl (jr_gi (pc' := 212) rfl rfl jlk_12_353 (.inl rfl) rfl hN jd_67 rfl rfl (jr_pi (pc' := 215) rfl rfl jlk_12_212 (.inl rfl) rfl hN jd_67 rfl rfl ?_)))
              refine jr_le h (fun m64 h => ?_)
              refine jr_al_n (pc' := 216) rfl rfl rfl (jr_gi (pc' := 219) rfl rfl jlk_12_350 (.inl rfl) rfl hN jd_67 rfl rfl ?_)
              exact jr_ret rfl hu rfl (hQ' _ _ (hQ (ja m64 67 42, m64) jg_a h))
            · refine jr_lp (fun s39 => jg s39.1) (fun s39 => jp X (px_C X d) px_m222 Q' N 123 [some (.ref 67), some (jv x0), some (jv p37.1), some (jv s39.1)] [] s39.2 (0, 0)) h jgc_0 (fun s39 hs39 R41 k40 h => ?_)
              refine jr_il_n (pc' := 124) rfl rfl rfl (jr_bi (pc' := 126) rfl rfl rfl ?_)
              refine jr_cge (pa := 129) (pb := 155) rfl rfl rfl hs39 jgc_68 h (fun hc h => ?_) (fun hc h => ?_)
              · refine jr_al_n (pc' := 130) rfl rfl rfl (jr_gr (pc' := 133) (r := 90) rfl rfl jlk_12_83 (.inl rfl) rfl hN jd_67 rfl rfl rfl (jr_bi (pc' := 135) rfl rfl rfl (jr_al_n (pc' := 136) rfl rfl rfl (jr_gi (pc' := 139) rfl rfl jlk_12_206 (.inl rfl) rfl hN jd_67 rfl rfl (jr_mul (pc' := 140) rfl rfl ?_)))))
                refine jr_il_n (pc' := 141) rfl rfl rfl (jr_add (pc' := 142) rfl rfl (jr_al_n (pc' := 143) rfl rfl rfl (jr_gr (pc' := 146) (r := 88) rfl rfl jlk_12_77 (.inl rfl) rfl hN jd_67 rfl rfl rfl (jr_il_n (pc' := 147) rfl rfl rfl ?_))))
                refine jr_ia (pc' := 148) rfl rfl (jl rfl) hN jd_88 jn_88 hs39 h (fun hc h => ?_)
                refine jr_ist (pc' := 149) rfl rfl (jl rfl) hN jd_90 jn_90 jg_w h (fun hc h => ?_)
                refine jr_le h (fun m46 h => ?_)
                refine jr_inc (pc' := 152) (L' := [_, _, _, _]) rfl rfl rfl (jl rfl) rfl rfl (jr_goto (pc' := 123) rfl rfl ?_)
                exact k40 (jw (s39.1 + 1), m46) jg_w h
              · exact k44 (s39.2) trivial h _ jn_i
          · refine jr_il_n (pc' := 104) rfl rfl rfl ?_
            exact jr_ret rfl hu rfl (hQ' _ _ (hQ (p37.1, p37.2) hp37 h))
        · refine jr_lp (fun s18 => True) (fun s18 => jp X (px_C X d) px_m222 Q' N 68 [some (.ref 67), some (jv x0), none, none] [] s18 (0, 0)) h trivial (fun s18 hs18 R20 k19 h => ?_)
          refine jr_al_n (pc' := 69) rfl rfl rfl ?_
          refine jr_cv_p (pc' := 72) [] rfl rfl jlk_12_158 jq_196 jbd_196 (jl rfl) rfl (jl rfl) hu rfl (jk rfl hN) (jd_67.trans jo_196.symm) (fun Q' hq => jc_196 hN (Nat.le_trans (jl rfl) hd)  (jo_b h) hq) (fun p24 hp24 h => ?_)
          refine jr_zeq (pa := 89) (pb := 75) rfl rfl rfl (jg_b hp24) h (fun hc h => ?_) (fun hc h => ?_)
          · exact k22 (s18) trivial h
          · refine jr_al_n (pc' := 76) rfl rfl rfl ?_
            refine jr_cv_i (pc' := 79) [] rfl rfl jlk_12_241 jq_197 jbd_197 (jl rfl) rfl (jl rfl) hu rfl (jk rfl hN) (jd_67.trans jo_197.symm) (fun Q' hq => jc_197 hN (Nat.le_trans (jl rfl) hd)  (jo_b h) hq) (fun p25 hp25 h => ?_)
            refine jr_zeq (pa := 89) (pb := 82) rfl rfl rfl (jg_b hp25) h (fun hc h => ?_) (fun hc h => ?_)
            · exact k22 (p25.2) trivial h
            · refine jr_al_n (pc' := 83) rfl rfl rfl ?_
              refine jr_cv_v (pc' := 86) [] rfl rfl jlk_12_341 jq_223 jbd_223 (jl rfl) rfl (jl rfl) hu rfl (jk rfl hN) (jd_67.trans jo_223.symm) (fun Q' hq => jcg_223 hN (Nat.le_trans (jl rfl) hd)  (jo_b h) hq) (fun p26 hp26 h => ?_)
              refine jr_goto (pc' := 68) rfl rfl ?_
              exact k19 (p26) trivial h
  · refine jr_zlt (pa := 29) (pb := 10) rfl rfl rfl hx0 h (fun hc h => ?_) (fun hc h => ?_)
    · refine jr_ic (pc' := 30) rfl rfl ?_
      exact k3 ((0 : Int)) jb_0 h
    · refine jr_il_n (pc' := 11) rfl rfl rfl (jr_al_n (pc' := 12) rfl rfl rfl (jr_gi (pc' := 15) rfl rfl jlk_12_126 (.inl rfl) rfl hN jd_67 rfl rfl ?_))
      refine jr_cgt (pa := 29) (pb := 18) rfl rfl rfl hx0 jg_a h (fun hc h => ?_) (fun hc h => ?_)
      · refine jr_ic (pc' := 30) rfl rfl ?_
        exact k3 ((0 : Int)) jb_0 h
      · refine jr_il_n (pc' := 19) rfl rfl rfl (jr_si (pc' := 22) rfl rfl rfl ?_)
        refine jr_cgt (pa := 29) (pb := 25) rfl rfl rfl hx0 jgc_150 h (fun hc h => ?_) (fun hc h => ?_)
        · refine jr_ic (pc' := 30) rfl rfl ?_
          exact k3 ((0 : Int)) jb_0 h
        · refine jr_ic (pc' := 26) rfl rfl (jr_goto (pc' := 30) rfl rfl ?_)
          exact k3 ((1 : Int)) jb_1 h

set_option maxRecDepth 20000 in
set_option maxHeartbeats 1000000 in
theorem jc_244 {X : Nat × (Nat → Int32)} {N d : Nat} {x0 : Int} (hN : 102 ≤ N) (hd : 3 ≤ d) (hx0 : jg x0) {m : jm} {P : Int × jm → Prop} {Q : px_Q} (h : jo (jf_244 x0 m) P) (hQ : ∀ p : Int × jm, jg p.1 → P p → Q (.inl (some (jv p.1))) (jmem N p.2)) : px_C X d 244 [.ref 67, jv x0] (jmem N m) Q := by
  unfold jf_244 at h
  have hu : ju px_m244 (0, 0) := ju_0
  refine jr_in (M := px_m244) (lev := 2) (L := [some (.ref 67), some (jv x0), none, none, none, none]) hd rfl jbd_244 (jl rfl) rfl (fun d hd Q' hQ' => ?_)
  refine jr_al_n (pc' := 1) rfl rfl rfl (jr_ic (pc' := 2) rfl rfl (jr_pi (pc' := 5) rfl rfl jlk_12_3 (.inl rfl) rfl hN jd_67 rfl rfl ?_))
  refine jr_le h (fun m1 h => ?_)
  refine jr_al_n (pc' := 6) rfl rfl rfl (jr_il_n (pc' := 7) rfl rfl rfl ?_)
  refine jr_reg (fun t2 => jb t2) (fun t2 => jp X (px_C X d) px_m244 Q' N 29 [some (.ref 67), some (jv x0), none, none, none, none] [(jv t2), (.ref 67)] m1 (0, 0)) h (fun t2 ht2 h => ?_) (fun R71 k3 h => ?_)
  · refine jr_ic (pc' := 30) rfl rfl (jr_ic (pc' := 31) rfl rfl ?_)
    refine jr_cv_i (pc' := 34) [] rfl rfl jlk_12_233 jq_194 jbd_194 (jl rfl) rfl (jl rfl) hu rfl (jk rfl hN) (jd_67.trans jo_194.symm) (fun Q' hq => jc_194 hN (Nat.le_trans (jl rfl) hd) (jg_b ht2) jgc_1 jgc_1 (jo_b h) hq) (fun p14 hp14 h => ?_)
    refine jr_zne (pa := 37) (pb := 39) rfl rfl rfl (jg_b hp14) h (fun hc h => ?_) (fun hc h => ?_)
    · refine jr_ic (pc' := 38) rfl rfl ?_
      exact jr_ret rfl hu rfl (hQ' _ _ (hQ ((0 : Int), p14.2) jgc_0 h))
    · refine jr_al_n (pc' := 40) rfl rfl rfl (jr_il_n (pc' := 41) rfl rfl rfl ?_)
      refine jr_cv_v (pc' := 44) [] rfl rfl jlk_12_237 jq_195 jbd_195 (jl rfl) rfl (jl rfl) hu rfl (jk rfl hN) (jd_67.trans jo_195.symm) (fun Q' hq => jc_195 hN (Nat.le_trans (jl rfl) hd) hx0 (jo_b h) hq) (fun p15 hp15 h => ?_)
      refine jr_ic (pc' := 45) rfl rfl (jr_is_n (pc' := 46) (L' := [_, _, _, _, _, _]) rfl rfl (jl rfl) rfl rfl ?_)
      refine jr_reg (fun t19 => True) (fun t19 => ∀ o20, jn o20 → jp X (px_C X d) px_m244 Q' N 65 [some (.ref 67), some (jv x0), o20, none, none, none] [] t19 (0, 0)) h (fun t19 ht19 h o20 ho20 => ?_) (fun R22 k21 h => ?_)
      · refine jr_ic (pc' := 66) rfl rfl (jr_is_n (pc' := 67) (L' := [_, _, _, _, _, _]) rfl rfl (jl rfl) rfl rfl ?_)
        refine jr_lp (fun s34 => jg s34.1) (fun s34 => ∀ o35, jn o35 → ∀ o36, jn o36 → ∀ o37, jn o37 → jp X (px_C X d) px_m244 Q' N 67 [some (.ref 67), some (jv x0), some (jv s34.1), o35, o36, o37] [] s34.2 (0, 0)) h jgc_0 (fun s34 hs34 R39 k38 h o35 ho35 o36 ho36 o37 ho37 => ?_) _ jn_n _ jn_n _ jn_n
        refine jr_al_n (pc' := 68) rfl rfl rfl ?_
        refine jr_cv_p (pc' := 71) [] rfl rfl jlk_12_158 jq_196 jbd_196 (jl rfl) rfl (jl rfl) hu rfl (jk rfl hN) (jd_67.trans jo_196.symm) (fun Q' hq => jc_196 hN (Nat.le_trans (jl rfl) hd)  (jo_b h) hq) (fun p40 hp40 h => ?_)
        refine jr_zeq (pa := 163) (pb := 74) rfl rfl rfl (jg_b hp40) h (fun hc h => ?_) (fun hc h => ?_)
        · refine jr_al_n (pc' := 164) rfl rfl rfl (jr_il_n (pc' := 165) rfl rfl rfl ?_)
          refine jr_cv_i (pc' := 168) [] rfl rfl jlk_12_262 jq_212 jbd_212 (jl rfl) rfl (jl rfl) hu rfl (jk rfl hN) (jd_67.trans jo_212.symm) (fun Q' hq => jc_212 hN (Nat.le_trans (jl rfl) hd) hs34 (jo_b h) hq) (fun p41 hp41 h => ?_)
          refine jr_is_n (pc' := 169) (L' := [_, _, _, _, _, _]) rfl rfl (jl rfl) rfl rfl (jr_al_n (pc' := 170) rfl rfl rfl (jr_gi (pc' := 173) rfl rfl jlk_12_129 (.inl rfl) rfl hN jd_67 rfl rfl (jr_ic (pc' := 174) rfl rfl ?_)))
          refine jr_ceq (pa := 179) (pb := 177) rfl rfl rfl jg_a jgc_m1 h (fun hc h => ?_) (fun hc h => ?_)
          · refine jr_al_n (pc' := 180) rfl rfl rfl (jr_il_n (pc' := 181) rfl rfl rfl (jr_pi (pc' := 184) rfl rfl jlk_12_203 (.inl rfl) rfl hN jd_67 rfl rfl ?_))
            refine jr_le h (fun m42 h => ?_)
            refine jr_al_n (pc' := 185) rfl rfl rfl (jr_al_n (pc' := 186) rfl rfl rfl (jr_gr (pc' := 189) (r := 91) rfl rfl jlk_12_86 (.inl rfl) rfl hN jd_67 rfl rfl rfl (jr_al_n (pc' := 190) rfl rfl rfl (jr_gr (pc' := 193) (r := 92) rfl rfl jlk_12_89 (.inl rfl) rfl hN jd_67 rfl rfl rfl (jr_bi (pc' := 195) rfl rfl rfl ?_)))))
            refine jr_cv_v (pc' := 198) [] rfl rfl jlk_12_196 jq_190 jbd_190 (jl rfl) rfl (jl rfl) hu rfl (jk rfl hN) (jd_67.trans jo_190.symm) (fun Q' hq => jc_190 hN (Nat.le_trans (jl rfl) hd) ⟨jl rfl, jd_91⟩ ⟨jl rfl, jd_92⟩ jgc_12 (jo_b h) hq) (fun p43 hp43 h => ?_)
            refine jr_il_n (pc' := 199) rfl rfl rfl ?_
            exact jr_ret rfl hu rfl (hQ' _ _ (hQ (p41.1, p43) hp41 h))
          · refine jr_il_n (pc' := 178) rfl rfl rfl ?_
            exact jr_ret rfl hu rfl (hQ' _ _ (hQ (p41.1, p41.2) hp41 h))
        · refine jr_al_n (pc' := 75) rfl rfl rfl ?_
          refine jr_cv_i (pc' := 78) [] rfl rfl jlk_12_241 jq_197 jbd_197 (jl rfl) rfl (jl rfl) hu rfl (jk rfl hN) (jd_67.trans jo_197.symm) (fun Q' hq => jc_197 hN (Nat.le_trans (jl rfl) hd)  (jo_b h) hq) (fun p44 hp44 h => ?_)
          refine jr_zeq (pa := 163) (pb := 81) rfl rfl rfl (jg_b hp44) h (fun hc h => ?_) (fun hc h => ?_)
          · refine jr_al_n (pc' := 164) rfl rfl rfl (jr_il_n (pc' := 165) rfl rfl rfl ?_)
            refine jr_cv_i (pc' := 168) [] rfl rfl jlk_12_262 jq_212 jbd_212 (jl rfl) rfl (jl rfl) hu rfl (jk rfl hN) (jd_67.trans jo_212.symm) (fun Q' hq => jc_212 hN (Nat.le_trans (jl rfl) hd) hs34 (jo_b h) hq) (fun p45 hp45 h => ?_)
            refine jr_is_n (pc' := 169) (L' := [_, _, _, _, _, _]) rfl rfl (jl rfl) rfl rfl (jr_al_n (pc' := 170) rfl rfl rfl (jr_gi (pc' := 173) rfl rfl jlk_12_129 (.inl rfl) rfl hN jd_67 rfl rfl (jr_ic (pc' := 174) rfl rfl ?_)))
            refine jr_ceq (pa := 179) (pb := 177) rfl rfl rfl jg_a jgc_m1 h (fun hc h => ?_) (fun hc h => ?_)
            · refine jr_al_n (pc' := 180) rfl rfl rfl (jr_il_n (pc' := 181) rfl rfl rfl (jr_pi (pc' := 184) rfl rfl jlk_12_203 (.inl rfl) rfl hN jd_67 rfl rfl ?_))
              refine jr_le h (fun m46 h => ?_)
              refine jr_al_n (pc' := 185) rfl rfl rfl (jr_al_n (pc' := 186) rfl rfl rfl (jr_gr (pc' := 189) (r := 91) rfl rfl jlk_12_86 (.inl rfl) rfl hN jd_67 rfl rfl rfl (jr_al_n (pc' := 190) rfl rfl rfl (jr_gr (pc' := 193) (r := 92) rfl rfl jlk_12_89 (.inl rfl) rfl hN jd_67 rfl rfl rfl (jr_bi (pc' := 195) rfl rfl rfl ?_)))))
              refine jr_cv_v (pc' := 198) [] rfl rfl jlk_12_196 jq_190 jbd_190 (jl rfl) rfl (jl rfl) hu rfl (jk rfl hN) (jd_67.trans jo_190.symm) (fun Q' hq => jc_190 hN (Nat.le_trans (jl rfl) hd) ⟨jl rfl, jd_91⟩ ⟨jl rfl, jd_92⟩ jgc_12 (jo_b h) hq) (fun p47 hp47 h => ?_)
              refine jr_il_n (pc' := 199) rfl rfl rfl ?_
              exact jr_ret rfl hu rfl (hQ' _ _ (hQ (p45.1, p47) hp45 h))
            · refine jr_il_n (pc' := 178) rfl rfl rfl ?_
              exact jr_ret rfl hu rfl (hQ' _ _ (hQ (p45.1, p45.2) hp45 h))
          · refine jr_al_n (pc' := 82) rfl rfl rfl (jr_gi (pc' := 85) rfl rfl jlk_12_135 (.inl rfl) rfl hN jd_67 rfl rfl (jr_is_n (pc' := 86) (L' := [_, _, _, _, _, _]) rfl rfl (jl rfl) rfl rfl (jr_al_n (pc' := 87) rfl rfl rfl (jr_ic (pc' := 88) rfl rfl (jr_al_n (pc' := 89) rfl rfl rfl ?_)))))
            refine jr_gi (pc' := 92) rfl rfl jlk_12_187 (.inl rfl) rfl hN jd_67 rfl rfl (jr_ic (pc' := 93) rfl rfl (jr_sub (pc' := 94) rfl rfl ?_))
            refine jr_cv_i (pc' := 97) [] rfl rfl jlk_12_215 jq_207 jbd_207 (jl rfl) rfl (jl rfl) hu rfl (jk rfl hN) (jd_67.trans jo_207.symm) (fun Q' hq => jc_207 hN (Nat.le_trans (jl rfl) hd) jgc_0 jg_w (jo_b h) hq) (fun p48 hp48 h => ?_)
            refine jr_is (pc' := 99) (L' := [_, _, _, _, _, _]) rfl rfl (jl rfl) rfl rfl (jr_al_n (pc' := 100) rfl rfl rfl ?_)
            refine jr_cv_p (pc' := 103) [] rfl rfl jlk_12_158 jq_196 jbd_196 (jl rfl) rfl (jl rfl) hu rfl (jk rfl hN) (jd_67.trans jo_196.symm) (fun Q' hq => jc_196 hN (Nat.le_trans (jl rfl) hd)  (jo_b h) hq) (fun p49 hp49 h => ?_)
            refine jr_reg (fun t50 => True) (fun t50 => jp X (px_C X d) px_m244 Q' N 123 [some (.ref 67), some (jv x0), some (jv s34.1), some (jv (ja p44.2 67 4)), some (jv p48.1), o37] [] t50 (0, 0)) h (fun t50 ht50 h => ?_) (fun R70 k51 h => ?_)
            · refine jr_al_n (pc' := 124) rfl rfl rfl (jr_ic (pc' := 125) rfl rfl (jr_bi (pc' := 127) rfl rfl rfl ?_))
              refine jr_cv_i (pc' := 130) [] rfl rfl jlk_12_215 jq_207 jbd_207 (jl rfl) rfl (jl rfl) hu rfl (jk rfl hN) (jd_67.trans jo_207.symm) (fun Q' hq => jc_207 hN (Nat.le_trans (jl rfl) hd) jgc_0 jgc_99 (jo_b h) hq) (fun p63 hp63 h => ?_)
              refine jr_is (pc' := 132) (L' := [_, _, _, _, _, _]) rfl rfl (jl rfl) rfl rfl (jr_al_n (pc' := 133) rfl rfl rfl (jr_bi (pc' := 135) rfl rfl rfl ?_))
              refine jr_cv_v (pc' := 138) [] rfl rfl jlk_12_259 jq_211 jbd_211 (jl rfl) rfl (jl rfl) hu rfl (jk rfl hN) (jd_67.trans jo_211.symm) (fun Q' hq => jc_211 hN (Nat.le_trans (jl rfl) hd) jgc_59 (jo_b h) hq) (fun p64 hp64 h => ?_)
              refine jr_al_n (pc' := 139) rfl rfl rfl ?_
              refine jr_cv_p (pc' := 142) [] rfl rfl jlk_12_158 jq_196 jbd_196 (jl rfl) rfl (jl rfl) hu rfl (jk rfl hN) (jd_67.trans jo_196.symm) (fun Q' hq => jc_196 hN (Nat.le_trans (jl rfl) hd)  (jo_b h) hq) (fun p65 hp65 h => ?_)
              refine jr_zne (pa := 145) (pb := 148) rfl rfl rfl (jg_b hp65) h (fun hc h => ?_) (fun hc h => ?_)
              · refine jr_goto (pc' := 163) rfl rfl (jr_al_n (pc' := 164) rfl rfl rfl (jr_il_n (pc' := 165) rfl rfl rfl ?_))
                refine jr_cv_i (pc' := 168) [] rfl rfl jlk_12_262 jq_212 jbd_212 (jl rfl) rfl (jl rfl) hu rfl (jk rfl hN) (jd_67.trans jo_212.symm) (fun Q' hq => jc_212 hN (Nat.le_trans (jl rfl) hd) hs34 (jo_b h) hq) (fun p66 hp66 h => ?_)
                refine jr_is_n (pc' := 169) (L' := [_, _, _, _, _, _]) rfl rfl (jl rfl) rfl rfl (jr_al_n (pc' := 170) rfl rfl rfl (jr_gi (pc' := 173) rfl rfl jlk_12_129 (.inl rfl) rfl hN jd_67 rfl rfl (jr_ic (pc' := 174) rfl rfl ?_)))
                refine jr_ceq (pa := 179) (pb := 177) rfl rfl rfl jg_a jgc_m1 h (fun hc h => ?_) (fun hc h => ?_)
                · refine jr_al_n (pc' := 180) rfl rfl rfl (jr_il_n (pc' := 181) rfl rfl rfl (jr_pi (pc' := 184) rfl rfl jlk_12_203 (.inl rfl) rfl hN jd_67 rfl rfl ?_))
                  refine jr_le h (fun m67 h => ?_)
                  refine jr_al_n (pc' := 185) rfl rfl rfl (jr_al_n (pc' := 186) rfl rfl rfl (jr_gr (pc' := 189) (r := 91) rfl rfl jlk_12_86 (.inl rfl) rfl hN jd_67 rfl rfl rfl (jr_al_n (pc' := 190) rfl rfl rfl (jr_gr (pc' := 193) (r := 92) rfl rfl jlk_12_89 (.inl rfl) rfl hN jd_67 rfl rfl rfl (jr_bi (pc' := 195) rfl rfl rfl ?_)))))
                  refine jr_cv_v (pc' := 198) [] rfl rfl jlk_12_196 jq_190 jbd_190 (jl rfl) rfl (jl rfl) hu rfl (jk rfl hN) (jd_67.trans jo_190.symm) (fun Q' hq => jc_190 hN (Nat.le_trans (jl rfl) hd) ⟨jl rfl, jd_91⟩ ⟨jl rfl, jd_92⟩ jgc_12 (jo_b h) hq) (fun p68 hp68 h => ?_)
                  refine jr_il_n (pc' := 199) rfl rfl rfl ?_
                  exact jr_ret rfl hu rfl (hQ' _ _ (hQ (p66.1, p68) hp66 h))
                · refine jr_il_n (pc' := 178) rfl rfl rfl ?_
                  exact jr_ret rfl hu rfl (hQ' _ _ (hQ (p66.1, p66.2) hp66 h))
              · refine jr_al_n (pc' := 149) rfl rfl rfl (jr_gr (pc' := 152) (r := 91) rfl rfl jlk_12_86 (.inl rfl) rfl hN jd_67 rfl rfl rfl (jr_il (pc' := 154) rfl rfl rfl (jr_il (pc' := 156) rfl rfl rfl ?_)))
                refine jr_ist (pc' := 157) rfl rfl (jl rfl) hN jd_91 jn_91 hp48 h (fun hc h => ?_)
                refine jr_le h (fun m69 h => ?_)
                refine jr_inc (pc' := 160) (L' := [_, _, _, _, _, _]) rfl rfl rfl (jl rfl) rfl rfl (jr_goto (pc' := 67) rfl rfl ?_)
                exact k38 (jw (s34.1 + 1), m69) jg_w h _ jn_i _ jn_i _ jn_i
            · refine jr_zeq (pa := 123) (pb := 106) rfl rfl rfl (jg_b hp49) h (fun hc h => ?_) (fun hc h => ?_)
              · exact k51 (p48.2) trivial h
              · refine jr_al_n (pc' := 107) rfl rfl rfl (jr_gr (pc' := 110) (r := 91) rfl rfl jlk_12_86 (.inl rfl) rfl hN jd_67 rfl rfl rfl (jr_il (pc' := 112) rfl rfl rfl ?_))
                refine jr_ia (pc' := 113) rfl rfl (jl rfl) hN jd_91 jn_91 hp48 h (fun hc h => ?_)
                refine jr_ic (pc' := 114) rfl rfl ?_
                refine jr_ceq (pa := 123) (pb := 117) rfl rfl rfl jg_a jgc_m1 h (fun hc h => ?_) (fun hc h => ?_)
                · exact k51 (p48.2) trivial h
                · refine jr_al_n (pc' := 118) rfl rfl rfl (jr_ic (pc' := 119) rfl rfl (jr_il_n (pc' := 120) rfl rfl rfl ?_))
                  refine jr_cv_v (pc' := 123) [] rfl rfl jlk_12_165 jq_203 jbd_203 (jl rfl) rfl (jl rfl) hu rfl (jk rfl hN) (jd_67.trans jo_203.symm) (fun Q' hq => jc_203 hN (Nat.le_trans (jl rfl) hd) jgc_2 jg_a (jo_b h) hq) (fun p52 hp52 h => ?_)
                  exact k51 (p52) trivial h
      · refine jr_lp (fun s16 => jg s16.1) (fun s16 => jp X (px_C X d) px_m244 Q' N 46 [some (.ref 67), some (jv x0), some (jv s16.1), none, none, none] [] s16.2 (0, 0)) h jgc_0 (fun s16 hs16 R18 k17 h => ?_)
        refine jr_il_n (pc' := 47) rfl rfl rfl (jr_bi (pc' := 49) rfl rfl rfl ?_)
        refine jr_cge (pa := 52) (pb := 65) rfl rfl rfl hs16 jgc_12 h (fun hc h => ?_) (fun hc h => ?_)
        · refine jr_al_n (pc' := 53) rfl rfl rfl (jr_gr (pc' := 56) (r := 91) rfl rfl jlk_12_86 (.inl rfl) rfl hN jd_67 rfl rfl rfl (jr_il_n (pc' := 57) rfl rfl rfl (jr_ic (pc' := 58) rfl rfl ?_)))
          refine jr_ist (pc' := 59) rfl rfl (jl rfl) hN jd_91 jn_91 hs16 h (fun hc h => ?_)
          refine jr_le h (fun m23 h => ?_)
          refine jr_inc (pc' := 62) (L' := [_, _, _, _, _, _]) rfl rfl rfl (jl rfl) rfl rfl (jr_goto (pc' := 46) rfl rfl ?_)
          exact k17 (jw (s16.1 + 1), m23) jg_w h
        · exact k21 (s16.2) trivial h _ jn_i
  · refine jr_zlt (pa := 28) (pb := 10) rfl rfl rfl hx0 h (fun hc h => ?_) (fun hc h => ?_)
    · refine jr_ic (pc' := 29) rfl rfl ?_
      exact k3 ((0 : Int)) jb_0 h
    · refine jr_il_n (pc' := 11) rfl rfl rfl (jr_al_n (pc' := 12) rfl rfl rfl (jr_gi (pc' := 15) rfl rfl jlk_12_126 (.inl rfl) rfl hN jd_67 rfl rfl ?_))
      refine jr_cgt (pa := 28) (pb := 18) rfl rfl rfl hx0 jg_a h (fun hc h => ?_) (fun hc h => ?_)
      · refine jr_ic (pc' := 29) rfl rfl ?_
        exact k3 ((0 : Int)) jb_0 h
      · refine jr_il_n (pc' := 19) rfl rfl rfl (jr_bi (pc' := 21) rfl rfl rfl ?_)
        refine jr_cgt (pa := 28) (pb := 24) rfl rfl rfl hx0 jgc_100 h (fun hc h => ?_) (fun hc h => ?_)
        · refine jr_ic (pc' := 29) rfl rfl ?_
          exact k3 ((0 : Int)) jb_0 h
        · refine jr_ic (pc' := 25) rfl rfl (jr_goto (pc' := 29) rfl rfl ?_)
          exact k3 ((1 : Int)) jb_1 h

set_option maxRecDepth 20000 in
set_option maxHeartbeats 1000000 in
theorem jc_245 {X : Nat × (Nat → Int32)} {N d : Nat}  (hN : 102 ≤ N) (hd : 1 ≤ d)  {m : jm} {P : Int × jm → Prop} {Q : px_Q} (h : jo (jf_245 m) P) (hQ : ∀ p : Int × jm, jg p.1 → P p → Q (.inl (some (jv p.1))) (jmem N p.2)) : px_C X d 245 [.ref 67] (jmem N m) Q := by
  unfold jf_245 at h
  have hu : ju px_m245 (0, 0) := ju_0
  refine jr_in (M := px_m245) (lev := 0) (L := [some (.ref 67), none]) hd rfl jbd_245 (jl rfl) rfl (fun d hd Q' hQ' => ?_)
  refine jr_al_n (pc' := 1) rfl rfl rfl (jr_ic (pc' := 2) rfl rfl (jr_pi (pc' := 5) rfl rfl jlk_12_3 (.inl rfl) rfl hN jd_67 rfl rfl ?_))
  refine jr_le h (fun m1 h => ?_)
  refine jr_al_n (pc' := 6) rfl rfl rfl (jr_gi (pc' := 9) rfl rfl jlk_12_206 (.inl rfl) rfl hN jd_67 rfl rfl ?_)
  refine jr_zne (pa := 12) (pb := 14) rfl rfl rfl jg_a h (fun hc h => ?_) (fun hc h => ?_)
  · refine jr_ic (pc' := 13) rfl rfl ?_
    exact jr_ret rfl hu rfl (hQ' _ _ (hQ ((-1 : Int), m1) jgc_m1 h))
  · refine jr_al_n (pc' := 15) rfl rfl rfl (jr_dup (pc' := 16) rfl rfl rfl (jr_gi (pc' := 19) rfl rfl jlk_12_206 (.inl rfl) rfl hN jd_67 rfl rfl (jr_ic (pc' := 20) rfl rfl (jr_sub (pc' := 21) rfl rfl (jr_pi (pc' := 24) rfl rfl jlk_12_206 (.inl rfl) rfl hN jd_67 rfl rfl ?_)))))
    refine jr_le h (fun m2 h => ?_)
    refine jr_ic (pc' := 25) rfl rfl (jr_is_n (pc' := 26) (L' := [_, _]) rfl rfl (jl rfl) rfl rfl ?_)
    refine jr_reg (fun t6 => True) (fun t6 => ∀ o7, jn o7 → jp X (px_C X d) px_m245 Q' N 58 [some (.ref 67), o7] [] t6 (0, 0)) h (fun t6 ht6 h o7 ho7 => ?_) (fun R9 k8 h => ?_)
    · refine jr_al_n (pc' := 59) rfl rfl rfl (jr_ic (pc' := 60) rfl rfl (jr_pi (pc' := 63) rfl rfl jlk_12_212 (.inl rfl) rfl hN jd_67 rfl rfl ?_))
      refine jr_le h (fun m21 h => ?_)
      refine jr_al_n (pc' := 64) rfl rfl rfl (jr_gi (pc' := 67) rfl rfl jlk_12_206 (.inl rfl) rfl hN jd_67 rfl rfl ?_)
      exact jr_ret rfl hu rfl (hQ' _ _ (hQ (ja m21 67 39, m21) jg_a h))
    · refine jr_lp (fun s3 => jg s3.1) (fun s3 => jp X (px_C X d) px_m245 Q' N 26 [some (.ref 67), some (jv s3.1)] [] s3.2 (0, 0)) h jgc_0 (fun s3 hs3 R5 k4 h => ?_)
      refine jr_il_n (pc' := 27) rfl rfl rfl (jr_bi (pc' := 29) rfl rfl rfl ?_)
      refine jr_cge (pa := 32) (pb := 58) rfl rfl rfl hs3 jgc_68 h (fun hc h => ?_) (fun hc h => ?_)
      · refine jr_al_n (pc' := 33) rfl rfl rfl (jr_gr (pc' := 36) (r := 88) rfl rfl jlk_12_77 (.inl rfl) rfl hN jd_67 rfl rfl rfl (jr_il_n (pc' := 37) rfl rfl rfl (jr_al_n (pc' := 38) rfl rfl rfl (jr_gr (pc' := 41) (r := 90) rfl rfl jlk_12_83 (.inl rfl) rfl hN jd_67 rfl rfl rfl (jr_bi (pc' := 43) rfl rfl rfl ?_)))))
        refine jr_al_n (pc' := 44) rfl rfl rfl (jr_gi (pc' := 47) rfl rfl jlk_12_206 (.inl rfl) rfl hN jd_67 rfl rfl (jr_mul (pc' := 48) rfl rfl (jr_il_n (pc' := 49) rfl rfl rfl (jr_add (pc' := 50) rfl rfl ?_))))
        refine jr_ia (pc' := 51) rfl rfl (jl rfl) hN jd_90 jn_90 jg_w h (fun hc h => ?_)
        refine jr_ist (pc' := 52) rfl rfl (jl rfl) hN jd_88 jn_88 hs3 h (fun hc h => ?_)
        refine jr_le h (fun m10 h => ?_)
        refine jr_inc (pc' := 55) (L' := [_, _]) rfl rfl rfl (jl rfl) rfl rfl (jr_goto (pc' := 26) rfl rfl ?_)
        exact k4 (jw (s3.1 + 1), m10) jg_w h
      · exact k8 (s3.2) trivial h _ jn_i

set_option maxRecDepth 20000 in
set_option maxHeartbeats 1000000 in
theorem jc_247 {X : Nat × (Nat → Int32)} {N d : Nat} {x0 : Int} {x1 : Int} {x2 : Int} (hN : 102 ≤ N) (hd : 1 ≤ d) (hx0 : jg x0) (hx1 : jg x1) (hx2 : jg x2) {m : jm} {P : Int → Prop} {Q : px_Q} (h : jo (jf_247 x0 x1 x2 m) P) (hQ : ∀ p : Int, jb p → P p → Q (.inl (some (jv p))) (jmem N m)) : px_C X d 247 [jv x0, jv x1, jv x2] (jmem N m) Q := by
  unfold jf_247 at h
  have hu : ju px_m247 (0, 0) := ju_0
  refine jr_in (M := px_m247) (lev := 0) (L := [some (jv x0), some (jv x1), some (jv x2)]) hd rfl jbd_247 (jl rfl) rfl (fun d hd Q' hQ' => ?_)
  refine jr_il_n (pc' := 1) rfl rfl rfl (jr_il_n (pc' := 2) rfl rfl rfl ?_)
  refine jr_reg (fun t1 => jb t1) (fun t1 => jp X (px_C X d) px_m247 Q' N 15 [some (jv x0), some (jv x1), some (jv x2)] [(jv t1)] m (0, 0)) h (fun t1 ht1 h => ?_) (fun R13 k2 h => ?_)
  · exact jr_retb rfl hu rfl ht1 (hQ' _ _ (hQ t1 ht1 h))
  · refine jr_clt (pa := 14) (pb := 5) rfl rfl rfl hx0 hx1 h (fun hc h => ?_) (fun hc h => ?_)
    · refine jr_ic (pc' := 15) rfl rfl ?_
      exact k2 ((0 : Int)) jb_0 h
    · refine jr_il_n (pc' := 6) rfl rfl rfl (jr_il_n (pc' := 7) rfl rfl rfl ?_)
      refine jr_cgt (pa := 14) (pb := 10) rfl rfl rfl hx0 hx2 h (fun hc h => ?_) (fun hc h => ?_)
      · refine jr_ic (pc' := 15) rfl rfl ?_
        exact k2 ((0 : Int)) jb_0 h
      · refine jr_ic (pc' := 11) rfl rfl (jr_goto (pc' := 15) rfl rfl ?_)
        exact k2 ((1 : Int)) jb_1 h

set_option maxRecDepth 20000 in
set_option maxHeartbeats 1000000 in
theorem jc_248 {X : Nat × (Nat → Int32)} {N d : Nat}  (hN : 102 ≤ N) (hd : 1 ≤ d)  {m : jm} {P : Int → Prop} {Q : px_Q} (h : jo (jf_248 m) P) (hQ : ∀ p : Int, jg p → P p → Q (.inl (some (jv p))) (jmem N m)) : px_C X d 248 [.ref 67] (jmem N m) Q := by
  unfold jf_248 at h
  have hu : ju px_m248 (0, 0) := ju_0
  refine jr_in (M := px_m248) (lev := 0) (L := [some (.ref 67), none, none]) hd rfl jbd_248 (jl rfl) rfl (fun d hd Q' hQ' => ?_)
  refine jr_ic (pc' := 1) rfl rfl (jr_is_n (pc' := 2) (L' := [_, _, _]) rfl rfl (jl rfl) rfl rfl (jr_ic (pc' := 3) rfl rfl (jr_is_n (pc' := 4) (L' := [_, _, _]) rfl rfl (jl rfl) rfl rfl ?_)))
  refine jr_reg (fun t4 => jg t4) (fun t4 => ∀ o5, jn o5 → jp X (px_C X d) px_m248 Q' N 32 [some (.ref 67), some (jv t4), o5] [] m (0, 0)) h (fun t4 ht4 h o5 ho5 => ?_) (fun R7 k6 h => ?_)
  · refine jr_il_n (pc' := 33) rfl rfl rfl ?_
    exact jr_ret rfl hu rfl (hQ' _ _ (hQ t4 ht4 h))
  · refine jr_lp (fun s1 => jg s1.1 ∧ jg s1.2) (fun s1 => jp X (px_C X d) px_m248 Q' N 4 [some (.ref 67), some (jv s1.1), some (jv s1.2)] [] m (0, 0)) h ⟨jgc_0, jgc_0⟩ (fun s1 hs1 R3 k2 h => ?_)
    refine jr_il_n (pc' := 5) rfl rfl rfl (jr_al_n (pc' := 6) rfl rfl rfl (jr_gi (pc' := 9) rfl rfl jlk_12_193 (.inl rfl) rfl hN jd_67 rfl rfl ?_))
    refine jr_cge (pa := 12) (pb := 32) rfl rfl rfl hs1.2 jg_a h (fun hc h => ?_) (fun hc h => ?_)
    · refine jr_il_n (pc' := 13) rfl rfl rfl (jr_al_n (pc' := 14) rfl rfl rfl (jr_gr (pc' := 17) (r := 89) rfl rfl jlk_12_80 (.inl rfl) rfl hN jd_67 rfl rfl rfl (jr_bi (pc' := 19) rfl rfl rfl (jr_il_n (pc' := 20) rfl rfl rfl (jr_add (pc' := 21) rfl rfl ?_)))))
      refine jr_ia (pc' := 22) rfl rfl (jl rfl) hN jd_89 jn_89 jg_w h (fun hc h => ?_)
      refine jr_il_n (pc' := 23) rfl rfl rfl (jr_shl (pc' := 24) rfl rfl (jr_or (pc' := 25) rfl rfl (jr_is_n (pc' := 26) (L' := [_, _, _]) rfl rfl (jl rfl) rfl rfl (jr_inc (pc' := 29) (L' := [_, _, _]) rfl rfl rfl (jl rfl) rfl rfl (jr_goto (pc' := 4) rfl rfl ?_)))))
      exact k2 (jbor s1.1 (jshl (ja m 89 (jw ((58 : Int) + s1.2)).toNat) s1.2), jw (s1.2 + 1)) ⟨jg_bor, jg_w⟩ h
    · exact k6 (s1.1) hs1.1 h _ jn_i

set_option maxRecDepth 20000 in
set_option maxHeartbeats 1000000 in
theorem jc_249 {X : Nat × (Nat → Int32)} {N d : Nat}  (hN : 102 ≤ N) (hd : 1 ≤ d)  {m : jm} {P : Int → Prop} {Q : px_Q} (h : jo (jf_249 m) P) (hQ : ∀ p : Int, jg p → P p → Q (.inl (some (jv p))) (jmem N m)) : px_C X d 249 [.ref 67] (jmem N m) Q := by
  unfold jf_249 at h
  have hu : ju px_m249 (0, 0) := ju_0
  refine jr_in (M := px_m249) (lev := 0) (L := [some (.ref 67), none, none]) hd rfl jbd_249 (jl rfl) rfl (fun d hd Q' hQ' => ?_)
  refine jr_ic (pc' := 1) rfl rfl (jr_is_n (pc' := 2) (L' := [_, _, _]) rfl rfl (jl rfl) rfl rfl (jr_ic (pc' := 3) rfl rfl (jr_is_n (pc' := 4) (L' := [_, _, _]) rfl rfl (jl rfl) rfl rfl ?_)))
  refine jr_reg (fun t4 => jg t4) (fun t4 => ∀ o5, jn o5 → jp X (px_C X d) px_m249 Q' N 41 [some (.ref 67), some (jv t4), o5] [] m (0, 0)) h (fun t4 ht4 h o5 ho5 => ?_) (fun R7 k6 h => ?_)
  · refine jr_il_n (pc' := 42) rfl rfl rfl ?_
    exact jr_ret rfl hu rfl (hQ' _ _ (hQ t4 ht4 h))
  · refine jr_lp (fun s1 => jg s1.1 ∧ jg s1.2) (fun s1 => jp X (px_C X d) px_m249 Q' N 4 [some (.ref 67), some (jv s1.1), some (jv s1.2)] [] m (0, 0)) h ⟨jgc_0, jgc_0⟩ (fun s1 hs1 R3 k2 h => ?_)
    refine jr_il_n (pc' := 5) rfl rfl rfl (jr_al_n (pc' := 6) rfl rfl rfl (jr_gi (pc' := 9) rfl rfl jlk_12_190 (.inl rfl) rfl hN jd_67 rfl rfl ?_))
    refine jr_cge (pa := 12) (pb := 41) rfl rfl rfl hs1.2 jg_a h (fun hc h => ?_) (fun hc h => ?_)
    · refine jr_il_n (pc' := 13) rfl rfl rfl (jr_al_n (pc' := 14) rfl rfl rfl (jr_gr (pc' := 17) (r := 89) rfl rfl jlk_12_80 (.inl rfl) rfl hN jd_67 rfl rfl rfl (jr_bi (pc' := 19) rfl rfl rfl (jr_il_n (pc' := 20) rfl rfl rfl (jr_add (pc' := 21) rfl rfl ?_)))))
      refine jr_ia (pc' := 22) rfl rfl (jl rfl) hN jd_89 jn_89 jg_w h (fun hc h => ?_)
      refine jr_ic (pc' := 23) rfl rfl ?_
      refine jr_reg (fun t8 => jg t8) (fun t8 => jp X (px_C X d) px_m249 Q' N 33 [some (.ref 67), some (jv s1.1), some (jv s1.2)] [(jv t8), (jv s1.1)] m (0, 0)) h (fun t8 ht8 h => ?_) (fun R20 k9 h => ?_)
      · refine jr_or (pc' := 34) rfl rfl (jr_is_n (pc' := 35) (L' := [_, _, _]) rfl rfl (jl rfl) rfl rfl (jr_inc (pc' := 38) (L' := [_, _, _]) rfl rfl rfl (jl rfl) rfl rfl (jr_goto (pc' := 4) rfl rfl ?_)))
        exact k2 (jbor s1.1 t8, jw (s1.2 + 1)) ⟨jg_bor, jg_w⟩ h
      · refine jr_cne (pa := 26) (pb := 32) rfl rfl rfl jg_a jgc_m1 h (fun hc h => ?_) (fun hc h => ?_)
        · refine jr_ic (pc' := 27) rfl rfl (jr_il_n (pc' := 28) rfl rfl rfl (jr_shl (pc' := 29) rfl rfl (jr_goto (pc' := 33) rfl rfl ?_)))
          exact k9 (jshl (1 : Int) s1.2) jg_shl h
        · refine jr_ic (pc' := 33) rfl rfl ?_
          exact k9 ((0 : Int)) jgc_0 h
    · exact k6 (s1.1) hs1.1 h _ jn_i

set_option maxRecDepth 20000 in
set_option maxHeartbeats 1000000 in
theorem jc_250 {X : Nat × (Nat → Int32)} {N d : Nat}  (hN : 102 ≤ N) (hd : 1 ≤ d)  {m : jm} {P : Int → Prop} {Q : px_Q} (h : jo (jf_250 m) P) (hQ : ∀ p : Int, jg p → P p → Q (.inl (some (jv p))) (jmem N m)) : px_C X d 250 [.ref 67] (jmem N m) Q := by
  unfold jf_250 at h
  have hu : ju px_m250 (0, 0) := ju_0
  refine jr_in (M := px_m250) (lev := 0) (L := [some (.ref 67), none, none]) hd rfl jbd_250 (jl rfl) rfl (fun d hd Q' hQ' => ?_)
  refine jr_ic (pc' := 1) rfl rfl (jr_is_n (pc' := 2) (L' := [_, _, _]) rfl rfl (jl rfl) rfl rfl (jr_ic (pc' := 3) rfl rfl (jr_is_n (pc' := 4) (L' := [_, _, _]) rfl rfl (jl rfl) rfl rfl ?_)))
  refine jr_reg (fun t4 => jg t4) (fun t4 => ∀ o5, jn o5 → jp X (px_C X d) px_m250 Q' N 30 [some (.ref 67), some (jv t4), o5] [] m (0, 0)) h (fun t4 ht4 h o5 ho5 => ?_) (fun R7 k6 h => ?_)
  · refine jr_il_n (pc' := 31) rfl rfl rfl ?_
    exact jr_ret rfl hu rfl (hQ' _ _ (hQ t4 ht4 h))
  · refine jr_lp (fun s1 => jg s1.1 ∧ jg s1.2) (fun s1 => jp X (px_C X d) px_m250 Q' N 4 [some (.ref 67), some (jv s1.1), some (jv s1.2)] [] m (0, 0)) h ⟨jgc_0, jgc_0⟩ (fun s1 hs1 R3 k2 h => ?_)
    refine jr_il_n (pc' := 5) rfl rfl rfl (jr_al_n (pc' := 6) rfl rfl rfl (jr_gi (pc' := 9) rfl rfl jlk_12_187 (.inl rfl) rfl hN jd_67 rfl rfl ?_))
    refine jr_cge (pa := 12) (pb := 30) rfl rfl rfl hs1.2 jg_a h (fun hc h => ?_) (fun hc h => ?_)
    · refine jr_il_n (pc' := 13) rfl rfl rfl (jr_al_n (pc' := 14) rfl rfl rfl (jr_gr (pc' := 17) (r := 89) rfl rfl jlk_12_80 (.inl rfl) rfl hN jd_67 rfl rfl rfl (jr_bi (pc' := 19) rfl rfl rfl (jr_il_n (pc' := 20) rfl rfl rfl (jr_add (pc' := 21) rfl rfl ?_)))))
      refine jr_ia (pc' := 22) rfl rfl (jl rfl) hN jd_89 jn_89 jg_w h (fun hc h => ?_)
      refine jr_add (pc' := 23) rfl rfl (jr_is_n (pc' := 24) (L' := [_, _, _]) rfl rfl (jl rfl) rfl rfl (jr_inc (pc' := 27) (L' := [_, _, _]) rfl rfl rfl (jl rfl) rfl rfl (jr_goto (pc' := 4) rfl rfl ?_)))
      exact k2 (jw (s1.1 + (ja m 89 (jw ((12 : Int) + s1.2)).toNat)), jw (s1.2 + 1)) ⟨jg_w, jg_w⟩ h
    · exact k6 (s1.1) hs1.1 h _ jn_i

set_option maxRecDepth 20000 in
set_option maxHeartbeats 1000000 in
theorem jc_246 {X : Nat × (Nat → Int32)} {N d : Nat} {x0 : Int} (hN : 102 ≤ N) (hd : 3 ≤ d) (hx0 : jg x0) {m : jm} {P : Int × jm → Prop} {Q : px_Q} (h : jo (jf_246 x0 m) P) (hQ : ∀ p : Int × jm, jg p.1 → P p → Q (.inl (some (jv p.1))) (jmem N p.2)) : px_C X d 246 [.ref 67, jv x0] (jmem N m) Q := by
  unfold jf_246 at h
  have hu : ju px_m246 (0, 0) := ju_0
  refine jr_in (M := px_m246) (lev := 2) (L := [some (.ref 67), some (jv x0)]) hd rfl jbd_246 (jl rfl) rfl (fun d hd Q' hQ' => ?_)
  refine jr_al_n (pc' := 1) rfl rfl rfl (jr_ic (pc' := 2) rfl rfl (jr_pi (pc' := 5) rfl rfl jlk_12_3 (.inl rfl) rfl hN jd_67 rfl rfl ?_))
  refine jr_le h (fun m1 h => ?_)
  refine jr_al_n (pc' := 6) rfl rfl rfl (jr_il_n (pc' := 7) rfl rfl rfl (jr_ic (pc' := 8) rfl rfl (jr_bi (pc' := 10) rfl rfl rfl ?_)))
  refine jr_cs_p (pc' := 13) [_] rfl rfl jlk_12_414 jq_247 jbd_247 (jl rfl) rfl (jl rfl) hu (fun Q' hq => jc_247 hN (Nat.le_trans (jl rfl) hd) hx0 jgc_0 jgc_10 (jo_b h) hq) (fun p2 hp2 h => ?_)
  refine jr_ic (pc' := 14) rfl rfl (jr_ic (pc' := 15) rfl rfl ?_)
  refine jr_cv_i (pc' := 18) [] rfl rfl jlk_12_233 jq_194 jbd_194 (jl rfl) rfl (jl rfl) hu rfl (jk rfl hN) (jd_67.trans jo_194.symm) (fun Q' hq => jc_194 hN (Nat.le_trans (jl rfl) hd) (jg_b hp2) jgc_1 jgc_1 (jo_b h) hq) (fun p3 hp3 h => ?_)
  refine jr_zne (pa := 21) (pb := 23) rfl rfl rfl (jg_b hp3) h (fun hc h => ?_) (fun hc h => ?_)
  · refine jr_ic (pc' := 22) rfl rfl ?_
    exact jr_ret rfl hu rfl (hQ' _ _ (hQ ((0 : Int), p3.2) jgc_0 h))
  · refine jr_al_n (pc' := 24) rfl rfl rfl ?_
    refine jr_cv_v (pc' := 27) [] rfl rfl jlk_12_344 jq_226 jbd_226 (jl rfl) rfl (jl rfl) hu rfl (jk rfl hN) (jd_67.trans jo_226.symm) (fun Q' hq => jc_226 hN (Nat.le_trans (jl rfl) hd)  (jo_b h) hq) (fun p4 hp4 h => ?_)
    refine jr_il_n (pc' := 28) rfl rfl rfl (jr_ic (pc' := 29) rfl rfl ?_)
    refine jr_cge (pa := 32) (pb := 72) rfl rfl rfl hx0 jgc_4 h (fun hc h => ?_) (fun hc h => ?_)
    · refine jr_il_n (pc' := 33) rfl rfl rfl ?_
      refine jr_reg (fun t5 => jg t5) (fun t5 => jp X (px_C X d) px_m246 Q' N 71 [some (.ref 67), some (jv x0)] [(jv t5)] p4 (0, 0)) h (fun t5 ht5 h => ?_) (fun R17 k6 h => ?_)
      · exact jr_ret rfl hu rfl (hQ' _ _ (hQ (t5, p4) ht5 h))
      · refine jr_zne (pa := 36) (pb := 43) rfl rfl rfl hx0 h (fun hc h => ?_) (fun hc h => ?_)
        · refine jr_al_n (pc' := 37) rfl rfl rfl (jr_gi (pc' := 40) rfl rfl jlk_12_184 (.inl rfl) rfl hN jd_67 rfl rfl (jr_goto (pc' := 71) rfl rfl ?_))
          exact k6 (ja p4 67 24) jg_a h
        · refine jr_il_n (pc' := 44) rfl rfl rfl (jr_ic (pc' := 45) rfl rfl ?_)
          refine jr_cne (pa := 48) (pb := 55) rfl rfl rfl hx0 jgc_1 h (fun hc h => ?_) (fun hc h => ?_)
          · refine jr_al_n (pc' := 49) rfl rfl rfl (jr_gi (pc' := 52) rfl rfl jlk_12_187 (.inl rfl) rfl hN jd_67 rfl rfl (jr_goto (pc' := 71) rfl rfl ?_))
            exact k6 (ja p4 67 25) jg_a h
          · refine jr_il_n (pc' := 56) rfl rfl rfl (jr_ic (pc' := 57) rfl rfl ?_)
            refine jr_cne (pa := 60) (pb := 67) rfl rfl rfl hx0 jgc_2 h (fun hc h => ?_) (fun hc h => ?_)
            · refine jr_al_n (pc' := 61) rfl rfl rfl (jr_gi (pc' := 64) rfl rfl jlk_12_190 (.inl rfl) rfl hN jd_67 rfl rfl (jr_goto (pc' := 71) rfl rfl ?_))
              exact k6 (ja p4 67 26) jg_a h
            · refine jr_al_n (pc' := 68) rfl rfl rfl (jr_gi (pc' := 71) rfl rfl jlk_12_193 (.inl rfl) rfl hN jd_67 rfl rfl ?_)
              exact k6 (ja p4 67 27) jg_a h
    · refine jr_il_n (pc' := 73) rfl rfl rfl (jr_bi (pc' := 75) rfl rfl rfl ?_)
      refine jr_cge (pa := 78) (pb := 126) rfl rfl rfl hx0 jgc_8 h (fun hc h => ?_) (fun hc h => ?_)
      · refine jr_il_n (pc' := 79) rfl rfl rfl (jr_ic (pc' := 80) rfl rfl ?_)
        refine jr_reg (fun t18 => jg t18) (fun t18 => jp X (px_C X d) px_m246 Q' N 125 [some (.ref 67), some (jv x0)] [(jv t18)] p4 (0, 0)) h (fun t18 ht18 h => ?_) (fun R32 k19 h => ?_)
        · exact jr_ret rfl hu rfl (hQ' _ _ (hQ (t18, p4) ht18 h))
        · refine jr_cne (pa := 83) (pb := 93) rfl rfl rfl hx0 jgc_4 h (fun hc h => ?_) (fun hc h => ?_)
          · refine jr_al_n (pc' := 84) rfl rfl rfl (jr_gr (pc' := 87) (r := 89) rfl rfl jlk_12_80 (.inl rfl) rfl hN jd_67 rfl rfl rfl (jr_bi (pc' := 89) rfl rfl rfl ?_))
            refine jr_ia (pc' := 90) rfl rfl (jl rfl) hN jd_89 jn_89 jgc_66 h (fun hc h => ?_)
            refine jr_goto (pc' := 125) rfl rfl ?_
            exact k19 (ja p4 89 (66 : Int).toNat) jg_a h
          · refine jr_il_n (pc' := 94) rfl rfl rfl (jr_ic (pc' := 95) rfl rfl ?_)
            refine jr_cne (pa := 98) (pb := 108) rfl rfl rfl hx0 jgc_5 h (fun hc h => ?_) (fun hc h => ?_)
            · refine jr_al_n (pc' := 99) rfl rfl rfl (jr_gr (pc' := 102) (r := 89) rfl rfl jlk_12_80 (.inl rfl) rfl hN jd_67 rfl rfl rfl (jr_bi (pc' := 104) rfl rfl rfl ?_))
              refine jr_ia (pc' := 105) rfl rfl (jl rfl) hN jd_89 jn_89 jgc_67 h (fun hc h => ?_)
              refine jr_goto (pc' := 125) rfl rfl ?_
              exact k19 (ja p4 89 (67 : Int).toNat) jg_a h
            · refine jr_il_n (pc' := 109) rfl rfl rfl (jr_bi (pc' := 111) rfl rfl rfl ?_)
              refine jr_cne (pa := 114) (pb := 121) rfl rfl rfl hx0 jgc_6 h (fun hc h => ?_) (fun hc h => ?_)
              · refine jr_al_n (pc' := 115) rfl rfl rfl ?_
                refine jr_cv_p (pc' := 118) [] rfl rfl jlk_12_417 jq_248 jbd_248 (jl rfl) rfl (jl rfl) hu rfl (jk rfl hN) (jd_67.trans jo_248.symm) (fun Q' hq => jc_248 hN (Nat.le_trans (jl rfl) hd)  (jo_b h) hq) (fun p20 hp20 h => ?_)
                refine jr_goto (pc' := 125) rfl rfl ?_
                exact k19 (p20) hp20 h
              · refine jr_al_n (pc' := 122) rfl rfl rfl ?_
                refine jr_cv_p (pc' := 125) [] rfl rfl jlk_12_420 jq_249 jbd_249 (jl rfl) rfl (jl rfl) hu rfl (jk rfl hN) (jd_67.trans jo_249.symm) (fun Q' hq => jc_249 hN (Nat.le_trans (jl rfl) hd)  (jo_b h) hq) (fun p21 hp21 h => ?_)
                exact k19 (p21) hp21 h
      · refine jr_il_n (pc' := 127) rfl rfl rfl (jr_bi (pc' := 129) rfl rfl rfl ?_)
        refine jr_reg (fun t33 => jg t33) (fun t33 => jp X (px_C X d) px_m246 Q' N 156 [some (.ref 67), some (jv x0)] [(jv t33)] p4 (0, 0)) h (fun t33 ht33 h => ?_) (fun R46 k34 h => ?_)
        · exact jr_ret rfl hu rfl (hQ' _ _ (hQ (t33, p4) ht33 h))
        · refine jr_cne (pa := 132) (pb := 139) rfl rfl rfl hx0 jgc_8 h (fun hc h => ?_) (fun hc h => ?_)
          · refine jr_al_n (pc' := 133) rfl rfl rfl (jr_gi (pc' := 136) rfl rfl jlk_12_203 (.inl rfl) rfl hN jd_67 rfl rfl (jr_goto (pc' := 156) rfl rfl ?_))
            exact k34 (ja p4 67 52) jg_a h
          · refine jr_il_n (pc' := 140) rfl rfl rfl (jr_bi (pc' := 142) rfl rfl rfl ?_)
            refine jr_cne (pa := 145) (pb := 152) rfl rfl rfl hx0 jgc_9 h (fun hc h => ?_) (fun hc h => ?_)
            · refine jr_al_n (pc' := 146) rfl rfl rfl (jr_gi (pc' := 149) rfl rfl jlk_12_212 (.inl rfl) rfl hN jd_67 rfl rfl (jr_goto (pc' := 156) rfl rfl ?_))
              exact k34 (ja p4 67 40) jg_a h
            · refine jr_al_n (pc' := 153) rfl rfl rfl ?_
              refine jr_cv_p (pc' := 156) [] rfl rfl jlk_12_423 jq_250 jbd_250 (jl rfl) rfl (jl rfl) hu rfl (jk rfl hN) (jd_67.trans jo_250.symm) (fun Q' hq => jc_250 hN (Nat.le_trans (jl rfl) hd)  (jo_b h) hq) (fun p35 hp35 h => ?_)
              exact k34 (p35) hp35 h

