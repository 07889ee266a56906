/-! the pure machine follows the functions, 20 (written by wip/whole/gen/walk.py) -/
set_option maxRecDepth 20000 in
set_option maxHeartbeats 1000000 in
theorem jc_284 {X : Nat × (Nat → Int32)} {N d : Nat}  (hN : 102 ≤ N) (hd : 12 ≤ d)  {m : jm} {P : Int × jm → Prop} {Q : px_Q} (h : jo (jf_284 m) P) (hQ : ∀ p : Int × jm, jg p.1 → P p → Q (.inl (some (jv p.1))) (jmem N p.2)) : px_C X d 284 [.ref 67] (jmem N m) Q := by
  unfold jf_284 at h
  have hu : ju px_m284 (0, 0) := ju_0
  refine jr_in (M := px_m284) (lev := 11) (L := [some (.ref 67)]) hd rfl jbd_284 (jl rfl) rfl (fun d hd Q' hQ' => ?_)
  refine jr_al_n (pc' := 1) rfl rfl rfl (jr_ic (pc' := 2) rfl rfl (jr_pi (pc' := 5) rfl rfl jlk_12_3 (.inl rfl) rfl hN jd_67 rfl rfl ?_))
  refine jr_le h (fun m1 h => ?_)
  refine jr_al_n (pc' := 6) rfl rfl rfl ?_
  refine jr_cv_v (pc' := 9) [] rfl rfl jlk_12_475 jq_285 jbd_285 (jl rfl) rfl (jl rfl) hu rfl (jk rfl hN) (jd_67.trans jo_285.symm) (fun Q' hq => jc_285 hN (Nat.le_trans (jl rfl) hd)  (jo_b h) hq) (fun p2 hp2 h => ?_)
  refine jr_al_n (pc' := 10) rfl rfl rfl (jr_gr (pc' := 13) (r := 98) rfl rfl jlk_12_108 (.inl rfl) rfl hN jd_67 rfl rfl rfl (jr_ic (pc' := 14) rfl rfl ?_))
  refine jr_ia (pc' := 15) rfl rfl (jl rfl) hN jd_98 jn_98 jgc_0 h (fun hc h => ?_)
  exact jr_ret rfl hu rfl (hQ' _ _ (hQ (ja p2 98 (0 : Int).toNat, p2) jg_a h))

set_option maxRecDepth 20000 in
set_option maxHeartbeats 1000000 in
theorem jc_286 {X : Nat × (Nat → Int32)} {N d : Nat} {x0 : Int} (hN : 102 ≤ N) (hd : 12 ≤ d) (hx0 : jg x0) {m : jm} {P : Int × jm → Prop} {Q : px_Q} (h : jo (jf_286 x0 m) P) (hQ : ∀ p : Int × jm, jg p.1 → P p → Q (.inl (some (jv p.1))) (jmem N p.2)) : px_C X d 286 [.ref 67, jv x0] (jmem N m) Q := by
  unfold jf_286 at h
  have hu : ju px_m286 (0, 0) := ju_0
  refine jr_in (M := px_m286) (lev := 11) (L := [some (.ref 67), some (jv x0)]) hd rfl jbd_286 (jl rfl) rfl (fun d hd Q' hQ' => ?_)
  refine jr_al_n (pc' := 1) rfl rfl rfl (jr_ic (pc' := 2) rfl rfl (jr_pi (pc' := 5) rfl rfl jlk_12_3 (.inl rfl) rfl hN jd_67 rfl rfl ?_))
  refine jr_le h (fun m1 h => ?_)
  refine jr_al_n (pc' := 6) rfl rfl rfl (jr_il_n (pc' := 7) rfl rfl rfl (jr_ic (pc' := 8) rfl rfl ?_))
  refine jr_cv_i (pc' := 11) [] rfl rfl jlk_12_435 jq_258 jbd_258 (jl rfl) rfl (jl rfl) hu rfl (jk rfl hN) (jd_67.trans jo_258.symm) (fun Q' hq => jc_258 hN (Nat.le_trans (jl rfl) hd) hx0 jgc_1 (jo_b h) hq) (fun p2 hp2 h => ?_)
  refine jr_zne (pa := 14) (pb := 16) rfl rfl rfl (jg_b hp2) h (fun hc h => ?_) (fun hc h => ?_)
  · refine jr_ic (pc' := 15) rfl rfl ?_
    exact jr_ret rfl hu rfl (hQ' _ _ (hQ ((0 : Int), p2.2) jgc_0 h))
  · refine jr_al_n (pc' := 17) rfl rfl rfl ?_
    refine jr_cv_v (pc' := 20) [] rfl rfl jlk_12_475 jq_285 jbd_285 (jl rfl) rfl (jl rfl) hu rfl (jk rfl hN) (jd_67.trans jo_285.symm) (fun Q' hq => jc_285 hN (Nat.le_trans (jl rfl) hd)  (jo_b h) hq) (fun p3 hp3 h => ?_)
    refine jr_al_n (pc' := 21) rfl rfl rfl (jr_gr (pc' := 24) (r := 99) rfl rfl jlk_12_111 (.inl rfl) rfl hN jd_67 rfl rfl rfl (jr_il_n (pc' := 25) rfl rfl rfl ?_))
    refine jr_ia (pc' := 26) rfl rfl (jl rfl) hN jd_99 jn_99 hx0 h (fun hc h => ?_)
    exact jr_ret rfl hu rfl (hQ' _ _ (hQ (ja p3 99 x0.toNat, p3) jg_a h))

set_option maxRecDepth 20000 in
set_option maxHeartbeats 1000000 in
theorem jc_288 {X : Nat × (Nat → Int32)} {N d : Nat} {x0 : Int} {x1 : Int} {x2 : Int} (hN : 102 ≤ N) (hd : 1 ≤ d) (hx0 : jgl x0) (hx1 : jgl x1) (hx2 : jg x2) {m : jm} {P : Int → Prop} {Q : px_Q} (h : jo (jf_288 x0 x1 x2 m) P) (hQ : ∀ p : Int, jgl p → P p → Q (.inl (some (jvl p))) (jmem N m)) : px_C X d 288 [jvl x0, jvl x1, jv x2] (jmem N m) Q := by
  unfold jf_288 at h
  have hu : ju px_m288 (0, 0) := ju_0
  refine jr_in (M := px_m288) (lev := 0) (L := [some (jvl x0), none, some (jvl x1), none, some (jv x2), none, none, none, none, none, none]) hd rfl jbd_288 (jl rfl) rfl (fun d hd Q' hQ' => ?_)
  refine jr_ll_n (pc' := 1) rfl rfl rfl (jr_ls (pc' := 3) (L' := [_, _, _, _, _, _, _, _, _, _, _]) rfl rfl (jl rfl) rfl (jr_ll_n (pc' := 4) rfl rfl rfl (jr_ls (pc' := 6) (L' := [_, _, _, _, _, _, _, _, _, _, _]) rfl rfl (jl rfl) rfl ?_)))
  refine jr_reg (fun t5 => jgl t5) (fun t5 => ∀ o6, True → ∀ o7, True → jp X (px_C X d) px_m288 Q' N 31 [some (jvl x0), none, some (jvl x1), none, some (jv x2), some (jvl t5), none, o6, none, o7, none] [] m (0, 0)) h (fun t5 ht5 h o6 ho6 o7 ho7 => ?_) (fun R9 k8 h => ?_)
  · refine jr_il (pc' := 33) rfl rfl rfl ?_
    refine jr_reg (fun t20 => jgl t20) (fun t20 => jp X (px_C X d) px_m288 Q' N 41 [some (jvl x0), none, some (jvl x1), none, some (jv x2), some (jvl t5), none, o6, none, o7, none] [(jvl t20)] m (0, 0)) h (fun t20 ht20 h => ?_) (fun R32 k21 h => ?_)
    · refine jr_ll (pc' := 43) rfl rfl rfl ?_
      refine jo_w0 h (fun hc h => jr_ldiv (pc' := 44) rfl rfl ht5 hc ?_)
      exact jr_retl rfl hu rfl (hQ' _ _ (hQ (jdivl t20 t5) jgl_div h))
    · refine jr_zne (pa := 36) (pb := 40) rfl rfl rfl hx2 h (fun hc h => ?_) (fun hc h => ?_)
      · refine jr_ll_n (pc' := 37) rfl rfl rfl (jr_goto (pc' := 41) rfl rfl ?_)
        exact k21 (x0) hx0 h
      · refine jr_ll_n (pc' := 41) rfl rfl rfl ?_
        exact k21 (x1) hx1 h
  · refine jr_lp (fun s1 => jgl s1.1 ∧ jgl s1.2) (fun s1 => ∀ o2, True → jp X (px_C X d) px_m288 Q' N 6 [some (jvl x0), none, some (jvl x1), none, some (jv x2), some (jvl s1.1), none, some (jvl s1.2), none, o2, none] [] m (0, 0)) h ⟨hx0, hx1⟩ (fun s1 hs1 R4 k3 h o2 ho2 => ?_) _ trivial
    refine jr_ll (pc' := 8) rfl rfl rfl (jr_lc (pc' := 9) (x := 0) rfl rfl rfl (jr_lcmp (pc' := 10) rfl rfl hs1.2 jglc_0 ?_))
    refine jr_zeq (pa := 31) (pb := 13) rfl rfl rfl jg_cmp h (fun hc h => ?_) (fun hc h => ?_)
    · exact k8 (s1.1) hs1.1 h _ trivial _ trivial
    · refine jr_ll (pc' := 15) rfl rfl rfl (jr_ll (pc' := 17) rfl rfl rfl ?_)
      refine jo_w0 h (fun hc h => jr_lrem (pc' := 18) rfl rfl hs1.2 hc ?_)
      refine jr_ls (pc' := 20) (L' := [_, _, _, _, _, _, _, _, _, _, _]) rfl rfl (jl rfl) rfl (jr_ll (pc' := 22) rfl rfl rfl (jr_ls (pc' := 24) (L' := [_, _, _, _, _, _, _, _, _, _, _]) rfl rfl (jl rfl) rfl (jr_ll (pc' := 26) rfl rfl rfl (jr_ls (pc' := 28) (L' := [_, _, _, _, _, _, _, _, _, _, _]) rfl rfl (jl rfl) rfl (jr_goto (pc' := 6) rfl rfl ?_)))))
      exact k3 (s1.2, jreml s1.1 s1.2) ⟨hs1.2, jgl_rem⟩ h _ trivial

set_option maxRecDepth 20000 in
set_option maxHeartbeats 1000000 in
theorem jc_287 {X : Nat × (Nat → Int32)} {N d : Nat} {x0 : Int} {x1 : Int} {x2 : Int} {x3 : Int} (hN : 102 ≤ N) (hd : 10 ≤ d) (hx0 : jg x0) (hx1 : jg x1) (hx2 : jg x2) (hx3 : jg x3) {m : jm} {P : Int × jm → Prop} {Q : px_Q} (h : jo (jf_287 x0 x1 x2 x3 m) P) (hQ : ∀ p : Int × jm, jgl p.1 → P p → Q (.inl (some (jvl p.1))) (jmem N p.2)) : px_C X d 287 [.ref 67, jv x0, jv x1, jv x2, jv x3] (jmem N m) Q := by
  unfold jf_287 at h
  have hu : ju px_m287 (0, 0) := ju_0
  refine jr_in (M := px_m287) (lev := 9) (L := [some (.ref 67), some (jv x0), some (jv x1), some (jv x2), some (jv x3), none, none, none, none, none, none, none, none]) hd rfl jbd_287 (jl rfl) rfl (fun d hd Q' hQ' => ?_)
  refine jr_al_n (pc' := 1) rfl rfl rfl (jr_ic (pc' := 2) rfl rfl (jr_pi (pc' := 5) rfl rfl jlk_12_3 (.inl rfl) rfl hN jd_67 rfl rfl ?_))
  refine jr_le h (fun m1 h => ?_)
  refine jr_al_n (pc' := 6) rfl rfl rfl (jr_il_n (pc' := 7) rfl rfl rfl (jr_ic (pc' := 8) rfl rfl ?_))
  refine jr_cv_i (pc' := 11) [] rfl rfl jlk_12_432 jq_256 jbd_256 (jl rfl) rfl (jl rfl) hu rfl (jk rfl hN) (jd_67.trans jo_256.symm) (fun Q' hq => jc_256 hN (Nat.le_trans (jl rfl) hd) hx0 jgc_1 (jo_b h) hq) (fun p2 hp2 h => ?_)
  refine jr_zeq (pa := 57) (pb := 14) rfl rfl rfl (jg_b hp2) h (fun hc h => ?_) (fun hc h => ?_)
  · refine jr_lc (pc' := 58) (x := 0) rfl rfl rfl ?_
    exact jr_retl rfl hu rfl (hQ' _ _ (hQ ((0 : Int), p2.2) jglc_0 h))
  · refine jr_al_n (pc' := 15) rfl rfl rfl (jr_il_n (pc' := 16) rfl rfl rfl (jr_ic (pc' := 17) rfl rfl ?_))
    refine jr_cv_i (pc' := 20) [] rfl rfl jlk_12_426 jq_252 jbd_252 (jl rfl) rfl (jl rfl) hu rfl (jk rfl hN) (jd_67.trans jo_252.symm) (fun Q' hq => jc_252 hN (Nat.le_trans (jl rfl) hd) hx1 jgc_1 (jo_b h) hq) (fun p3 hp3 h => ?_)
    refine jr_zeq (pa := 57) (pb := 23) rfl rfl rfl (jg_b hp3) h (fun hc h => ?_) (fun hc h => ?_)
    · refine jr_lc (pc' := 58) (x := 0) rfl rfl rfl ?_
      exact jr_retl rfl hu rfl (hQ' _ _ (hQ ((0 : Int), p3.2) jglc_0 h))
    · refine jr_al_n (pc' := 24) rfl rfl rfl (jr_il_n (pc' := 25) rfl rfl rfl (jr_ic (pc' := 26) rfl rfl (jr_bi (pc' := 28) rfl rfl rfl ?_)))
      refine jr_cs_p (pc' := 31) [_] rfl rfl jlk_12_414 jq_247 jbd_247 (jl rfl) rfl (jl rfl) hu (fun Q' hq => jc_247 hN (Nat.le_trans (jl rfl) hd) hx2 jgc_0 jgc_16 (jo_b h) hq) (fun p4 hp4 h => ?_)
      refine jr_reg (fun t5 => jb t5) (fun t5 => jp X (px_C X d) px_m287 Q' N 49 [some (.ref 67), some (jv x0), some (jv x1), some (jv x2), some (jv x3), none, none, none, none, none, none, none, none] [(jv t5), (.ref 67)] p3.2 (0, 0)) h (fun t5 ht5 h => ?_) (fun R89 k6 h => ?_)
      · refine jr_ic (pc' := 50) rfl rfl (jr_ic (pc' := 51) rfl rfl ?_)
        refine jr_cv_i (pc' := 54) [] rfl rfl jlk_12_233 jq_194 jbd_194 (jl rfl) rfl (jl rfl) hu rfl (jk rfl hN) (jd_67.trans jo_194.symm) (fun Q' hq => jc_194 hN (Nat.le_trans (jl rfl) hd) (jg_b ht5) jgc_2 jgc_1 (jo_b h) hq) (fun p18 hp18 h => ?_)
        refine jr_zne (pa := 57) (pb := 59) rfl rfl rfl (jg_b hp18) h (fun hc h => ?_) (fun hc h => ?_)
        · refine jr_lc (pc' := 58) (x := 0) rfl rfl rfl ?_
          exact jr_retl rfl hu rfl (hQ' _ _ (hQ ((0 : Int), p18.2) jglc_0 h))
        · refine jr_al_n (pc' := 60) rfl rfl rfl ?_
          refine jr_cv_v (pc' := 63) [] rfl rfl jlk_12_344 jq_226 jbd_226 (jl rfl) rfl (jl rfl) hu rfl (jk rfl hN) (jd_67.trans jo_226.symm) (fun Q' hq => jc_226 hN (Nat.le_trans (jl rfl) hd)  (jo_b h) hq) (fun p19 hp19 h => ?_)
          refine jr_al_n (pc' := 64) rfl rfl rfl (jr_il_n (pc' := 65) rfl rfl rfl ?_)
          refine jr_cv_v (pc' := 68) [] rfl rfl jlk_12_385 jq_230 jbd_230 (jl rfl) rfl (jl rfl) hu rfl (jk rfl hN) (jd_67.trans jo_230.symm) (fun Q' hq => jc_230 hN (Nat.le_trans (jl rfl) hd) hx0 (jo_b h) hq) (fun p20 hp20 h => ?_)
          refine jr_al_n (pc' := 69) rfl rfl rfl (jr_gr (pc' := 72) (r := 89) rfl rfl jlk_12_80 (.inl rfl) rfl hN jd_67 rfl rfl rfl (jr_bi (pc' := 74) rfl rfl rfl (jr_il_n (pc' := 75) rfl rfl rfl (jr_add (pc' := 76) rfl rfl ?_))))
          refine jr_ia (pc' := 77) rfl rfl (jl rfl) hN jd_89 jn_89 jg_w h (fun hc h => ?_)
          refine jr_ic (pc' := 78) rfl rfl ?_
          refine jr_ceq (pa := 100) (pb := 81) rfl rfl rfl jg_a jgc_m1 h (fun hc h => ?_) (fun hc h => ?_)
          · refine jr_il (pc' := 102) rfl rfl rfl (jr_i2l (pc' := 103) rfl rfl hx3 ?_)
            exact jr_retl rfl hu rfl (hQ' _ _ (hQ (x3, p20) (jgl_g hx3) h))
          · refine jr_al_n (pc' := 82) rfl rfl rfl (jr_il_n (pc' := 83) rfl rfl rfl (jr_al_n (pc' := 84) rfl rfl rfl (jr_gr (pc' := 87) (r := 89) rfl rfl jlk_12_80 (.inl rfl) rfl hN jd_67 rfl rfl rfl (jr_bi (pc' := 89) rfl rfl rfl (jr_il_n (pc' := 90) rfl rfl rfl ?_)))))
            refine jr_add (pc' := 91) rfl rfl ?_
            refine jr_ia (pc' := 92) rfl rfl (jl rfl) hN jd_89 jn_89 jg_w h (fun hc h => ?_)
            refine jr_il_n (pc' := 93) rfl rfl rfl ?_
            refine jr_cv_i (pc' := 96) [] rfl rfl jlk_12_445 jq_264 jbd_264 (jl rfl) rfl (jl rfl) hu rfl (jk rfl hN) (jd_67.trans jo_264.symm) (fun Q' hq => jc_264 hN (Nat.le_trans (jl rfl) hd) hx0 jg_a hx1 (jo_b h) hq) (fun p21 hp21 h => ?_)
            refine jr_ic (pc' := 97) rfl rfl ?_
            refine jr_cne (pa := 100) (pb := 104) rfl rfl rfl hp21 jgc_m1 h (fun hc h => ?_) (fun hc h => ?_)
            · refine jr_il (pc' := 102) rfl rfl rfl (jr_i2l (pc' := 103) rfl rfl hx3 ?_)
              exact jr_retl rfl hu rfl (hQ' _ _ (hQ (x3, p21.2) (jgl_g hx3) h))
            · refine jr_lc (pc' := 105) (x := 1) rfl rfl rfl (jr_ls (pc' := 107) (L' := [_, _, _, _, _, _, _, _, _, _, _, _, _]) rfl rfl (jl rfl) rfl (jr_lc (pc' := 108) (x := 1) rfl rfl rfl (jr_ls (pc' := 110) (L' := [_, _, _, _, _, _, _, _, _, _, _, _, _]) rfl rfl (jl rfl) rfl (jr_al_n (pc' := 111) rfl rfl rfl (jr_gr (pc' := 114) (r := 89) rfl rfl jlk_12_80 (.inl rfl) rfl hN jd_67 rfl rfl rfl ?_)))))
              refine jr_bi (pc' := 116) rfl rfl rfl (jr_il_n (pc' := 117) rfl rfl rfl (jr_add (pc' := 118) rfl rfl ?_))
              refine jr_ia (pc' := 119) rfl rfl (jl rfl) hN jd_89 jn_89 jg_w h (fun hc h => ?_)
              refine jr_is (pc' := 121) (L' := [_, _, _, _, _, _, _, _, _, _, _, _, _]) rfl rfl (jl rfl) rfl rfl ?_
              refine jr_reg (fun t28 => jgl t28.1 ∧ jgl t28.2.1) (fun t28 => ∀ o29, jn o29 → ∀ o30, jn o30 → ∀ o31, jn o31 → ∀ o32, jn o32 → jp X (px_C X d) px_m287 Q' N 228 [some (.ref 67), some (jv x0), some (jv x1), some (jv x2), some (jv x3), some (jvl t28.1), none, some (jvl t28.2.1), none, o29, o30, o31, o32] [] t28.2.2 (0, 0)) h (fun t28 ht28 h o29 ho29 o30 ho30 o31 ho31 o32 ho32 => ?_) (fun R34 k33 h => ?_)
              · refine jr_ll (pc' := 230) rfl rfl rfl (jr_ll (pc' := 232) rfl rfl rfl (jr_il (pc' := 234) rfl rfl rfl ?_))
                refine jr_cs_pl (pc' := 237) [] rfl rfl jlk_12_480 jq_288 jbd_288 (jl rfl) rfl (jl rfl) hu (fun Q' hq => jc_288 hN (Nat.le_trans (jl rfl) hd) ht28.1 ht28.2 hx3 (jo_b h) hq) (fun p88 hp88 h => ?_)
                exact jr_retl rfl hu rfl (hQ' _ _ (hQ (p88, t28.2.2) hp88 h))
              · refine jr_lp (fun s22 => jgl s22.1 ∧ jgl s22.2.1 ∧ jg s22.2.2.1) (fun s22 => ∀ o23, jn o23 → ∀ o24, jn o24 → ∀ o25, jn o25 → jp X (px_C X d) px_m287 Q' N 121 [some (.ref 67), some (jv x0), some (jv x1), some (jv x2), some (jv x3), some (jvl s22.1), none, some (jvl s22.2.1), none, some (jv s22.2.2.1), o23, o24, o25] [] s22.2.2.2 (0, 0)) h ⟨jglc_1, jglc_1, jg_a⟩ (fun s22 hs22 R27 k26 h o23 ho23 o24 ho24 o25 ho25 => ?_) _ jn_n _ jn_n _ jn_n
                refine jr_il (pc' := 123) rfl rfl rfl (jr_il_n (pc' := 124) rfl rfl rfl ?_)
                refine jr_ceq (pa := 228) (pb := 127) rfl rfl rfl hs22.2.2 hx1 h (fun hc h => ?_) (fun hc h => ?_)
                · exact k33 (s22.1, s22.2.1, s22.2.2.2) ⟨hs22.1, hs22.2.1⟩ h _ jn_i _ ho23 _ ho24 _ ho25
                · refine jr_al_n (pc' := 128) rfl rfl rfl (jr_il_n (pc' := 129) rfl rfl rfl (jr_il (pc' := 131) rfl rfl rfl ?_))
                  refine jr_cv_i (pc' := 134) [] rfl rfl jlk_12_448 jq_268 jbd_268 (jl rfl) rfl (jl rfl) hu rfl (jk rfl hN) (jd_67.trans jo_268.symm) (fun Q' hq => jc_268 hN (Nat.le_trans (jl rfl) hd) hx0 hs22.2.2 (jo_b h) hq) (fun p35 hp35 h => ?_)
                  refine jr_is (pc' := 136) (L' := [_, _, _, _, _, _, _, _, _, _, _, _, _]) rfl rfl (jl rfl) rfl rfl (jr_al_n (pc' := 137) rfl rfl rfl (jr_il (pc' := 139) rfl rfl rfl (jr_il (pc' := 141) rfl rfl rfl ?_)))
                  refine jr_cv_p (pc' := 144) [] rfl rfl jlk_12_395 jq_235 jbd_235 (jl rfl) rfl (jl rfl) hu rfl (jk rfl hN) (jd_67.trans jo_235.symm) (fun Q' hq => jc_235 hN (Nat.le_trans (jl rfl) hd) hs22.2.2 hp35 (jo_b h) hq) (fun p36 hp36 h => ?_)
                  refine jr_is (pc' := 146) (L' := [_, _, _, _, _, _, _, _, _, _, _, _, _]) rfl rfl (jl rfl) rfl rfl (jr_al_n (pc' := 147) rfl rfl rfl (jr_gr (pc' := 150) (r := 76) rfl rfl jlk_12_41 (.inl rfl) rfl hN jd_67 rfl rfl rfl (jr_ic (pc' := 151) rfl rfl (jr_il (pc' := 153) rfl rfl rfl (jr_mul (pc' := 154) rfl rfl ?_)))))
                  refine jr_ia (pc' := 155) rfl rfl (jl rfl) hN jd_76 jn_76 jg_w h (fun hc h => ?_)
                  refine jr_il (pc' := 157) rfl rfl rfl ?_
                  refine jr_reg (fun t37 => jb t37) (fun t37 => jp X (px_C X d) px_m287 Q' N 165 [some (.ref 67), some (jv x0), some (jv x1), some (jv x2), some (jv x3), some (jvl s22.1), none, some (jvl s22.2.1), none, some (jv s22.2.2.1), some (jv p35.1), some (jv p36), o25] [(jv t37)] p35.2 (0, 0)) h (fun t37 ht37 h => ?_) (fun R77 k38 h => ?_)
                  · refine jr_is (pc' := 167) (L' := [_, _, _, _, _, _, _, _, _, _, _, _, _]) rfl rfl (jl rfl) rfl rfl (jr_ll (pc' := 169) rfl rfl rfl (jr_al_n (pc' := 170) rfl rfl rfl (jr_il_n (pc' := 171) rfl rfl rfl (jr_il (pc' := 173) rfl rfl rfl (jr_il (pc' := 175) rfl rfl rfl ?_)))))
                    refine jr_ic (pc' := 176) rfl rfl ?_
                    refine jr_cv_i (pc' := 179) [_] rfl rfl jlk_12_398 jq_236 jbd_236 (jl rfl) rfl (jl rfl) hu rfl (jk rfl hN) (jd_67.trans jo_236.symm) (fun Q' hq => jc_236 hN (Nat.le_trans (jl rfl) hd) hx0 hp36 (jg_b ht37) jgc_1 (jo_b h) hq) (fun p49 hp49 h => ?_)
                    refine jr_reg (fun t50 => jg t50) (fun t50 => jp X (px_C X d) px_m287 Q' N 187 [some (.ref 67), some (jv x0), some (jv x1), some (jv x2), some (jv x3), some (jvl s22.1), none, some (jvl s22.2.1), none, some (jv s22.2.2.1), some (jv p35.1), some (jv p36), some (jv t37)] [(jv t50), (jvl s22.1)] p49.2 (0, 0)) h (fun t50 ht50 h => ?_) (fun R76 k51 h => ?_)
                    · refine jr_al_n (pc' := 188) rfl rfl rfl (jr_il_n (pc' := 189) rfl rfl rfl (jr_il (pc' := 191) rfl rfl rfl (jr_il (pc' := 193) rfl rfl rfl (jr_ic (pc' := 194) rfl rfl ?_))))
                      refine jr_cv_i (pc' := 197) [_, _] rfl rfl jlk_12_398 jq_236 jbd_236 (jl rfl) rfl (jl rfl) hu rfl (jk rfl hN) (jd_67.trans jo_236.symm) (fun Q' hq => jc_236 hN (Nat.le_trans (jl rfl) hd) hx0 hp36 (jg_b ht37) jgc_0 (jo_b h) hq) (fun p62 hp62 h => ?_)
                      refine jr_reg (fun t63 => jg t63) (fun t63 => jp X (px_C X d) px_m287 Q' N 208 [some (.ref 67), some (jv x0), some (jv x1), some (jv x2), some (jv x3), some (jvl s22.1), none, some (jvl s22.2.1), none, some (jv s22.2.2.1), some (jv p35.1), some (jv p36), some (jv t37)] [(jv t63), (jv t50), (jvl s22.1)] p62.2 (0, 0)) h (fun t63 ht63 h => ?_) (fun R75 k64 h => ?_)
                      · refine jr_add (pc' := 209) rfl rfl (jr_i2l (pc' := 210) rfl rfl jg_w (jr_lmul (pc' := 211) rfl rfl (jr_ls (pc' := 213) (L' := [_, _, _, _, _, _, _, _, _, _, _, _, _]) rfl rfl (jl rfl) rfl (jr_ll (pc' := 215) rfl rfl rfl (jr_ldl (pc' := 218) (x := 16) rfl rfl jlk_12_478 rfl ?_)))))
                        refine jr_lmul (pc' := 219) rfl rfl (jr_ls (pc' := 221) (L' := [_, _, _, _, _, _, _, _, _, _, _, _, _]) rfl rfl (jl rfl) rfl (jr_il (pc' := 223) rfl rfl rfl (jr_is (pc' := 225) (L' := [_, _, _, _, _, _, _, _, _, _, _, _, _]) rfl rfl (jl rfl) rfl rfl (jr_goto (pc' := 121) rfl rfl ?_))))
                        exact k26 (jwl (s22.1 * (jw (t50 + t63))), jwl (s22.2.1 * (16 : Int)), p35.1, p62.2) ⟨jgl_w, jgl_w, hp35⟩ h _ jn_i _ jn_i _ jn_i
                      · refine jr_zeq (pa := 207) (pb := 200) rfl rfl rfl (jg_b hp62) h (fun hc h => ?_) (fun hc h => ?_)
                        · refine jr_ic (pc' := 208) rfl rfl ?_
                          exact k64 ((0 : Int)) jgc_0 h
                        · refine jr_bi (pc' := 202) rfl rfl rfl (jr_il_n (pc' := 203) rfl rfl rfl (jr_sub (pc' := 204) rfl rfl (jr_goto (pc' := 208) rfl rfl ?_)))
                          exact k64 (jw ((16 : Int) - x2)) jg_w h
                    · refine jr_zeq (pa := 186) (pb := 182) rfl rfl rfl (jg_b hp49) h (fun hc h => ?_) (fun hc h => ?_)
                      · refine jr_ic (pc' := 187) rfl rfl ?_
                        exact k51 ((0 : Int)) jgc_0 h
                      · refine jr_il_n (pc' := 183) rfl rfl rfl (jr_goto (pc' := 187) rfl rfl ?_)
                        exact k51 (x2) hx2 h
                  · refine jr_cne (pa := 160) (pb := 164) rfl rfl rfl jg_a hs22.2.2 h (fun hc h => ?_) (fun hc h => ?_)
                    · refine jr_ic (pc' := 161) rfl rfl (jr_goto (pc' := 165) rfl rfl ?_)
                      exact k38 ((0 : Int)) jb_0 h
                    · refine jr_ic (pc' := 165) rfl rfl ?_
                      exact k38 ((1 : Int)) jb_1 h
      · refine jr_zeq (pa := 48) (pb := 34) rfl rfl rfl (jg_b hp4) h (fun hc h => ?_) (fun hc h => ?_)
        · refine jr_ic (pc' := 49) rfl rfl ?_
          exact k6 ((0 : Int)) jb_0 h
        · refine jr_il (pc' := 36) rfl rfl rfl (jr_ic (pc' := 37) rfl rfl (jr_ic (pc' := 38) rfl rfl ?_))
          refine jr_cs_p (pc' := 41) [_] rfl rfl jlk_12_414 jq_247 jbd_247 (jl rfl) rfl (jl rfl) hu (fun Q' hq => jc_247 hN (Nat.le_trans (jl rfl) hd) hx3 jgc_0 jgc_1 (jo_b h) hq) (fun p7 hp7 h => ?_)
          refine jr_zeq (pa := 48) (pb := 44) rfl rfl rfl (jg_b hp7) h (fun hc h => ?_) (fun hc h => ?_)
          · refine jr_ic (pc' := 49) rfl rfl ?_
            exact k6 ((0 : Int)) jb_0 h
          · refine jr_ic (pc' := 45) rfl rfl (jr_goto (pc' := 49) rfl rfl ?_)
            exact k6 ((1 : Int)) jb_1 h

set_option maxRecDepth 20000 in
set_option maxHeartbeats 1000000 in
theorem jc_290 {X : Nat × (Nat → Int32)} {N d : Nat} {x0 : Int} {x1 : Int} {x2 : Int} {x3 : Int} {x4 : Int} (hN : 102 ≤ N) (hd : 1 ≤ d) (hx0 : jg x0) (hx1 : jg x1) (hx2 : jg x2) (hx3 : jg x3) (hx4 : jg x4) {m : jm} {P : Int → Prop} {Q : px_Q} (h : jo (jf_290 x0 x1 x2 x3 x4 m) P) (hQ : ∀ p : Int, jg p → P p → Q (.inl (some (jv p))) (jmem N m)) : px_C X d 290 [jv x0, jv x1, jv x2, jv x3, jv x4] (jmem N m) Q := by
  unfold jf_290 at h
  have hu : ju px_m290 (0, 0) := ju_0
  refine jr_in (M := px_m290) (lev := 0) (L := [some (jv x0), some (jv x1), some (jv x2), some (jv x3), some (jv x4)]) hd rfl jbd_290 (jl rfl) rfl (fun d hd Q' hQ' => ?_)
  refine jr_il_n (pc' := 1) rfl rfl rfl (jr_ic (pc' := 2) rfl rfl ?_)
  refine jr_reg (fun t1 => jg t1) (fun t1 => jp X (px_C X d) px_m290 Q' N 31 [some (jv x0), some (jv x1), some (jv x2), some (jv x3), some (jv x4)] [(jv t1)] m (0, 0)) h (fun t1 ht1 h => ?_) (fun R13 k2 h => ?_)
  · exact jr_ret rfl hu rfl (hQ' _ _ (hQ t1 ht1 h))
  · refine jr_cne (pa := 5) (pb := 19) rfl rfl rfl hx0 jgc_1 h (fun hc h => ?_) (fun hc h => ?_)
    · refine jr_il_n (pc' := 6) rfl rfl rfl (jr_ic (pc' := 7) rfl rfl ?_)
      refine jr_cne (pa := 10) (pb := 15) rfl rfl rfl hx1 jgc_1 h (fun hc h => ?_) (fun hc h => ?_)
      · refine jr_il_n (pc' := 11) rfl rfl rfl (jr_neg (pc' := 12) rfl rfl (jr_goto (pc' := 31) rfl rfl ?_))
        exact k2 (jw (-x3)) jg_w h
      · refine jr_il_n (pc' := 16) rfl rfl rfl (jr_goto (pc' := 31) rfl rfl ?_)
        exact k2 (x2) hx2 h
    · refine jr_il_n (pc' := 20) rfl rfl rfl (jr_ic (pc' := 21) rfl rfl ?_)
      refine jr_cne (pa := 24) (pb := 30) rfl rfl rfl hx1 jgc_1 h (fun hc h => ?_) (fun hc h => ?_)
      · refine jr_il (pc' := 26) rfl rfl rfl (jr_neg (pc' := 27) rfl rfl (jr_goto (pc' := 31) rfl rfl ?_))
        exact k2 (jw (-x4)) jg_w h
      · refine jr_ic (pc' := 31) rfl rfl ?_
        exact k2 ((0 : Int)) jgc_0 h

set_option maxRecDepth 20000 in
set_option maxHeartbeats 1000000 in
theorem jc_289 {X : Nat × (Nat → Int32)} {N d : Nat} {x0 : Int} {x1 : Int} {x2 : Int} {x3 : Int} (hN : 102 ≤ N) (hd : 2 ≤ d) (hx0 : jg x0) (hx1 : jg x1) (hx2 : jg x2) (hx3 : jg x3) {m : jm} {P : Int × jm → Prop} {Q : px_Q} (h : jo (jf_289 x0 x1 x2 x3 m) P) (hQ : ∀ p : Int × jm, jg p.1 → P p → Q (.inl (some (jv p.1))) (jmem N p.2)) : px_C X d 289 [.ref 67, jv x0, jv x1, jv x2, jv x3] (jmem N m) Q := by
  unfold jf_289 at h
  have hu : ju px_m289 (0, 0) := ju_0
  refine jr_in (M := px_m289) (lev := 1) (L := [some (.ref 67), some (jv x0), some (jv x1), some (jv x2), some (jv x3), none, none, none, none, none]) hd rfl jbd_289 (jl rfl) rfl (fun d hd Q' hQ' => ?_)
  refine jr_al_n (pc' := 1) rfl rfl rfl (jr_ic (pc' := 2) rfl rfl (jr_pi (pc' := 5) rfl rfl jlk_12_3 (.inl rfl) rfl hN jd_67 rfl rfl ?_))
  refine jr_le h (fun m1 h => ?_)
  refine jr_al_n (pc' := 6) rfl rfl rfl (jr_il_n (pc' := 7) rfl rfl rfl (jr_ic (pc' := 8) rfl rfl (jr_bi (pc' := 10) rfl rfl rfl ?_)))
  refine jr_cs_p (pc' := 13) [_] rfl rfl jlk_12_414 jq_247 jbd_247 (jl rfl) rfl (jl rfl) hu (fun Q' hq => jc_247 hN (Nat.le_trans (jl rfl) hd) hx0 jgc_0 jgc_99 (jo_b h) hq) (fun p2 hp2 h => ?_)
  refine jr_reg (fun t3 => jb t3) (fun t3 => jp X (px_C X d) px_m289 Q' N 51 [some (.ref 67), some (jv x0), some (jv x1), some (jv x2), some (jv x3), none, none, none, none, none] [(jv t3), (.ref 67)] m1 (0, 0)) h (fun t3 ht3 h => ?_) (fun R85 k4 h => ?_)
  · refine jr_ic (pc' := 52) rfl rfl (jr_ic (pc' := 53) rfl rfl ?_)
    refine jr_cv_i (pc' := 56) [] rfl rfl jlk_12_233 jq_194 jbd_194 (jl rfl) rfl (jl rfl) hu rfl (jk rfl hN) (jd_67.trans jo_194.symm) (fun Q' hq => jc_194 hN (Nat.le_trans (jl rfl) hd) (jg_b ht3) jgc_1 jgc_1 (jo_b h) hq) (fun p18 hp18 h => ?_)
    refine jr_zne (pa := 59) (pb := 61) rfl rfl rfl (jg_b hp18) h (fun hc h => ?_) (fun hc h => ?_)
    · refine jr_ic (pc' := 60) rfl rfl ?_
      exact jr_ret rfl hu rfl (hQ' _ _ (hQ ((0 : Int), p18.2) jgc_0 h))
    · refine jr_ic (pc' := 62) rfl rfl (jr_is (pc' := 64) (L' := [_, _, _, _, _, _, _, _, _, _]) rfl rfl (jl rfl) rfl rfl (jr_ic (pc' := 65) rfl rfl (jr_is (pc' := 67) (L' := [_, _, _, _, _, _, _, _, _, _]) rfl rfl (jl rfl) rfl rfl (jr_ic (pc' := 68) rfl rfl (jr_is (pc' := 70) (L' := [_, _, _, _, _, _, _, _, _, _]) rfl rfl (jl rfl) rfl rfl ?_)))))
      refine jr_reg (fun t24 => jg t24.1 ∧ jg t24.2) (fun t24 => ∀ o25, jn o25 → ∀ o26, jn o26 → ∀ o27, jn o27 → jp X (px_C X d) px_m289 Q' N 171 [some (.ref 67), some (jv x0), some (jv x1), some (jv x2), some (jv x3), some (jv t24.1), some (jv t24.2), o25, o26, o27] [] p18.2 (0, 0)) h (fun t24 ht24 h o25 ho25 o26 ho26 o27 ho27 => ?_) (fun R29 k28 h => ?_)
      · refine jr_il (pc' := 173) rfl rfl rfl ?_
        refine jr_reg (fun t70 => jg t70) (fun t70 => jp X (px_C X d) px_m289 Q' N 235 [some (.ref 67), some (jv x0), some (jv x1), some (jv x2), some (jv x3), some (jv t24.1), some (jv t24.2), o25, o26, o27] [(jv t70)] p18.2 (0, 0)) h (fun t70 ht70 h => ?_) (fun R84 k71 h => ?_)
        · exact jr_ret rfl hu rfl (hQ' _ _ (hQ (t70, p18.2) ht70 h))
        · refine jr_zne (pa := 176) (pb := 181) rfl rfl rfl hx3 h (fun hc h => ?_) (fun hc h => ?_)
          · refine jr_il (pc' := 178) rfl rfl rfl (jr_goto (pc' := 235) rfl rfl ?_)
            exact k71 (t24.1) ht24.1 h
          · refine jr_il (pc' := 183) rfl rfl rfl (jr_ic (pc' := 184) rfl rfl ?_)
            refine jr_cne (pa := 187) (pb := 192) rfl rfl rfl hx3 jgc_1 h (fun hc h => ?_) (fun hc h => ?_)
            · refine jr_il (pc' := 189) rfl rfl rfl (jr_goto (pc' := 235) rfl rfl ?_)
              exact k71 (t24.2) ht24.2 h
            · refine jr_il (pc' := 194) rfl rfl rfl (jr_ic (pc' := 195) rfl rfl ?_)
              refine jr_cne (pa := 198) (pb := 202) rfl rfl rfl ht24.2 jgc_m1 h (fun hc h => ?_) (fun hc h => ?_)
              · refine jr_ic (pc' := 199) rfl rfl (jr_goto (pc' := 235) rfl rfl ?_)
                exact k71 ((0 : Int)) jgc_0 h
              · refine jr_il (pc' := 204) rfl rfl rfl (jr_bi (pc' := 206) rfl rfl rfl (jr_div (pc' := 207) rfl rfl jgc_10 (by decide) (jr_il (pc' := 209) rfl rfl rfl (jr_bi (pc' := 211) rfl rfl rfl (jr_rem (pc' := 212) rfl rfl jgc_10 (by decide) ?_)))))
                refine jr_il_n (pc' := 213) rfl rfl rfl (jr_il_n (pc' := 214) rfl rfl rfl (jr_il_n (pc' := 215) rfl rfl rfl ?_))
                refine jr_cs_p (pc' := 218) [] rfl rfl jlk_12_483 jq_290 jbd_290 (jl rfl) rfl (jl rfl) hu (fun Q' hq => jc_290 hN (Nat.le_trans (jl rfl) hd) jg_div jg_rem hx0 hx1 hx2 (jo_b h) hq) (fun p72 hp72 h => ?_)
                refine jr_il (pc' := 220) rfl rfl rfl (jr_bi (pc' := 222) rfl rfl rfl (jr_rem (pc' := 223) rfl rfl jgc_10 (by decide) (jr_il (pc' := 225) rfl rfl rfl (jr_bi (pc' := 227) rfl rfl rfl (jr_div (pc' := 228) rfl rfl jgc_10 (by decide) ?_)))))
                refine jr_il_n (pc' := 229) rfl rfl rfl (jr_il_n (pc' := 230) rfl rfl rfl (jr_il_n (pc' := 231) rfl rfl rfl ?_))
                refine jr_cs_p (pc' := 234) [_] rfl rfl jlk_12_483 jq_290 jbd_290 (jl rfl) rfl (jl rfl) hu (fun Q' hq => jc_290 hN (Nat.le_trans (jl rfl) hd) jg_rem jg_div hx0 hx1 hx2 (jo_b h) hq) (fun p73 hp73 h => ?_)
                refine jr_add (pc' := 235) rfl rfl ?_
                exact k71 (jw (p72 + p73)) jg_w h
      · refine jr_lp (fun s19 => jg s19.1 ∧ jg s19.2.1 ∧ jg s19.2.2) (fun s19 => ∀ o20, jn o20 → ∀ o21, jn o21 → jp X (px_C X d) px_m289 Q' N 70 [some (.ref 67), some (jv x0), some (jv x1), some (jv x2), some (jv x3), some (jv s19.1), some (jv s19.2.1), some (jv s19.2.2), o20, o21] [] p18.2 (0, 0)) h ⟨jgc_0, jgc_m1, jgc_0⟩ (fun s19 hs19 R23 k22 h o20 ho20 o21 ho21 => ?_) _ jn_n _ jn_n
        refine jr_il (pc' := 72) rfl rfl rfl (jr_ic (pc' := 73) rfl rfl ?_)
        refine jr_cge (pa := 76) (pb := 171) rfl rfl rfl hs19.2.2 jgc_4 h (fun hc h => ?_) (fun hc h => ?_)
        · refine jr_il (pc' := 78) rfl rfl rfl (jr_ic (pc' := 79) rfl rfl (jr_div (pc' := 80) rfl rfl jgc_2 (by decide) (jr_is (pc' := 82) (L' := [_, _, _, _, _, _, _, _, _, _]) rfl rfl (jl rfl) rfl rfl (jr_il (pc' := 84) rfl rfl rfl (jr_ic (pc' := 85) rfl rfl ?_)))))
          refine jr_rem (pc' := 86) rfl rfl jgc_2 (by decide) (jr_is (pc' := 88) (L' := [_, _, _, _, _, _, _, _, _, _]) rfl rfl (jl rfl) rfl rfl (jr_ic (pc' := 89) rfl rfl (jr_il (pc' := 91) rfl rfl rfl (jr_sub (pc' := 92) rfl rfl (jr_il (pc' := 94) rfl rfl rfl ?_)))))
          refine jr_il_n (pc' := 95) rfl rfl rfl (jr_il_n (pc' := 96) rfl rfl rfl (jr_il_n (pc' := 97) rfl rfl rfl ?_))
          refine jr_cs_p (pc' := 100) [] rfl rfl jlk_12_483 jq_290 jbd_290 (jl rfl) rfl (jl rfl) hu (fun Q' hq => jc_290 hN (Nat.le_trans (jl rfl) hd) jg_w jg_rem hx0 hx1 hx2 (jo_b h) hq) (fun p30 hp30 h => ?_)
          refine jr_il (pc' := 102) rfl rfl rfl (jr_il (pc' := 104) rfl rfl rfl (jr_il_n (pc' := 105) rfl rfl rfl (jr_il_n (pc' := 106) rfl rfl rfl (jr_il_n (pc' := 107) rfl rfl rfl ?_))))
          refine jr_cs_p (pc' := 110) [_] rfl rfl jlk_12_483 jq_290 jbd_290 (jl rfl) rfl (jl rfl) hu (fun Q' hq => jc_290 hN (Nat.le_trans (jl rfl) hd) jg_div jg_rem hx0 hx1 hx2 (jo_b h) hq) (fun p31 hp31 h => ?_)
          refine jr_reg (fun t32 => jg t32.1 ∧ jg t32.2) (fun t32 => jp X (px_C X d) px_m289 Q' N 165 [some (.ref 67), some (jv x0), some (jv x1), some (jv x2), some (jv x3), some (jv t32.1), some (jv t32.2), some (jv s19.2.2), some (jv (jdiv s19.2.2 (2 : Int))), some (jv (jrem s19.2.2 (2 : Int)))] [] p18.2 (0, 0)) h (fun t32 ht32 h => ?_) (fun R59 k33 h => ?_)
          · refine jr_inc (pc' := 168) (L' := [_, _, _, _, _, _, _, _, _, _]) rfl rfl rfl (jl rfl) rfl rfl (jr_goto (pc' := 70) rfl rfl ?_)
            exact k22 (t32.1, t32.2, jw (s19.2.2 + 1)) ⟨ht32.1, ht32.2, jg_w⟩ h _ jn_i _ jn_i
          · refine jr_cgt (pa := 165) (pb := 113) rfl rfl rfl hp30 hp31 h (fun hc h => ?_) (fun hc h => ?_)
            · exact k33 (s19.1, s19.2.1) ⟨hs19.1, hs19.2.1⟩ h
            · refine jr_ic (pc' := 114) rfl rfl (jr_il (pc' := 116) rfl rfl rfl (jr_sub (pc' := 117) rfl rfl (jr_il (pc' := 119) rfl rfl rfl (jr_il_n (pc' := 120) rfl rfl rfl (jr_il_n (pc' := 121) rfl rfl rfl ?_)))))
              refine jr_il_n (pc' := 122) rfl rfl rfl ?_
              refine jr_cs_p (pc' := 125) [] rfl rfl jlk_12_483 jq_290 jbd_290 (jl rfl) rfl (jl rfl) hu (fun Q' hq => jc_290 hN (Nat.le_trans (jl rfl) hd) jg_w jg_div hx0 hx1 hx2 (jo_b h) hq) (fun p34 hp34 h => ?_)
              refine jr_il (pc' := 127) rfl rfl rfl (jr_il (pc' := 129) rfl rfl rfl (jr_il_n (pc' := 130) rfl rfl rfl (jr_il_n (pc' := 131) rfl rfl rfl (jr_il_n (pc' := 132) rfl rfl rfl ?_))))
              refine jr_cs_p (pc' := 135) [_] rfl rfl jlk_12_483 jq_290 jbd_290 (jl rfl) rfl (jl rfl) hu (fun Q' hq => jc_290 hN (Nat.le_trans (jl rfl) hd) jg_rem jg_div hx0 hx1 hx2 (jo_b h) hq) (fun p35 hp35 h => ?_)
              refine jr_cle (pa := 138) (pb := 141) rfl rfl rfl hp34 hp35 h (fun hc h => ?_) (fun hc h => ?_)
              · refine jr_goto (pc' := 165) rfl rfl ?_
                exact k33 (s19.1, s19.2.1) ⟨hs19.1, hs19.2.1⟩ h
              · refine jr_inc (pc' := 144) (L' := [_, _, _, _, _, _, _, _, _, _]) rfl rfl rfl (jl rfl) rfl rfl (jr_il (pc' := 146) rfl rfl rfl (jr_ic (pc' := 147) rfl rfl ?_))
                refine jr_reg (fun t36 => jg t36) (fun t36 => jp X (px_C X d) px_m289 Q' N 163 [some (.ref 67), some (jv x0), some (jv x1), some (jv x2), some (jv x3), some (jv (jw (s19.1 + 1))), some (jv s19.2.1), some (jv s19.2.2), some (jv (jdiv s19.2.2 (2 : Int))), some (jv (jrem s19.2.2 (2 : Int)))] [(jv t36)] p18.2 (0, 0)) h (fun t36 ht36 h => ?_) (fun R48 k37 h => ?_)
                · refine jr_is (pc' := 165) (L' := [_, _, _, _, _, _, _, _, _, _]) rfl rfl (jl rfl) rfl rfl ?_
                  exact k33 (jw (s19.1 + 1), t36) ⟨jg_w, ht36⟩ h
                · refine jr_cne (pa := 150) (pb := 161) rfl rfl rfl hs19.2.1 jgc_m1 h (fun hc h => ?_) (fun hc h => ?_)
                  · refine jr_bi (pc' := 152) rfl rfl rfl (jr_il (pc' := 154) rfl rfl rfl (jr_mul (pc' := 155) rfl rfl (jr_il (pc' := 157) rfl rfl rfl (jr_add (pc' := 158) rfl rfl (jr_goto (pc' := 163) rfl rfl ?_)))))
                    exact k37 (jw ((jw ((10 : Int) * (jdiv s19.2.2 (2 : Int)))) + (jrem s19.2.2 (2 : Int)))) jg_w h
                  · refine jr_il (pc' := 163) rfl rfl rfl ?_
                    exact k37 (s19.2.1) hs19.2.1 h
        · exact k28 (s19.1, s19.2.1) ⟨hs19.1, hs19.2.1⟩ h _ jn_i _ ho20 _ ho21
  · refine jr_zeq (pa := 50) (pb := 16) rfl rfl rfl (jg_b hp2) h (fun hc h => ?_) (fun hc h => ?_)
    · refine jr_ic (pc' := 51) rfl rfl ?_
      exact k4 ((0 : Int)) jb_0 h
    · refine jr_il_n (pc' := 17) rfl rfl rfl (jr_ic (pc' := 18) rfl rfl (jr_bi (pc' := 20) rfl rfl rfl ?_))
      refine jr_cs_p (pc' := 23) [_] rfl rfl jlk_12_414 jq_247 jbd_247 (jl rfl) rfl (jl rfl) hu (fun Q' hq => jc_247 hN (Nat.le_trans (jl rfl) hd) hx1 jgc_0 jgc_99 (jo_b h) hq) (fun p5 hp5 h => ?_)
      refine jr_zeq (pa := 50) (pb := 26) rfl rfl rfl (jg_b hp5) h (fun hc h => ?_) (fun hc h => ?_)
      · refine jr_ic (pc' := 51) rfl rfl ?_
        exact k4 ((0 : Int)) jb_0 h
      · refine jr_il_n (pc' := 27) rfl rfl rfl (jr_ic (pc' := 28) rfl rfl (jr_bi (pc' := 30) rfl rfl rfl ?_))
        refine jr_cs_p (pc' := 33) [_] rfl rfl jlk_12_414 jq_247 jbd_247 (jl rfl) rfl (jl rfl) hu (fun Q' hq => jc_247 hN (Nat.le_trans (jl rfl) hd) hx2 jgc_0 jgc_99 (jo_b h) hq) (fun p6 hp6 h => ?_)
        refine jr_zeq (pa := 50) (pb := 36) rfl rfl rfl (jg_b hp6) h (fun hc h => ?_) (fun hc h => ?_)
        · refine jr_ic (pc' := 51) rfl rfl ?_
          exact k4 ((0 : Int)) jb_0 h
        · refine jr_il (pc' := 38) rfl rfl rfl (jr_ic (pc' := 39) rfl rfl (jr_ic (pc' := 40) rfl rfl ?_))
          refine jr_cs_p (pc' := 43) [_] rfl rfl jlk_12_414 jq_247 jbd_247 (jl rfl) rfl (jl rfl) hu (fun Q' hq => jc_247 hN (Nat.le_trans (jl rfl) hd) hx3 jgc_0 jgc_2 (jo_b h) hq) (fun p7 hp7 h => ?_)
          refine jr_zeq (pa := 50) (pb := 46) rfl rfl rfl (jg_b hp7) h (fun hc h => ?_) (fun hc h => ?_)
          · refine jr_ic (pc' := 51) rfl rfl ?_
            exact k4 ((0 : Int)) jb_0 h
          · refine jr_ic (pc' := 47) rfl rfl (jr_goto (pc' := 51) rfl rfl ?_)
            exact k4 ((1 : Int)) jb_1 h

set_option maxRecDepth 20000 in
set_option maxHeartbeats 1000000 in
theorem jc_291 {X : Nat × (Nat → Int32)} {N d : Nat} {x0 : Int} {x1 : Int} {x2 : Int} (hN : 102 ≤ N) (hd : 3 ≤ d) (hx0 : jg x0) (hx1 : jg x1) (hx2 : jg x2) {m : jm} {P : Int × jm → Prop} {Q : px_Q} (h : jo (jf_291 x0 x1 x2 m) P) (hQ : ∀ p : Int × jm, jg p.1 → P p → Q (.inl (some (jv p.1))) (jmem N p.2)) : px_C X d 291 [.ref 67, jv x0, jv x1, jv x2] (jmem N m) Q := by
  unfold jf_291 at h
  have hu : ju px_m291 (0, 0) := ju_0
  refine jr_in (M := px_m291) (lev := 2) (L := [some (.ref 67), some (jv x0), some (jv x1), some (jv x2), none, none, none, none]) hd rfl jbd_291 (jl rfl) rfl (fun d hd Q' hQ' => ?_)
  refine jr_al_n (pc' := 1) rfl rfl rfl (jr_ic (pc' := 2) rfl rfl (jr_pi (pc' := 5) rfl rfl jlk_12_3 (.inl rfl) rfl hN jd_67 rfl rfl ?_))
  refine jr_le h (fun m1 h => ?_)
  refine jr_al_n (pc' := 6) rfl rfl rfl (jr_il_n (pc' := 7) rfl rfl rfl (jr_ic (pc' := 8) rfl rfl ?_))
  refine jr_cv_i (pc' := 11) [] rfl rfl jlk_12_435 jq_258 jbd_258 (jl rfl) rfl (jl rfl) hu rfl (jk rfl hN) (jd_67.trans jo_258.symm) (fun Q' hq => jc_258 hN (Nat.le_trans (jl rfl) hd) hx0 jgc_1 (jo_b h) hq) (fun p2 hp2 h => ?_)
  refine jr_zeq (pa := 53) (pb := 14) rfl rfl rfl (jg_b hp2) h (fun hc h => ?_) (fun hc h => ?_)
  · refine jr_ic (pc' := 54) rfl rfl ?_
    exact jr_ret rfl hu rfl (hQ' _ _ (hQ ((0 : Int), p2.2) jgc_0 h))
  · refine jr_al_n (pc' := 15) rfl rfl rfl (jr_il_n (pc' := 16) rfl rfl rfl ?_)
    refine jr_reg (fun t3 => jb t3) (fun t3 => jp X (px_C X d) px_m291 Q' N 45 [some (.ref 67), some (jv x0), some (jv x1), some (jv x2), none, none, none, none] [(jv t3), (.ref 67)] p2.2 (0, 0)) h (fun t3 ht3 h => ?_) (fun R110 k4 h => ?_)
    · refine jr_ic (pc' := 46) rfl rfl (jr_ic (pc' := 47) rfl rfl ?_)
      refine jr_cv_i (pc' := 50) [] rfl rfl jlk_12_233 jq_194 jbd_194 (jl rfl) rfl (jl rfl) hu rfl (jk rfl hN) (jd_67.trans jo_194.symm) (fun Q' hq => jc_194 hN (Nat.le_trans (jl rfl) hd) (jg_b ht3) jgc_2 jgc_1 (jo_b h) hq) (fun p16 hp16 h => ?_)
      refine jr_zne (pa := 53) (pb := 55) rfl rfl rfl (jg_b hp16) h (fun hc h => ?_) (fun hc h => ?_)
      · refine jr_ic (pc' := 54) rfl rfl ?_
        exact jr_ret rfl hu rfl (hQ' _ _ (hQ ((0 : Int), p16.2) jgc_0 h))
      · refine jr_il_n (pc' := 56) rfl rfl rfl (jr_il_n (pc' := 57) rfl rfl rfl (jr_shr (pc' := 58) rfl rfl (jr_ic (pc' := 59) rfl rfl (jr_and (pc' := 60) rfl rfl ?_))))
        refine jr_zne (pa := 63) (pb := 65) rfl rfl rfl jg_band h (fun hc h => ?_) (fun hc h => ?_)
        · refine jr_ic (pc' := 64) rfl rfl ?_
          exact jr_ret rfl hu rfl (hQ' _ _ (hQ ((0 : Int), p16.2) jgc_0 h))
        · refine jr_ic (pc' := 66) rfl rfl (jr_is (pc' := 68) (L' := [_, _, _, _, _, _, _, _]) rfl rfl (jl rfl) rfl rfl (jr_ic (pc' := 69) rfl rfl (jr_is (pc' := 71) (L' := [_, _, _, _, _, _, _, _]) rfl rfl (jl rfl) rfl rfl ?_)))
          refine jr_reg (fun t20 => jg t20) (fun t20 => ∀ o21, jn o21 → jp X (px_C X d) px_m291 Q' N 109 [some (.ref 67), some (jv x0), some (jv x1), some (jv x2), some (jv t20), o21, none, none] [] p16.2 (0, 0)) h (fun t20 ht20 h o21 ho21 => ?_) (fun R23 k22 h => ?_)
          · refine jr_il_n (pc' := 110) rfl rfl rfl (jr_is (pc' := 112) (L' := [_, _, _, _, _, _, _, _]) rfl rfl (jl rfl) rfl rfl (jr_ic (pc' := 113) rfl rfl (jr_is (pc' := 115) (L' := [_, _, _, _, _, _, _, _]) rfl rfl (jl rfl) rfl rfl ?_)))
            refine jr_reg (fun t38 => jg t38.1) (fun t38 => ∀ o39, jn o39 → ∀ o40, jn o40 → jp X (px_C X d) px_m291 Q' N 188 [some (.ref 67), some (jv x0), some (jv x1), some (jv x2), some (jv t20), some (jv t38.1), o39, o40] [] t38.2 (0, 0)) h (fun t38 ht38 h o39 ho39 o40 ho40 => ?_) (fun R42 k41 h => ?_)
            · refine jr_ic (pc' := 189) rfl rfl (jr_is (pc' := 191) (L' := [_, _, _, _, _, _, _, _]) rfl rfl (jl rfl) rfl rfl (jr_ic (pc' := 192) rfl rfl (jr_is (pc' := 194) (L' := [_, _, _, _, _, _, _, _]) rfl rfl (jl rfl) rfl rfl ?_)))
              refine jr_reg (fun t70 => jg t70) (fun t70 => ∀ o71, jn o71 → jp X (px_C X d) px_m291 Q' N 257 [some (.ref 67), some (jv x0), some (jv x1), some (jv x2), some (jv t20), some (jv t38.1), some (jv t70), o71] [] t38.2 (0, 0)) h (fun t70 ht70 h o71 ho71 => ?_) (fun R73 k72 h => ?_)
              · refine jr_il_n (pc' := 258) rfl rfl rfl (jr_al_n (pc' := 259) rfl rfl rfl (jr_gr (pc' := 262) (r := 79) rfl rfl jlk_12_50 (.inl rfl) rfl hN jd_67 rfl rfl rfl (jr_ic (pc' := 263) rfl rfl (jr_il_n (pc' := 264) rfl rfl rfl (jr_mul (pc' := 265) rfl rfl ?_)))))
                refine jr_ic (pc' := 266) rfl rfl (jr_add (pc' := 267) rfl rfl ?_)
                refine jr_ia (pc' := 268) rfl rfl (jl rfl) hN jd_79 jn_79 jg_w h (fun hc h => ?_)
                refine jr_mul (pc' := 269) rfl rfl (jr_il (pc' := 271) rfl rfl rfl ?_)
                refine jo_w0 h (fun hc h => jr_div (pc' := 272) rfl rfl ht20 hc ?_)
                refine jr_il (pc' := 274) rfl rfl rfl (jr_il (pc' := 276) rfl rfl rfl ?_)
                refine jr_reg (fun t97 => jb t97) (fun t97 => jp X (px_C X d) px_m291 Q' N 284 [some (.ref 67), some (jv x0), some (jv x1), some (jv x2), some (jv t20), some (jv t38.1), some (jv t70), o71] [(jv t97), (jv (jdiv (jw (x2 * (ja t38.2 79 (jw ((jw ((4 : Int) * x0)) + (3 : Int))).toNat))) t20))] t38.2 (0, 0)) h (fun t97 ht97 h => ?_) (fun R109 k98 h => ?_)
                · refine jr_add (pc' := 285) rfl rfl ?_
                  exact jr_ret rfl hu rfl (hQ' _ _ (hQ (jw ((jdiv (jw (x2 * (ja t38.2 79 (jw ((jw ((4 : Int) * x0)) + (3 : Int))).toNat))) t20) + t97), t38.2) jg_w h))
                · refine jr_cge (pa := 279) (pb := 283) rfl rfl rfl ht70 ht38 h (fun hc h => ?_) (fun hc h => ?_)
                  · refine jr_ic (pc' := 280) rfl rfl (jr_goto (pc' := 284) rfl rfl ?_)
                    exact k98 ((1 : Int)) jb_1 h
                  · refine jr_ic (pc' := 284) rfl rfl ?_
                    exact k98 ((0 : Int)) jb_0 h
              · refine jr_lp (fun s67 => jg s67.1 ∧ jg s67.2) (fun s67 => jp X (px_C X d) px_m291 Q' N 194 [some (.ref 67), some (jv x0), some (jv x1), some (jv x2), some (jv t20), some (jv t38.1), some (jv s67.1), some (jv s67.2)] [] t38.2 (0, 0)) h ⟨jgc_0, jgc_0⟩ (fun s67 hs67 R69 k68 h => ?_)
                refine jr_il (pc' := 196) rfl rfl rfl (jr_al_n (pc' := 197) rfl rfl rfl (jr_gi (pc' := 200) rfl rfl jlk_12_193 (.inl rfl) rfl hN jd_67 rfl rfl ?_))
                refine jr_cge (pa := 203) (pb := 257) rfl rfl rfl hs67.2 jg_a h (fun hc h => ?_) (fun hc h => ?_)
                · refine jr_il (pc' := 205) rfl rfl rfl (jr_al_n (pc' := 206) rfl rfl rfl (jr_gr (pc' := 209) (r := 100) rfl rfl jlk_12_114 (.inl rfl) rfl hN jd_67 rfl rfl rfl (jr_il (pc' := 211) rfl rfl rfl ?_)))
                  refine jr_ia (pc' := 212) rfl rfl (jl rfl) hN jd_100 jn_100 hs67.2 h (fun hc h => ?_)
                  refine jr_al_n (pc' := 213) rfl rfl rfl (jr_gr (pc' := 216) (r := 100) rfl rfl jlk_12_114 (.inl rfl) rfl hN jd_67 rfl rfl rfl (jr_il_n (pc' := 217) rfl rfl rfl ?_))
                  refine jr_ia (pc' := 218) rfl rfl (jl rfl) hN jd_100 jn_100 hx0 h (fun hc h => ?_)
                  refine jr_reg (fun t74 => jb t74) (fun t74 => jp X (px_C X d) px_m291 Q' N 248 [some (.ref 67), some (jv x0), some (jv x1), some (jv x2), some (jv t20), some (jv t38.1), some (jv s67.1), some (jv s67.2)] [(jv t74), (jv s67.1)] t38.2 (0, 0)) h (fun t74 ht74 h => ?_) (fun R86 k75 h => ?_)
                  · refine jr_add (pc' := 249) rfl rfl (jr_is (pc' := 251) (L' := [_, _, _, _, _, _, _, _]) rfl rfl (jl rfl) rfl rfl (jr_inc (pc' := 254) (L' := [_, _, _, _, _, _, _, _]) rfl rfl rfl (jl rfl) rfl rfl (jr_goto (pc' := 194) rfl rfl ?_)))
                    exact k68 (jw (s67.1 + t74), jw (s67.2 + 1)) ⟨jg_w, jg_w⟩ h
                  · refine jr_cgt (pa := 243) (pb := 221) rfl rfl rfl jg_a jg_a h (fun hc h => ?_) (fun hc h => ?_)
                    · refine jr_ic (pc' := 244) rfl rfl (jr_goto (pc' := 248) rfl rfl ?_)
                      exact k75 ((1 : Int)) jb_1 h
                    · refine jr_al_n (pc' := 222) rfl rfl rfl (jr_gr (pc' := 225) (r := 100) rfl rfl jlk_12_114 (.inl rfl) rfl hN jd_67 rfl rfl rfl (jr_il (pc' := 227) rfl rfl rfl ?_))
                      refine jr_ia (pc' := 228) rfl rfl (jl rfl) hN jd_100 jn_100 hs67.2 h (fun hc h => ?_)
                      refine jr_al_n (pc' := 229) rfl rfl rfl (jr_gr (pc' := 232) (r := 100) rfl rfl jlk_12_114 (.inl rfl) rfl hN jd_67 rfl rfl rfl (jr_il_n (pc' := 233) rfl rfl rfl ?_))
                      refine jr_ia (pc' := 234) rfl rfl (jl rfl) hN jd_100 jn_100 hx0 h (fun hc h => ?_)
                      refine jr_cne (pa := 237) (pb := 247) rfl rfl rfl jg_a jg_a h (fun hc h => ?_) (fun hc h => ?_)
                      · refine jr_il (pc' := 239) rfl rfl rfl (jr_il_n (pc' := 240) rfl rfl rfl ?_)
                        refine jr_cge (pa := 243) (pb := 247) rfl rfl rfl hs67.2 hx0 h (fun hc h => ?_) (fun hc h => ?_)
                        · refine jr_ic (pc' := 244) rfl rfl (jr_goto (pc' := 248) rfl rfl ?_)
                          exact k75 ((1 : Int)) jb_1 h
                        · refine jr_ic (pc' := 248) rfl rfl ?_
                          exact k75 ((0 : Int)) jb_0 h
                      · refine jr_ic (pc' := 248) rfl rfl ?_
                        exact k75 ((0 : Int)) jb_0 h
                · exact k72 (s67.1) hs67.1 h _ jn_i
            · refine jr_lp (fun s34 => jg s34.1 ∧ jg s34.2.1) (fun s34 => ∀ o35, jn o35 → jp X (px_C X d) px_m291 Q' N 115 [some (.ref 67), some (jv x0), some (jv x1), some (jv x2), some (jv t20), some (jv s34.1), some (jv s34.2.1), o35] [] s34.2.2 (0, 0)) h ⟨hx2, jgc_0⟩ (fun s34 hs34 R37 k36 h o35 ho35 => ?_) _ jn_n
              refine jr_il (pc' := 117) rfl rfl rfl (jr_al_n (pc' := 118) rfl rfl rfl (jr_gi (pc' := 121) rfl rfl jlk_12_193 (.inl rfl) rfl hN jd_67 rfl rfl ?_))
              refine jr_cge (pa := 124) (pb := 188) rfl rfl rfl hs34.2 jg_a h (fun hc h => ?_) (fun hc h => ?_)
              · refine jr_il_n (pc' := 125) rfl rfl rfl (jr_il (pc' := 127) rfl rfl rfl (jr_shr (pc' := 128) rfl rfl (jr_ic (pc' := 129) rfl rfl (jr_and (pc' := 130) rfl rfl (jr_il_n (pc' := 131) rfl rfl rfl ?_)))))
                refine jr_mul (pc' := 132) rfl rfl (jr_al_n (pc' := 133) rfl rfl rfl (jr_gr (pc' := 136) (r := 79) rfl rfl jlk_12_50 (.inl rfl) rfl hN jd_67 rfl rfl rfl (jr_ic (pc' := 137) rfl rfl (jr_il (pc' := 139) rfl rfl rfl (jr_mul (pc' := 140) rfl rfl ?_)))))
                refine jr_ic (pc' := 141) rfl rfl (jr_add (pc' := 142) rfl rfl ?_)
                refine jr_ia (pc' := 143) rfl rfl (jl rfl) hN jd_79 jn_79 jg_w h (fun hc h => ?_)
                refine jr_mul (pc' := 144) rfl rfl (jr_is (pc' := 146) (L' := [_, _, _, _, _, _, _, _]) rfl rfl (jl rfl) rfl rfl (jr_il (pc' := 148) rfl rfl rfl (jr_il (pc' := 150) rfl rfl rfl (jr_il (pc' := 152) rfl rfl rfl ?_))))
                refine jo_w0 h (fun hc h => jr_div (pc' := 153) rfl rfl ht20 hc ?_)
                refine jr_sub (pc' := 154) rfl rfl (jr_is (pc' := 156) (L' := [_, _, _, _, _, _, _, _]) rfl rfl (jl rfl) rfl rfl (jr_al_n (pc' := 157) rfl rfl rfl (jr_gr (pc' := 160) (r := 100) rfl rfl jlk_12_114 (.inl rfl) rfl hN jd_67 rfl rfl rfl (jr_il (pc' := 162) rfl rfl rfl (jr_il_n (pc' := 163) rfl rfl rfl ?_)))))
                refine jr_il (pc' := 165) rfl rfl rfl (jr_shr (pc' := 166) rfl rfl (jr_ic (pc' := 167) rfl rfl (jr_and (pc' := 168) rfl rfl (jr_ic (pc' := 169) rfl rfl ?_))))
                refine jr_reg (fun t43 => jg t43) (fun t43 => jp X (px_C X d) px_m291 Q' N 181 [some (.ref 67), some (jv x0), some (jv x1), some (jv x2), some (jv t20), some (jv (jw (s34.1 - (jdiv (jw ((jw ((jband (jshr x1 s34.2.1) (1 : Int)) * x2)) * (ja s34.2.2 79 (jw ((jw ((4 : Int) * s34.2.1)) + (3 : Int))).toNat))) t20)))), some (jv s34.2.1), some (jv (jw ((jw ((jband (jshr x1 s34.2.1) (1 : Int)) * x2)) * (ja s34.2.2 79 (jw ((jw ((4 : Int) * s34.2.1)) + (3 : Int))).toNat))))] [(jv t43), (jv s34.2.1), (.ref 100)] s34.2.2 (0, 0)) h (fun t43 ht43 h => ?_) (fun R56 k44 h => ?_)
                · refine jr_ist (pc' := 182) rfl rfl (jl rfl) hN jd_100 jn_100 hs34.2 h (fun hc h => ?_)
                  refine jr_le h (fun m55 h => ?_)
                  refine jr_inc (pc' := 185) (L' := [_, _, _, _, _, _, _, _]) rfl rfl rfl (jl rfl) rfl rfl (jr_goto (pc' := 115) rfl rfl ?_)
                  exact k36 (jw (s34.1 - (jdiv (jw ((jw ((jband (jshr x1 s34.2.1) (1 : Int)) * x2)) * (ja s34.2.2 79 (jw ((jw ((4 : Int) * s34.2.1)) + (3 : Int))).toNat))) t20)), jw (s34.2.1 + 1), m55) ⟨jg_w, jg_w⟩ h _ jn_i
                · refine jr_cne (pa := 172) (pb := 180) rfl rfl rfl jg_band jgc_1 h (fun hc h => ?_) (fun hc h => ?_)
                  · refine jr_il (pc' := 174) rfl rfl rfl (jr_il (pc' := 176) rfl rfl rfl ?_)
                    refine jo_w0 h (fun hc h => jr_rem (pc' := 177) rfl rfl ht20 hc ?_)
                    refine jr_goto (pc' := 181) rfl rfl ?_
                    exact k44 (jrem (jw ((jw ((jband (jshr x1 s34.2.1) (1 : Int)) * x2)) * (ja s34.2.2 79 (jw ((jw ((4 : Int) * s34.2.1)) + (3 : Int))).toNat))) t20) jg_rem h
                  · refine jr_ic (pc' := 181) rfl rfl ?_
                    exact k44 ((-1 : Int)) jgc_m1 h
              · exact k41 (s34.1, s34.2.2) hs34.1 h _ jn_i _ ho35
          · refine jr_lp (fun s17 => jg s17.1 ∧ jg s17.2) (fun s17 => jp X (px_C X d) px_m291 Q' N 71 [some (.ref 67), some (jv x0), some (jv x1), some (jv x2), some (jv s17.1), some (jv s17.2), none, none] [] p16.2 (0, 0)) h ⟨jgc_0, jgc_0⟩ (fun s17 hs17 R19 k18 h => ?_)
            refine jr_il (pc' := 73) rfl rfl rfl (jr_al_n (pc' := 74) rfl rfl rfl (jr_gi (pc' := 77) rfl rfl jlk_12_193 (.inl rfl) rfl hN jd_67 rfl rfl ?_))
            refine jr_cge (pa := 80) (pb := 109) rfl rfl rfl hs17.2 jg_a h (fun hc h => ?_) (fun hc h => ?_)
            · refine jr_il (pc' := 82) rfl rfl rfl (jr_il_n (pc' := 83) rfl rfl rfl (jr_il (pc' := 85) rfl rfl rfl (jr_shr (pc' := 86) rfl rfl (jr_ic (pc' := 87) rfl rfl (jr_and (pc' := 88) rfl rfl ?_)))))
              refine jr_al_n (pc' := 89) rfl rfl rfl (jr_gr (pc' := 92) (r := 79) rfl rfl jlk_12_50 (.inl rfl) rfl hN jd_67 rfl rfl rfl (jr_ic (pc' := 93) rfl rfl (jr_il (pc' := 95) rfl rfl rfl (jr_mul (pc' := 96) rfl rfl (jr_ic (pc' := 97) rfl rfl ?_)))))
              refine jr_add (pc' := 98) rfl rfl ?_
              refine jr_ia (pc' := 99) rfl rfl (jl rfl) hN jd_79 jn_79 jg_w h (fun hc h => ?_)
              refine jr_mul (pc' := 100) rfl rfl (jr_add (pc' := 101) rfl rfl (jr_is (pc' := 103) (L' := [_, _, _, _, _, _, _, _]) rfl rfl (jl rfl) rfl rfl (jr_inc (pc' := 106) (L' := [_, _, _, _, _, _, _, _]) rfl rfl rfl (jl rfl) rfl rfl (jr_goto (pc' := 71) rfl rfl ?_))))
              exact k18 (jw (s17.1 + (jw ((jband (jshr x1 s17.2) (1 : Int)) * (ja p16.2 79 (jw ((jw ((4 : Int) * s17.2)) + (3 : Int))).toNat)))), jw (s17.2 + 1)) ⟨jg_w, jg_w⟩ h
            · exact k22 (s17.1) hs17.1 h _ jn_i
    · refine jr_zlt (pa := 44) (pb := 19) rfl rfl rfl hx1 h (fun hc h => ?_) (fun hc h => ?_)
      · refine jr_ic (pc' := 45) rfl rfl ?_
        exact k4 ((0 : Int)) jb_0 h
      · refine jr_il_n (pc' := 20) rfl rfl rfl (jr_ic (pc' := 21) rfl rfl (jr_al_n (pc' := 22) rfl rfl rfl (jr_gi (pc' := 25) rfl rfl jlk_12_193 (.inl rfl) rfl hN jd_67 rfl rfl (jr_shl (pc' := 26) rfl rfl ?_))))
        refine jr_cge (pa := 29) (pb := 44) rfl rfl rfl hx1 jg_shl h (fun hc h => ?_) (fun hc h => ?_)
        · refine jr_il_n (pc' := 30) rfl rfl rfl (jr_ic (pc' := 31) rfl rfl (jr_si (pc' := 34) rfl rfl rfl ?_))
          refine jr_cs_p (pc' := 37) [_] rfl rfl jlk_12_414 jq_247 jbd_247 (jl rfl) rfl (jl rfl) hu (fun Q' hq => jc_247 hN (Nat.le_trans (jl rfl) hd) hx2 jgc_0 jgc_999 (jo_b h) hq) (fun p5 hp5 h => ?_)
          refine jr_zeq (pa := 44) (pb := 40) rfl rfl rfl (jg_b hp5) h (fun hc h => ?_) (fun hc h => ?_)
          · refine jr_ic (pc' := 45) rfl rfl ?_
            exact k4 ((0 : Int)) jb_0 h
          · refine jr_ic (pc' := 41) rfl rfl (jr_goto (pc' := 45) rfl rfl ?_)
            exact k4 ((1 : Int)) jb_1 h
        · refine jr_ic (pc' := 45) rfl rfl ?_
          exact k4 ((0 : Int)) jb_0 h

set_option maxRecDepth 20000 in
set_option maxHeartbeats 1000000 in
theorem jc_292 {X : Nat × (Nat → Int32)} {N d : Nat} {x0 : Int} (hN : 102 ≤ N) (hd : 2 ≤ d) (hx0 : jg x0) {m : jm} {P : Int × jm → Prop} {Q : px_Q} (h : jo (jf_292 x0 m) P) (hQ : ∀ p : Int × jm, jg p.1 → P p → Q (.inl (some (jv p.1))) (jmem N p.2)) : px_C X d 292 [.ref 67, jv x0] (jmem N m) Q := by
  unfold jf_292 at h
  have hu : ju px_m292 (0, 0) := ju_0
  refine jr_in (M := px_m292) (lev := 1) (L := [some (.ref 67), some (jv x0), none, none, none]) hd rfl jbd_292 (jl rfl) rfl (fun d hd Q' hQ' => ?_)
  refine jr_al_n (pc' := 1) rfl rfl rfl (jr_ic (pc' := 2) rfl rfl (jr_pi (pc' := 5) rfl rfl jlk_12_3 (.inl rfl) rfl hN jd_67 rfl rfl ?_))
  refine jr_le h (fun m1 h => ?_)
  refine jr_al_n (pc' := 6) rfl rfl rfl (jr_il_n (pc' := 7) rfl rfl rfl (jr_ic (pc' := 8) rfl rfl (jr_ic (pc' := 9) rfl rfl ?_)))
  refine jr_cs_p (pc' := 12) [_] rfl rfl jlk_12_414 jq_247 jbd_247 (jl rfl) rfl (jl rfl) hu (fun Q' hq => jc_247 hN (Nat.le_trans (jl rfl) hd) hx0 jgc_0 jgc_1 (jo_b h) hq) (fun p2 hp2 h => ?_)
  refine jr_ic (pc' := 13) rfl rfl (jr_ic (pc' := 14) rfl rfl ?_)
  refine jr_cv_i (pc' := 17) [] rfl rfl jlk_12_233 jq_194 jbd_194 (jl rfl) rfl (jl rfl) hu rfl (jk rfl hN) (jd_67.trans jo_194.symm) (fun Q' hq => jc_194 hN (Nat.le_trans (jl rfl) hd) (jg_b hp2) jgc_1 jgc_1 (jo_b h) hq) (fun p3 hp3 h => ?_)
  refine jr_zne (pa := 20) (pb := 22) rfl rfl rfl (jg_b hp3) h (fun hc h => ?_) (fun hc h => ?_)
  · refine jr_ic (pc' := 21) rfl rfl ?_
    exact jr_ret rfl hu rfl (hQ' _ _ (hQ ((0 : Int), p3.2) jgc_0 h))
  · refine jr_ic (pc' := 23) rfl rfl (jr_is_n (pc' := 24) (L' := [_, _, _, _, _]) rfl rfl (jl rfl) rfl rfl (jr_ic (pc' := 25) rfl rfl (jr_is_n (pc' := 26) (L' := [_, _, _, _, _]) rfl rfl (jl rfl) rfl rfl (jr_ic (pc' := 27) rfl rfl (jr_is (pc' := 29) (L' := [_, _, _, _, _]) rfl rfl (jl rfl) rfl rfl ?_)))))
    refine jr_reg (fun t7 => jg t7.1 ∧ jg t7.2) (fun t7 => ∀ o8, jn o8 → jp X (px_C X d) px_m292 Q' N 75 [some (.ref 67), some (jv x0), some (jv t7.1), some (jv t7.2), o8] [] p3.2 (0, 0)) h (fun t7 ht7 h o8 ho8 => ?_) (fun R10 k9 h => ?_)
    · refine jr_il_n (pc' := 76) rfl rfl rfl ?_
      refine jr_reg (fun t34 => jg t34) (fun t34 => jp X (px_C X d) px_m292 Q' N 89 [some (.ref 67), some (jv x0), some (jv t7.1), some (jv t7.2), o8] [(jv t34)] p3.2 (0, 0)) h (fun t34 ht34 h => ?_) (fun R46 k35 h => ?_)
      · exact jr_ret rfl hu rfl (hQ' _ _ (hQ (t34, p3.2) ht34 h))
      · refine jr_zeq (pa := 84) (pb := 79) rfl rfl rfl hx0 h (fun hc h => ?_) (fun hc h => ?_)
        · refine jr_il_n (pc' := 85) rfl rfl rfl (jr_goto (pc' := 89) rfl rfl ?_)
          exact k35 (t7.1) ht7.1 h
        · refine jr_il_n (pc' := 80) rfl rfl rfl (jr_ic (pc' := 81) rfl rfl ?_)
          refine jr_cne (pa := 84) (pb := 88) rfl rfl rfl ht7.1 jgc_m1 h (fun hc h => ?_) (fun hc h => ?_)
          · refine jr_il_n (pc' := 85) rfl rfl rfl (jr_goto (pc' := 89) rfl rfl ?_)
            exact k35 (t7.1) ht7.1 h
          · refine jr_il_n (pc' := 89) rfl rfl rfl ?_
            exact k35 (t7.2) ht7.2 h
    · refine jr_lp (fun s4 => jg s4.1 ∧ jg s4.2.1 ∧ jg s4.2.2) (fun s4 => jp X (px_C X d) px_m292 Q' N 29 [some (.ref 67), some (jv x0), some (jv s4.1), some (jv s4.2.1), some (jv s4.2.2)] [] p3.2 (0, 0)) h ⟨jgc_m1, jgc_0, jgc_0⟩ (fun s4 hs4 R6 k5 h => ?_)
      refine jr_il (pc' := 31) rfl rfl rfl (jr_al_n (pc' := 32) rfl rfl rfl (jr_gi (pc' := 35) rfl rfl jlk_12_187 (.inl rfl) rfl hN jd_67 rfl rfl ?_))
      refine jr_cge (pa := 38) (pb := 75) rfl rfl rfl hs4.2.2 jg_a h (fun hc h => ?_) (fun hc h => ?_)
      · refine jr_al_n (pc' := 39) rfl rfl rfl (jr_gr (pc' := 42) (r := 88) rfl rfl jlk_12_77 (.inl rfl) rfl hN jd_67 rfl rfl rfl (jr_bi (pc' := 44) rfl rfl rfl (jr_il (pc' := 46) rfl rfl rfl (jr_add (pc' := 47) rfl rfl ?_))))
        refine jr_ia (pc' := 48) rfl rfl (jl rfl) hN jd_88 jn_88 jg_w h (fun hc h => ?_)
        refine jr_il_n (pc' := 49) rfl rfl rfl ?_
        refine jr_reg (fun t11 => jg t11.1 ∧ jg t11.2) (fun t11 => jp X (px_C X d) px_m292 Q' N 69 [some (.ref 67), some (jv x0), some (jv t11.1), some (jv t11.2), some (jv s4.2.2)] [] p3.2 (0, 0)) h (fun t11 ht11 h => ?_) (fun R23 k12 h => ?_)
        · refine jr_inc (pc' := 72) (L' := [_, _, _, _, _]) rfl rfl rfl (jl rfl) rfl rfl (jr_goto (pc' := 29) rfl rfl ?_)
          exact k5 (t11.1, t11.2, jw (s4.2.2 + 1)) ⟨ht11.1, ht11.2, jg_w⟩ h
        · refine jr_cgt (pa := 55) (pb := 52) rfl rfl rfl jg_a hs4.2.1 h (fun hc h => ?_) (fun hc h => ?_)
          · refine jr_il (pc' := 57) rfl rfl rfl (jr_is_n (pc' := 58) (L' := [_, _, _, _, _]) rfl rfl (jl rfl) rfl rfl (jr_al_n (pc' := 59) rfl rfl rfl (jr_gr (pc' := 62) (r := 88) rfl rfl jlk_12_77 (.inl rfl) rfl hN jd_67 rfl rfl rfl (jr_bi (pc' := 64) rfl rfl rfl (jr_il (pc' := 66) rfl rfl rfl ?_)))))
            refine jr_add (pc' := 67) rfl rfl ?_
            refine jr_ia (pc' := 68) rfl rfl (jl rfl) hN jd_88 jn_88 jg_w h (fun hc h => ?_)
            refine jr_is_n (pc' := 69) (L' := [_, _, _, _, _]) rfl rfl (jl rfl) rfl rfl ?_
            exact k12 (s4.2.2, ja p3.2 88 (jw ((12 : Int) + s4.2.2)).toNat) ⟨hs4.2.2, jg_a⟩ h
          · refine jr_goto (pc' := 69) rfl rfl ?_
            exact k12 (s4.1, s4.2.1) ⟨hs4.1, hs4.2.1⟩ h
      · exact k9 (s4.1, s4.2.1) ⟨hs4.1, hs4.2.1⟩ h _ jn_i

set_option maxRecDepth 20000 in
set_option maxHeartbeats 1000000 in
theorem jc_294 {X : Nat × (Nat → Int32)} {N d : Nat} {x0 : Int} {x1 : Int} (hN : 102 ≤ N) (hd : 1 ≤ d) (hx0 : jg x0) (hx1 : jg x1) {m : jm} {P : Int → Prop} {Q : px_Q} (h : jo (jf_294 x0 x1 m) P) (hQ : ∀ p : Int, jb p → P p → Q (.inl (some (jv p))) (jmem N m)) : px_C X d 294 [jv x0, jv x1] (jmem N m) Q := by
  unfold jf_294 at h
  have hu : ju px_m294 (0, 0) := ju_0
  refine jr_in (M := px_m294) (lev := 0) (L := [some (jv x0), some (jv x1)]) hd rfl jbd_294 (jl rfl) rfl (fun d hd Q' hQ' => ?_)
  refine jr_il_n (pc' := 1) rfl rfl rfl ?_
  refine jr_reg (fun t1 => jb t1) (fun t1 => jp X (px_C X d) px_m294 Q' N 26 [some (jv x0), some (jv x1)] [(jv t1)] m (0, 0)) h (fun t1 ht1 h => ?_) (fun R13 k2 h => ?_)
  · exact jr_retb rfl hu rfl ht1 (hQ' _ _ (hQ t1 ht1 h))
  · refine jr_zlt (pa := 25) (pb := 4) rfl rfl rfl hx0 h (fun hc h => ?_) (fun hc h => ?_)
    · refine jr_ic (pc' := 26) rfl rfl ?_
      exact k2 ((0 : Int)) jb_0 h
    · refine jr_il_n (pc' := 5) rfl rfl rfl (jr_bi (pc' := 7) rfl rfl rfl ?_)
      refine jr_cgt (pa := 25) (pb := 10) rfl rfl rfl hx0 jgc_16 h (fun hc h => ?_) (fun hc h => ?_)
      · refine jr_ic (pc' := 26) rfl rfl ?_
        exact k2 ((0 : Int)) jb_0 h
      · refine jr_il_n (pc' := 11) rfl rfl rfl (jr_ic (pc' := 12) rfl rfl ?_)
        refine jr_clt (pa := 25) (pb := 15) rfl rfl rfl hx1 jgc_1 h (fun hc h => ?_) (fun hc h => ?_)
        · refine jr_ic (pc' := 26) rfl rfl ?_
          exact k2 ((0 : Int)) jb_0 h
        · refine jr_il_n (pc' := 16) rfl rfl rfl (jr_bi (pc' := 18) rfl rfl rfl ?_)
          refine jr_cgt (pa := 25) (pb := 21) rfl rfl rfl hx1 jgc_96 h (fun hc h => ?_) (fun hc h => ?_)
          · refine jr_ic (pc' := 26) rfl rfl ?_
            exact k2 ((0 : Int)) jb_0 h
          · refine jr_ic (pc' := 22) rfl rfl (jr_goto (pc' := 26) rfl rfl ?_)
            exact k2 ((1 : Int)) jb_1 h

set_option maxRecDepth 20000 in
set_option maxHeartbeats 1000000 in
theorem jc_296 {X : Nat × (Nat → Int32)} {N d : Nat} {x0 : Int} (hN : 102 ≤ N) (hd : 1 ≤ d) (hx0 : jg x0) {m : jm} {P : Int × jm → Prop} {Q : px_Q} (h : jo (jf_296 x0 m) P) (hQ : ∀ p : Int × jm, jg p.1 → P p → Q (.inl (some (jv p.1))) (jmem N p.2)) : px_C X d 296 [.ref 67, jv x0] (jmem N m) Q := by
  unfold jf_296 at h
  have hu : ju px_m296 (0, 0) := ju_0
  refine jr_in (M := px_m296) (lev := 0) (L := [some (.ref 67), some (jv x0)]) hd rfl jbd_296 (jl rfl) rfl (fun d hd Q' hQ' => ?_)
  refine jr_al_n (pc' := 1) rfl rfl rfl (jr_al_n (pc' := 2) rfl rfl rfl (jr_gi (pc' := 5) rfl rfl jlk_12_487 (.inl rfl) rfl hN jd_67 rfl rfl (jr_ldw (pc' := 8) (x := 1103515245) rfl rfl jlk_12_490 rfl (jr_mul (pc' := 9) rfl rfl (jr_si (pc' := 12) rfl rfl rfl ?_)))))
  refine jr_add (pc' := 13) rfl rfl (jr_pi (pc' := 16) rfl rfl jlk_12_487 (.inl rfl) rfl hN jd_67 rfl rfl ?_)
  refine jr_le h (fun m1 h => ?_)
  refine jr_al_n (pc' := 17) rfl rfl rfl (jr_gi (pc' := 20) rfl rfl jlk_12_487 (.inl rfl) rfl hN jd_67 rfl rfl (jr_bi (pc' := 22) rfl rfl rfl (jr_shr (pc' := 23) rfl rfl (jr_si (pc' := 26) rfl rfl rfl (jr_and (pc' := 27) rfl rfl ?_)))))
  refine jr_il_n (pc' := 28) rfl rfl rfl ?_
  refine jo_w0 h (fun hc h => jr_rem (pc' := 29) rfl rfl hx0 hc ?_)
  exact jr_ret rfl hu rfl (hQ' _ _ (hQ (jrem (jband (jshr (ja m1 67 61) (16 : Int)) (32767 : Int)) x0, m1) jg_rem h))

set_option maxRecDepth 20000 in
set_option maxHeartbeats 1000000 in
theorem jc_295 {X : Nat × (Nat → Int32)} {N d : Nat} {x0 : Int} {x1 : Int} {x2 : Int} (hN : 102 ≤ N) (hd : 8 ≤ d) (hx0 : jg x0) (hx1 : jg x1) (hx2 : jg x2) {m : jm} {P : jm → Prop} {Q : px_Q} (h : jo (jf_295 x0 x1 x2 m) P) (hQ : ∀ p : jm, True → P p → Q (.inl (none)) (jmem N p)) : px_C X d 295 [.ref 67, jv x0, jv x1, jv x2] (jmem N m) Q := by
  unfold jf_295 at h
  have hu : ju px_m295 (0, 0) := ju_0
  refine jr_in (M := px_m295) (lev := 7) (L := [some (.ref 67), some (jv x0), some (jv x1), some (jv x2), none, none, none, none]) hd rfl jbd_295 (jl rfl) rfl (fun d hd Q' hQ' => ?_)
  refine jr_al_n (pc' := 1) rfl rfl rfl ?_
  refine jr_cv_v (pc' := 4) [] rfl rfl jlk_12_344 jq_226 jbd_226 (jl rfl) rfl (jl rfl) hu rfl (jk rfl hN) (jd_67.trans jo_226.symm) (fun Q' hq => jc_226 hN (Nat.le_trans (jl rfl) hd)  (jo_b h) hq) (fun p1 hp1 h => ?_)
  refine jr_al_n (pc' := 5) rfl rfl rfl (jr_il_n (pc' := 6) rfl rfl rfl (jr_pi (pc' := 9) rfl rfl jlk_12_487 (.inl rfl) rfl hN jd_67 rfl rfl ?_))
  refine jr_le h (fun m2 h => ?_)
  refine jr_al_n (pc' := 10) rfl rfl rfl (jr_ic (pc' := 11) rfl rfl (jr_pi (pc' := 14) rfl rfl jlk_12_491 (.inl rfl) rfl hN jd_67 rfl rfl ?_))
  refine jr_le h (fun m3 h => ?_)
  refine jr_al_n (pc' := 15) rfl rfl rfl (jr_ic (pc' := 16) rfl rfl (jr_pi (pc' := 19) rfl rfl jlk_12_494 (.inl rfl) rfl hN jd_67 rfl rfl ?_))
  refine jr_le h (fun m4 h => ?_)
  refine jr_al_n (pc' := 20) rfl rfl rfl (jr_ic (pc' := 21) rfl rfl (jr_pi (pc' := 24) rfl rfl jlk_12_497 (.inl rfl) rfl hN jd_67 rfl rfl ?_))
  refine jr_le h (fun m5 h => ?_)
  refine jr_ic (pc' := 25) rfl rfl (jr_is (pc' := 27) (L' := [_, _, _, _, _, _, _, _]) rfl rfl (jl rfl) rfl rfl ?_)
  refine jr_reg (fun t12 => True) (fun t12 => ∀ o13, jn o13 → ∀ o14, jn o14 → ∀ o15, jn o15 → ∀ o16, jn o16 → jp X (px_C X d) px_m295 Q' N 226 [some (.ref 67), some (jv x0), some (jv x1), some (jv x2), o13, o14, o15, o16] [] t12 (0, 0)) h (fun t12 ht12 h o13 ho13 o14 ho14 o15 ho15 o16 ho16 => ?_) (fun R18 k17 h => ?_)
  · exact jr_rv rfl hu rfl (hQ' _ _ (hQ t12 trivial h))
  · refine jr_lp (fun s6 => jg s6.1) (fun s6 => ∀ o7, jn o7 → ∀ o8, jn o8 → ∀ o9, jn o9 → jp X (px_C X d) px_m295 Q' N 27 [some (.ref 67), some (jv x0), some (jv x1), some (jv x2), some (jv s6.1), o7, o8, o9] [] s6.2 (0, 0)) h jgc_1 (fun s6 hs6 R11 k10 h o7 ho7 o8 ho8 o9 ho9 => ?_) _ jn_n _ jn_n _ jn_n
    refine jr_il (pc' := 29) rfl rfl rfl (jr_il_n (pc' := 30) rfl rfl rfl ?_)
    refine jr_cgt (pa := 226) (pb := 33) rfl rfl rfl hs6 hx2 h (fun hc h => ?_) (fun hc h => ?_)
    · exact k17 (s6.2) trivial h _ jn_i _ ho7 _ ho8 _ ho9
    · refine jr_al_n (pc' := 34) rfl rfl rfl (jr_gi (pc' := 37) rfl rfl jlk_12_190 (.inl rfl) rfl hN jd_67 rfl rfl ?_)
      refine jr_zle (pa := 40) (pb := 226) rfl rfl rfl jg_a h (fun hc h => ?_) (fun hc h => ?_)
      · refine jr_al_n (pc' := 41) rfl rfl rfl (jr_al_n (pc' := 42) rfl rfl rfl (jr_gi (pc' := 45) rfl rfl jlk_12_190 (.inl rfl) rfl hN jd_67 rfl rfl ?_))
        refine jr_cv_i (pc' := 48) [] rfl rfl jlk_12_500 jq_296 jbd_296 (jl rfl) rfl (jl rfl) hu rfl (jk rfl hN) (jd_67.trans jo_296.symm) (fun Q' hq => jc_296 hN (Nat.le_trans (jl rfl) hd) jg_a (jo_b h) hq) (fun p19 hp19 h => ?_)
        refine jr_is (pc' := 50) (L' := [_, _, _, _, _, _, _, _]) rfl rfl (jl rfl) rfl rfl (jr_al_n (pc' := 51) rfl rfl rfl (jr_gr (pc' := 54) (r := 89) rfl rfl jlk_12_80 (.inl rfl) rfl hN jd_67 rfl rfl rfl (jr_bi (pc' := 56) rfl rfl rfl (jr_il (pc' := 58) rfl rfl rfl (jr_add (pc' := 59) rfl rfl ?_)))))
        refine jr_ia (pc' := 60) rfl rfl (jl rfl) hN jd_89 jn_89 jg_w h (fun hc h => ?_)
        refine jr_is (pc' := 62) (L' := [_, _, _, _, _, _, _, _]) rfl rfl (jl rfl) rfl rfl (jr_al_n (pc' := 63) rfl rfl rfl (jr_dup (pc' := 64) rfl rfl rfl (jr_gi (pc' := 67) rfl rfl jlk_12_494 (.inl rfl) rfl hN jd_67 rfl rfl (jr_al_n (pc' := 68) rfl rfl rfl (jr_il (pc' := 70) rfl rfl rfl ?_)))))
        refine jr_al_n (pc' := 71) rfl rfl rfl (jr_al_n (pc' := 72) rfl rfl rfl (jr_gi (pc' := 75) rfl rfl jlk_12_184 (.inl rfl) rfl hN jd_67 rfl rfl ?_))
        refine jr_cv_i (pc' := 78) [_, _, _, _] rfl rfl jlk_12_500 jq_296 jbd_296 (jl rfl) rfl (jl rfl) hu rfl (jk rfl hN) (jd_67.trans jo_296.symm) (fun Q' hq => jc_296 hN (Nat.le_trans (jl rfl) hd) jg_a (jo_b h) hq) (fun p20 hp20 h => ?_)
        refine jr_cv_i (pc' := 81) [_, _] rfl rfl jlk_12_408 jq_234 jbd_234 (jl rfl) rfl (jl rfl) hu rfl (jk rfl hN) (jd_67.trans jo_234.symm) (fun Q' hq => jc_234 hN (Nat.le_trans (jl rfl) hd) hp19 hp20 (jo_b h) hq) (fun p21 hp21 h => ?_)
        refine jr_reg (fun t22 => jb t22) (fun t22 => jp X (px_C X d) px_m295 Q' N 89 [some (.ref 67), some (jv x0), some (jv x1), some (jv x2), some (jv s6.1), some (jv p19.1), some (jv (ja p19.2 89 (jw ((36 : Int) + p19.1)).toNat)), o9] [(jv t22), (jv (ja p19.2 67 63)), (.ref 67)] p21.2 (0, 0)) h (fun t22 ht22 h => ?_) (fun R102 k23 h => ?_)
        · refine jr_add (pc' := 90) rfl rfl (jr_pi (pc' := 93) rfl rfl jlk_12_494 (.inl rfl) rfl hN jd_67 rfl rfl ?_)
          refine jr_le h (fun m34 h => ?_)
          refine jr_al_n (pc' := 94) rfl rfl rfl (jr_dup (pc' := 95) rfl rfl rfl (jr_gi (pc' := 98) rfl rfl jlk_12_491 (.inl rfl) rfl hN jd_67 rfl rfl (jr_al_n (pc' := 99) rfl rfl rfl (jr_gr (pc' := 102) (r := 89) rfl rfl jlk_12_80 (.inl rfl) rfl hN jd_67 rfl rfl rfl (jr_bi (pc' := 104) rfl rfl rfl ?_)))))
          refine jr_il (pc' := 106) rfl rfl rfl (jr_add (pc' := 107) rfl rfl ?_)
          refine jr_ia (pc' := 108) rfl rfl (jl rfl) hN jd_89 jn_89 jg_w h (fun hc h => ?_)
          refine jr_il (pc' := 110) rfl rfl rfl (jr_sub (pc' := 111) rfl rfl (jr_add (pc' := 112) rfl rfl (jr_pi (pc' := 115) rfl rfl jlk_12_491 (.inl rfl) rfl hN jd_67 rfl rfl ?_)))
          refine jr_le h (fun m35 h => ?_)
          refine jr_ic (pc' := 116) rfl rfl (jr_is (pc' := 118) (L' := [_, _, _, _, _, _, _, _]) rfl rfl (jl rfl) rfl rfl ?_)
          refine jr_reg (fun t39 => True) (fun t39 => ∀ o40, jn o40 → jp X (px_C X d) px_m295 Q' N 142 [some (.ref 67), some (jv x0), some (jv x1), some (jv x2), some (jv s6.1), some (jv p19.1), some (jv (ja p19.2 89 (jw ((36 : Int) + p19.1)).toNat)), o40] [] t39 (0, 0)) h (fun t39 ht39 h o40 ho40 => ?_) (fun R42 k41 h => ?_)
          · refine jr_ic (pc' := 143) rfl rfl (jr_is (pc' := 145) (L' := [_, _, _, _, _, _, _, _]) rfl rfl (jl rfl) rfl rfl ?_)
            refine jr_reg (fun t57 => True) (fun t57 => ∀ o58, jn o58 → jp X (px_C X d) px_m295 Q' N 169 [some (.ref 67), some (jv x0), some (jv x1), some (jv x2), some (jv s6.1), some (jv p19.1), some (jv (ja p19.2 89 (jw ((36 : Int) + p19.1)).toNat)), o58] [] t57 (0, 0)) h (fun t57 ht57 h o58 ho58 => ?_) (fun R60 k59 h => ?_)
            · refine jr_al_n (pc' := 170) rfl rfl rfl (jr_bi (pc' := 172) rfl rfl rfl ?_)
              refine jr_cv_i (pc' := 175) [] rfl rfl jlk_12_500 jq_296 jbd_296 (jl rfl) rfl (jl rfl) hu rfl (jk rfl hN) (jd_67.trans jo_296.symm) (fun Q' hq => jc_296 hN (Nat.le_trans (jl rfl) hd) jgc_16 (jo_b h) hq) (fun p72 hp72 h => ?_)
              refine jr_il_n (pc' := 176) rfl rfl rfl ?_
              refine jr_reg (fun t73 => True) (fun t73 => jp X (px_C X d) px_m295 Q' N 195 [some (.ref 67), some (jv x0), some (jv x1), some (jv x2), some (jv s6.1), some (jv p19.1), some (jv (ja p19.2 89 (jw ((36 : Int) + p19.1)).toNat)), o58] [] t73 (0, 0)) h (fun t73 ht73 h => ?_) (fun R101 k74 h => ?_)
              · refine jr_il (pc' := 197) rfl rfl rfl (jr_bi (pc' := 199) rfl rfl rfl (jr_rem (pc' := 200) rfl rfl jgc_8 (by decide) ?_))
                refine jr_reg (fun t86 => True) (fun t86 => jp X (px_C X d) px_m295 Q' N 220 [some (.ref 67), some (jv x0), some (jv x1), some (jv x2), some (jv s6.1), some (jv p19.1), some (jv (ja p19.2 89 (jw ((36 : Int) + p19.1)).toNat)), o58] [] t86 (0, 0)) h (fun t86 ht86 h => ?_) (fun R100 k87 h => ?_)
                · refine jr_inc (pc' := 223) (L' := [_, _, _, _, _, _, _, _]) rfl rfl rfl (jl rfl) rfl rfl (jr_goto (pc' := 27) rfl rfl ?_)
                  exact k10 (jw (s6.1 + 1), t86) jg_w h _ jn_i _ jn_i _ ho58
                · refine jr_zeq (pa := 206) (pb := 203) rfl rfl rfl jg_rem h (fun hc h => ?_) (fun hc h => ?_)
                  · refine jr_al_n (pc' := 207) rfl rfl rfl ?_
                    refine jr_cv_v (pc' := 210) [] rfl rfl jlk_12_411 jq_243 jbd_243 (jl rfl) rfl (jl rfl) hu rfl (jk rfl hN) (jd_67.trans jo_243.symm) (fun Q' hq => jc_243 hN (Nat.le_trans (jl rfl) hd)  (jo_b h) hq) (fun p88 hp88 h => ?_)
                    refine jr_al_n (pc' := 211) rfl rfl rfl (jr_dup (pc' := 212) rfl rfl rfl (jr_gi (pc' := 215) rfl rfl jlk_12_497 (.inl rfl) rfl hN jd_67 rfl rfl (jr_ic (pc' := 216) rfl rfl (jr_add (pc' := 217) rfl rfl (jr_pi (pc' := 220) rfl rfl jlk_12_497 (.inl rfl) rfl hN jd_67 rfl rfl ?_)))))
                    refine jr_le h (fun m89 h => ?_)
                    exact k87 (m89) trivial h
                  · refine jr_goto (pc' := 220) rfl rfl ?_
                    exact k87 (t73) trivial h
              · refine jr_cge (pa := 179) (pb := 195) rfl rfl rfl hp72 hx1 h (fun hc h => ?_) (fun hc h => ?_)
                · refine jr_al_n (pc' := 180) rfl rfl rfl (jr_gr (pc' := 183) (r := 89) rfl rfl jlk_12_80 (.inl rfl) rfl hN jd_67 rfl rfl rfl (jr_bi (pc' := 185) rfl rfl rfl (jr_ic (pc' := 186) rfl rfl (jr_al_n (pc' := 187) rfl rfl rfl (jr_gr (pc' := 190) (r := 89) rfl rfl jlk_12_80 (.inl rfl) rfl hN jd_67 rfl rfl rfl ?_)))))
                  refine jr_bi (pc' := 192) rfl rfl rfl ?_
                  refine jr_ia (pc' := 193) rfl rfl (jl rfl) hN jd_89 jn_89 jgc_67 h (fun hc h => ?_)
                  refine jr_sub (pc' := 194) rfl rfl ?_
                  refine jr_ist (pc' := 195) rfl rfl (jl rfl) hN jd_89 jn_89 jgc_67 h (fun hc h => ?_)
                  refine jr_le h (fun m75 h => ?_)
                  exact k74 (m75) trivial h
                · exact k74 (p72.2) trivial h
            · refine jr_lp (fun s54 => jg s54.1) (fun s54 => jp X (px_C X d) px_m295 Q' N 145 [some (.ref 67), some (jv x0), some (jv x1), some (jv x2), some (jv s6.1), some (jv p19.1), some (jv (ja p19.2 89 (jw ((36 : Int) + p19.1)).toNat)), some (jv s54.1)] [] s54.2 (0, 0)) h jgc_0 (fun s54 hs54 R56 k55 h => ?_)
              refine jr_il (pc' := 147) rfl rfl rfl (jr_al_n (pc' := 148) rfl rfl rfl (jr_gi (pc' := 151) rfl rfl jlk_12_193 (.inl rfl) rfl hN jd_67 rfl rfl ?_))
              refine jr_cge (pa := 154) (pb := 169) rfl rfl rfl hs54 jg_a h (fun hc h => ?_) (fun hc h => ?_)
              · refine jr_al_n (pc' := 155) rfl rfl rfl (jr_il (pc' := 157) rfl rfl rfl (jr_il (pc' := 159) rfl rfl rfl ?_))
                refine jr_cv_i (pc' := 162) [] rfl rfl jlk_12_402 jq_229 jbd_229 (jl rfl) rfl (jl rfl) hu rfl (jk rfl hN) (jd_67.trans jo_229.symm) (fun Q' hq => jc_229 hN (Nat.le_trans (jl rfl) hd) hp19 hs54 (jo_b h) hq) (fun p61 hp61 h => ?_)
                refine jr_pop (pc' := 163) rfl rfl rfl (jr_inc (pc' := 166) (L' := [_, _, _, _, _, _, _, _]) rfl rfl rfl (jl rfl) rfl rfl (jr_goto (pc' := 145) rfl rfl ?_))
                exact k55 (jw (s54.1 + 1), p61.2) jg_w h
              · exact k59 (s54.2) trivial h _ jn_i
          · refine jr_lp (fun s36 => jg s36.1) (fun s36 => jp X (px_C X d) px_m295 Q' N 118 [some (.ref 67), some (jv x0), some (jv x1), some (jv x2), some (jv s6.1), some (jv p19.1), some (jv (ja p19.2 89 (jw ((36 : Int) + p19.1)).toNat)), some (jv s36.1)] [] s36.2 (0, 0)) h jgc_0 (fun s36 hs36 R38 k37 h => ?_)
            refine jr_il (pc' := 120) rfl rfl rfl (jr_al_n (pc' := 121) rfl rfl rfl (jr_gi (pc' := 124) rfl rfl jlk_12_193 (.inl rfl) rfl hN jd_67 rfl rfl ?_))
            refine jr_cge (pa := 127) (pb := 142) rfl rfl rfl hs36 jg_a h (fun hc h => ?_) (fun hc h => ?_)
            · refine jr_al_n (pc' := 128) rfl rfl rfl (jr_il (pc' := 130) rfl rfl rfl (jr_il (pc' := 132) rfl rfl rfl ?_))
              refine jr_cv_i (pc' := 135) [] rfl rfl jlk_12_405 jq_232 jbd_232 (jl rfl) rfl (jl rfl) hu rfl (jk rfl hN) (jd_67.trans jo_232.symm) (fun Q' hq => jc_232 hN (Nat.le_trans (jl rfl) hd) hp19 hs36 (jo_b h) hq) (fun p43 hp43 h => ?_)
              refine jr_pop (pc' := 136) rfl rfl rfl (jr_inc (pc' := 139) (L' := [_, _, _, _, _, _, _, _]) rfl rfl rfl (jl rfl) rfl rfl (jr_goto (pc' := 118) rfl rfl ?_))
              exact k37 (jw (s36.1 + 1), p43.2) jg_w h
            · exact k41 (s36.2) trivial h _ jn_i
        · refine jr_zeq (pa := 88) (pb := 84) rfl rfl rfl (jg_b hp21) h (fun hc h => ?_) (fun hc h => ?_)
          · refine jr_ic (pc' := 89) rfl rfl ?_
            exact k23 ((0 : Int)) jb_0 h
          · refine jr_ic (pc' := 85) rfl rfl (jr_goto (pc' := 89) rfl rfl ?_)
            exact k23 ((1 : Int)) jb_1 h
      · exact k17 (s6.2) trivial h _ jn_i _ ho7 _ ho8 _ ho9

