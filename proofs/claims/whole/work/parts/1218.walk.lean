/-! the pure machine follows the functions, 19 (written by wip/whole/gen/walk.py) -/
set_option maxRecDepth 20000 in
set_option maxHeartbeats 1000000 in
theorem jc_277 {X : Nat × (Nat → Int32)} {N d : Nat}  (hN : 102 ≤ N) (hd : 2 ≤ d)  {m : jm} {P : Int × jm → Prop} {Q : px_Q} (h : jo (jf_277 m) P) (hQ : ∀ p : Int × jm, jg p.1 → P p → Q (.inl (some (jv p.1))) (jmem N p.2)) : px_C X d 277 [.ref 67] (jmem N m) Q := by
  unfold jf_277 at h
  have hu : ju px_m277 (0, 0) := ju_0
  refine jr_in (M := px_m277) (lev := 1) (L := [some (.ref 67), none, none, none, none]) hd rfl jbd_277 (jl rfl) rfl (fun d hd Q' hQ' => ?_)
  refine jr_al_n (pc' := 1) rfl rfl rfl (jr_ic (pc' := 2) rfl rfl (jr_pi (pc' := 5) rfl rfl jlk_12_3 (.inl rfl) rfl hN jd_67 rfl rfl ?_))
  refine jr_le h (fun m1 h => ?_)
  refine jr_ic (pc' := 6) rfl rfl (jr_al_n (pc' := 7) rfl rfl rfl (jr_gi (pc' := 10) rfl rfl jlk_12_187 (.inl rfl) rfl hN jd_67 rfl rfl (jr_shl (pc' := 11) rfl rfl (jr_ic (pc' := 12) rfl rfl (jr_sub (pc' := 13) rfl rfl ?_)))))
  refine jr_is_n (pc' := 14) (L' := [_, _, _, _, _]) rfl rfl (jl rfl) rfl rfl (jr_al_n (pc' := 15) rfl rfl rfl (jr_il_n (pc' := 16) rfl rfl rfl ?_))
  refine jr_cv_i (pc' := 19) [] rfl rfl jlk_12_463 jq_276 jbd_276 (jl rfl) rfl (jl rfl) hu rfl (jk rfl hN) (jd_67.trans jo_276.symm) (fun Q' hq => jc_276 hN (Nat.le_trans (jl rfl) hd) jg_w (jo_b h) hq) (fun p2 hp2 h => ?_)
  refine jr_is_n (pc' := 20) (L' := [_, _, _, _, _]) rfl rfl (jl rfl) rfl rfl (jr_ic (pc' := 21) rfl rfl (jr_is_n (pc' := 22) (L' := [_, _, _, _, _]) rfl rfl (jl rfl) rfl rfl (jr_ic (pc' := 23) rfl rfl (jr_is (pc' := 25) (L' := [_, _, _, _, _]) rfl rfl (jl rfl) rfl rfl ?_))))
  refine jr_reg (fun t6 => jg t6.1) (fun t6 => ∀ o7, jn o7 → jp X (px_C X d) px_m277 Q' N 67 [some (.ref 67), some (jv (jw ((jshl (1 : Int) (ja m1 67 25)) - (1 : Int)))), some (jv p2.1), some (jv t6.1), o7] [] t6.2 (0, 0)) h (fun t6 ht6 h o7 ho7 => ?_) (fun R9 k8 h => ?_)
  · refine jr_il_n (pc' := 68) rfl rfl rfl ?_
    exact jr_ret rfl hu rfl (hQ' _ _ (hQ (t6.1, t6.2) ht6 h))
  · refine jr_lp (fun s3 => jg s3.1 ∧ jg s3.2.1) (fun s3 => jp X (px_C X d) px_m277 Q' N 25 [some (.ref 67), some (jv (jw ((jshl (1 : Int) (ja m1 67 25)) - (1 : Int)))), some (jv p2.1), some (jv s3.1), some (jv s3.2.1)] [] s3.2.2 (0, 0)) h ⟨jgc_0, jgc_0⟩ (fun s3 hs3 R5 k4 h => ?_)
    refine jr_il (pc' := 27) rfl rfl rfl (jr_al_n (pc' := 28) rfl rfl rfl (jr_gi (pc' := 31) rfl rfl jlk_12_187 (.inl rfl) rfl hN jd_67 rfl rfl ?_))
    refine jr_cge (pa := 34) (pb := 67) rfl rfl rfl hs3.2 jg_a h (fun hc h => ?_) (fun hc h => ?_)
    · refine jr_il_n (pc' := 35) rfl rfl rfl (jr_al_n (pc' := 36) rfl rfl rfl (jr_il_n (pc' := 37) rfl rfl rfl (jr_ic (pc' := 38) rfl rfl (jr_il (pc' := 40) rfl rfl rfl (jr_shl (pc' := 41) rfl rfl ?_)))))
      refine jr_ic (pc' := 42) rfl rfl (jr_xor (pc' := 43) rfl rfl (jr_and (pc' := 44) rfl rfl ?_))
      refine jr_cv_i (pc' := 47) [_] rfl rfl jlk_12_463 jq_276 jbd_276 (jl rfl) rfl (jl rfl) hu rfl (jk rfl hN) (jd_67.trans jo_276.symm) (fun Q' hq => jc_276 hN (Nat.le_trans (jl rfl) hd) jg_band (jo_b h) hq) (fun p10 hp10 h => ?_)
      refine jr_il_n (pc' := 48) rfl rfl rfl ?_
      refine jr_reg (fun t11 => jg t11) (fun t11 => jp X (px_C X d) px_m277 Q' N 59 [some (.ref 67), some (jv (jw ((jshl (1 : Int) (ja m1 67 25)) - (1 : Int)))), some (jv p2.1), some (jv s3.1), some (jv s3.2.1)] [(jv t11), (jv s3.1)] p10.2 (0, 0)) h (fun t11 ht11 h => ?_) (fun R23 k12 h => ?_)
      · refine jr_or (pc' := 60) rfl rfl (jr_is_n (pc' := 61) (L' := [_, _, _, _, _]) rfl rfl (jl rfl) rfl rfl (jr_inc (pc' := 64) (L' := [_, _, _, _, _]) rfl rfl rfl (jl rfl) rfl rfl (jr_goto (pc' := 25) rfl rfl ?_)))
        exact k4 (jbor s3.1 t11, jw (s3.2.1 + 1), p10.2) ⟨jg_bor, jg_w⟩ h
      · refine jr_cle (pa := 51) (pb := 58) rfl rfl rfl hp10 hp2 h (fun hc h => ?_) (fun hc h => ?_)
        · refine jr_ic (pc' := 52) rfl rfl (jr_il (pc' := 54) rfl rfl rfl (jr_shl (pc' := 55) rfl rfl (jr_goto (pc' := 59) rfl rfl ?_)))
          exact k12 (jshl (1 : Int) s3.2.1) jg_shl h
        · refine jr_ic (pc' := 59) rfl rfl ?_
          exact k12 ((0 : Int)) jgc_0 h
    · exact k8 (s3.1, s3.2.2) hs3.1 h _ jn_i

set_option maxRecDepth 20000 in
set_option maxHeartbeats 1000000 in
theorem jc_279 {X : Nat × (Nat → Int32)} {N d : Nat} {x0 : Int} (hN : 102 ≤ N) (hd : 1 ≤ d) (hx0 : jg x0) {m : jm} {P : Int → Prop} {Q : px_Q} (h : jo (jf_279 x0 m) P) (hQ : ∀ p : Int, jg p → P p → Q (.inl (some (jv p))) (jmem N m)) : px_C X d 279 [jv x0] (jmem N m) Q := by
  unfold jf_279 at h
  have hu : ju px_m279 (0, 0) := ju_0
  refine jr_in (M := px_m279) (lev := 0) (L := [some (jv x0), none, none]) hd rfl jbd_279 (jl rfl) rfl (fun d hd Q' hQ' => ?_)
  refine jr_ic (pc' := 1) rfl rfl (jr_is_n (pc' := 2) (L' := [_, _, _]) rfl rfl (jl rfl) rfl rfl (jr_ic (pc' := 3) rfl rfl (jr_is_n (pc' := 4) (L' := [_, _, _]) rfl rfl (jl rfl) rfl rfl ?_)))
  refine jr_reg (fun t4 => jg t4) (fun t4 => ∀ o5, jn o5 → jp X (px_C X d) px_m279 Q' N 24 [some (jv x0), some (jv t4), o5] [] m (0, 0)) h (fun t4 ht4 h o5 ho5 => ?_) (fun R7 k6 h => ?_)
  · refine jr_il_n (pc' := 25) rfl rfl rfl ?_
    exact jr_ret rfl hu rfl (hQ' _ _ (hQ t4 ht4 h))
  · refine jr_lp (fun s1 => jg s1.1 ∧ jg s1.2) (fun s1 => jp X (px_C X d) px_m279 Q' N 4 [some (jv x0), some (jv s1.1), some (jv s1.2)] [] m (0, 0)) h ⟨jgc_0, jgc_0⟩ (fun s1 hs1 R3 k2 h => ?_)
    refine jr_il_n (pc' := 5) rfl rfl rfl (jr_bi (pc' := 7) rfl rfl rfl ?_)
    refine jr_cge (pa := 10) (pb := 24) rfl rfl rfl hs1.2 jgc_12 h (fun hc h => ?_) (fun hc h => ?_)
    · refine jr_il_n (pc' := 11) rfl rfl rfl (jr_il_n (pc' := 12) rfl rfl rfl (jr_il_n (pc' := 13) rfl rfl rfl (jr_shr (pc' := 14) rfl rfl (jr_ic (pc' := 15) rfl rfl (jr_and (pc' := 16) rfl rfl ?_)))))
      refine jr_add (pc' := 17) rfl rfl (jr_is_n (pc' := 18) (L' := [_, _, _]) rfl rfl (jl rfl) rfl rfl (jr_inc (pc' := 21) (L' := [_, _, _]) rfl rfl rfl (jl rfl) rfl rfl (jr_goto (pc' := 4) rfl rfl ?_)))
      exact k2 (jw (s1.1 + (jband (jshr x0 s1.2) (1 : Int))), jw (s1.2 + 1)) ⟨jg_w, jg_w⟩ h
    · exact k6 (s1.1) hs1.1 h _ jn_i

set_option maxRecDepth 20000 in
set_option maxHeartbeats 1000000 in
theorem jc_278 {X : Nat × (Nat → Int32)} {N d : Nat} {x0 : Int} (hN : 102 ≤ N) (hd : 2 ≤ d) (hx0 : jg x0) {m : jm} {P : Int × jm → Prop} {Q : px_Q} (h : jo (jf_278 x0 m) P) (hQ : ∀ p : Int × jm, jg p.1 → P p → Q (.inl (some (jv p.1))) (jmem N p.2)) : px_C X d 278 [.ref 67, jv x0] (jmem N m) Q := by
  unfold jf_278 at h
  have hu : ju px_m278 (0, 0) := ju_0
  refine jr_in (M := px_m278) (lev := 1) (L := [some (.ref 67), some (jv x0), none, none, none, none, none, none]) hd rfl jbd_278 (jl rfl) rfl (fun d hd Q' hQ' => ?_)
  refine jr_al_n (pc' := 1) rfl rfl rfl (jr_ic (pc' := 2) rfl rfl (jr_pi (pc' := 5) rfl rfl jlk_12_3 (.inl rfl) rfl hN jd_67 rfl rfl ?_))
  refine jr_le h (fun m1 h => ?_)
  refine jr_al_n (pc' := 6) rfl rfl rfl (jr_il_n (pc' := 7) rfl rfl rfl (jr_ic (pc' := 8) rfl rfl (jr_ic (pc' := 9) rfl rfl ?_)))
  refine jr_cs_p (pc' := 12) [_] rfl rfl jlk_12_414 jq_247 jbd_247 (jl rfl) rfl (jl rfl) hu (fun Q' hq => jc_247 hN (Nat.le_trans (jl rfl) hd) hx0 jgc_0 jgc_1 (jo_b h) hq) (fun p2 hp2 h => ?_)
  refine jr_ic (pc' := 13) rfl rfl (jr_ic (pc' := 14) rfl rfl ?_)
  refine jr_cv_i (pc' := 17) [] rfl rfl jlk_12_233 jq_194 jbd_194 (jl rfl) rfl (jl rfl) hu rfl (jk rfl hN) (jd_67.trans jo_194.symm) (fun Q' hq => jc_194 hN (Nat.le_trans (jl rfl) hd) (jg_b hp2) jgc_1 jgc_1 (jo_b h) hq) (fun p3 hp3 h => ?_)
  refine jr_zne (pa := 20) (pb := 22) rfl rfl rfl (jg_b hp3) h (fun hc h => ?_) (fun hc h => ?_)
  · refine jr_ic (pc' := 21) rfl rfl ?_
    exact jr_ret rfl hu rfl (hQ' _ _ (hQ ((0 : Int), p3.2) jgc_0 h))
  · refine jr_al_n (pc' := 23) rfl rfl rfl (jr_ic (pc' := 24) rfl rfl (jr_al_n (pc' := 25) rfl rfl rfl (jr_gi (pc' := 28) rfl rfl jlk_12_187 (.inl rfl) rfl hN jd_67 rfl rfl (jr_shl (pc' := 29) rfl rfl (jr_ic (pc' := 30) rfl rfl ?_)))))
    refine jr_sub (pc' := 31) rfl rfl ?_
    refine jr_cv_i (pc' := 34) [] rfl rfl jlk_12_463 jq_276 jbd_276 (jl rfl) rfl (jl rfl) hu rfl (jk rfl hN) (jd_67.trans jo_276.symm) (fun Q' hq => jc_276 hN (Nat.le_trans (jl rfl) hd) jg_w (jo_b h) hq) (fun p4 hp4 h => ?_)
    refine jr_is_n (pc' := 35) (L' := [_, _, _, _, _, _, _, _]) rfl rfl (jl rfl) rfl rfl (jr_ic (pc' := 36) rfl rfl (jr_is_n (pc' := 37) (L' := [_, _, _, _, _, _, _, _]) rfl rfl (jl rfl) rfl rfl (jr_ldw (pc' := 40) (x := 100000) rfl rfl jlk_12_438 rfl (jr_is (pc' := 42) (L' := [_, _, _, _, _, _, _, _]) rfl rfl (jl rfl) rfl rfl (jr_ic (pc' := 43) rfl rfl ?_)))))
    refine jr_is (pc' := 45) (L' := [_, _, _, _, _, _, _, _]) rfl rfl (jl rfl) rfl rfl ?_
    refine jr_reg (fun t10 => jg t10.1 ∧ jg t10.2.1) (fun t10 => ∀ o11, jn o11 → ∀ o12, jn o12 → ∀ o13, jn o13 → jp X (px_C X d) px_m278 Q' N 145 [some (.ref 67), some (jv x0), some (jv p4.1), some (jv t10.1), some (jv t10.2.1), o11, o12, o13] [] t10.2.2 (0, 0)) h (fun t10 ht10 h o11 ho11 o12 ho12 o13 ho13 => ?_) (fun R15 k14 h => ?_)
    · refine jr_il_n (pc' := 146) rfl rfl rfl ?_
      refine jr_reg (fun t58 => jg t58) (fun t58 => jp X (px_C X d) px_m278 Q' N 158 [some (.ref 67), some (jv x0), some (jv p4.1), some (jv t10.1), some (jv t10.2.1), o11, o12, o13] [(jv t58)] t10.2.2 (0, 0)) h (fun t58 ht58 h => ?_) (fun R70 k59 h => ?_)
      · exact jr_ret rfl hu rfl (hQ' _ _ (hQ (t58, t10.2.2) ht58 h))
      · refine jr_zne (pa := 149) (pb := 157) rfl rfl rfl hx0 h (fun hc h => ?_) (fun hc h => ?_)
        · refine jr_il (pc' := 151) rfl rfl rfl (jr_bi (pc' := 153) rfl rfl rfl (jr_div (pc' := 154) rfl rfl jgc_100 (by decide) (jr_goto (pc' := 158) rfl rfl ?_)))
          exact k59 (jdiv t10.2.1 (100 : Int)) jg_div h
        · refine jr_il_n (pc' := 158) rfl rfl rfl ?_
          exact k59 (t10.1) ht10.1 h
    · refine jr_lp (fun s5 => jg s5.1 ∧ jg s5.2.1 ∧ jg s5.2.2.1) (fun s5 => ∀ o6, jn o6 → ∀ o7, jn o7 → jp X (px_C X d) px_m278 Q' N 45 [some (.ref 67), some (jv x0), some (jv p4.1), some (jv s5.1), some (jv s5.2.1), some (jv s5.2.2.1), o6, o7] [] s5.2.2.2 (0, 0)) h ⟨jgc_m1, jgc_100000, jgc_0⟩ (fun s5 hs5 R9 k8 h o6 ho6 o7 ho7 => ?_) _ jn_n _ jn_n
      refine jr_il (pc' := 47) rfl rfl rfl (jr_ic (pc' := 48) rfl rfl (jr_al_n (pc' := 49) rfl rfl rfl (jr_gi (pc' := 52) rfl rfl jlk_12_187 (.inl rfl) rfl hN jd_67 rfl rfl (jr_shl (pc' := 53) rfl rfl ?_))))
      refine jr_cge (pa := 56) (pb := 145) rfl rfl rfl hs5.2.2 jg_shl h (fun hc h => ?_) (fun hc h => ?_)
      · refine jr_ic (pc' := 57) rfl rfl (jr_is (pc' := 59) (L' := [_, _, _, _, _, _, _, _]) rfl rfl (jl rfl) rfl rfl (jr_ic (pc' := 60) rfl rfl (jr_is (pc' := 62) (L' := [_, _, _, _, _, _, _, _]) rfl rfl (jl rfl) rfl rfl ?_)))
        refine jr_reg (fun t19 => jg t19) (fun t19 => ∀ o20, jn o20 → jp X (px_C X d) px_m278 Q' N 99 [some (.ref 67), some (jv x0), some (jv p4.1), some (jv s5.1), some (jv s5.2.1), some (jv s5.2.2.1), some (jv t19), o20] [] s5.2.2.2 (0, 0)) h (fun t19 ht19 h o20 ho20 => ?_) (fun R22 k21 h => ?_)
        · refine jr_bi (pc' := 101) rfl rfl rfl (jr_il (pc' := 103) rfl rfl rfl (jr_mul (pc' := 104) rfl rfl (jr_il (pc' := 106) rfl rfl rfl ?_)))
          refine jr_cs_p (pc' := 109) [_] rfl rfl jlk_12_466 jq_279 jbd_279 (jl rfl) rfl (jl rfl) hu (fun Q' hq => jc_279 hN (Nat.le_trans (jl rfl) hd) hs5.2.2 (jo_b h) hq) (fun p33 hp33 h => ?_)
          refine jr_add (pc' := 110) rfl rfl (jr_is (pc' := 112) (L' := [_, _, _, _, _, _, _, _]) rfl rfl (jl rfl) rfl rfl (jr_il (pc' := 114) rfl rfl rfl (jr_il (pc' := 116) rfl rfl rfl ?_)))
          refine jr_reg (fun t34 => jg t34.1 ∧ jg t34.2.1) (fun t34 => jp X (px_C X d) px_m278 Q' N 139 [some (.ref 67), some (jv x0), some (jv p4.1), some (jv t34.1), some (jv t34.2.1), some (jv s5.2.2.1), some (jv t19), some (jv (jw ((jw ((100 : Int) * t19)) + p33)))] [] t34.2.2 (0, 0)) h (fun t34 ht34 h => ?_) (fun R47 k35 h => ?_)
          · refine jr_inc (pc' := 142) (L' := [_, _, _, _, _, _, _, _]) rfl rfl rfl (jl rfl) rfl rfl (jr_goto (pc' := 45) rfl rfl ?_)
            exact k8 (t34.1, t34.2.1, jw (s5.2.2.1 + 1), t34.2.2) ⟨ht34.1, ht34.2, jg_w⟩ h _ jn_i _ jn_i
          · refine jr_cge (pa := 119) (pb := 139) rfl rfl rfl jg_w hs5.2.1 h (fun hc h => ?_) (fun hc h => ?_)
            · refine jr_al_n (pc' := 120) rfl rfl rfl (jr_il (pc' := 122) rfl rfl rfl ?_)
              refine jr_cv_i (pc' := 125) [] rfl rfl jlk_12_463 jq_276 jbd_276 (jl rfl) rfl (jl rfl) hu rfl (jk rfl hN) (jd_67.trans jo_276.symm) (fun Q' hq => jc_276 hN (Nat.le_trans (jl rfl) hd) hs5.2.2 (jo_b h) hq) (fun p36 hp36 h => ?_)
              refine jr_il_n (pc' := 126) rfl rfl rfl ?_
              refine jr_ceq (pa := 132) (pb := 129) rfl rfl rfl hp36 hp4 h (fun hc h => ?_) (fun hc h => ?_)
              · refine jr_il (pc' := 134) rfl rfl rfl (jr_is_n (pc' := 135) (L' := [_, _, _, _, _, _, _, _]) rfl rfl (jl rfl) rfl rfl (jr_il (pc' := 137) rfl rfl rfl (jr_is (pc' := 139) (L' := [_, _, _, _, _, _, _, _]) rfl rfl (jl rfl) rfl rfl ?_)))
                exact k35 (s5.2.2.1, jw ((jw ((100 : Int) * t19)) + p33), p36.2) ⟨hs5.2.2, jg_w⟩ h
              · refine jr_goto (pc' := 139) rfl rfl ?_
                exact k35 (s5.1, s5.2.1, p36.2) ⟨hs5.1, hs5.2.1⟩ h
            · exact k35 (s5.1, s5.2.1, s5.2.2.2) ⟨hs5.1, hs5.2.1⟩ h
        · refine jr_lp (fun s16 => jg s16.1 ∧ jg s16.2) (fun s16 => jp X (px_C X d) px_m278 Q' N 62 [some (.ref 67), some (jv x0), some (jv p4.1), some (jv s5.1), some (jv s5.2.1), some (jv s5.2.2.1), some (jv s16.1), some (jv s16.2)] [] s5.2.2.2 (0, 0)) h ⟨jgc_0, jgc_0⟩ (fun s16 hs16 R18 k17 h => ?_)
          refine jr_il (pc' := 64) rfl rfl rfl (jr_al_n (pc' := 65) rfl rfl rfl (jr_gi (pc' := 68) rfl rfl jlk_12_187 (.inl rfl) rfl hN jd_67 rfl rfl ?_))
          refine jr_cge (pa := 71) (pb := 99) rfl rfl rfl hs16.2 jg_a h (fun hc h => ?_) (fun hc h => ?_)
          · refine jr_il (pc' := 73) rfl rfl rfl (jr_il (pc' := 75) rfl rfl rfl (jr_il (pc' := 77) rfl rfl rfl (jr_shr (pc' := 78) rfl rfl (jr_ic (pc' := 79) rfl rfl (jr_and (pc' := 80) rfl rfl ?_)))))
            refine jr_al_n (pc' := 81) rfl rfl rfl (jr_gr (pc' := 84) (r := 88) rfl rfl jlk_12_77 (.inl rfl) rfl hN jd_67 rfl rfl rfl (jr_ic (pc' := 85) rfl rfl (jr_il (pc' := 87) rfl rfl rfl (jr_add (pc' := 88) rfl rfl ?_))))
            refine jr_ia (pc' := 89) rfl rfl (jl rfl) hN jd_88 jn_88 jg_w h (fun hc h => ?_)
            refine jr_mul (pc' := 90) rfl rfl (jr_add (pc' := 91) rfl rfl (jr_is (pc' := 93) (L' := [_, _, _, _, _, _, _, _]) rfl rfl (jl rfl) rfl rfl (jr_inc (pc' := 96) (L' := [_, _, _, _, _, _, _, _]) rfl rfl rfl (jl rfl) rfl rfl (jr_goto (pc' := 62) rfl rfl ?_))))
            exact k17 (jw (s16.1 + (jw ((jband (jshr s5.2.2.1 s16.2) (1 : Int)) * (ja s5.2.2.2 88 (jw ((0 : Int) + s16.2)).toNat)))), jw (s16.2 + 1)) ⟨jg_w, jg_w⟩ h
          · exact k21 (s16.1) hs16.1 h _ jn_i
      · exact k14 (s5.1, s5.2.1, s5.2.2.2) ⟨hs5.1, hs5.2.1⟩ h _ jn_i _ ho6 _ ho7

set_option maxRecDepth 20000 in
set_option maxHeartbeats 1000000 in
theorem jc_282 {X : Nat × (Nat → Int32)} {N d : Nat} {x0 : Int} {x1 : Int} {x2 : Int} (hN : 102 ≤ N) (hd : 6 ≤ d) (hx0 : jg x0) (hx1 : jg x1) (hx2 : jg x2) {m : jm} {P : Int × jm → Prop} {Q : px_Q} (h : jo (jf_282 x0 x1 x2 m) P) (hQ : ∀ p : Int × jm, jg p.1 → P p → Q (.inl (some (jv p.1))) (jmem N p.2)) : px_C X d 282 [.ref 67, jv x0, jv x1, jv x2] (jmem N m) Q := by
  unfold jf_282 at h
  have hu : ju px_m282 (0, 0) := ju_0
  refine jr_in (M := px_m282) (lev := 5) (L := [some (.ref 67), some (jv x0), some (jv x1), some (jv x2)]) hd rfl jbd_282 (jl rfl) rfl (fun d hd Q' hQ' => ?_)
  refine jr_al_n (pc' := 1) rfl rfl rfl (jr_il_n (pc' := 2) rfl rfl rfl (jr_bi (pc' := 4) rfl rfl rfl (jr_div (pc' := 5) rfl rfl jgc_9 (by decide) (jr_il_n (pc' := 6) rfl rfl rfl (jr_bi (pc' := 8) rfl rfl rfl ?_)))))
  refine jr_rem (pc' := 9) rfl rfl jgc_9 (by decide) (jr_ic (pc' := 10) rfl rfl (jr_add (pc' := 11) rfl rfl ?_))
  refine jr_cv_v (pc' := 14) [] rfl rfl jlk_12_454 jq_272 jbd_272 (jl rfl) rfl (jl rfl) hu rfl (jk rfl hN) (jd_67.trans jo_272.symm) (fun Q' hq => jc_272 hN (Nat.le_trans (jl rfl) hd) jg_div jg_w (jo_b h) hq) (fun p1 hp1 h => ?_)
  refine jr_al_n (pc' := 15) rfl rfl rfl (jr_il_n (pc' := 16) rfl rfl rfl (jr_il_n (pc' := 17) rfl rfl rfl (jr_ic (pc' := 18) rfl rfl (jr_al_n (pc' := 19) rfl rfl rfl (jr_gr (pc' := 22) (r := 89) rfl rfl jlk_12_80 (.inl rfl) rfl hN jd_67 rfl rfl rfl ?_)))))
  refine jr_bi (pc' := 24) rfl rfl rfl ?_
  refine jr_ia (pc' := 25) rfl rfl (jl rfl) hN jd_89 jn_89 jgc_67 h (fun hc h => ?_)
  refine jr_cv_i (pc' := 28) [] rfl rfl jlk_12_379 jq_237 jbd_237 (jl rfl) rfl (jl rfl) hu rfl (jk rfl hN) (jd_67.trans jo_237.symm) (fun Q' hq => jc_237 hN (Nat.le_trans (jl rfl) hd) hx0 hx1 jgc_0 jg_a (jo_b h) hq) (fun p2 hp2 h => ?_)
  refine jr_cs_p (pc' := 31) [] rfl rfl jlk_12_383 jq_242 jbd_242 (jl rfl) rfl (jl rfl) hu (fun Q' hq => jc_242 hN (Nat.le_trans (jl rfl) hd) hp2 (jo_b h) hq) (fun p3 hp3 h => ?_)
  exact jr_ret rfl hu rfl (hQ' _ _ (hQ (p3, p2.2) hp3 h))

set_option maxRecDepth 20000 in
set_option maxHeartbeats 1000000 in
theorem jc_281 {X : Nat × (Nat → Int32)} {N d : Nat} {x0 : Int} (hN : 102 ≤ N) (hd : 7 ≤ d) (hx0 : jg x0) {m : jm} {P : jm → Prop} {Q : px_Q} (h : jo (jf_281 x0 m) P) (hQ : ∀ p : jm, True → P p → Q (.inl (none)) (jmem N p)) : px_C X d 281 [.ref 67, jv x0] (jmem N m) Q := by
  unfold jf_281 at h
  have hu : ju px_m281 (0, 0) := ju_0
  refine jr_in (M := px_m281) (lev := 6) (L := [some (.ref 67), some (jv x0), none, none]) hd rfl jbd_281 (jl rfl) rfl (fun d hd Q' hQ' => ?_)
  refine jr_al_n (pc' := 1) rfl rfl rfl ?_
  refine jr_cv_v (pc' := 4) [] rfl rfl jlk_12_344 jq_226 jbd_226 (jl rfl) rfl (jl rfl) hu rfl (jk rfl hN) (jd_67.trans jo_226.symm) (fun Q' hq => jc_226 hN (Nat.le_trans (jl rfl) hd)  (jo_b h) hq) (fun p1 hp1 h => ?_)
  refine jr_ic (pc' := 5) rfl rfl (jr_is_n (pc' := 6) (L' := [_, _, _, _]) rfl rfl (jl rfl) rfl rfl ?_)
  refine jr_reg (fun t6 => True) (fun t6 => ∀ o7, jn o7 → ∀ o8, jn o8 → jp X (px_C X d) px_m281 Q' N 87 [some (.ref 67), some (jv x0), o7, o8] [] t6 (0, 0)) h (fun t6 ht6 h o7 ho7 o8 ho8 => ?_) (fun R10 k9 h => ?_)
  · exact jr_rv rfl hu rfl (hQ' _ _ (hQ t6 trivial h))
  · refine jr_lp (fun s2 => jg s2.1) (fun s2 => ∀ o3, jn o3 → jp X (px_C X d) px_m281 Q' N 6 [some (.ref 67), some (jv x0), some (jv s2.1), o3] [] s2.2 (0, 0)) h jgc_0 (fun s2 hs2 R5 k4 h o3 ho3 => ?_) _ jn_n
    refine jr_il_n (pc' := 7) rfl rfl rfl (jr_bi (pc' := 9) rfl rfl rfl ?_)
    refine jr_cge (pa := 12) (pb := 87) rfl rfl rfl hs2 jgc_54 h (fun hc h => ?_) (fun hc h => ?_)
    · refine jr_al_n (pc' := 13) rfl rfl rfl (jr_gr (pc' := 16) (r := 95) rfl rfl jlk_12_98 (.inl rfl) rfl hN jd_67 rfl rfl rfl (jr_il_n (pc' := 17) rfl rfl rfl (jr_ic (pc' := 18) rfl rfl ?_)))
      refine jr_bst (pc' := 19) rfl rfl (jl rfl) hN jd_95 jn_95 hs2 jb_1 h (fun hc h => ?_)
      refine jr_le h (fun m11 h => ?_)
      refine jr_ic (pc' := 20) rfl rfl (jr_is_n (pc' := 21) (L' := [_, _, _, _]) rfl rfl (jl rfl) rfl rfl ?_)
      refine jr_reg (fun t15 => True) (fun t15 => ∀ o16, jn o16 → jp X (px_C X d) px_m281 Q' N 81 [some (.ref 67), some (jv x0), some (jv s2.1), o16] [] t15 (0, 0)) h (fun t15 ht15 h o16 ho16 => ?_) (fun R18 k17 h => ?_)
      · refine jr_inc (pc' := 84) (L' := [_, _, _, _]) rfl rfl rfl (jl rfl) rfl rfl (jr_goto (pc' := 6) rfl rfl ?_)
        exact k4 (jw (s2.1 + 1), t15) jg_w h _ ho16
      · refine jr_lp (fun s12 => jg s12.1) (fun s12 => jp X (px_C X d) px_m281 Q' N 21 [some (.ref 67), some (jv x0), some (jv s2.1), some (jv s12.1)] [] s12.2 (0, 0)) h jgc_0 (fun s12 hs12 R14 k13 h => ?_)
        refine jr_il_n (pc' := 22) rfl rfl rfl (jr_al_n (pc' := 23) rfl rfl rfl (jr_gi (pc' := 26) rfl rfl jlk_12_187 (.inl rfl) rfl hN jd_67 rfl rfl ?_))
        refine jr_cge (pa := 29) (pb := 81) rfl rfl rfl hs12 jg_a h (fun hc h => ?_) (fun hc h => ?_)
        · refine jr_al_n (pc' := 30) rfl rfl rfl (jr_gr (pc' := 33) (r := 95) rfl rfl jlk_12_98 (.inl rfl) rfl hN jd_67 rfl rfl rfl (jr_il_n (pc' := 34) rfl rfl rfl (jr_al_n (pc' := 35) rfl rfl rfl (jr_gr (pc' := 38) (r := 95) rfl rfl jlk_12_98 (.inl rfl) rfl hN jd_67 rfl rfl rfl (jr_il_n (pc' := 39) rfl rfl rfl ?_)))))
          refine jr_ba (pc' := 40) rfl rfl (jl rfl) hN jd_95 jn_95 hs2 h (fun hc h => ?_)
          refine jr_reg (fun t19 => jb t19.1) (fun t19 => jp X (px_C X d) px_m281 Q' N 74 [some (.ref 67), some (jv x0), some (jv s2.1), some (jv s12.1)] [(jv t19.1), (jv s2.1), (.ref 95)] t19.2 (0, 0)) h (fun t19 ht19 h => ?_) (fun R33 k20 h => ?_)
          · refine jr_bst (pc' := 75) rfl rfl (jl rfl) hN jd_95 jn_95 hs2 ht19 h (fun hc h => ?_)
            refine jr_le h (fun m32 h => ?_)
            refine jr_inc (pc' := 78) (L' := [_, _, _, _]) rfl rfl rfl (jl rfl) rfl rfl (jr_goto (pc' := 21) rfl rfl ?_)
            exact k13 (jw (s12.1 + 1), m32) jg_w h
          · refine jr_zeq (pa := 73) (pb := 43) rfl rfl rfl jg_a h (fun hc h => ?_) (fun hc h => ?_)
            · refine jr_ic (pc' := 74) rfl rfl ?_
              exact k20 ((0 : Int), s12.2) jb_0 h
            · refine jr_al_n (pc' := 44) rfl rfl rfl (jr_gr (pc' := 47) (r := 92) rfl rfl jlk_12_89 (.inl rfl) rfl hN jd_67 rfl rfl rfl (jr_il_n (pc' := 48) rfl rfl rfl ?_))
              refine jr_ia (pc' := 49) rfl rfl (jl rfl) hN jd_92 jn_92 hs12 h (fun hc h => ?_)
              refine jr_ic (pc' := 50) rfl rfl ?_
              refine jr_ceq (pa := 69) (pb := 53) rfl rfl rfl jg_a jgc_m1 h (fun hc h => ?_) (fun hc h => ?_)
              · refine jr_ic (pc' := 70) rfl rfl (jr_goto (pc' := 74) rfl rfl ?_)
                exact k20 ((1 : Int), s12.2) jb_1 h
              · refine jr_al_n (pc' := 54) rfl rfl rfl (jr_il_n (pc' := 55) rfl rfl rfl (jr_il_n (pc' := 56) rfl rfl rfl (jr_il_n (pc' := 57) rfl rfl rfl ?_)))
                refine jr_cv_i (pc' := 60) [_, _] rfl rfl jlk_12_469 jq_282 jbd_282 (jl rfl) rfl (jl rfl) hu rfl (jk rfl hN) (jd_67.trans jo_282.symm) (fun Q' hq => jc_282 hN (Nat.le_trans (jl rfl) hd) hx0 hs12 hs2 (jo_b h) hq) (fun p21 hp21 h => ?_)
                refine jr_al_n (pc' := 61) rfl rfl rfl (jr_gr (pc' := 64) (r := 92) rfl rfl jlk_12_89 (.inl rfl) rfl hN jd_67 rfl rfl rfl (jr_il_n (pc' := 65) rfl rfl rfl ?_))
                refine jr_ia (pc' := 66) rfl rfl (jl rfl) hN jd_92 jn_92 hs12 h (fun hc h => ?_)
                refine jr_cne (pa := 69) (pb := 73) rfl rfl rfl hp21 jg_a h (fun hc h => ?_) (fun hc h => ?_)
                · refine jr_ic (pc' := 70) rfl rfl (jr_goto (pc' := 74) rfl rfl ?_)
                  exact k20 ((1 : Int), p21.2) jb_1 h
                · refine jr_ic (pc' := 74) rfl rfl ?_
                  exact k20 ((0 : Int), p21.2) jb_0 h
        · exact k17 (s12.2) trivial h _ jn_i
    · exact k9 (s2.2) trivial h _ jn_i _ ho3

set_option maxRecDepth 20000 in
set_option maxHeartbeats 1000000 in
theorem jc_280 {X : Nat × (Nat → Int32)} {N d : Nat} {x0 : Int} {x1 : Int} (hN : 102 ≤ N) (hd : 8 ≤ d) (hx0 : jg x0) (hx1 : jg x1) {m : jm} {P : Int × jm → Prop} {Q : px_Q} (h : jo (jf_280 x0 x1 m) P) (hQ : ∀ p : Int × jm, jg p.1 → P p → Q (.inl (some (jv p.1))) (jmem N p.2)) : px_C X d 280 [.ref 67, jv x0, jv x1] (jmem N m) Q := by
  unfold jf_280 at h
  have hu : ju px_m280 (0, 0) := ju_0
  refine jr_in (M := px_m280) (lev := 7) (L := [some (.ref 67), some (jv x0), some (jv x1), none, none, none]) hd rfl jbd_280 (jl rfl) rfl (fun d hd Q' hQ' => ?_)
  refine jr_al_n (pc' := 1) rfl rfl rfl (jr_ic (pc' := 2) rfl rfl (jr_pi (pc' := 5) rfl rfl jlk_12_3 (.inl rfl) rfl hN jd_67 rfl rfl ?_))
  refine jr_le h (fun m1 h => ?_)
  refine jr_al_n (pc' := 6) rfl rfl rfl (jr_il_n (pc' := 7) rfl rfl rfl (jr_ic (pc' := 8) rfl rfl ?_))
  refine jr_cv_i (pc' := 11) [] rfl rfl jlk_12_432 jq_256 jbd_256 (jl rfl) rfl (jl rfl) hu rfl (jk rfl hN) (jd_67.trans jo_256.symm) (fun Q' hq => jc_256 hN (Nat.le_trans (jl rfl) hd) hx0 jgc_1 (jo_b h) hq) (fun p2 hp2 h => ?_)
  refine jr_zeq (pa := 29) (pb := 14) rfl rfl rfl (jg_b hp2) h (fun hc h => ?_) (fun hc h => ?_)
  · refine jr_ic (pc' := 30) rfl rfl ?_
    exact jr_ret rfl hu rfl (hQ' _ _ (hQ ((0 : Int), p2.2) jgc_0 h))
  · refine jr_al_n (pc' := 15) rfl rfl rfl (jr_il_n (pc' := 16) rfl rfl rfl (jr_ic (pc' := 17) rfl rfl (jr_ic (pc' := 18) rfl rfl ?_)))
    refine jr_cs_p (pc' := 21) [_] rfl rfl jlk_12_414 jq_247 jbd_247 (jl rfl) rfl (jl rfl) hu (fun Q' hq => jc_247 hN (Nat.le_trans (jl rfl) hd) hx1 jgc_0 jgc_1 (jo_b h) hq) (fun p3 hp3 h => ?_)
    refine jr_ic (pc' := 22) rfl rfl (jr_ic (pc' := 23) rfl rfl ?_)
    refine jr_cv_i (pc' := 26) [] rfl rfl jlk_12_233 jq_194 jbd_194 (jl rfl) rfl (jl rfl) hu rfl (jk rfl hN) (jd_67.trans jo_194.symm) (fun Q' hq => jc_194 hN (Nat.le_trans (jl rfl) hd) (jg_b hp3) jgc_2 jgc_1 (jo_b h) hq) (fun p4 hp4 h => ?_)
    refine jr_zne (pa := 29) (pb := 31) rfl rfl rfl (jg_b hp4) h (fun hc h => ?_) (fun hc h => ?_)
    · refine jr_ic (pc' := 30) rfl rfl ?_
      exact jr_ret rfl hu rfl (hQ' _ _ (hQ ((0 : Int), p4.2) jgc_0 h))
    · refine jr_al_n (pc' := 32) rfl rfl rfl (jr_il_n (pc' := 33) rfl rfl rfl ?_)
      refine jr_cv_v (pc' := 36) [] rfl rfl jlk_12_472 jq_281 jbd_281 (jl rfl) rfl (jl rfl) hu rfl (jk rfl hN) (jd_67.trans jo_281.symm) (fun Q' hq => jc_281 hN (Nat.le_trans (jl rfl) hd) hx0 (jo_b h) hq) (fun p5 hp5 h => ?_)
      refine jr_ic (pc' := 37) rfl rfl (jr_is_n (pc' := 38) (L' := [_, _, _, _, _, _]) rfl rfl (jl rfl) rfl rfl (jr_ic (pc' := 39) rfl rfl (jr_is (pc' := 41) (L' := [_, _, _, _, _, _]) rfl rfl (jl rfl) rfl rfl (jr_ic (pc' := 42) rfl rfl (jr_is (pc' := 44) (L' := [_, _, _, _, _, _]) rfl rfl (jl rfl) rfl rfl ?_)))))
      refine jr_reg (fun t9 => jg t9.1 ∧ jg t9.2) (fun t9 => ∀ o10, jn o10 → jp X (px_C X d) px_m280 Q' N 102 [some (.ref 67), some (jv x0), some (jv x1), some (jv t9.1), some (jv t9.2), o10] [] p5 (0, 0)) h (fun t9 ht9 h o10 ho10 => ?_) (fun R12 k11 h => ?_)
      · refine jr_il_n (pc' := 103) rfl rfl rfl ?_
        refine jr_reg (fun t49 => jg t49) (fun t49 => jp X (px_C X d) px_m280 Q' N 112 [some (.ref 67), some (jv x0), some (jv x1), some (jv t9.1), some (jv t9.2), o10] [(jv t49)] p5 (0, 0)) h (fun t49 ht49 h => ?_) (fun R61 k50 h => ?_)
        · exact jr_ret rfl hu rfl (hQ' _ _ (hQ (t49, p5) ht49 h))
        · refine jr_zne (pa := 106) (pb := 110) rfl rfl rfl hx1 h (fun hc h => ?_) (fun hc h => ?_)
          · refine jr_il_n (pc' := 107) rfl rfl rfl (jr_goto (pc' := 112) rfl rfl ?_)
            exact k50 (t9.1) ht9.1 h
          · refine jr_il (pc' := 112) rfl rfl rfl ?_
            exact k50 (t9.2) ht9.2 h
      · refine jr_lp (fun s6 => jg s6.1 ∧ jg s6.2.1 ∧ jg s6.2.2) (fun s6 => jp X (px_C X d) px_m280 Q' N 44 [some (.ref 67), some (jv x0), some (jv x1), some (jv s6.1), some (jv s6.2.1), some (jv s6.2.2)] [] p5 (0, 0)) h ⟨jgc_0, jgc_m1, jgc_0⟩ (fun s6 hs6 R8 k7 h => ?_)
        refine jr_il (pc' := 46) rfl rfl rfl (jr_bi (pc' := 48) rfl rfl rfl ?_)
        refine jr_cge (pa := 51) (pb := 102) rfl rfl rfl hs6.2.2 jgc_54 h (fun hc h => ?_) (fun hc h => ?_)
        · refine jr_al_n (pc' := 52) rfl rfl rfl (jr_gr (pc' := 55) (r := 95) rfl rfl jlk_12_98 (.inl rfl) rfl hN jd_67 rfl rfl rfl (jr_il (pc' := 57) rfl rfl rfl ?_))
          refine jr_ba (pc' := 58) rfl rfl (jl rfl) hN jd_95 jn_95 hs6.2.2 h (fun hc h => ?_)
          refine jr_reg (fun t13 => jg t13.1 ∧ jg t13.2) (fun t13 => jp X (px_C X d) px_m280 Q' N 96 [some (.ref 67), some (jv x0), some (jv x1), some (jv t13.1), some (jv t13.2), some (jv s6.2.2)] [] p5 (0, 0)) h (fun t13 ht13 h => ?_) (fun R38 k14 h => ?_)
          · refine jr_inc (pc' := 99) (L' := [_, _, _, _, _, _]) rfl rfl rfl (jl rfl) rfl rfl (jr_goto (pc' := 44) rfl rfl ?_)
            exact k7 (t13.1, t13.2, jw (s6.2.2 + 1)) ⟨ht13.1, ht13.2, jg_w⟩ h
          · refine jr_zne (pa := 61) (pb := 64) rfl rfl rfl jg_a h (fun hc h => ?_) (fun hc h => ?_)
            · refine jr_goto (pc' := 96) rfl rfl ?_
              exact k14 (s6.1, s6.2.1) ⟨hs6.1, hs6.2.1⟩ h
            · refine jr_inc (pc' := 67) (L' := [_, _, _, _, _, _]) rfl rfl rfl (jl rfl) rfl rfl (jr_il (pc' := 69) rfl rfl rfl (jr_ic (pc' := 70) rfl rfl ?_))
              refine jr_reg (fun t15 => jg t15) (fun t15 => jp X (px_C X d) px_m280 Q' N 94 [some (.ref 67), some (jv x0), some (jv x1), some (jv (jw (s6.1 + 1))), some (jv s6.2.1), some (jv s6.2.2)] [(jv t15)] p5 (0, 0)) h (fun t15 ht15 h => ?_) (fun R27 k16 h => ?_)
              · refine jr_is (pc' := 96) (L' := [_, _, _, _, _, _]) rfl rfl (jl rfl) rfl rfl ?_
                exact k14 (jw (s6.1 + 1), t15) ⟨jg_w, ht15⟩ h
              · refine jr_cne (pa := 73) (pb := 92) rfl rfl rfl hs6.2.1 jgc_m1 h (fun hc h => ?_) (fun hc h => ?_)
                · refine jr_bi (pc' := 75) rfl rfl rfl (jr_il (pc' := 77) rfl rfl rfl (jr_bi (pc' := 79) rfl rfl rfl (jr_div (pc' := 80) rfl rfl jgc_9 (by decide) (jr_mul (pc' := 81) rfl rfl (jr_il (pc' := 83) rfl rfl rfl ?_)))))
                  refine jr_bi (pc' := 85) rfl rfl rfl (jr_rem (pc' := 86) rfl rfl jgc_9 (by decide) (jr_add (pc' := 87) rfl rfl (jr_ic (pc' := 88) rfl rfl (jr_add (pc' := 89) rfl rfl (jr_goto (pc' := 94) rfl rfl ?_)))))
                  exact k16 (jw ((jw ((jw ((10 : Int) * (jdiv s6.2.2 (9 : Int)))) + (jrem s6.2.2 (9 : Int)))) + (1 : Int))) jg_w h
                · refine jr_il (pc' := 94) rfl rfl rfl ?_
                  exact k16 (s6.2.1) hs6.2.1 h
        · exact k11 (s6.1, s6.2.1) ⟨hs6.1, hs6.2.1⟩ h _ jn_i

set_option maxRecDepth 20000 in
set_option maxHeartbeats 1000000 in
theorem jc_283 {X : Nat × (Nat → Int32)} {N d : Nat} {x0 : Int} {x1 : Int} (hN : 102 ≤ N) (hd : 8 ≤ d) (hx0 : jg x0) (hx1 : jg x1) {m : jm} {P : Int × jm → Prop} {Q : px_Q} (h : jo (jf_283 x0 x1 m) P) (hQ : ∀ p : Int × jm, jg p.1 → P p → Q (.inl (some (jv p.1))) (jmem N p.2)) : px_C X d 283 [.ref 67, jv x0, jv x1] (jmem N m) Q := by
  unfold jf_283 at h
  have hu : ju px_m283 (0, 0) := ju_0
  refine jr_in (M := px_m283) (lev := 7) (L := [some (.ref 67), some (jv x0), some (jv x1), none, none, none, none, none, none]) hd rfl jbd_283 (jl rfl) rfl (fun d hd Q' hQ' => ?_)
  refine jr_al_n (pc' := 1) rfl rfl rfl (jr_ic (pc' := 2) rfl rfl (jr_pi (pc' := 5) rfl rfl jlk_12_3 (.inl rfl) rfl hN jd_67 rfl rfl ?_))
  refine jr_le h (fun m1 h => ?_)
  refine jr_al_n (pc' := 6) rfl rfl rfl (jr_il_n (pc' := 7) rfl rfl rfl (jr_ic (pc' := 8) rfl rfl ?_))
  refine jr_cv_i (pc' := 11) [] rfl rfl jlk_12_432 jq_256 jbd_256 (jl rfl) rfl (jl rfl) hu rfl (jk rfl hN) (jd_67.trans jo_256.symm) (fun Q' hq => jc_256 hN (Nat.le_trans (jl rfl) hd) hx0 jgc_1 (jo_b h) hq) (fun p2 hp2 h => ?_)
  refine jr_zeq (pa := 29) (pb := 14) rfl rfl rfl (jg_b hp2) h (fun hc h => ?_) (fun hc h => ?_)
  · refine jr_ic (pc' := 30) rfl rfl ?_
    exact jr_ret rfl hu rfl (hQ' _ _ (hQ ((0 : Int), p2.2) jgc_0 h))
  · refine jr_al_n (pc' := 15) rfl rfl rfl (jr_il_n (pc' := 16) rfl rfl rfl (jr_ic (pc' := 17) rfl rfl (jr_ic (pc' := 18) rfl rfl ?_)))
    refine jr_cs_p (pc' := 21) [_] rfl rfl jlk_12_414 jq_247 jbd_247 (jl rfl) rfl (jl rfl) hu (fun Q' hq => jc_247 hN (Nat.le_trans (jl rfl) hd) hx1 jgc_0 jgc_1 (jo_b h) hq) (fun p3 hp3 h => ?_)
    refine jr_ic (pc' := 22) rfl rfl (jr_ic (pc' := 23) rfl rfl ?_)
    refine jr_cv_i (pc' := 26) [] rfl rfl jlk_12_233 jq_194 jbd_194 (jl rfl) rfl (jl rfl) hu rfl (jk rfl hN) (jd_67.trans jo_194.symm) (fun Q' hq => jc_194 hN (Nat.le_trans (jl rfl) hd) (jg_b hp3) jgc_2 jgc_1 (jo_b h) hq) (fun p4 hp4 h => ?_)
    refine jr_zne (pa := 29) (pb := 31) rfl rfl rfl (jg_b hp4) h (fun hc h => ?_) (fun hc h => ?_)
    · refine jr_ic (pc' := 30) rfl rfl ?_
      exact jr_ret rfl hu rfl (hQ' _ _ (hQ ((0 : Int), p4.2) jgc_0 h))
    · refine jr_al_n (pc' := 32) rfl rfl rfl (jr_il_n (pc' := 33) rfl rfl rfl ?_)
      refine jr_cv_v (pc' := 36) [] rfl rfl jlk_12_472 jq_281 jbd_281 (jl rfl) rfl (jl rfl) hu rfl (jk rfl hN) (jd_67.trans jo_281.symm) (fun Q' hq => jc_281 hN (Nat.le_trans (jl rfl) hd) hx0 (jo_b h) hq) (fun p5 hp5 h => ?_)
      refine jr_ic (pc' := 37) rfl rfl (jr_is_n (pc' := 38) (L' := [_, _, _, _, _, _, _, _, _]) rfl rfl (jl rfl) rfl rfl (jr_ic (pc' := 39) rfl rfl (jr_is (pc' := 41) (L' := [_, _, _, _, _, _, _, _, _]) rfl rfl (jl rfl) rfl rfl (jr_ic (pc' := 42) rfl rfl (jr_is (pc' := 44) (L' := [_, _, _, _, _, _, _, _, _]) rfl rfl (jl rfl) rfl rfl ?_)))))
      refine jr_reg (fun t12 => jg t12.1 ∧ jg t12.2.1) (fun t12 => ∀ o13, jn o13 → ∀ o14, jn o14 → ∀ o15, jn o15 → ∀ o16, jn o16 → jp X (px_C X d) px_m283 Q' N 199 [some (.ref 67), some (jv x0), some (jv x1), some (jv t12.1), some (jv t12.2.1), o13, o14, o15, o16] [] t12.2.2 (0, 0)) h (fun t12 ht12 h o13 ho13 o14 ho14 o15 ho15 o16 ho16 => ?_) (fun R18 k17 h => ?_)
      · refine jr_il_n (pc' := 200) rfl rfl rfl ?_
        refine jr_reg (fun t111 => jg t111) (fun t111 => jp X (px_C X d) px_m283 Q' N 209 [some (.ref 67), some (jv x0), some (jv x1), some (jv t12.1), some (jv t12.2.1), o13, o14, o15, o16] [(jv t111)] t12.2.2 (0, 0)) h (fun t111 ht111 h => ?_) (fun R123 k112 h => ?_)
        · exact jr_ret rfl hu rfl (hQ' _ _ (hQ (t111, t12.2.2) ht111 h))
        · refine jr_zne (pa := 203) (pb := 207) rfl rfl rfl hx1 h (fun hc h => ?_) (fun hc h => ?_)
          · refine jr_il_n (pc' := 204) rfl rfl rfl (jr_goto (pc' := 209) rfl rfl ?_)
            exact k112 (t12.1) ht12.1 h
          · refine jr_il (pc' := 209) rfl rfl rfl ?_
            exact k112 (t12.2.1) ht12.2 h
      · refine jr_lp (fun s6 => jg s6.1 ∧ jg s6.2.1 ∧ jg s6.2.2.1) (fun s6 => ∀ o7, jn o7 → ∀ o8, jn o8 → ∀ o9, jn o9 → jp X (px_C X d) px_m283 Q' N 44 [some (.ref 67), some (jv x0), some (jv x1), some (jv s6.1), some (jv s6.2.1), some (jv s6.2.2.1), o7, o8, o9] [] s6.2.2.2 (0, 0)) h ⟨jgc_m1, jgc_m1, jgc_0⟩ (fun s6 hs6 R11 k10 h o7 ho7 o8 ho8 o9 ho9 => ?_) _ jn_n _ jn_n _ jn_n
        refine jr_il (pc' := 46) rfl rfl rfl (jr_al_n (pc' := 47) rfl rfl rfl (jr_gi (pc' := 50) rfl rfl jlk_12_187 (.inl rfl) rfl hN jd_67 rfl rfl ?_))
        refine jr_cge (pa := 53) (pb := 199) rfl rfl rfl hs6.2.2 jg_a h (fun hc h => ?_) (fun hc h => ?_)
        · refine jr_al_n (pc' := 54) rfl rfl rfl (jr_gr (pc' := 57) (r := 92) rfl rfl jlk_12_89 (.inl rfl) rfl hN jd_67 rfl rfl rfl (jr_il (pc' := 59) rfl rfl rfl ?_))
          refine jr_ia (pc' := 60) rfl rfl (jl rfl) hN jd_92 jn_92 hs6.2.2 h (fun hc h => ?_)
          refine jr_ic (pc' := 61) rfl rfl ?_
          refine jr_reg (fun t19 => jg t19.1 ∧ jg t19.2.1) (fun t19 => ∀ o20, jn o20 → ∀ o21, jn o21 → ∀ o22, jn o22 → jp X (px_C X d) px_m283 Q' N 193 [some (.ref 67), some (jv x0), some (jv x1), some (jv t19.1), some (jv t19.2.1), some (jv s6.2.2.1), o20, o21, o22] [] t19.2.2 (0, 0)) h (fun t19 ht19 h o20 ho20 o21 ho21 o22 ho22 => ?_) (fun R100 k23 h => ?_)
          · refine jr_inc (pc' := 196) (L' := [_, _, _, _, _, _, _, _, _]) rfl rfl rfl (jl rfl) rfl rfl (jr_goto (pc' := 44) rfl rfl ?_)
            exact k10 (t19.1, t19.2.1, jw (s6.2.2.1 + 1), t19.2.2) ⟨ht19.1, ht19.2, jg_w⟩ h _ ho20 _ ho21 _ ho22
          · refine jr_ceq (pa := 67) (pb := 64) rfl rfl rfl jg_a jgc_m1 h (fun hc h => ?_) (fun hc h => ?_)
            · refine jr_ic (pc' := 68) rfl rfl (jr_is (pc' := 70) (L' := [_, _, _, _, _, _, _, _, _]) rfl rfl (jl rfl) rfl rfl ?_)
              refine jr_reg (fun t27 => True) (fun t27 => ∀ o28, jn o28 → jp X (px_C X d) px_m283 Q' N 91 [some (.ref 67), some (jv x0), some (jv x1), some (jv s6.1), some (jv s6.2.1), some (jv s6.2.2.1), o28, o8, o9] [] t27 (0, 0)) h (fun t27 ht27 h o28 ho28 => ?_) (fun R30 k29 h => ?_)
              · refine jr_ic (pc' := 92) rfl rfl (jr_is (pc' := 94) (L' := [_, _, _, _, _, _, _, _, _]) rfl rfl (jl rfl) rfl rfl (jr_ic (pc' := 95) rfl rfl (jr_is (pc' := 97) (L' := [_, _, _, _, _, _, _, _, _]) rfl rfl (jl rfl) rfl rfl ?_)))
                refine jr_reg (fun t46 => jg t46.1) (fun t46 => ∀ o47, jn o47 → ∀ o48, jn o48 → jp X (px_C X d) px_m283 Q' N 171 [some (.ref 67), some (jv x0), some (jv x1), some (jv s6.1), some (jv s6.2.1), some (jv s6.2.2.1), some (jv t46.1), o47, o48] [] t46.2 (0, 0)) h (fun t46 ht46 h o47 ho47 o48 ho48 => ?_) (fun R50 k49 h => ?_)
                · refine jr_il_n (pc' := 172) rfl rfl rfl (jr_ic (pc' := 173) rfl rfl ?_)
                  refine jr_ceq (pa := 186) (pb := 176) rfl rfl rfl hs6.1 jgc_m1 h (fun hc h => ?_) (fun hc h => ?_)
                  · refine jr_il (pc' := 188) rfl rfl rfl (jr_is_n (pc' := 189) (L' := [_, _, _, _, _, _, _, _, _]) rfl rfl (jl rfl) rfl rfl (jr_il (pc' := 191) rfl rfl rfl (jr_is (pc' := 193) (L' := [_, _, _, _, _, _, _, _, _]) rfl rfl (jl rfl) rfl rfl ?_)))
                    exact k23 (s6.2.2.1, t46.1, t46.2) ⟨hs6.2.2, ht46⟩ h _ jn_i _ ho47 _ ho48
                  · refine jr_il (pc' := 178) rfl rfl rfl (jr_il (pc' := 180) rfl rfl rfl ?_)
                    refine jr_clt (pa := 186) (pb := 183) rfl rfl rfl ht46 hs6.2.1 h (fun hc h => ?_) (fun hc h => ?_)
                    · refine jr_il (pc' := 188) rfl rfl rfl (jr_is_n (pc' := 189) (L' := [_, _, _, _, _, _, _, _, _]) rfl rfl (jl rfl) rfl rfl (jr_il (pc' := 191) rfl rfl rfl (jr_is (pc' := 193) (L' := [_, _, _, _, _, _, _, _, _]) rfl rfl (jl rfl) rfl rfl ?_)))
                      exact k23 (s6.2.2.1, t46.1, t46.2) ⟨hs6.2.2, ht46⟩ h _ jn_i _ ho47 _ ho48
                    · refine jr_goto (pc' := 193) rfl rfl ?_
                      exact k23 (s6.1, s6.2.1, t46.2) ⟨hs6.1, hs6.2.1⟩ h _ jn_i _ ho47 _ ho48
                · refine jr_lp (fun s42 => jg s42.1 ∧ jg s42.2.1) (fun s42 => ∀ o43, jn o43 → jp X (px_C X d) px_m283 Q' N 97 [some (.ref 67), some (jv x0), some (jv x1), some (jv s6.1), some (jv s6.2.1), some (jv s6.2.2.1), some (jv s42.1), some (jv s42.2.1), o43] [] s42.2.2 (0, 0)) h ⟨jgc_0, jgc_0⟩ (fun s42 hs42 R45 k44 h o43 ho43 => ?_) _ ho9
                  refine jr_il (pc' := 99) rfl rfl rfl (jr_bi (pc' := 101) rfl rfl rfl ?_)
                  refine jr_cge (pa := 104) (pb := 171) rfl rfl rfl hs42.2 jgc_54 h (fun hc h => ?_) (fun hc h => ?_)
                  · refine jr_al_n (pc' := 105) rfl rfl rfl (jr_gr (pc' := 108) (r := 95) rfl rfl jlk_12_98 (.inl rfl) rfl hN jd_67 rfl rfl rfl (jr_il (pc' := 110) rfl rfl rfl ?_))
                    refine jr_ba (pc' := 111) rfl rfl (jl rfl) hN jd_95 jn_95 hs42.2 h (fun hc h => ?_)
                    refine jr_reg (fun t51 => jg t51.1) (fun t51 => ∀ o52, jn o52 → jp X (px_C X d) px_m283 Q' N 165 [some (.ref 67), some (jv x0), some (jv x1), some (jv s6.1), some (jv s6.2.1), some (jv s6.2.2.1), some (jv t51.1), some (jv s42.2.1), o52] [] t51.2 (0, 0)) h (fun t51 ht51 h o52 ho52 => ?_) (fun R79 k53 h => ?_)
                    · refine jr_inc (pc' := 168) (L' := [_, _, _, _, _, _, _, _, _]) rfl rfl rfl (jl rfl) rfl rfl (jr_goto (pc' := 97) rfl rfl ?_)
                      exact k44 (t51.1, jw (s42.2.1 + 1), t51.2) ⟨ht51, jg_w⟩ h _ ho52
                    · refine jr_zne (pa := 114) (pb := 117) rfl rfl rfl jg_a h (fun hc h => ?_) (fun hc h => ?_)
                      · refine jr_goto (pc' := 165) rfl rfl ?_
                        exact k53 (s42.1, s42.2.2) hs42.1 h _ ho43
                      · refine jr_al_n (pc' := 118) rfl rfl rfl (jr_il_n (pc' := 119) rfl rfl rfl (jr_il (pc' := 121) rfl rfl rfl (jr_il (pc' := 123) rfl rfl rfl ?_)))
                        refine jr_cv_i (pc' := 126) [] rfl rfl jlk_12_469 jq_282 jbd_282 (jl rfl) rfl (jl rfl) hu rfl (jk rfl hN) (jd_67.trans jo_282.symm) (fun Q' hq => jc_282 hN (Nat.le_trans (jl rfl) hd) hx0 hs6.2.2 hs42.2 (jo_b h) hq) (fun p54 hp54 h => ?_)
                        refine jr_is (pc' := 128) (L' := [_, _, _, _, _, _, _, _, _]) rfl rfl (jl rfl) rfl rfl (jr_al_n (pc' := 129) rfl rfl rfl (jr_gr (pc' := 132) (r := 96) rfl rfl jlk_12_102 (.inl rfl) rfl hN jd_67 rfl rfl rfl (jr_il (pc' := 134) rfl rfl rfl (jr_dup2 (pc' := 135) rfl rfl rfl rfl ?_))))
                        refine jr_ia (pc' := 136) rfl rfl (jl rfl) hN jd_96 jn_96 hp54 h (fun hc h => ?_)
                        refine jr_ic (pc' := 137) rfl rfl (jr_add (pc' := 138) rfl rfl ?_)
                        refine jr_ist (pc' := 139) rfl rfl (jl rfl) hN jd_96 jn_96 hp54 h (fun hc h => ?_)
                        refine jr_le h (fun m55 h => ?_)
                        refine jr_al_n (pc' := 140) rfl rfl rfl (jr_gr (pc' := 143) (r := 96) rfl rfl jlk_12_102 (.inl rfl) rfl hN jd_67 rfl rfl rfl (jr_il (pc' := 145) rfl rfl rfl ?_))
                        refine jr_ia (pc' := 146) rfl rfl (jl rfl) hN jd_96 jn_96 hp54 h (fun hc h => ?_)
                        refine jr_il (pc' := 148) rfl rfl rfl ?_
                        refine jr_reg (fun t56 => jg t56) (fun t56 => jp X (px_C X d) px_m283 Q' N 163 [some (.ref 67), some (jv x0), some (jv x1), some (jv s6.1), some (jv s6.2.1), some (jv s6.2.2.1), some (jv s42.1), some (jv s42.2.1), some (jv p54.1)] [(jv t56)] m55 (0, 0)) h (fun t56 ht56 h => ?_) (fun R68 k57 h => ?_)
                        · refine jr_is (pc' := 165) (L' := [_, _, _, _, _, _, _, _, _]) rfl rfl (jl rfl) rfl rfl ?_
                          exact k53 (t56, m55) ht56 h _ jn_i
                        · refine jr_cle (pa := 151) (pb := 161) rfl rfl rfl jg_a hs42.1 h (fun hc h => ?_) (fun hc h => ?_)
                          · refine jr_al_n (pc' := 152) rfl rfl rfl (jr_gr (pc' := 155) (r := 96) rfl rfl jlk_12_102 (.inl rfl) rfl hN jd_67 rfl rfl rfl (jr_il (pc' := 157) rfl rfl rfl ?_))
                            refine jr_ia (pc' := 158) rfl rfl (jl rfl) hN jd_96 jn_96 hp54 h (fun hc h => ?_)
                            refine jr_goto (pc' := 163) rfl rfl ?_
                            exact k57 (ja m55 96 p54.1.toNat) jg_a h
                          · refine jr_il (pc' := 163) rfl rfl rfl ?_
                            exact k57 (s42.1) hs42.1 h
                  · exact k49 (s42.1, s42.2.2) hs42.1 h _ jn_i _ ho43
              · refine jr_lp (fun s24 => jg s24.1) (fun s24 => jp X (px_C X d) px_m283 Q' N 70 [some (.ref 67), some (jv x0), some (jv x1), some (jv s6.1), some (jv s6.2.1), some (jv s6.2.2.1), some (jv s24.1), o8, o9] [] s24.2 (0, 0)) h jgc_0 (fun s24 hs24 R26 k25 h => ?_)
                refine jr_il (pc' := 72) rfl rfl rfl (jr_bi (pc' := 74) rfl rfl rfl ?_)
                refine jr_cge (pa := 77) (pb := 91) rfl rfl rfl hs24 jgc_100 h (fun hc h => ?_) (fun hc h => ?_)
                · refine jr_al_n (pc' := 78) rfl rfl rfl (jr_gr (pc' := 81) (r := 96) rfl rfl jlk_12_102 (.inl rfl) rfl hN jd_67 rfl rfl rfl (jr_il (pc' := 83) rfl rfl rfl (jr_ic (pc' := 84) rfl rfl ?_)))
                  refine jr_ist (pc' := 85) rfl rfl (jl rfl) hN jd_96 jn_96 hs24 h (fun hc h => ?_)
                  refine jr_le h (fun m31 h => ?_)
                  refine jr_inc (pc' := 88) (L' := [_, _, _, _, _, _, _, _, _]) rfl rfl rfl (jl rfl) rfl rfl (jr_goto (pc' := 70) rfl rfl ?_)
                  exact k25 (jw (s24.1 + 1), m31) jg_w h
                · exact k29 (s24.2) trivial h _ jn_i
            · refine jr_goto (pc' := 193) rfl rfl ?_
              exact k23 (s6.1, s6.2.1, s6.2.2.2) ⟨hs6.1, hs6.2.1⟩ h _ ho7 _ ho8 _ ho9
        · exact k17 (s6.1, s6.2.1, s6.2.2.2) ⟨hs6.1, hs6.2.1⟩ h _ jn_i _ ho7 _ ho8 _ ho9

set_option maxRecDepth 20000 in
set_option maxHeartbeats 1000000 in
theorem jc_285 {X : Nat × (Nat → Int32)} {N d : Nat}  (hN : 102 ≤ N) (hd : 11 ≤ d)  {m : jm} {P : jm → Prop} {Q : px_Q} (h : jo (jf_285 m) P) (hQ : ∀ p : jm, True → P p → Q (.inl (none)) (jmem N p)) : px_C X d 285 [.ref 67] (jmem N m) Q := by
  unfold jf_285 at h
  have hu : ju px_m285 (0, 0) := ju_0
  refine jr_in (M := px_m285) (lev := 10) (L := [some (.ref 67), none, none, none, none, none]) hd rfl jbd_285 (jl rfl) rfl (fun d hd Q' hQ' => ?_)
  refine jr_al_n (pc' := 1) rfl rfl rfl ?_
  refine jr_cv_v (pc' := 4) [] rfl rfl jlk_12_344 jq_226 jbd_226 (jl rfl) rfl (jl rfl) hu rfl (jk rfl hN) (jd_67.trans jo_226.symm) (fun Q' hq => jc_226 hN (Nat.le_trans (jl rfl) hd)  (jo_b h) hq) (fun p1 hp1 h => ?_)
  refine jr_ic (pc' := 5) rfl rfl (jr_is_n (pc' := 6) (L' := [_, _, _, _, _, _]) rfl rfl (jl rfl) rfl rfl ?_)
  refine jr_reg (fun t6 => True) (fun t6 => ∀ o7, jn o7 → ∀ o8, jn o8 → jp X (px_C X d) px_m285 Q' N 62 [some (.ref 67), o7, o8, none, none, none] [] t6 (0, 0)) h (fun t6 ht6 h o7 ho7 o8 ho8 => ?_) (fun R10 k9 h => ?_)
  · refine jr_ic (pc' := 63) rfl rfl (jr_is_n (pc' := 64) (L' := [_, _, _, _, _, _]) rfl rfl (jl rfl) rfl rfl ?_)
    refine jr_reg (fun t56 => True) (fun t56 => ∀ o57, jn o57 → jp X (px_C X d) px_m285 Q' N 91 [some (.ref 67), o57, o8, none, none, none] [] t56 (0, 0)) h (fun t56 ht56 h o57 ho57 => ?_) (fun R59 k58 h => ?_)
    · refine jr_al_n (pc' := 92) rfl rfl rfl (jr_gi (pc' := 95) rfl rfl jlk_12_193 (.inl rfl) rfl hN jd_67 rfl rfl (jr_ic (pc' := 96) rfl rfl (jr_sub (pc' := 97) rfl rfl (jr_is_n (pc' := 98) (L' := [_, _, _, _, _, _]) rfl rfl (jl rfl) rfl rfl ?_))))
      refine jr_reg (fun t78 => True) (fun t78 => ∀ o79, jn o79 → ∀ o80, jn o80 → ∀ o81, jn o81 → ∀ o82, jn o82 → ∀ o83, jn o83 → jp X (px_C X d) px_m285 Q' N 233 [some (.ref 67), o79, o80, o81, o82, o83] [] t78 (0, 0)) h (fun t78 ht78 h o79 ho79 o80 ho80 o81 ho81 o82 ho82 o83 ho83 => ?_) (fun R85 k84 h => ?_)
      · refine jr_ic (pc' := 234) rfl rfl (jr_is_n (pc' := 235) (L' := [_, _, _, _, _, _]) rfl rfl (jl rfl) rfl rfl (jr_ic (pc' := 236) rfl rfl (jr_is_n (pc' := 237) (L' := [_, _, _, _, _, _]) rfl rfl (jl rfl) rfl rfl ?_)))
        refine jr_reg (fun t170 => True) (fun t170 => ∀ o171, jn o171 → ∀ o172, jn o172 → ∀ o173, jn o173 → jp X (px_C X d) px_m285 Q' N 358 [some (.ref 67), o171, o172, o173, o82, o83] [] t170 (0, 0)) h (fun t170 ht170 h o171 ho171 o172 ho172 o173 ho173 => ?_) (fun R175 k174 h => ?_)
        · exact jr_rv rfl hu rfl (hQ' _ _ (hQ t170 trivial h))
        · refine jr_lp (fun s166 => jg s166.1 ∧ jg s166.2.1) (fun s166 => ∀ o167, jn o167 → jp X (px_C X d) px_m285 Q' N 237 [some (.ref 67), some (jv s166.1), some (jv s166.2.1), o167, o82, o83] [] s166.2.2 (0, 0)) h ⟨jgc_0, jgc_0⟩ (fun s166 hs166 R169 k168 h o167 ho167 => ?_) _ ho81
          refine jr_il_n (pc' := 238) rfl rfl rfl (jr_al_n (pc' := 239) rfl rfl rfl (jr_gi (pc' := 242) rfl rfl jlk_12_193 (.inl rfl) rfl hN jd_67 rfl rfl ?_))
          refine jr_cge (pa := 245) (pb := 358) rfl rfl rfl hs166.2 jg_a h (fun hc h => ?_) (fun hc h => ?_)
          · refine jr_al_n (pc' := 246) rfl rfl rfl (jr_gr (pc' := 249) (r := 99) rfl rfl jlk_12_111 (.inl rfl) rfl hN jd_67 rfl rfl rfl (jr_il_n (pc' := 250) rfl rfl rfl (jr_ic (pc' := 251) rfl rfl ?_)))
            refine jr_ist (pc' := 252) rfl rfl (jl rfl) hN jd_99 jn_99 hs166.2 h (fun hc h => ?_)
            refine jr_le h (fun m176 h => ?_)
            refine jr_al_n (pc' := 253) rfl rfl rfl (jr_gi (pc' := 256) rfl rfl jlk_12_190 (.inl rfl) rfl hN jd_67 rfl rfl (jr_ic (pc' := 257) rfl rfl (jr_sub (pc' := 258) rfl rfl (jr_is_n (pc' := 259) (L' := [_, _, _, _, _, _]) rfl rfl (jl rfl) rfl rfl ?_))))
            refine jr_reg (fun t180 => True) (fun t180 => ∀ o181, jn o181 → jp X (px_C X d) px_m285 Q' N 331 [some (.ref 67), some (jv s166.1), some (jv s166.2.1), o181, o82, o83] [] t180 (0, 0)) h (fun t180 ht180 h o181 ho181 => ?_) (fun R183 k182 h => ?_)
            · refine jr_al_n (pc' := 332) rfl rfl rfl (jr_gr (pc' := 335) (r := 99) rfl rfl jlk_12_111 (.inl rfl) rfl hN jd_67 rfl rfl rfl (jr_il_n (pc' := 336) rfl rfl rfl ?_))
              refine jr_ia (pc' := 337) rfl rfl (jl rfl) hN jd_99 jn_99 hs166.2 h (fun hc h => ?_)
              refine jr_ic (pc' := 338) rfl rfl ?_
              refine jr_reg (fun t208 => jg t208) (fun t208 => jp X (px_C X d) px_m285 Q' N 352 [some (.ref 67), some (jv t208), some (jv s166.2.1), o181, o82, o83] [] t180 (0, 0)) h (fun t208 ht208 h => ?_) (fun R220 k209 h => ?_)
              · refine jr_inc (pc' := 355) (L' := [_, _, _, _, _, _]) rfl rfl rfl (jl rfl) rfl rfl (jr_goto (pc' := 237) rfl rfl ?_)
                exact k168 (t208, jw (s166.2.1 + 1), t180) ⟨ht208, jg_w⟩ h _ ho181
              · refine jr_ceq (pa := 352) (pb := 341) rfl rfl rfl jg_a jgc_m1 h (fun hc h => ?_) (fun hc h => ?_)
                · exact k209 (s166.1) hs166.1 h
                · refine jr_il_n (pc' := 342) rfl rfl rfl (jr_ic (pc' := 343) rfl rfl (jr_al_n (pc' := 344) rfl rfl rfl (jr_gr (pc' := 347) (r := 99) rfl rfl jlk_12_111 (.inl rfl) rfl hN jd_67 rfl rfl rfl (jr_il_n (pc' := 348) rfl rfl rfl ?_))))
                  refine jr_ia (pc' := 349) rfl rfl (jl rfl) hN jd_99 jn_99 hs166.2 h (fun hc h => ?_)
                  refine jr_shl (pc' := 350) rfl rfl (jr_or (pc' := 351) rfl rfl (jr_is_n (pc' := 352) (L' := [_, _, _, _, _, _]) rfl rfl (jl rfl) rfl rfl ?_))
                  exact k209 (jbor s166.1 (jshl (1 : Int) (ja t180 99 s166.2.1.toNat))) jg_bor h
            · refine jr_lp (fun s177 => jg s177.1) (fun s177 => jp X (px_C X d) px_m285 Q' N 259 [some (.ref 67), some (jv s166.1), some (jv s166.2.1), some (jv s177.1), o82, o83] [] s177.2 (0, 0)) h jg_w (fun s177 hs177 R179 k178 h => ?_)
              refine jr_il_n (pc' := 260) rfl rfl rfl ?_
              refine jr_zlt (pa := 331) (pb := 263) rfl rfl rfl hs177 h (fun hc h => ?_) (fun hc h => ?_)
              · exact k182 (s177.2) trivial h _ jn_i
              · refine jr_il_n (pc' := 264) rfl rfl rfl (jr_il_n (pc' := 265) rfl rfl rfl (jr_shr (pc' := 266) rfl rfl (jr_ic (pc' := 267) rfl rfl (jr_and (pc' := 268) rfl rfl ?_))))
                refine jr_reg (fun t184 => True) (fun t184 => jp X (px_C X d) px_m285 Q' N 325 [some (.ref 67), some (jv s166.1), some (jv s166.2.1), some (jv s177.1), o82, o83] [] t184 (0, 0)) h (fun t184 ht184 h => ?_) (fun R197 k185 h => ?_)
                · refine jr_inc (pc' := 328) (L' := [_, _, _, _, _, _]) rfl rfl rfl (jl rfl) rfl rfl (jr_goto (pc' := 259) rfl rfl ?_)
                  exact k178 (jw (s177.1 + (-1)), t184) jg_w h
                · refine jr_zne (pa := 271) (pb := 325) rfl rfl rfl jg_band h (fun hc h => ?_) (fun hc h => ?_)
                  · refine jr_al_n (pc' := 272) rfl rfl rfl (jr_gr (pc' := 275) (r := 97) rfl rfl jlk_12_105 (.inl rfl) rfl hN jd_67 rfl rfl rfl (jr_bi (pc' := 277) rfl rfl rfl (jr_il_n (pc' := 278) rfl rfl rfl (jr_mul (pc' := 279) rfl rfl (jr_il_n (pc' := 280) rfl rfl rfl ?_)))))
                    refine jr_add (pc' := 281) rfl rfl ?_
                    refine jr_ba (pc' := 282) rfl rfl (jl rfl) hN jd_97 jn_97 jg_w h (fun hc h => ?_)
                    refine jr_zeq (pa := 325) (pb := 285) rfl rfl rfl jg_a h (fun hc h => ?_) (fun hc h => ?_)
                    · exact k185 (s177.2) trivial h
                    · refine jr_ic (pc' := 286) rfl rfl (jr_al_n (pc' := 287) rfl rfl rfl (jr_gr (pc' := 290) (r := 98) rfl rfl jlk_12_108 (.inl rfl) rfl hN jd_67 rfl rfl rfl (jr_il_n (pc' := 291) rfl rfl rfl (jr_ic (pc' := 292) rfl rfl (jr_add (pc' := 293) rfl rfl ?_)))))
                      refine jr_bi (pc' := 295) rfl rfl rfl (jr_shl (pc' := 296) rfl rfl (jr_il_n (pc' := 297) rfl rfl rfl (jr_or (pc' := 298) rfl rfl (jr_ic (pc' := 299) rfl rfl (jr_il_n (pc' := 300) rfl rfl rfl ?_)))))
                      refine jr_shl (pc' := 301) rfl rfl (jr_or (pc' := 302) rfl rfl ?_)
                      refine jr_ia (pc' := 303) rfl rfl (jl rfl) hN jd_98 jn_98 jg_bor h (fun hc h => ?_)
                      refine jr_add (pc' := 304) rfl rfl (jr_al_n (pc' := 305) rfl rfl rfl (jr_gr (pc' := 308) (r := 98) rfl rfl jlk_12_108 (.inl rfl) rfl hN jd_67 rfl rfl rfl (jr_il_n (pc' := 309) rfl rfl rfl (jr_bi (pc' := 311) rfl rfl rfl (jr_shl (pc' := 312) rfl rfl ?_)))))
                      refine jr_il_n (pc' := 313) rfl rfl rfl (jr_or (pc' := 314) rfl rfl ?_)
                      refine jr_ia (pc' := 315) rfl rfl (jl rfl) hN jd_98 jn_98 jg_bor h (fun hc h => ?_)
                      refine jr_cne (pa := 318) (pb := 325) rfl rfl rfl jg_w jg_a h (fun hc h => ?_) (fun hc h => ?_)
                      · refine jr_al_n (pc' := 319) rfl rfl rfl (jr_gr (pc' := 322) (r := 99) rfl rfl jlk_12_111 (.inl rfl) rfl hN jd_67 rfl rfl rfl (jr_il_n (pc' := 323) rfl rfl rfl (jr_il_n (pc' := 324) rfl rfl rfl ?_)))
                        refine jr_ist (pc' := 325) rfl rfl (jl rfl) hN jd_99 jn_99 hs166.2 h (fun hc h => ?_)
                        refine jr_le h (fun m186 h => ?_)
                        exact k185 (m186) trivial h
                      · exact k185 (s177.2) trivial h
                  · exact k185 (s177.2) trivial h
          · exact k174 (s166.2.2) trivial h _ jn_i _ jn_i _ ho167
      · refine jr_lp (fun s71 => jg s71.1) (fun s71 => ∀ o72, jn o72 → ∀ o73, jn o73 → ∀ o74, jn o74 → ∀ o75, jn o75 → jp X (px_C X d) px_m285 Q' N 98 [some (.ref 67), some (jv s71.1), o72, o73, o74, o75] [] s71.2 (0, 0)) h jg_w (fun s71 hs71 R77 k76 h o72 ho72 o73 ho73 o74 ho74 o75 ho75 => ?_) _ ho8 _ jn_n _ jn_n _ jn_n
        refine jr_il_n (pc' := 99) rfl rfl rfl ?_
        refine jr_zlt (pa := 233) (pb := 102) rfl rfl rfl hs71 h (fun hc h => ?_) (fun hc h => ?_)
        · exact k84 (s71.2) trivial h _ jn_i _ ho72 _ ho73 _ ho74 _ ho75
        · refine jr_ic (pc' := 103) rfl rfl (jr_is_n (pc' := 104) (L' := [_, _, _, _, _, _]) rfl rfl (jl rfl) rfl rfl ?_)
          refine jr_reg (fun t92 => True) (fun t92 => ∀ o93, jn o93 → ∀ o94, jn o94 → ∀ o95, jn o95 → ∀ o96, jn o96 → jp X (px_C X d) px_m285 Q' N 227 [some (.ref 67), some (jv s71.1), o93, o94, o95, o96] [] t92 (0, 0)) h (fun t92 ht92 h o93 ho93 o94 ho94 o95 ho95 o96 ho96 => ?_) (fun R98 k97 h => ?_)
          · refine jr_inc (pc' := 230) (L' := [_, _, _, _, _, _]) rfl rfl rfl (jl rfl) rfl rfl (jr_goto (pc' := 98) rfl rfl ?_)
            exact k76 (jw (s71.1 + (-1)), t92) jg_w h _ ho93 _ ho94 _ ho95 _ ho96
          · refine jr_lp (fun s86 => jg s86.1) (fun s86 => ∀ o87, jn o87 → ∀ o88, jn o88 → ∀ o89, jn o89 → jp X (px_C X d) px_m285 Q' N 104 [some (.ref 67), some (jv s71.1), some (jv s86.1), o87, o88, o89] [] s86.2 (0, 0)) h jgc_0 (fun s86 hs86 R91 k90 h o87 ho87 o88 ho88 o89 ho89 => ?_) _ ho73 _ ho74 _ ho75
            refine jr_il_n (pc' := 105) rfl rfl rfl (jr_ic (pc' := 106) rfl rfl (jr_al_n (pc' := 107) rfl rfl rfl (jr_gi (pc' := 110) rfl rfl jlk_12_190 (.inl rfl) rfl hN jd_67 rfl rfl (jr_shl (pc' := 111) rfl rfl ?_))))
            refine jr_cge (pa := 114) (pb := 227) rfl rfl rfl hs86 jg_shl h (fun hc h => ?_) (fun hc h => ?_)
            · refine jr_al_n (pc' := 115) rfl rfl rfl (jr_gr (pc' := 118) (r := 98) rfl rfl jlk_12_108 (.inl rfl) rfl hN jd_67 rfl rfl rfl (jr_il_n (pc' := 119) rfl rfl rfl (jr_ic (pc' := 120) rfl rfl (jr_add (pc' := 121) rfl rfl (jr_bi (pc' := 123) rfl rfl rfl ?_)))))
              refine jr_shl (pc' := 124) rfl rfl (jr_il_n (pc' := 125) rfl rfl rfl (jr_or (pc' := 126) rfl rfl ?_))
              refine jr_ia (pc' := 127) rfl rfl (jl rfl) hN jd_98 jn_98 jg_bor h (fun hc h => ?_)
              refine jr_is_n (pc' := 128) (L' := [_, _, _, _, _, _]) rfl rfl (jl rfl) rfl rfl (jr_ic (pc' := 129) rfl rfl (jr_is (pc' := 131) (L' := [_, _, _, _, _, _]) rfl rfl (jl rfl) rfl rfl ?_))
              refine jr_reg (fun t103 => jg t103) (fun t103 => ∀ o104, jn o104 → ∀ o105, jn o105 → jp X (px_C X d) px_m285 Q' N 209 [some (.ref 67), some (jv s71.1), some (jv s86.1), some (jv t103), o104, o105] [] s86.2 (0, 0)) h (fun t103 ht103 h o104 ho104 o105 ho105 => ?_) (fun R107 k106 h => ?_)
              · refine jr_al_n (pc' := 210) rfl rfl rfl (jr_gr (pc' := 213) (r := 98) rfl rfl jlk_12_108 (.inl rfl) rfl hN jd_67 rfl rfl rfl (jr_il_n (pc' := 214) rfl rfl rfl (jr_bi (pc' := 216) rfl rfl rfl (jr_shl (pc' := 217) rfl rfl (jr_il_n (pc' := 218) rfl rfl rfl ?_)))))
                refine jr_or (pc' := 219) rfl rfl (jr_il_n (pc' := 220) rfl rfl rfl ?_)
                refine jr_ist (pc' := 221) rfl rfl (jl rfl) hN jd_98 jn_98 jg_bor h (fun hc h => ?_)
                refine jr_le h (fun m145 h => ?_)
                refine jr_inc (pc' := 224) (L' := [_, _, _, _, _, _]) rfl rfl rfl (jl rfl) rfl rfl (jr_goto (pc' := 104) rfl rfl ?_)
                exact k90 (jw (s86.1 + 1), m145) jg_w h _ jn_i _ ho104 _ ho105
              · refine jr_lp (fun s99 => jg s99.1 ∧ jg s99.2) (fun s99 => ∀ o100, jn o100 → jp X (px_C X d) px_m285 Q' N 131 [some (.ref 67), some (jv s71.1), some (jv s86.1), some (jv s99.1), some (jv s99.2), o100] [] s86.2 (0, 0)) h ⟨jg_a, jgc_0⟩ (fun s99 hs99 R102 k101 h o100 ho100 => ?_) _ ho89
                refine jr_il (pc' := 133) rfl rfl rfl (jr_al_n (pc' := 134) rfl rfl rfl (jr_gi (pc' := 137) rfl rfl jlk_12_190 (.inl rfl) rfl hN jd_67 rfl rfl ?_))
                refine jr_cge (pa := 140) (pb := 209) rfl rfl rfl hs99.2 jg_a h (fun hc h => ?_) (fun hc h => ?_)
                · refine jr_il_n (pc' := 141) rfl rfl rfl (jr_il (pc' := 143) rfl rfl rfl (jr_shr (pc' := 144) rfl rfl (jr_ic (pc' := 145) rfl rfl (jr_and (pc' := 146) rfl rfl (jr_ic (pc' := 147) rfl rfl ?_)))))
                  refine jr_reg (fun t108 => jg t108) (fun t108 => ∀ o109, jn o109 → jp X (px_C X d) px_m285 Q' N 203 [some (.ref 67), some (jv s71.1), some (jv s86.1), some (jv t108), some (jv s99.2), o109] [] s86.2 (0, 0)) h (fun t108 ht108 h o109 ho109 => ?_) (fun R134 k110 h => ?_)
                  · refine jr_inc (pc' := 206) (L' := [_, _, _, _, _, _]) rfl rfl rfl (jl rfl) rfl rfl (jr_goto (pc' := 131) rfl rfl ?_)
                    exact k101 (t108, jw (s99.2 + 1)) ⟨ht108, jg_w⟩ h _ ho109
                  · refine jr_ceq (pa := 203) (pb := 150) rfl rfl rfl jg_band jgc_1 h (fun hc h => ?_) (fun hc h => ?_)
                    · exact k110 (s99.1) hs99.1 h _ ho100
                    · refine jr_al_n (pc' := 151) rfl rfl rfl (jr_gr (pc' := 154) (r := 97) rfl rfl jlk_12_105 (.inl rfl) rfl hN jd_67 rfl rfl rfl (jr_bi (pc' := 156) rfl rfl rfl (jr_il_n (pc' := 157) rfl rfl rfl (jr_mul (pc' := 158) rfl rfl (jr_il (pc' := 160) rfl rfl rfl ?_)))))
                      refine jr_add (pc' := 161) rfl rfl ?_
                      refine jr_ba (pc' := 162) rfl rfl (jl rfl) hN jd_97 jn_97 jg_w h (fun hc h => ?_)
                      refine jr_zne (pa := 165) (pb := 168) rfl rfl rfl jg_a h (fun hc h => ?_) (fun hc h => ?_)
                      · refine jr_goto (pc' := 203) rfl rfl ?_
                        exact k110 (s99.1) hs99.1 h _ ho100
                      · refine jr_ic (pc' := 169) rfl rfl (jr_al_n (pc' := 170) rfl rfl rfl (jr_gr (pc' := 173) (r := 98) rfl rfl jlk_12_108 (.inl rfl) rfl hN jd_67 rfl rfl rfl (jr_il_n (pc' := 174) rfl rfl rfl (jr_ic (pc' := 175) rfl rfl (jr_add (pc' := 176) rfl rfl ?_)))))
                        refine jr_bi (pc' := 178) rfl rfl rfl (jr_shl (pc' := 179) rfl rfl (jr_il_n (pc' := 180) rfl rfl rfl (jr_or (pc' := 181) rfl rfl (jr_ic (pc' := 182) rfl rfl (jr_il (pc' := 184) rfl rfl rfl ?_)))))
                        refine jr_shl (pc' := 185) rfl rfl (jr_or (pc' := 186) rfl rfl ?_)
                        refine jr_ia (pc' := 187) rfl rfl (jl rfl) hN jd_98 jn_98 jg_bor h (fun hc h => ?_)
                        refine jr_add (pc' := 188) rfl rfl (jr_is (pc' := 190) (L' := [_, _, _, _, _, _]) rfl rfl (jl rfl) rfl rfl (jr_il (pc' := 192) rfl rfl rfl (jr_il_n (pc' := 193) rfl rfl rfl ?_)))
                        refine jr_reg (fun t111 => jg t111) (fun t111 => jp X (px_C X d) px_m285 Q' N 202 [some (.ref 67), some (jv s71.1), some (jv s86.1), some (jv s99.1), some (jv s99.2), some (jv (jw ((1 : Int) + (ja s86.2 98 (jbor (jbor (jshl (jw (s71.1 + (1 : Int))) (6 : Int)) s86.1) (jshl (1 : Int) s99.2)).toNat))))] [(jv t111)] s86.2 (0, 0)) h (fun t111 ht111 h => ?_) (fun R123 k112 h => ?_)
                        · refine jr_is_n (pc' := 203) (L' := [_, _, _, _, _, _]) rfl rfl (jl rfl) rfl rfl ?_
                          exact k110 (t111) ht111 h _ jn_i
                        · refine jr_cle (pa := 196) (pb := 201) rfl rfl rfl jg_w hs99.1 h (fun hc h => ?_) (fun hc h => ?_)
                          · refine jr_il (pc' := 198) rfl rfl rfl (jr_goto (pc' := 202) rfl rfl ?_)
                            exact k112 (jw ((1 : Int) + (ja s86.2 98 (jbor (jbor (jshl (jw (s71.1 + (1 : Int))) (6 : Int)) s86.1) (jshl (1 : Int) s99.2)).toNat))) jg_w h
                          · refine jr_il_n (pc' := 202) rfl rfl rfl ?_
                            exact k112 (s99.1) hs99.1 h
                · exact k106 (s99.1) hs99.1 h _ jn_i _ ho100
            · exact k97 (s86.2) trivial h _ jn_i _ ho87 _ ho88 _ ho89
    · refine jr_lp (fun s53 => jg s53.1) (fun s53 => jp X (px_C X d) px_m285 Q' N 64 [some (.ref 67), some (jv s53.1), o8, none, none, none] [] s53.2 (0, 0)) h jgc_0 (fun s53 hs53 R55 k54 h => ?_)
      refine jr_il_n (pc' := 65) rfl rfl rfl (jr_bi (pc' := 67) rfl rfl rfl ?_)
      refine jr_cge (pa := 70) (pb := 91) rfl rfl rfl hs53 jgc_64 h (fun hc h => ?_) (fun hc h => ?_)
      · refine jr_al_n (pc' := 71) rfl rfl rfl (jr_gr (pc' := 74) (r := 98) rfl rfl jlk_12_108 (.inl rfl) rfl hN jd_67 rfl rfl rfl (jr_al_n (pc' := 75) rfl rfl rfl (jr_gi (pc' := 78) rfl rfl jlk_12_193 (.inl rfl) rfl hN jd_67 rfl rfl (jr_bi (pc' := 80) rfl rfl rfl (jr_shl (pc' := 81) rfl rfl ?_)))))
        refine jr_il_n (pc' := 82) rfl rfl rfl (jr_or (pc' := 83) rfl rfl (jr_ic (pc' := 84) rfl rfl ?_))
        refine jr_ist (pc' := 85) rfl rfl (jl rfl) hN jd_98 jn_98 jg_bor h (fun hc h => ?_)
        refine jr_le h (fun m60 h => ?_)
        refine jr_inc (pc' := 88) (L' := [_, _, _, _, _, _]) rfl rfl rfl (jl rfl) rfl rfl (jr_goto (pc' := 64) rfl rfl ?_)
        exact k54 (jw (s53.1 + 1), m60) jg_w h
      · exact k58 (s53.2) trivial h _ jn_i
  · refine jr_lp (fun s2 => jg s2.1) (fun s2 => ∀ o3, jn o3 → jp X (px_C X d) px_m285 Q' N 6 [some (.ref 67), some (jv s2.1), o3, none, none, none] [] s2.2 (0, 0)) h jgc_0 (fun s2 hs2 R5 k4 h o3 ho3 => ?_) _ jn_n
    refine jr_il_n (pc' := 7) rfl rfl rfl (jr_al_n (pc' := 8) rfl rfl rfl (jr_gi (pc' := 11) rfl rfl jlk_12_193 (.inl rfl) rfl hN jd_67 rfl rfl ?_))
    refine jr_cge (pa := 14) (pb := 62) rfl rfl rfl hs2 jg_a h (fun hc h => ?_) (fun hc h => ?_)
    · refine jr_ic (pc' := 15) rfl rfl (jr_is_n (pc' := 16) (L' := [_, _, _, _, _, _]) rfl rfl (jl rfl) rfl rfl ?_)
      refine jr_reg (fun t14 => True) (fun t14 => ∀ o15, jn o15 → jp X (px_C X d) px_m285 Q' N 56 [some (.ref 67), some (jv s2.1), o15, none, none, none] [] t14 (0, 0)) h (fun t14 ht14 h o15 ho15 => ?_) (fun R17 k16 h => ?_)
      · refine jr_inc (pc' := 59) (L' := [_, _, _, _, _, _]) rfl rfl rfl (jl rfl) rfl rfl (jr_goto (pc' := 6) rfl rfl ?_)
        exact k4 (jw (s2.1 + 1), t14) jg_w h _ ho15
      · refine jr_lp (fun s11 => jg s11.1) (fun s11 => jp X (px_C X d) px_m285 Q' N 16 [some (.ref 67), some (jv s2.1), some (jv s11.1), none, none, none] [] s11.2 (0, 0)) h jgc_0 (fun s11 hs11 R13 k12 h => ?_)
        refine jr_il_n (pc' := 17) rfl rfl rfl (jr_al_n (pc' := 18) rfl rfl rfl (jr_gi (pc' := 21) rfl rfl jlk_12_190 (.inl rfl) rfl hN jd_67 rfl rfl ?_))
        refine jr_cge (pa := 24) (pb := 56) rfl rfl rfl hs11 jg_a h (fun hc h => ?_) (fun hc h => ?_)
        · refine jr_al_n (pc' := 25) rfl rfl rfl (jr_gr (pc' := 28) (r := 97) rfl rfl jlk_12_105 (.inl rfl) rfl hN jd_67 rfl rfl rfl (jr_bi (pc' := 30) rfl rfl rfl (jr_il_n (pc' := 31) rfl rfl rfl (jr_mul (pc' := 32) rfl rfl (jr_il_n (pc' := 33) rfl rfl rfl ?_)))))
          refine jr_add (pc' := 34) rfl rfl (jr_al_n (pc' := 35) rfl rfl rfl (jr_il_n (pc' := 36) rfl rfl rfl (jr_il_n (pc' := 37) rfl rfl rfl ?_)))
          refine jr_cv_i (pc' := 40) [_, _] rfl rfl jlk_12_457 jq_270 jbd_270 (jl rfl) rfl (jl rfl) hu rfl (jk rfl hN) (jd_67.trans jo_270.symm) (fun Q' hq => jc_270 hN (Nat.le_trans (jl rfl) hd) hs11 hs2 (jo_b h) hq) (fun p18 hp18 h => ?_)
          refine jr_ic (pc' := 41) rfl rfl ?_
          refine jr_reg (fun t19 => jb t19) (fun t19 => jp X (px_C X d) px_m285 Q' N 49 [some (.ref 67), some (jv s2.1), some (jv s11.1), none, none, none] [(jv t19), (jv (jw ((jw ((6 : Int) * s2.1)) + s11.1))), (.ref 97)] p18.2 (0, 0)) h (fun t19 ht19 h => ?_) (fun R32 k20 h => ?_)
          · refine jr_bst (pc' := 50) rfl rfl (jl rfl) hN jd_97 jn_97 jg_w ht19 h (fun hc h => ?_)
            refine jr_le h (fun m31 h => ?_)
            refine jr_inc (pc' := 53) (L' := [_, _, _, _, _, _]) rfl rfl rfl (jl rfl) rfl rfl (jr_goto (pc' := 16) rfl rfl ?_)
            exact k12 (jw (s11.1 + 1), m31) jg_w h
          · refine jr_ceq (pa := 48) (pb := 44) rfl rfl rfl hp18 jgc_m1 h (fun hc h => ?_) (fun hc h => ?_)
            · refine jr_ic (pc' := 49) rfl rfl ?_
              exact k20 ((0 : Int)) jb_0 h
            · refine jr_ic (pc' := 45) rfl rfl (jr_goto (pc' := 49) rfl rfl ?_)
              exact k20 ((1 : Int)) jb_1 h
        · exact k16 (s11.2) trivial h _ jn_i
    · exact k9 (s2.2) trivial h _ jn_i _ ho3

