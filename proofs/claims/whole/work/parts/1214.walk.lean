/-! the pure machine follows the functions, 15 (written by wip/whole/gen/walk.py) -/
set_option maxRecDepth 20000 in
set_option maxHeartbeats 1000000 in
theorem jc_226 {X : Nat × (Nat → Int32)} {N d : Nat}  (hN : 102 ≤ N) (hd : 2 ≤ d)  {m : jm} {P : jm → Prop} {Q : px_Q} (h : jo (jf_226 m) P) (hQ : ∀ p : jm, True → P p → Q (.inl (none)) (jmem N p)) : px_C X d 226 [.ref 67] (jmem N m) Q := by
  unfold jf_226 at h
  have hu : ju px_m226 (0, 0) := ju_0
  refine jr_in (M := px_m226) (lev := 1) (L := [some (.ref 67)]) hd rfl jbd_226 (jl rfl) rfl (fun d hd Q' hQ' => ?_)
  refine jr_al_n (pc' := 1) rfl rfl rfl (jr_al_n (pc' := 2) rfl rfl rfl (jr_gr (pc' := 5) (r := 88) rfl rfl jlk_12_77 (.inl rfl) rfl hN jd_67 rfl rfl rfl (jr_al_n (pc' := 6) rfl rfl rfl (jr_gr (pc' := 9) (r := 89) rfl rfl jlk_12_80 (.inl rfl) rfl hN jd_67 rfl rfl rfl (jr_bi (pc' := 11) rfl rfl rfl ?_)))))
  refine jr_cv_v (pc' := 14) [] rfl rfl jlk_12_196 jq_190 jbd_190 (jl rfl) rfl (jl rfl) hu rfl (jk rfl hN) (jd_67.trans jo_190.symm) (fun Q' hq => jc_190 hN (Nat.le_trans (jl rfl) hd) ⟨jl rfl, jd_88⟩ ⟨jl rfl, jd_89⟩ jgc_68 (jo_b h) hq) (fun p1 hp1 h => ?_)
  exact jr_rv rfl hu rfl (hQ' _ _ (hQ p1 trivial h))

set_option maxRecDepth 20000 in
set_option maxHeartbeats 1000000 in
theorem jc_230 {X : Nat × (Nat → Int32)} {N d : Nat} {x0 : Int} (hN : 102 ≤ N) (hd : 1 ≤ d) (hx0 : jg x0) {m : jm} {P : jm → Prop} {Q : px_Q} (h : jo (jf_230 x0 m) P) (hQ : ∀ p : jm, True → P p → Q (.inl (none)) (jmem N p)) : px_C X d 230 [.ref 67, jv x0] (jmem N m) Q := by
  unfold jf_230 at h
  have hu : ju px_m230 (0, 0) := ju_0
  refine jr_in (M := px_m230) (lev := 0) (L := [some (.ref 67), some (jv x0), none]) hd rfl jbd_230 (jl rfl) rfl (fun d hd Q' hQ' => ?_)
  refine jr_al_n (pc' := 1) rfl rfl rfl (jr_ic (pc' := 2) rfl rfl (jr_pi (pc' := 5) rfl rfl jlk_12_366 (.inl rfl) rfl hN jd_67 rfl rfl ?_))
  refine jr_le h (fun m1 h => ?_)
  refine jr_al_n (pc' := 6) rfl rfl rfl (jr_ic (pc' := 7) rfl rfl (jr_pi (pc' := 10) rfl rfl jlk_12_369 (.inl rfl) rfl hN jd_67 rfl rfl ?_))
  refine jr_le h (fun m2 h => ?_)
  refine jr_al_n (pc' := 11) rfl rfl rfl (jr_ic (pc' := 12) rfl rfl (jr_pi (pc' := 15) rfl rfl jlk_12_372 (.inl rfl) rfl hN jd_67 rfl rfl ?_))
  refine jr_le h (fun m3 h => ?_)
  refine jr_ic (pc' := 16) rfl rfl (jr_is_n (pc' := 17) (L' := [_, _, _]) rfl rfl (jl rfl) rfl rfl ?_)
  refine jr_reg (fun t7 => True) (fun t7 => ∀ o8, jn o8 → jp X (px_C X d) px_m230 Q' N 114 [some (.ref 67), some (jv x0), o8] [] t7 (0, 0)) h (fun t7 ht7 h o8 ho8 => ?_) (fun R10 k9 h => ?_)
  · exact jr_rv rfl hu rfl (hQ' _ _ (hQ t7 trivial h))
  · refine jr_lp (fun s4 => jg s4.1) (fun s4 => jp X (px_C X d) px_m230 Q' N 17 [some (.ref 67), some (jv x0), some (jv s4.1)] [] s4.2 (0, 0)) h jgc_0 (fun s4 hs4 R6 k5 h => ?_)
    refine jr_il_n (pc' := 18) rfl rfl rfl (jr_al_n (pc' := 19) rfl rfl rfl (jr_gi (pc' := 22) rfl rfl jlk_12_193 (.inl rfl) rfl hN jd_67 rfl rfl ?_))
    refine jr_cge (pa := 25) (pb := 114) rfl rfl rfl hs4 jg_a h (fun hc h => ?_) (fun hc h => ?_)
    · refine jr_al_n (pc' := 26) rfl rfl rfl (jr_gr (pc' := 29) (r := 89) rfl rfl jlk_12_80 (.inl rfl) rfl hN jd_67 rfl rfl rfl (jr_bi (pc' := 31) rfl rfl rfl (jr_il_n (pc' := 32) rfl rfl rfl (jr_add (pc' := 33) rfl rfl ?_))))
      refine jr_ia (pc' := 34) rfl rfl (jl rfl) hN jd_89 jn_89 jg_w h (fun hc h => ?_)
      refine jr_il_n (pc' := 35) rfl rfl rfl ?_
      refine jr_reg (fun t11 => True) (fun t11 => jp X (px_C X d) px_m230 Q' N 108 [some (.ref 67), some (jv x0), some (jv s4.1)] [] t11 (0, 0)) h (fun t11 ht11 h => ?_) (fun R39 k12 h => ?_)
      · refine jr_inc (pc' := 111) (L' := [_, _, _]) rfl rfl rfl (jl rfl) rfl rfl (jr_goto (pc' := 17) rfl rfl ?_)
        exact k5 (jw (s4.1 + 1), t11) jg_w h
      · refine jr_ceq (pa := 41) (pb := 38) rfl rfl rfl jg_a hx0 h (fun hc h => ?_) (fun hc h => ?_)
        · refine jr_al_n (pc' := 42) rfl rfl rfl (jr_dup (pc' := 43) rfl rfl rfl (jr_gi (pc' := 46) rfl rfl jlk_12_366 (.inl rfl) rfl hN jd_67 rfl rfl (jr_al_n (pc' := 47) rfl rfl rfl (jr_gr (pc' := 50) (r := 79) rfl rfl jlk_12_50 (.inl rfl) rfl hN jd_67 rfl rfl rfl (jr_ic (pc' := 51) rfl rfl ?_)))))
          refine jr_il_n (pc' := 52) rfl rfl rfl (jr_mul (pc' := 53) rfl rfl (jr_ic (pc' := 54) rfl rfl (jr_add (pc' := 55) rfl rfl ?_)))
          refine jr_ia (pc' := 56) rfl rfl (jl rfl) hN jd_79 jn_79 jg_w h (fun hc h => ?_)
          refine jr_add (pc' := 57) rfl rfl (jr_pi (pc' := 60) rfl rfl jlk_12_366 (.inl rfl) rfl hN jd_67 rfl rfl ?_)
          refine jr_le h (fun m13 h => ?_)
          refine jr_al_n (pc' := 61) rfl rfl rfl (jr_al_n (pc' := 62) rfl rfl rfl (jr_gr (pc' := 65) (r := 79) rfl rfl jlk_12_50 (.inl rfl) rfl hN jd_67 rfl rfl rfl (jr_ic (pc' := 66) rfl rfl (jr_il_n (pc' := 67) rfl rfl rfl (jr_mul (pc' := 68) rfl rfl ?_)))))
          refine jr_ic (pc' := 69) rfl rfl (jr_add (pc' := 70) rfl rfl ?_)
          refine jr_ia (pc' := 71) rfl rfl (jl rfl) hN jd_79 jn_79 jg_w h (fun hc h => ?_)
          refine jr_al_n (pc' := 72) rfl rfl rfl (jr_gi (pc' := 75) rfl rfl jlk_12_369 (.inl rfl) rfl hN jd_67 rfl rfl ?_)
          refine jr_reg (fun t14 => jg t14) (fun t14 => jp X (px_C X d) px_m230 Q' N 95 [some (.ref 67), some (jv x0), some (jv s4.1)] [(jv t14), (.ref 67)] m13 (0, 0)) h (fun t14 ht14 h => ?_) (fun R28 k15 h => ?_)
          · refine jr_pi (pc' := 98) rfl rfl jlk_12_369 (.inl rfl) rfl hN jd_67 rfl rfl ?_
            refine jr_le h (fun m26 h => ?_)
            refine jr_al_n (pc' := 99) rfl rfl rfl (jr_dup (pc' := 100) rfl rfl rfl (jr_gi (pc' := 103) rfl rfl jlk_12_372 (.inl rfl) rfl hN jd_67 rfl rfl (jr_ic (pc' := 104) rfl rfl (jr_add (pc' := 105) rfl rfl (jr_pi (pc' := 108) rfl rfl jlk_12_372 (.inl rfl) rfl hN jd_67 rfl rfl ?_)))))
            refine jr_le h (fun m27 h => ?_)
            exact k12 (m27) trivial h
          · refine jr_cle (pa := 78) (pb := 91) rfl rfl rfl jg_a jg_a h (fun hc h => ?_) (fun hc h => ?_)
            · refine jr_al_n (pc' := 79) rfl rfl rfl (jr_gr (pc' := 82) (r := 79) rfl rfl jlk_12_50 (.inl rfl) rfl hN jd_67 rfl rfl rfl (jr_ic (pc' := 83) rfl rfl (jr_il_n (pc' := 84) rfl rfl rfl (jr_mul (pc' := 85) rfl rfl (jr_ic (pc' := 86) rfl rfl ?_)))))
              refine jr_add (pc' := 87) rfl rfl ?_
              refine jr_ia (pc' := 88) rfl rfl (jl rfl) hN jd_79 jn_79 jg_w h (fun hc h => ?_)
              refine jr_goto (pc' := 95) rfl rfl ?_
              exact k15 (ja m13 79 (jw ((jw ((4 : Int) * s4.1)) + (2 : Int))).toNat) jg_a h
            · refine jr_al_n (pc' := 92) rfl rfl rfl (jr_gi (pc' := 95) rfl rfl jlk_12_369 (.inl rfl) rfl hN jd_67 rfl rfl ?_)
              exact k15 (ja m13 67 48) jg_a h
        · refine jr_goto (pc' := 108) rfl rfl ?_
          exact k12 (s4.2) trivial h
    · exact k9 (s4.2) trivial h _ jn_i

set_option maxRecDepth 20000 in
set_option maxHeartbeats 1000000 in
theorem jc_231 {X : Nat × (Nat → Int32)} {N d : Nat} {x0 : Int} {x1 : Int} (hN : 102 ≤ N) (hd : 1 ≤ d) (hx0 : jg x0) (hx1 : jg x1) {m : jm} {P : Int → Prop} {Q : px_Q} (h : jo (jf_231 x0 x1 m) P) (hQ : ∀ p : Int, jb p → P p → Q (.inl (some (jv p))) (jmem N m)) : px_C X d 231 [.ref 67, jv x0, jv x1] (jmem N m) Q := by
  unfold jf_231 at h
  have hu : ju px_m231 (0, 0) := ju_0
  refine jr_in (M := px_m231) (lev := 0) (L := [some (.ref 67), some (jv x0), some (jv x1)]) hd rfl jbd_231 (jl rfl) rfl (fun d hd Q' hQ' => ?_)
  refine jr_al_n (pc' := 1) rfl rfl rfl (jr_gr (pc' := 4) (r := 78) rfl rfl jlk_12_47 (.inl rfl) rfl hN jd_67 rfl rfl rfl (jr_ic (pc' := 5) rfl rfl (jr_il_n (pc' := 6) rfl rfl rfl (jr_mul (pc' := 7) rfl rfl (jr_ic (pc' := 8) rfl rfl ?_)))))
  refine jr_add (pc' := 9) rfl rfl ?_
  refine jr_ia (pc' := 10) rfl rfl (jl rfl) hN jd_78 jn_78 jg_w h (fun hc h => ?_)
  refine jr_bi (pc' := 12) rfl rfl rfl ?_
  refine jr_reg (fun t1 => jb t1) (fun t1 => jp X (px_C X d) px_m231 Q' N 43 [some (.ref 67), some (jv x0), some (jv x1)] [(jv t1)] m (0, 0)) h (fun t1 ht1 h => ?_) (fun R13 k2 h => ?_)
  · exact jr_retb rfl hu rfl ht1 (hQ' _ _ (hQ t1 ht1 h))
  · refine jr_ceq (pa := 38) (pb := 15) rfl rfl rfl jg_a jgc_6 h (fun hc h => ?_) (fun hc h => ?_)
    · refine jr_ic (pc' := 39) rfl rfl (jr_goto (pc' := 43) rfl rfl ?_)
      exact k2 ((1 : Int)) jb_1 h
    · refine jr_al_n (pc' := 16) rfl rfl rfl (jr_gr (pc' := 19) (r := 78) rfl rfl jlk_12_47 (.inl rfl) rfl hN jd_67 rfl rfl rfl (jr_ic (pc' := 20) rfl rfl (jr_il_n (pc' := 21) rfl rfl rfl (jr_mul (pc' := 22) rfl rfl (jr_ic (pc' := 23) rfl rfl ?_)))))
      refine jr_add (pc' := 24) rfl rfl ?_
      refine jr_ia (pc' := 25) rfl rfl (jl rfl) hN jd_78 jn_78 jg_w h (fun hc h => ?_)
      refine jr_al_n (pc' := 26) rfl rfl rfl (jr_gr (pc' := 29) (r := 79) rfl rfl jlk_12_50 (.inl rfl) rfl hN jd_67 rfl rfl rfl (jr_ic (pc' := 30) rfl rfl (jr_il_n (pc' := 31) rfl rfl rfl (jr_mul (pc' := 32) rfl rfl (jr_ic (pc' := 33) rfl rfl ?_)))))
      refine jr_add (pc' := 34) rfl rfl ?_
      refine jr_ia (pc' := 35) rfl rfl (jl rfl) hN jd_79 jn_79 jg_w h (fun hc h => ?_)
      refine jr_cne (pa := 38) (pb := 42) rfl rfl rfl jg_a jg_a h (fun hc h => ?_) (fun hc h => ?_)
      · refine jr_ic (pc' := 39) rfl rfl (jr_goto (pc' := 43) rfl rfl ?_)
        exact k2 ((1 : Int)) jb_1 h
      · refine jr_ic (pc' := 43) rfl rfl ?_
        exact k2 ((0 : Int)) jb_0 h

set_option maxRecDepth 20000 in
set_option maxHeartbeats 1000000 in
theorem jc_229 {X : Nat × (Nat → Int32)} {N d : Nat} {x0 : Int} {x1 : Int} (hN : 102 ≤ N) (hd : 2 ≤ d) (hx0 : jg x0) (hx1 : jg x1) {m : jm} {P : Int × jm → Prop} {Q : px_Q} (h : jo (jf_229 x0 x1 m) P) (hQ : ∀ p : Int × jm, jb p.1 → P p → Q (.inl (some (jv p.1))) (jmem N p.2)) : px_C X d 229 [.ref 67, jv x0, jv x1] (jmem N m) Q := by
  unfold jf_229 at h
  have hu : ju px_m229 (0, 0) := ju_0
  refine jr_in (M := px_m229) (lev := 1) (L := [some (.ref 67), some (jv x0), some (jv x1)]) hd rfl jbd_229 (jl rfl) rfl (fun d hd Q' hQ' => ?_)
  refine jr_al_n (pc' := 1) rfl rfl rfl (jr_il_n (pc' := 2) rfl rfl rfl ?_)
  refine jr_cv_v (pc' := 5) [] rfl rfl jlk_12_385 jq_230 jbd_230 (jl rfl) rfl (jl rfl) hu rfl (jk rfl hN) (jd_67.trans jo_230.symm) (fun Q' hq => jc_230 hN (Nat.le_trans (jl rfl) hd) hx0 (jo_b h) hq) (fun p1 hp1 h => ?_)
  refine jr_al_n (pc' := 6) rfl rfl rfl (jr_gr (pc' := 9) (r := 89) rfl rfl jlk_12_80 (.inl rfl) rfl hN jd_67 rfl rfl rfl (jr_bi (pc' := 11) rfl rfl rfl (jr_il_n (pc' := 12) rfl rfl rfl (jr_add (pc' := 13) rfl rfl ?_))))
  refine jr_ia (pc' := 14) rfl rfl (jl rfl) hN jd_89 jn_89 jg_w h (fun hc h => ?_)
  refine jr_ic (pc' := 15) rfl rfl ?_
  refine jr_ceq (pa := 82) (pb := 18) rfl rfl rfl jg_a jgc_m1 h (fun hc h => ?_) (fun hc h => ?_)
  · refine jr_ic (pc' := 83) rfl rfl ?_
    exact jr_retb rfl hu rfl jb_0 (hQ' _ _ (hQ ((0 : Int), p1) jb_0 h))
  · refine jr_al_n (pc' := 19) rfl rfl rfl (jr_gr (pc' := 22) (r := 89) rfl rfl jlk_12_80 (.inl rfl) rfl hN jd_67 rfl rfl rfl (jr_bi (pc' := 24) rfl rfl rfl (jr_il_n (pc' := 25) rfl rfl rfl (jr_add (pc' := 26) rfl rfl ?_))))
    refine jr_ia (pc' := 27) rfl rfl (jl rfl) hN jd_89 jn_89 jg_w h (fun hc h => ?_)
    refine jr_ic (pc' := 28) rfl rfl ?_
    refine jr_cne (pa := 31) (pb := 82) rfl rfl rfl jg_a jgc_m1 h (fun hc h => ?_) (fun hc h => ?_)
    · refine jr_al_n (pc' := 32) rfl rfl rfl (jr_gr (pc' := 35) (r := 89) rfl rfl jlk_12_80 (.inl rfl) rfl hN jd_67 rfl rfl rfl (jr_bi (pc' := 37) rfl rfl rfl (jr_il_n (pc' := 38) rfl rfl rfl (jr_add (pc' := 39) rfl rfl ?_))))
      refine jr_ia (pc' := 40) rfl rfl (jl rfl) hN jd_89 jn_89 jg_w h (fun hc h => ?_)
      refine jr_ic (pc' := 41) rfl rfl ?_
      refine jr_ceq (pa := 82) (pb := 44) rfl rfl rfl jg_a jgc_1 h (fun hc h => ?_) (fun hc h => ?_)
      · refine jr_ic (pc' := 83) rfl rfl ?_
        exact jr_retb rfl hu rfl jb_0 (hQ' _ _ (hQ ((0 : Int), p1) jb_0 h))
      · refine jr_al_n (pc' := 45) rfl rfl rfl (jr_gr (pc' := 48) (r := 89) rfl rfl jlk_12_80 (.inl rfl) rfl hN jd_67 rfl rfl rfl (jr_bi (pc' := 50) rfl rfl rfl (jr_il_n (pc' := 51) rfl rfl rfl (jr_add (pc' := 52) rfl rfl ?_))))
        refine jr_ia (pc' := 53) rfl rfl (jl rfl) hN jd_89 jn_89 jg_w h (fun hc h => ?_)
        refine jr_al_n (pc' := 54) rfl rfl rfl (jr_gr (pc' := 57) (r := 89) rfl rfl jlk_12_80 (.inl rfl) rfl hN jd_67 rfl rfl rfl (jr_bi (pc' := 59) rfl rfl rfl (jr_il_n (pc' := 60) rfl rfl rfl (jr_add (pc' := 61) rfl rfl ?_))))
        refine jr_ia (pc' := 62) rfl rfl (jl rfl) hN jd_89 jn_89 jg_w h (fun hc h => ?_)
        refine jr_cne (pa := 65) (pb := 82) rfl rfl rfl jg_a jg_a h (fun hc h => ?_) (fun hc h => ?_)
        · refine jr_al_n (pc' := 66) rfl rfl rfl (jr_il_n (pc' := 67) rfl rfl rfl (jr_il_n (pc' := 68) rfl rfl rfl ?_))
          refine jr_cv_p (pc' := 71) [] rfl rfl jlk_12_388 jq_231 jbd_231 (jl rfl) rfl (jl rfl) hu rfl (jk rfl hN) (jd_67.trans jo_231.symm) (fun Q' hq => jc_231 hN (Nat.le_trans (jl rfl) hd) hx0 hx1 (jo_b h) hq) (fun p2 hp2 h => ?_)
          refine jr_zeq (pa := 82) (pb := 74) rfl rfl rfl (jg_b hp2) h (fun hc h => ?_) (fun hc h => ?_)
          · refine jr_ic (pc' := 83) rfl rfl ?_
            exact jr_retb rfl hu rfl jb_0 (hQ' _ _ (hQ ((0 : Int), p1) jb_0 h))
          · refine jr_al_n (pc' := 75) rfl rfl rfl (jr_gi (pc' := 78) rfl rfl jlk_12_372 (.inl rfl) rfl hN jd_67 rfl rfl (jr_ic (pc' := 79) rfl rfl ?_))
            refine jr_cne (pa := 82) (pb := 84) rfl rfl rfl jg_a jgc_2 h (fun hc h => ?_) (fun hc h => ?_)
            · refine jr_ic (pc' := 83) rfl rfl ?_
              exact jr_retb rfl hu rfl jb_0 (hQ' _ _ (hQ ((0 : Int), p1) jb_0 h))
            · refine jr_al_n (pc' := 85) rfl rfl rfl (jr_gr (pc' := 88) (r := 89) rfl rfl jlk_12_80 (.inl rfl) rfl hN jd_67 rfl rfl rfl (jr_bi (pc' := 90) rfl rfl rfl (jr_il_n (pc' := 91) rfl rfl rfl (jr_add (pc' := 92) rfl rfl (jr_il_n (pc' := 93) rfl rfl rfl ?_)))))
              refine jr_ist (pc' := 94) rfl rfl (jl rfl) hN jd_89 jn_89 jg_w h (fun hc h => ?_)
              refine jr_le h (fun m3 h => ?_)
              refine jr_al_n (pc' := 95) rfl rfl rfl (jr_gr (pc' := 98) (r := 89) rfl rfl jlk_12_80 (.inl rfl) rfl hN jd_67 rfl rfl rfl (jr_bi (pc' := 100) rfl rfl rfl (jr_il_n (pc' := 101) rfl rfl rfl (jr_add (pc' := 102) rfl rfl (jr_ic (pc' := 103) rfl rfl ?_)))))
              refine jr_ist (pc' := 104) rfl rfl (jl rfl) hN jd_89 jn_89 jg_w h (fun hc h => ?_)
              refine jr_le h (fun m4 h => ?_)
              refine jr_ic (pc' := 105) rfl rfl ?_
              exact jr_retb rfl hu rfl jb_1 (hQ' _ _ (hQ ((1 : Int), m4) jb_1 h))
        · refine jr_ic (pc' := 83) rfl rfl ?_
          exact jr_retb rfl hu rfl jb_0 (hQ' _ _ (hQ ((0 : Int), p1) jb_0 h))
    · refine jr_ic (pc' := 83) rfl rfl ?_
      exact jr_retb rfl hu rfl jb_0 (hQ' _ _ (hQ ((0 : Int), p1) jb_0 h))

set_option maxRecDepth 20000 in
set_option maxHeartbeats 1000000 in
theorem jc_233 {X : Nat × (Nat → Int32)} {N d : Nat} {x0 : Int} {x1 : Int} (hN : 102 ≤ N) (hd : 1 ≤ d) (hx0 : jg x0) (hx1 : jg x1) {m : jm} {P : jm → Prop} {Q : px_Q} (h : jo (jf_233 x0 x1 m) P) (hQ : ∀ p : jm, True → P p → Q (.inl (none)) (jmem N p)) : px_C X d 233 [.ref 67, jv x0, jv x1] (jmem N m) Q := by
  unfold jf_233 at h
  have hu : ju px_m233 (0, 0) := ju_0
  refine jr_in (M := px_m233) (lev := 0) (L := [some (.ref 67), some (jv x0), some (jv x1)]) hd rfl jbd_233 (jl rfl) rfl (fun d hd Q' hQ' => ?_)
  refine jr_al_n (pc' := 1) rfl rfl rfl (jr_gr (pc' := 4) (r := 89) rfl rfl jlk_12_80 (.inl rfl) rfl hN jd_67 rfl rfl rfl (jr_bi (pc' := 6) rfl rfl rfl (jr_il_n (pc' := 7) rfl rfl rfl (jr_add (pc' := 8) rfl rfl (jr_ic (pc' := 9) rfl rfl ?_)))))
  refine jr_ist (pc' := 10) rfl rfl (jl rfl) hN jd_89 jn_89 jg_w h (fun hc h => ?_)
  refine jr_le h (fun m1 h => ?_)
  refine jr_al_n (pc' := 11) rfl rfl rfl (jr_gr (pc' := 14) (r := 89) rfl rfl jlk_12_80 (.inl rfl) rfl hN jd_67 rfl rfl rfl (jr_bi (pc' := 16) rfl rfl rfl (jr_il_n (pc' := 17) rfl rfl rfl (jr_add (pc' := 18) rfl rfl (jr_il_n (pc' := 19) rfl rfl rfl ?_)))))
  refine jr_ist (pc' := 20) rfl rfl (jl rfl) hN jd_89 jn_89 jg_w h (fun hc h => ?_)
  refine jr_le h (fun m2 h => ?_)
  refine jr_al_n (pc' := 21) rfl rfl rfl (jr_gr (pc' := 24) (r := 89) rfl rfl jlk_12_80 (.inl rfl) rfl hN jd_67 rfl rfl rfl (jr_bi (pc' := 26) rfl rfl rfl (jr_il_n (pc' := 27) rfl rfl rfl (jr_add (pc' := 28) rfl rfl (jr_al_n (pc' := 29) rfl rfl rfl ?_)))))
  refine jr_gr (pc' := 32) (r := 79) rfl rfl jlk_12_50 (.inl rfl) rfl hN jd_67 rfl rfl rfl (jr_ic (pc' := 33) rfl rfl (jr_il_n (pc' := 34) rfl rfl rfl (jr_mul (pc' := 35) rfl rfl (jr_ic (pc' := 36) rfl rfl (jr_add (pc' := 37) rfl rfl ?_)))))
  refine jr_ia (pc' := 38) rfl rfl (jl rfl) hN jd_79 jn_79 jg_w h (fun hc h => ?_)
  refine jr_il_n (pc' := 39) rfl rfl rfl ?_
  refine jr_reg (fun t3 => jb t3) (fun t3 => jp X (px_C X d) px_m233 Q' N 47 [some (.ref 67), some (jv x0), some (jv x1)] [(jv t3), (jv (jw ((58 : Int) + x0))), (.ref 89)] m2 (0, 0)) h (fun t3 ht3 h => ?_) (fun R16 k4 h => ?_)
  · refine jr_ist (pc' := 48) rfl rfl (jl rfl) hN jd_89 jn_89 jg_w h (fun hc h => ?_)
    refine jr_le h (fun m15 h => ?_)
    exact jr_rv rfl hu rfl (hQ' _ _ (hQ m15 trivial h))
  · refine jr_cne (pa := 42) (pb := 46) rfl rfl rfl jg_a hx1 h (fun hc h => ?_) (fun hc h => ?_)
    · refine jr_ic (pc' := 43) rfl rfl (jr_goto (pc' := 47) rfl rfl ?_)
      exact k4 ((1 : Int)) jb_1 h
    · refine jr_ic (pc' := 47) rfl rfl ?_
      exact k4 ((0 : Int)) jb_0 h

set_option maxRecDepth 20000 in
set_option maxHeartbeats 1000000 in
theorem jc_232 {X : Nat × (Nat → Int32)} {N d : Nat} {x0 : Int} {x1 : Int} (hN : 102 ≤ N) (hd : 2 ≤ d) (hx0 : jg x0) (hx1 : jg x1) {m : jm} {P : Int × jm → Prop} {Q : px_Q} (h : jo (jf_232 x0 x1 m) P) (hQ : ∀ p : Int × jm, jb p.1 → P p → Q (.inl (some (jv p.1))) (jmem N p.2)) : px_C X d 232 [.ref 67, jv x0, jv x1] (jmem N m) Q := by
  unfold jf_232 at h
  have hu : ju px_m232 (0, 0) := ju_0
  refine jr_in (M := px_m232) (lev := 1) (L := [some (.ref 67), some (jv x0), some (jv x1)]) hd rfl jbd_232 (jl rfl) rfl (fun d hd Q' hQ' => ?_)
  refine jr_al_n (pc' := 1) rfl rfl rfl (jr_gr (pc' := 4) (r := 89) rfl rfl jlk_12_80 (.inl rfl) rfl hN jd_67 rfl rfl rfl (jr_bi (pc' := 6) rfl rfl rfl (jr_il_n (pc' := 7) rfl rfl rfl (jr_add (pc' := 8) rfl rfl ?_))))
  refine jr_ia (pc' := 9) rfl rfl (jl rfl) hN jd_89 jn_89 jg_w h (fun hc h => ?_)
  refine jr_il_n (pc' := 10) rfl rfl rfl ?_
  refine jr_ceq (pa := 15) (pb := 13) rfl rfl rfl jg_a hx0 h (fun hc h => ?_) (fun hc h => ?_)
  · refine jr_al_n (pc' := 16) rfl rfl rfl (jr_il_n (pc' := 17) rfl rfl rfl (jr_al_n (pc' := 18) rfl rfl rfl (jr_gr (pc' := 21) (r := 89) rfl rfl jlk_12_80 (.inl rfl) rfl hN jd_67 rfl rfl rfl (jr_bi (pc' := 23) rfl rfl rfl (jr_il_n (pc' := 24) rfl rfl rfl ?_)))))
    refine jr_add (pc' := 25) rfl rfl ?_
    refine jr_ia (pc' := 26) rfl rfl (jl rfl) hN jd_89 jn_89 jg_w h (fun hc h => ?_)
    refine jr_cv_v (pc' := 29) [] rfl rfl jlk_12_392 jq_233 jbd_233 (jl rfl) rfl (jl rfl) hu rfl (jk rfl hN) (jd_67.trans jo_233.symm) (fun Q' hq => jc_233 hN (Nat.le_trans (jl rfl) hd) hx1 jg_a (jo_b h) hq) (fun p1 hp1 h => ?_)
    refine jr_ic (pc' := 30) rfl rfl ?_
    exact jr_retb rfl hu rfl jb_1 (hQ' _ _ (hQ ((1 : Int), p1) jb_1 h))
  · refine jr_ic (pc' := 14) rfl rfl ?_
    exact jr_retb rfl hu rfl jb_0 (hQ' _ _ (hQ ((0 : Int), m) jb_0 h))

set_option maxRecDepth 20000 in
set_option maxHeartbeats 1000000 in
theorem jc_235 {X : Nat × (Nat → Int32)} {N d : Nat} {x0 : Int} {x1 : Int} (hN : 102 ≤ N) (hd : 1 ≤ d) (hx0 : jg x0) (hx1 : jg x1) {m : jm} {P : Int → Prop} {Q : px_Q} (h : jo (jf_235 x0 x1 m) P) (hQ : ∀ p : Int, jg p → P p → Q (.inl (some (jv p))) (jmem N m)) : px_C X d 235 [.ref 67, jv x0, jv x1] (jmem N m) Q := by
  unfold jf_235 at h
  have hu : ju px_m235 (0, 0) := ju_0
  refine jr_in (M := px_m235) (lev := 0) (L := [some (.ref 67), some (jv x0), some (jv x1), none]) hd rfl jbd_235 (jl rfl) rfl (fun d hd Q' hQ' => ?_)
  refine jr_ic (pc' := 1) rfl rfl (jr_is_n (pc' := 2) (L' := [_, _, _, _]) rfl rfl (jl rfl) rfl rfl ?_)
  refine jr_lp (fun s1 => jg s1) (fun s1 => jp X (px_C X d) px_m235 Q' N 2 [some (.ref 67), some (jv x0), some (jv x1), some (jv s1)] [] m (0, 0)) h jgc_0 (fun s1 hs1 R3 k2 h => ?_)
  refine jr_il_n (pc' := 3) rfl rfl rfl (jr_al_n (pc' := 4) rfl rfl rfl (jr_gi (pc' := 7) rfl rfl jlk_12_187 (.inl rfl) rfl hN jd_67 rfl rfl ?_))
  refine jr_cge (pa := 10) (pb := 70) rfl rfl rfl hs1 jg_a h (fun hc h => ?_) (fun hc h => ?_)
  · refine jr_al_n (pc' := 11) rfl rfl rfl (jr_gr (pc' := 14) (r := 76) rfl rfl jlk_12_41 (.inl rfl) rfl hN jd_67 rfl rfl rfl (jr_ic (pc' := 15) rfl rfl (jr_il_n (pc' := 16) rfl rfl rfl (jr_mul (pc' := 17) rfl rfl ?_))))
    refine jr_ia (pc' := 18) rfl rfl (jl rfl) hN jd_76 jn_76 jg_w h (fun hc h => ?_)
    refine jr_il_n (pc' := 19) rfl rfl rfl ?_
    refine jr_cne (pa := 22) (pb := 36) rfl rfl rfl jg_a hx0 h (fun hc h => ?_) (fun hc h => ?_)
    · refine jr_al_n (pc' := 23) rfl rfl rfl (jr_gr (pc' := 26) (r := 76) rfl rfl jlk_12_41 (.inl rfl) rfl hN jd_67 rfl rfl rfl (jr_ic (pc' := 27) rfl rfl (jr_il_n (pc' := 28) rfl rfl rfl (jr_mul (pc' := 29) rfl rfl (jr_ic (pc' := 30) rfl rfl ?_)))))
      refine jr_add (pc' := 31) rfl rfl ?_
      refine jr_ia (pc' := 32) rfl rfl (jl rfl) hN jd_76 jn_76 jg_w h (fun hc h => ?_)
      refine jr_il_n (pc' := 33) rfl rfl rfl ?_
      refine jr_ceq (pa := 62) (pb := 36) rfl rfl rfl jg_a hx1 h (fun hc h => ?_) (fun hc h => ?_)
      · refine jr_il_n (pc' := 63) rfl rfl rfl ?_
        exact jr_ret rfl hu rfl (hQ' _ _ (hQ s1 hs1 h))
      · refine jr_al_n (pc' := 37) rfl rfl rfl (jr_gr (pc' := 40) (r := 76) rfl rfl jlk_12_41 (.inl rfl) rfl hN jd_67 rfl rfl rfl (jr_ic (pc' := 41) rfl rfl (jr_il_n (pc' := 42) rfl rfl rfl (jr_mul (pc' := 43) rfl rfl ?_))))
        refine jr_ia (pc' := 44) rfl rfl (jl rfl) hN jd_76 jn_76 jg_w h (fun hc h => ?_)
        refine jr_il_n (pc' := 45) rfl rfl rfl ?_
        refine jr_cne (pa := 48) (pb := 64) rfl rfl rfl jg_a hx1 h (fun hc h => ?_) (fun hc h => ?_)
        · refine jr_al_n (pc' := 49) rfl rfl rfl (jr_gr (pc' := 52) (r := 76) rfl rfl jlk_12_41 (.inl rfl) rfl hN jd_67 rfl rfl rfl (jr_ic (pc' := 53) rfl rfl (jr_il_n (pc' := 54) rfl rfl rfl (jr_mul (pc' := 55) rfl rfl (jr_ic (pc' := 56) rfl rfl ?_)))))
          refine jr_add (pc' := 57) rfl rfl ?_
          refine jr_ia (pc' := 58) rfl rfl (jl rfl) hN jd_76 jn_76 jg_w h (fun hc h => ?_)
          refine jr_il_n (pc' := 59) rfl rfl rfl ?_
          refine jr_cne (pa := 62) (pb := 64) rfl rfl rfl jg_a hx0 h (fun hc h => ?_) (fun hc h => ?_)
          · refine jr_il_n (pc' := 63) rfl rfl rfl ?_
            exact jr_ret rfl hu rfl (hQ' _ _ (hQ s1 hs1 h))
          · refine jr_inc (pc' := 67) (L' := [_, _, _, _]) rfl rfl rfl (jl rfl) rfl rfl (jr_goto (pc' := 2) rfl rfl ?_)
            exact k2 (jw (s1 + 1)) jg_w h
        · refine jr_inc (pc' := 67) (L' := [_, _, _, _]) rfl rfl rfl (jl rfl) rfl rfl (jr_goto (pc' := 2) rfl rfl ?_)
          exact k2 (jw (s1 + 1)) jg_w h
    · refine jr_al_n (pc' := 37) rfl rfl rfl (jr_gr (pc' := 40) (r := 76) rfl rfl jlk_12_41 (.inl rfl) rfl hN jd_67 rfl rfl rfl (jr_ic (pc' := 41) rfl rfl (jr_il_n (pc' := 42) rfl rfl rfl (jr_mul (pc' := 43) rfl rfl ?_))))
      refine jr_ia (pc' := 44) rfl rfl (jl rfl) hN jd_76 jn_76 jg_w h (fun hc h => ?_)
      refine jr_il_n (pc' := 45) rfl rfl rfl ?_
      refine jr_cne (pa := 48) (pb := 64) rfl rfl rfl jg_a hx1 h (fun hc h => ?_) (fun hc h => ?_)
      · refine jr_al_n (pc' := 49) rfl rfl rfl (jr_gr (pc' := 52) (r := 76) rfl rfl jlk_12_41 (.inl rfl) rfl hN jd_67 rfl rfl rfl (jr_ic (pc' := 53) rfl rfl (jr_il_n (pc' := 54) rfl rfl rfl (jr_mul (pc' := 55) rfl rfl (jr_ic (pc' := 56) rfl rfl ?_)))))
        refine jr_add (pc' := 57) rfl rfl ?_
        refine jr_ia (pc' := 58) rfl rfl (jl rfl) hN jd_76 jn_76 jg_w h (fun hc h => ?_)
        refine jr_il_n (pc' := 59) rfl rfl rfl ?_
        refine jr_cne (pa := 62) (pb := 64) rfl rfl rfl jg_a hx0 h (fun hc h => ?_) (fun hc h => ?_)
        · refine jr_il_n (pc' := 63) rfl rfl rfl ?_
          exact jr_ret rfl hu rfl (hQ' _ _ (hQ s1 hs1 h))
        · refine jr_inc (pc' := 67) (L' := [_, _, _, _]) rfl rfl rfl (jl rfl) rfl rfl (jr_goto (pc' := 2) rfl rfl ?_)
          exact k2 (jw (s1 + 1)) jg_w h
      · refine jr_inc (pc' := 67) (L' := [_, _, _, _]) rfl rfl rfl (jl rfl) rfl rfl (jr_goto (pc' := 2) rfl rfl ?_)
        exact k2 (jw (s1 + 1)) jg_w h
  · refine jr_ic (pc' := 71) rfl rfl ?_
    exact jr_ret rfl hu rfl (hQ' _ _ (hQ (-1 : Int) jgc_m1 h))

set_option maxRecDepth 20000 in
set_option maxHeartbeats 1000000 in
theorem jc_241 {X : Nat × (Nat → Int32)} {N d : Nat} {x0 : Int} {x1 : Int} {x2 : Int} (hN : 102 ≤ N) (hd : 1 ≤ d) (hx0 : jg x0) (hx1 : jg x1) (hx2 : jg x2) {m : jm} {P : Int → Prop} {Q : px_Q} (h : jo (jf_241 x0 x1 x2 m) P) (hQ : ∀ p : Int, jg p → P p → Q (.inl (some (jv p))) (jmem N m)) : px_C X d 241 [jv x0, jv x1, jv x2] (jmem N m) Q := by
  unfold jf_241 at h
  have hu : ju px_m241 (0, 0) := ju_0
  refine jr_in (M := px_m241) (lev := 0) (L := [some (jv x0), some (jv x1), some (jv x2)]) hd rfl jbd_241 (jl rfl) rfl (fun d hd Q' hQ' => ?_)
  refine jr_il_n (pc' := 1) rfl rfl rfl (jr_ic (pc' := 2) rfl rfl ?_)
  refine jr_cne (pa := 5) (pb := 9) rfl rfl rfl hx0 jgc_2 h (fun hc h => ?_) (fun hc h => ?_)
  · refine jr_il_n (pc' := 6) rfl rfl rfl (jr_il_n (pc' := 7) rfl rfl rfl (jr_add (pc' := 8) rfl rfl ?_))
    exact jr_ret rfl hu rfl (hQ' _ _ (hQ (jw (x1 + x2)) jg_w h))
  · refine jr_il_n (pc' := 10) rfl rfl rfl (jr_ic (pc' := 11) rfl rfl ?_)
    refine jr_cne (pa := 14) (pb := 18) rfl rfl rfl hx0 jgc_3 h (fun hc h => ?_) (fun hc h => ?_)
    · refine jr_il_n (pc' := 15) rfl rfl rfl (jr_il_n (pc' := 16) rfl rfl rfl (jr_sub (pc' := 17) rfl rfl ?_))
      exact jr_ret rfl hu rfl (hQ' _ _ (hQ (jw (x1 - x2)) jg_w h))
    · refine jr_il_n (pc' := 19) rfl rfl rfl (jr_ic (pc' := 20) rfl rfl ?_)
      refine jr_cne (pa := 23) (pb := 27) rfl rfl rfl hx0 jgc_4 h (fun hc h => ?_) (fun hc h => ?_)
      · refine jr_il_n (pc' := 24) rfl rfl rfl (jr_il_n (pc' := 25) rfl rfl rfl (jr_mul (pc' := 26) rfl rfl ?_))
        exact jr_ret rfl hu rfl (hQ' _ _ (hQ (jw (x1 * x2)) jg_w h))
      · refine jr_il_n (pc' := 28) rfl rfl rfl (jr_ic (pc' := 29) rfl rfl ?_)
        refine jr_cne (pa := 32) (pb := 44) rfl rfl rfl hx0 jgc_5 h (fun hc h => ?_) (fun hc h => ?_)
        · refine jr_il_n (pc' := 33) rfl rfl rfl ?_
          refine jr_reg (fun t1 => jg t1) (fun t1 => jp X (px_C X d) px_m241 Q' N 43 [some (jv x0), some (jv x1), some (jv x2)] [(jv t1)] m (0, 0)) h (fun t1 ht1 h => ?_) (fun R13 k2 h => ?_)
          · exact jr_ret rfl hu rfl (hQ' _ _ (hQ t1 ht1 h))
          · refine jr_zne (pa := 36) (pb := 40) rfl rfl rfl hx2 h (fun hc h => ?_) (fun hc h => ?_)
            · refine jr_ic (pc' := 37) rfl rfl (jr_goto (pc' := 43) rfl rfl ?_)
              exact k2 ((0 : Int)) jgc_0 h
            · refine jr_il_n (pc' := 41) rfl rfl rfl (jr_il_n (pc' := 42) rfl rfl rfl ?_)
              refine jo_w0 h (fun hc h => jr_div (pc' := 43) rfl rfl hx2 hc ?_)
              exact k2 (jdiv x1 x2) jg_div h
        · refine jr_il_n (pc' := 45) rfl rfl rfl (jr_il_n (pc' := 46) rfl rfl rfl ?_)
          refine jr_reg (fun t14 => jb t14) (fun t14 => jp X (px_C X d) px_m241 Q' N 54 [some (jv x0), some (jv x1), some (jv x2)] [(jv t14)] m (0, 0)) h (fun t14 ht14 h => ?_) (fun R52 k15 h => ?_)
          · refine jr_il_n (pc' := 55) rfl rfl rfl (jr_bi (pc' := 57) rfl rfl rfl ?_)
            refine jr_reg (fun t26 => jb t26) (fun t26 => jp X (px_C X d) px_m241 Q' N 65 [some (jv x0), some (jv x1), some (jv x2)] [(jv t26), (jv t14)] m (0, 0)) h (fun t26 ht26 h => ?_) (fun R51 k27 h => ?_)
            · refine jr_reg (fun t38 => jg t38) (fun t38 => jp X (px_C X d) px_m241 Q' N 73 [some (jv x0), some (jv x1), some (jv x2)] [(jv t38)] m (0, 0)) h (fun t38 ht38 h => ?_) (fun R50 k39 h => ?_)
              · exact jr_ret rfl hu rfl (hQ' _ _ (hQ t38 ht38 h))
              · refine jr_cne (pa := 68) (pb := 72) rfl rfl rfl (jg_b ht14) (jg_b ht26) h (fun hc h => ?_) (fun hc h => ?_)
                · refine jr_il_n (pc' := 69) rfl rfl rfl (jr_goto (pc' := 73) rfl rfl ?_)
                  exact k39 (x1) hx1 h
                · refine jr_il_n (pc' := 73) rfl rfl rfl ?_
                  exact k39 (x2) hx2 h
            · refine jr_cne (pa := 60) (pb := 64) rfl rfl rfl hx0 jgc_6 h (fun hc h => ?_) (fun hc h => ?_)
              · refine jr_ic (pc' := 61) rfl rfl (jr_goto (pc' := 65) rfl rfl ?_)
                exact k27 ((1 : Int)) jb_1 h
              · refine jr_ic (pc' := 65) rfl rfl ?_
                exact k27 ((0 : Int)) jb_0 h
          · refine jr_cge (pa := 49) (pb := 53) rfl rfl rfl hx1 hx2 h (fun hc h => ?_) (fun hc h => ?_)
            · refine jr_ic (pc' := 50) rfl rfl (jr_goto (pc' := 54) rfl rfl ?_)
              exact k15 ((1 : Int)) jb_1 h
            · refine jr_ic (pc' := 54) rfl rfl ?_
              exact k15 ((0 : Int)) jb_0 h

set_option maxRecDepth 20000 in
set_option maxHeartbeats 1000000 in
theorem jc_240 {X : Nat × (Nat → Int32)} {N d : Nat}  (hN : 102 ≤ N) (hd : 2 ≤ d)  {m : jm} {P : Int × jm → Prop} {Q : px_Q} (h : jo (jf_240 m) P) (hQ : ∀ p : Int × jm, jg p.1 → P p → Q (.inl (some (jv p.1))) (jmem N p.2)) : px_C X d 240 [.ref 67] (jmem N m) Q := by
  unfold jf_240 at h
  have hu : ju px_m240 (0, 0) := ju_0
  refine jr_in (M := px_m240) (lev := 1) (L := [some (.ref 67), none, none, none]) hd rfl jbd_240 (jl rfl) rfl (fun d hd Q' hQ' => ?_)
  refine jr_ic (pc' := 1) rfl rfl (jr_is_n (pc' := 2) (L' := [_, _, _, _]) rfl rfl (jl rfl) rfl rfl (jr_ic (pc' := 3) rfl rfl (jr_is_n (pc' := 4) (L' := [_, _, _, _]) rfl rfl (jl rfl) rfl rfl ?_)))
  refine jr_reg (fun t5 => True) (fun t5 => ∀ o6, jn o6 → ∀ o7, jn o7 → ∀ o8, jn o8 → jp X (px_C X d) px_m240 Q' N 95 [some (.ref 67), o6, o7, o8] [] t5 (0, 0)) h (fun t5 ht5 h o6 ho6 o7 ho7 o8 ho8 => ?_) (fun R10 k9 h => ?_)
  · refine jr_al_n (pc' := 96) rfl rfl rfl (jr_gr (pc' := 99) (r := 84) rfl rfl jlk_12_65 (.inl rfl) rfl hN jd_67 rfl rfl rfl (jr_ic (pc' := 100) rfl rfl ?_))
    refine jr_ia (pc' := 101) rfl rfl (jl rfl) hN jd_84 jn_84 jgc_0 h (fun hc h => ?_)
    exact jr_ret rfl hu rfl (hQ' _ _ (hQ (ja t5 84 (0 : Int).toNat, t5) jg_a h))
  · refine jr_lp (fun s1 => jg s1.1 ∧ jg s1.2.1) (fun s1 => ∀ o2, jn o2 → jp X (px_C X d) px_m240 Q' N 4 [some (.ref 67), some (jv s1.1), some (jv s1.2.1), o2] [] s1.2.2 (0, 0)) h ⟨jgc_0, jgc_0⟩ (fun s1 hs1 R4 k3 h o2 ho2 => ?_) _ jn_n
    refine jr_il_n (pc' := 5) rfl rfl rfl (jr_al_n (pc' := 6) rfl rfl rfl (jr_gi (pc' := 9) rfl rfl jlk_12_200 (.inl rfl) rfl hN jd_67 rfl rfl ?_))
    refine jr_cge (pa := 12) (pb := 95) rfl rfl rfl hs1.2 jg_a h (fun hc h => ?_) (fun hc h => ?_)
    · refine jr_al_n (pc' := 13) rfl rfl rfl (jr_gr (pc' := 16) (r := 82) rfl rfl jlk_12_59 (.inl rfl) rfl hN jd_67 rfl rfl rfl (jr_il_n (pc' := 17) rfl rfl rfl ?_))
      refine jr_ia (pc' := 18) rfl rfl (jl rfl) hN jd_82 jn_82 hs1.2 h (fun hc h => ?_)
      refine jr_is_n (pc' := 19) (L' := [_, _, _, _]) rfl rfl (jl rfl) rfl rfl (jr_il_n (pc' := 20) rfl rfl rfl (jr_ic (pc' := 21) rfl rfl ?_))
      refine jr_reg (fun t11 => jg t11.1) (fun t11 => jp X (px_C X d) px_m240 Q' N 89 [some (.ref 67), some (jv t11.1), some (jv s1.2.1), some (jv (ja s1.2.2 82 s1.2.1.toNat))] [] t11.2 (0, 0)) h (fun t11 ht11 h => ?_) (fun R39 k12 h => ?_)
      · refine jr_inc (pc' := 92) (L' := [_, _, _, _]) rfl rfl rfl (jl rfl) rfl rfl (jr_goto (pc' := 4) rfl rfl ?_)
        exact k3 (t11.1, jw (s1.2.1 + 1), t11.2) ⟨ht11, jg_w⟩ h _ jn_i
      · refine jr_cgt (pa := 60) (pb := 24) rfl rfl rfl jg_a jgc_1 h (fun hc h => ?_) (fun hc h => ?_)
        · refine jr_inc (pc' := 63) (L' := [_, _, _, _]) rfl rfl rfl (jl rfl) rfl rfl (jr_al_n (pc' := 64) rfl rfl rfl (jr_gr (pc' := 67) (r := 84) rfl rfl jlk_12_65 (.inl rfl) rfl hN jd_67 rfl rfl rfl (jr_il_n (pc' := 68) rfl rfl rfl (jr_ic (pc' := 69) rfl rfl (jr_sub (pc' := 70) rfl rfl ?_)))))
          refine jr_il_n (pc' := 71) rfl rfl rfl (jr_al_n (pc' := 72) rfl rfl rfl (jr_gr (pc' := 75) (r := 84) rfl rfl jlk_12_65 (.inl rfl) rfl hN jd_67 rfl rfl rfl (jr_il_n (pc' := 76) rfl rfl rfl (jr_ic (pc' := 77) rfl rfl (jr_sub (pc' := 78) rfl rfl ?_)))))
          refine jr_ia (pc' := 79) rfl rfl (jl rfl) hN jd_84 jn_84 jg_w h (fun hc h => ?_)
          refine jr_al_n (pc' := 80) rfl rfl rfl (jr_gr (pc' := 83) (r := 84) rfl rfl jlk_12_65 (.inl rfl) rfl hN jd_67 rfl rfl rfl (jr_il_n (pc' := 84) rfl rfl rfl ?_))
          refine jr_ia (pc' := 85) rfl rfl (jl rfl) hN jd_84 jn_84 jg_w h (fun hc h => ?_)
          refine jr_cs_p (pc' := 88) [_, _] rfl rfl jlk_12_314 jq_241 jbd_241 (jl rfl) rfl (jl rfl) hu (fun Q' hq => jc_241 hN (Nat.le_trans (jl rfl) hd) jg_a jg_a jg_a (jo_b h) hq) (fun p13 hp13 h => ?_)
          refine jr_ist (pc' := 89) rfl rfl (jl rfl) hN jd_84 jn_84 jg_w h (fun hc h => ?_)
          refine jr_le h (fun m14 h => ?_)
          exact k12 (jw (s1.1 + (-1)), m14) jg_w h
        · refine jr_al_n (pc' := 25) rfl rfl rfl (jr_gr (pc' := 28) (r := 84) rfl rfl jlk_12_65 (.inl rfl) rfl hN jd_67 rfl rfl rfl (jr_il_n (pc' := 29) rfl rfl rfl (jr_il_n (pc' := 30) rfl rfl rfl ?_)))
          refine jr_reg (fun t15 => jg t15) (fun t15 => jp X (px_C X d) px_m240 Q' N 53 [some (.ref 67), some (jv s1.1), some (jv s1.2.1), some (jv (ja s1.2.2 82 s1.2.1.toNat))] [(jv t15), (jv s1.1), (.ref 84)] s1.2.2 (0, 0)) h (fun t15 ht15 h => ?_) (fun R28 k16 h => ?_)
          · refine jr_ist (pc' := 54) rfl rfl (jl rfl) hN jd_84 jn_84 hs1.1 h (fun hc h => ?_)
            refine jr_le h (fun m27 h => ?_)
            refine jr_inc (pc' := 57) (L' := [_, _, _, _]) rfl rfl rfl (jl rfl) rfl rfl (jr_goto (pc' := 89) rfl rfl ?_)
            exact k12 (jw (s1.1 + 1), m27) jg_w h
          · refine jr_zne (pa := 33) (pb := 42) rfl rfl rfl jg_a h (fun hc h => ?_) (fun hc h => ?_)
            · refine jr_al_n (pc' := 34) rfl rfl rfl (jr_gr (pc' := 37) (r := 83) rfl rfl jlk_12_62 (.inl rfl) rfl hN jd_67 rfl rfl rfl (jr_il_n (pc' := 38) rfl rfl rfl ?_))
              refine jr_ia (pc' := 39) rfl rfl (jl rfl) hN jd_83 jn_83 hs1.2 h (fun hc h => ?_)
              refine jr_goto (pc' := 53) rfl rfl ?_
              exact k16 (ja s1.2.2 83 s1.2.1.toNat) jg_a h
            · refine jr_al_n (pc' := 43) rfl rfl rfl (jr_gr (pc' := 46) (r := 85) rfl rfl jlk_12_68 (.inl rfl) rfl hN jd_67 rfl rfl rfl (jr_al_n (pc' := 47) rfl rfl rfl (jr_gr (pc' := 50) (r := 83) rfl rfl jlk_12_62 (.inl rfl) rfl hN jd_67 rfl rfl rfl (jr_il_n (pc' := 51) rfl rfl rfl ?_))))
              refine jr_ia (pc' := 52) rfl rfl (jl rfl) hN jd_83 jn_83 hs1.2 h (fun hc h => ?_)
              refine jr_ia (pc' := 53) rfl rfl (jl rfl) hN jd_85 jn_85 jg_a h (fun hc h => ?_)
              exact k16 (ja s1.2.2 85 (ja s1.2.2 83 s1.2.1.toNat).toNat) jg_a h
    · exact k9 (s1.2.2) trivial h _ jn_i _ jn_i _ ho2

set_option maxRecDepth 20000 in
set_option maxHeartbeats 1000000 in
theorem jc_239 {X : Nat × (Nat → Int32)} {N d : Nat}  (hN : 102 ≤ N) (hd : 3 ≤ d)  {m : jm} {P : Int × jm → Prop} {Q : px_Q} (h : jo (jf_239 m) P) (hQ : ∀ p : Int × jm, jg p.1 → P p → Q (.inl (some (jv p.1))) (jmem N p.2)) : px_C X d 239 [.ref 67] (jmem N m) Q := by
  unfold jf_239 at h
  have hu : ju px_m239 (0, 0) := ju_0
  refine jr_in (M := px_m239) (lev := 2) (L := [some (.ref 67), none]) hd rfl jbd_239 (jl rfl) rfl (fun d hd Q' hQ' => ?_)
  refine jr_al_n (pc' := 1) rfl rfl rfl (jr_gi (pc' := 4) rfl rfl jlk_12_200 (.inl rfl) rfl hN jd_67 rfl rfl ?_)
  refine jr_reg (fun t1 => jg t1.1) (fun t1 => jp X (px_C X d) px_m239 Q' N 36 [some (.ref 67), none] [(jv t1.1)] t1.2 (0, 0)) h (fun t1 ht1 h => ?_) (fun R27 k2 h => ?_)
  · refine jr_is_n (pc' := 37) (L' := [_, _]) rfl rfl (jl rfl) rfl rfl (jr_il_n (pc' := 38) rfl rfl rfl (jr_bi (pc' := 40) rfl rfl rfl ?_))
    refine jr_reg (fun t14 => jg t14) (fun t14 => jp X (px_C X d) px_m239 Q' N 60 [some (.ref 67), some (jv t1.1)] [(jv t14)] t1.2 (0, 0)) h (fun t14 ht14 h => ?_) (fun R26 k15 h => ?_)
    · exact jr_ret rfl hu rfl (hQ' _ _ (hQ (t14, t1.2) ht14 h))
    · refine jr_cge (pa := 43) (pb := 48) rfl rfl rfl ht1 jgc_m99 h (fun hc h => ?_) (fun hc h => ?_)
      · refine jr_bi (pc' := 45) rfl rfl rfl (jr_goto (pc' := 60) rfl rfl ?_)
        exact k15 ((-99 : Int)) jgc_m99 h
      · refine jr_il_n (pc' := 49) rfl rfl rfl (jr_bi (pc' := 51) rfl rfl rfl ?_)
        refine jr_cle (pa := 54) (pb := 59) rfl rfl rfl ht1 jgc_99 h (fun hc h => ?_) (fun hc h => ?_)
        · refine jr_bi (pc' := 56) rfl rfl rfl (jr_goto (pc' := 60) rfl rfl ?_)
          exact k15 ((99 : Int)) jgc_99 h
        · refine jr_il_n (pc' := 60) rfl rfl rfl ?_
          exact k15 (t1.1) ht1 h
  · refine jr_zne (pa := 7) (pb := 32) rfl rfl rfl jg_a h (fun hc h => ?_) (fun hc h => ?_)
    · refine jr_ic (pc' := 8) rfl rfl (jr_al_n (pc' := 9) rfl rfl rfl (jr_gr (pc' := 12) (r := 85) rfl rfl jlk_12_68 (.inl rfl) rfl hN jd_67 rfl rfl rfl (jr_ic (pc' := 13) rfl rfl ?_)))
      refine jr_ia (pc' := 14) rfl rfl (jl rfl) hN jd_85 jn_85 jgc_0 h (fun hc h => ?_)
      refine jr_mul (pc' := 15) rfl rfl (jr_al_n (pc' := 16) rfl rfl rfl (jr_gr (pc' := 19) (r := 85) rfl rfl jlk_12_68 (.inl rfl) rfl hN jd_67 rfl rfl rfl (jr_ic (pc' := 20) rfl rfl ?_)))
      refine jr_ia (pc' := 21) rfl rfl (jl rfl) hN jd_85 jn_85 jgc_2 h (fun hc h => ?_)
      refine jr_add (pc' := 22) rfl rfl (jr_al_n (pc' := 23) rfl rfl rfl (jr_gr (pc' := 26) (r := 85) rfl rfl jlk_12_68 (.inl rfl) rfl hN jd_67 rfl rfl rfl (jr_ic (pc' := 27) rfl rfl ?_)))
      refine jr_ia (pc' := 28) rfl rfl (jl rfl) hN jd_85 jn_85 jgc_3 h (fun hc h => ?_)
      refine jr_add (pc' := 29) rfl rfl (jr_goto (pc' := 36) rfl rfl ?_)
      exact k2 (jw ((jw ((jw ((2 : Int) * (ja m 85 (0 : Int).toNat))) + (ja m 85 (2 : Int).toNat))) + (ja m 85 (3 : Int).toNat)), m) jg_w h
    · refine jr_al_n (pc' := 33) rfl rfl rfl ?_
      refine jr_cv_i (pc' := 36) [] rfl rfl jlk_12_318 jq_240 jbd_240 (jl rfl) rfl (jl rfl) hu rfl (jk rfl hN) (jd_67.trans jo_240.symm) (fun Q' hq => jc_240 hN (Nat.le_trans (jl rfl) hd)  (jo_b h) hq) (fun p3 hp3 h => ?_)
      exact k2 (p3.1, p3.2) hp3 h

set_option maxRecDepth 20000 in
set_option maxHeartbeats 1000000 in
theorem jc_238 {X : Nat × (Nat → Int32)} {N d : Nat} {x0 : Int} {x1 : Int} {x2 : Int} {x3 : Int} {x4 : Int} {x5 : Int} {x6 : Int} {x7 : Int} {x8 : Int} (hN : 102 ≤ N) (hd : 4 ≤ d) (hx0 : jg x0) (hx1 : jg x1) (hx2 : jg x2) (hx3 : jg x3) (hx4 : jg x4) (hx5 : jg x5) (hx6 : jg x6) (hx7 : jg x7) (hx8 : jg x8) {m : jm} {P : Int × jm → Prop} {Q : px_Q} (h : jo (jf_238 x0 x1 x2 x3 x4 x5 x6 x7 x8 m) P) (hQ : ∀ p : Int × jm, jg p.1 → P p → Q (.inl (some (jv p.1))) (jmem N p.2)) : px_C X d 238 [.ref 67, jv x0, jv x1, jv x2, jv x3, jv x4, jv x5, jv x6, jv x7, jv x8] (jmem N m) Q := by
  unfold jf_238 at h
  have hu : ju px_m238 (0, 0) := ju_0
  refine jr_in (M := px_m238) (lev := 3) (L := [some (.ref 67), some (jv x0), some (jv x1), some (jv x2), some (jv x3), some (jv x4), some (jv x5), some (jv x6), some (jv x7), some (jv x8)]) hd rfl jbd_238 (jl rfl) rfl (fun d hd Q' hQ' => ?_)
  refine jr_al_n (pc' := 1) rfl rfl rfl (jr_gr (pc' := 4) (r := 85) rfl rfl jlk_12_68 (.inl rfl) rfl hN jd_67 rfl rfl rfl (jr_ic (pc' := 5) rfl rfl (jr_il_n (pc' := 6) rfl rfl rfl ?_)))
  refine jr_ist (pc' := 7) rfl rfl (jl rfl) hN jd_85 jn_85 jgc_0 h (fun hc h => ?_)
  refine jr_le h (fun m1 h => ?_)
  refine jr_al_n (pc' := 8) rfl rfl rfl (jr_gr (pc' := 11) (r := 85) rfl rfl jlk_12_68 (.inl rfl) rfl hN jd_67 rfl rfl rfl (jr_ic (pc' := 12) rfl rfl (jr_il_n (pc' := 13) rfl rfl rfl ?_)))
  refine jr_ist (pc' := 14) rfl rfl (jl rfl) hN jd_85 jn_85 jgc_1 h (fun hc h => ?_)
  refine jr_le h (fun m2 h => ?_)
  refine jr_al_n (pc' := 15) rfl rfl rfl (jr_gr (pc' := 18) (r := 85) rfl rfl jlk_12_68 (.inl rfl) rfl hN jd_67 rfl rfl rfl (jr_ic (pc' := 19) rfl rfl (jr_il_n (pc' := 20) rfl rfl rfl ?_)))
  refine jr_ist (pc' := 21) rfl rfl (jl rfl) hN jd_85 jn_85 jgc_2 h (fun hc h => ?_)
  refine jr_le h (fun m3 h => ?_)
  refine jr_al_n (pc' := 22) rfl rfl rfl (jr_gr (pc' := 25) (r := 85) rfl rfl jlk_12_68 (.inl rfl) rfl hN jd_67 rfl rfl rfl (jr_ic (pc' := 26) rfl rfl (jr_il (pc' := 28) rfl rfl rfl ?_)))
  refine jr_ist (pc' := 29) rfl rfl (jl rfl) hN jd_85 jn_85 jgc_3 h (fun hc h => ?_)
  refine jr_le h (fun m4 h => ?_)
  refine jr_al_n (pc' := 30) rfl rfl rfl (jr_gr (pc' := 33) (r := 85) rfl rfl jlk_12_68 (.inl rfl) rfl hN jd_67 rfl rfl rfl (jr_ic (pc' := 34) rfl rfl (jr_il (pc' := 36) rfl rfl rfl ?_)))
  refine jr_ist (pc' := 37) rfl rfl (jl rfl) hN jd_85 jn_85 jgc_4 h (fun hc h => ?_)
  refine jr_le h (fun m5 h => ?_)
  refine jr_al_n (pc' := 38) rfl rfl rfl (jr_gr (pc' := 41) (r := 85) rfl rfl jlk_12_68 (.inl rfl) rfl hN jd_67 rfl rfl rfl (jr_ic (pc' := 42) rfl rfl (jr_il (pc' := 44) rfl rfl rfl ?_)))
  refine jr_ist (pc' := 45) rfl rfl (jl rfl) hN jd_85 jn_85 jgc_5 h (fun hc h => ?_)
  refine jr_le h (fun m6 h => ?_)
  refine jr_al_n (pc' := 46) rfl rfl rfl (jr_gr (pc' := 49) (r := 85) rfl rfl jlk_12_68 (.inl rfl) rfl hN jd_67 rfl rfl rfl (jr_bi (pc' := 51) rfl rfl rfl (jr_il (pc' := 53) rfl rfl rfl ?_)))
  refine jr_ist (pc' := 54) rfl rfl (jl rfl) hN jd_85 jn_85 jgc_6 h (fun hc h => ?_)
  refine jr_le h (fun m7 h => ?_)
  refine jr_al_n (pc' := 55) rfl rfl rfl (jr_gr (pc' := 58) (r := 85) rfl rfl jlk_12_68 (.inl rfl) rfl hN jd_67 rfl rfl rfl (jr_bi (pc' := 60) rfl rfl rfl (jr_il (pc' := 62) rfl rfl rfl ?_)))
  refine jr_ist (pc' := 63) rfl rfl (jl rfl) hN jd_85 jn_85 jgc_7 h (fun hc h => ?_)
  refine jr_le h (fun m8 h => ?_)
  refine jr_al_n (pc' := 64) rfl rfl rfl (jr_gr (pc' := 67) (r := 85) rfl rfl jlk_12_68 (.inl rfl) rfl hN jd_67 rfl rfl rfl (jr_bi (pc' := 69) rfl rfl rfl (jr_il (pc' := 71) rfl rfl rfl ?_)))
  refine jr_ist (pc' := 72) rfl rfl (jl rfl) hN jd_85 jn_85 jgc_8 h (fun hc h => ?_)
  refine jr_le h (fun m9 h => ?_)
  refine jr_al_n (pc' := 73) rfl rfl rfl ?_
  refine jr_cv_i (pc' := 76) [] rfl rfl jlk_12_363 jq_239 jbd_239 (jl rfl) rfl (jl rfl) hu rfl (jk rfl hN) (jd_67.trans jo_239.symm) (fun Q' hq => jc_239 hN (Nat.le_trans (jl rfl) hd)  (jo_b h) hq) (fun p10 hp10 h => ?_)
  exact jr_ret rfl hu rfl (hQ' _ _ (hQ (p10.1, p10.2) hp10 h))

set_option maxRecDepth 20000 in
set_option maxHeartbeats 1000000 in
theorem jc_237 {X : Nat × (Nat → Int32)} {N d : Nat} {x0 : Int} {x1 : Int} {x2 : Int} {x3 : Int} (hN : 102 ≤ N) (hd : 5 ≤ d) (hx0 : jg x0) (hx1 : jg x1) (hx2 : jg x2) (hx3 : jg x3) {m : jm} {P : Int × jm → Prop} {Q : px_Q} (h : jo (jf_237 x0 x1 x2 x3 m) P) (hQ : ∀ p : Int × jm, jg p.1 → P p → Q (.inl (some (jv p.1))) (jmem N p.2)) : px_C X d 237 [.ref 67, jv x0, jv x1, jv x2, jv x3] (jmem N m) Q := by
  unfold jf_237 at h
  have hu : ju px_m237 (0, 0) := ju_0
  refine jr_in (M := px_m237) (lev := 4) (L := [some (.ref 67), some (jv x0), some (jv x1), some (jv x2), some (jv x3), none]) hd rfl jbd_237 (jl rfl) rfl (fun d hd Q' hQ' => ?_)
  refine jr_al_n (pc' := 1) rfl rfl rfl (jr_gr (pc' := 4) (r := 75) rfl rfl jlk_12_38 (.inl rfl) rfl hN jd_67 rfl rfl rfl (jr_al_n (pc' := 5) rfl rfl rfl (jr_gr (pc' := 8) (r := 76) rfl rfl jlk_12_41 (.inl rfl) rfl hN jd_67 rfl rfl rfl (jr_ic (pc' := 9) rfl rfl (jr_il_n (pc' := 10) rfl rfl rfl ?_)))))
  refine jr_mul (pc' := 11) rfl rfl (jr_ic (pc' := 12) rfl rfl (jr_add (pc' := 13) rfl rfl ?_))
  refine jr_ia (pc' := 14) rfl rfl (jl rfl) hN jd_76 jn_76 jg_w h (fun hc h => ?_)
  refine jr_ia (pc' := 15) rfl rfl (jl rfl) hN jd_75 jn_75 jg_a h (fun hc h => ?_)
  refine jr_al_n (pc' := 16) rfl rfl rfl (jr_gr (pc' := 19) (r := 75) rfl rfl jlk_12_38 (.inl rfl) rfl hN jd_67 rfl rfl rfl (jr_al_n (pc' := 20) rfl rfl rfl (jr_gr (pc' := 23) (r := 76) rfl rfl jlk_12_41 (.inl rfl) rfl hN jd_67 rfl rfl rfl (jr_ic (pc' := 24) rfl rfl (jr_il_n (pc' := 25) rfl rfl rfl ?_)))))
  refine jr_mul (pc' := 26) rfl rfl ?_
  refine jr_ia (pc' := 27) rfl rfl (jl rfl) hN jd_76 jn_76 jg_w h (fun hc h => ?_)
  refine jr_ia (pc' := 28) rfl rfl (jl rfl) hN jd_75 jn_75 jg_a h (fun hc h => ?_)
  refine jr_sub (pc' := 29) rfl rfl (jr_is (pc' := 31) (L' := [_, _, _, _, _, _]) rfl rfl (jl rfl) rfl rfl (jr_al_n (pc' := 32) rfl rfl rfl (jr_al_n (pc' := 33) rfl rfl rfl (jr_gr (pc' := 36) (r := 89) rfl rfl jlk_12_80 (.inl rfl) rfl hN jd_67 rfl rfl rfl (jr_ic (pc' := 37) rfl rfl ?_)))))
  refine jr_il_n (pc' := 38) rfl rfl rfl (jr_add (pc' := 39) rfl rfl ?_)
  refine jr_ia (pc' := 40) rfl rfl (jl rfl) hN jd_89 jn_89 jg_w h (fun hc h => ?_)
  refine jr_il_n (pc' := 41) rfl rfl rfl ?_
  refine jr_reg (fun t1 => jg t1) (fun t1 => jp X (px_C X d) px_m237 Q' N 52 [some (.ref 67), some (jv x0), some (jv x1), some (jv x2), some (jv x3), some (jv (jw ((ja m 75 (ja m 76 (jw ((jw ((2 : Int) * x1)) + (1 : Int))).toNat).toNat) - (ja m 75 (ja m 76 (jw ((2 : Int) * x1)).toNat).toNat))))] [(jv t1), (jv (ja m 89 (jw ((0 : Int) + x1)).toNat)), (.ref 67)] m (0, 0)) h (fun t1 ht1 h => ?_) (fun R14 k2 h => ?_)
  · refine jr_al_n (pc' := 53) rfl rfl rfl (jr_gi (pc' := 56) rfl rfl jlk_12_366 (.inl rfl) rfl hN jd_67 rfl rfl (jr_al_n (pc' := 57) rfl rfl rfl (jr_gi (pc' := 60) rfl rfl jlk_12_369 (.inl rfl) rfl hN jd_67 rfl rfl (jr_al_n (pc' := 61) rfl rfl rfl (jr_gi (pc' := 64) rfl rfl jlk_12_372 (.inl rfl) rfl hN jd_67 rfl rfl ?_)))))
    refine jr_al_n (pc' := 65) rfl rfl rfl (jr_gr (pc' := 68) (r := 89) rfl rfl jlk_12_80 (.inl rfl) rfl hN jd_67 rfl rfl rfl (jr_bi (pc' := 70) rfl rfl rfl (jr_il_n (pc' := 71) rfl rfl rfl (jr_add (pc' := 72) rfl rfl ?_))))
    refine jr_ia (pc' := 73) rfl rfl (jl rfl) hN jd_89 jn_89 jg_w h (fun hc h => ?_)
    refine jr_il (pc' := 75) rfl rfl rfl (jr_al_n (pc' := 76) rfl rfl rfl (jr_gr (pc' := 79) (r := 89) rfl rfl jlk_12_80 (.inl rfl) rfl hN jd_67 rfl rfl rfl (jr_bi (pc' := 81) rfl rfl rfl (jr_il_n (pc' := 82) rfl rfl rfl (jr_add (pc' := 83) rfl rfl ?_)))))
    refine jr_ia (pc' := 84) rfl rfl (jl rfl) hN jd_89 jn_89 jg_w h (fun hc h => ?_)
    refine jr_al_n (pc' := 85) rfl rfl rfl (jr_gr (pc' := 88) (r := 89) rfl rfl jlk_12_80 (.inl rfl) rfl hN jd_67 rfl rfl rfl (jr_bi (pc' := 90) rfl rfl rfl ?_))
    refine jr_ia (pc' := 91) rfl rfl (jl rfl) hN jd_89 jn_89 jgc_66 h (fun hc h => ?_)
    refine jr_cv_i (pc' := 94) [] rfl rfl jlk_12_375 jq_238 jbd_238 (jl rfl) rfl (jl rfl) hu rfl (jk rfl hN) (jd_67.trans jo_238.symm) (fun Q' hq => jc_238 hN (Nat.le_trans (jl rfl) hd) jg_a ht1 jg_a jg_a jg_a jg_a hx3 jg_a jg_a (jo_b h) hq) (fun p13 hp13 h => ?_)
    exact jr_ret rfl hu rfl (hQ' _ _ (hQ (p13.1, p13.2) hp13 h))
  · refine jr_zne (pa := 44) (pb := 49) rfl rfl rfl hx2 h (fun hc h => ?_) (fun hc h => ?_)
    · refine jr_il (pc' := 46) rfl rfl rfl (jr_goto (pc' := 52) rfl rfl ?_)
      exact k2 (jw ((ja m 75 (ja m 76 (jw ((jw ((2 : Int) * x1)) + (1 : Int))).toNat).toNat) - (ja m 75 (ja m 76 (jw ((2 : Int) * x1)).toNat).toNat))) jg_w h
    · refine jr_il (pc' := 51) rfl rfl rfl (jr_neg (pc' := 52) rfl rfl ?_)
      exact k2 (jw (-(jw ((ja m 75 (ja m 76 (jw ((jw ((2 : Int) * x1)) + (1 : Int))).toNat).toNat) - (ja m 75 (ja m 76 (jw ((2 : Int) * x1)).toNat).toNat))))) jg_w h

set_option maxRecDepth 20000 in
set_option maxHeartbeats 1000000 in
theorem jc_242 {X : Nat × (Nat → Int32)} {N d : Nat} {x0 : Int} (hN : 102 ≤ N) (hd : 1 ≤ d) (hx0 : jg x0) {m : jm} {P : Int → Prop} {Q : px_Q} (h : jo (jf_242 x0 m) P) (hQ : ∀ p : Int, jg p → P p → Q (.inl (some (jv p))) (jmem N m)) : px_C X d 242 [jv x0] (jmem N m) Q := by
  unfold jf_242 at h
  have hu : ju px_m242 (0, 0) := ju_0
  refine jr_in (M := px_m242) (lev := 0) (L := [some (jv x0)]) hd rfl jbd_242 (jl rfl) rfl (fun d hd Q' hQ' => ?_)
  refine jr_il_n (pc' := 1) rfl rfl rfl ?_
  refine jr_reg (fun t1 => jg t1) (fun t1 => jp X (px_C X d) px_m242 Q' N 10 [some (jv x0)] [(jv t1)] m (0, 0)) h (fun t1 ht1 h => ?_) (fun R13 k2 h => ?_)
  · exact jr_ret rfl hu rfl (hQ' _ _ (hQ t1 ht1 h))
  · refine jr_zge (pa := 4) (pb := 9) rfl rfl rfl hx0 h (fun hc h => ?_) (fun hc h => ?_)
    · refine jr_il_n (pc' := 5) rfl rfl rfl (jr_neg (pc' := 6) rfl rfl (jr_goto (pc' := 10) rfl rfl ?_))
      exact k2 (jw (-x0)) jg_w h
    · refine jr_il_n (pc' := 10) rfl rfl rfl ?_
      exact k2 (x0) hx0 h

set_option maxRecDepth 20000 in
set_option maxHeartbeats 1000000 in
theorem jc_236 {X : Nat × (Nat → Int32)} {N d : Nat} {x0 : Int} {x1 : Int} {x2 : Int} {x3 : Int} (hN : 102 ≤ N) (hd : 6 ≤ d) (hx0 : jg x0) (hx1 : jg x1) (hx2 : jg x2) (hx3 : jg x3) {m : jm} {P : Int × jm → Prop} {Q : px_Q} (h : jo (jf_236 x0 x1 x2 x3 m) P) (hQ : ∀ p : Int × jm, jb p.1 → P p → Q (.inl (some (jv p.1))) (jmem N p.2)) : px_C X d 236 [.ref 67, jv x0, jv x1, jv x2, jv x3] (jmem N m) Q := by
  unfold jf_236 at h
  have hu : ju px_m236 (0, 0) := ju_0
  refine jr_in (M := px_m236) (lev := 5) (L := [some (.ref 67), some (jv x0), some (jv x1), some (jv x2), some (jv x3)]) hd rfl jbd_236 (jl rfl) rfl (fun d hd Q' hQ' => ?_)
  refine jr_al_n (pc' := 1) rfl rfl rfl (jr_il_n (pc' := 2) rfl rfl rfl (jr_il_n (pc' := 3) rfl rfl rfl (jr_il_n (pc' := 4) rfl rfl rfl (jr_il (pc' := 6) rfl rfl rfl ?_))))
  refine jr_cv_i (pc' := 9) [] rfl rfl jlk_12_379 jq_237 jbd_237 (jl rfl) rfl (jl rfl) hu rfl (jk rfl hN) (jd_67.trans jo_237.symm) (fun Q' hq => jc_237 hN (Nat.le_trans (jl rfl) hd) hx0 hx1 hx2 hx3 (jo_b h) hq) (fun p1 hp1 h => ?_)
  refine jr_cs_p (pc' := 12) [] rfl rfl jlk_12_383 jq_242 jbd_242 (jl rfl) rfl (jl rfl) hu (fun Q' hq => jc_242 hN (Nat.le_trans (jl rfl) hd) hp1 (jo_b h) hq) (fun p2 hp2 h => ?_)
  refine jr_al_n (pc' := 13) rfl rfl rfl (jr_gr (pc' := 16) (r := 78) rfl rfl jlk_12_47 (.inl rfl) rfl hN jd_67 rfl rfl rfl (jr_ic (pc' := 17) rfl rfl (jr_il_n (pc' := 18) rfl rfl rfl (jr_mul (pc' := 19) rfl rfl (jr_ic (pc' := 20) rfl rfl ?_)))))
  refine jr_add (pc' := 21) rfl rfl ?_
  refine jr_ia (pc' := 22) rfl rfl (jl rfl) hN jd_78 jn_78 jg_w h (fun hc h => ?_)
  refine jr_reg (fun t3 => jb t3) (fun t3 => jp X (px_C X d) px_m236 Q' N 30 [some (.ref 67), some (jv x0), some (jv x1), some (jv x2), some (jv x3)] [(jv t3)] p1.2 (0, 0)) h (fun t3 ht3 h => ?_) (fun R15 k4 h => ?_)
  · exact jr_retb rfl hu rfl ht3 (hQ' _ _ (hQ (t3, p1.2) ht3 h))
  · refine jr_cgt (pa := 29) (pb := 25) rfl rfl rfl hp2 jg_a h (fun hc h => ?_) (fun hc h => ?_)
    · refine jr_ic (pc' := 30) rfl rfl ?_
      exact k4 ((0 : Int)) jb_0 h
    · refine jr_ic (pc' := 26) rfl rfl (jr_goto (pc' := 30) rfl rfl ?_)
      exact k4 ((1 : Int)) jb_1 h

set_option maxRecDepth 20000 in
set_option maxHeartbeats 1000000 in
theorem jc_234 {X : Nat × (Nat → Int32)} {N d : Nat} {x0 : Int} {x1 : Int} (hN : 102 ≤ N) (hd : 7 ≤ d) (hx0 : jg x0) (hx1 : jg x1) {m : jm} {P : Int × jm → Prop} {Q : px_Q} (h : jo (jf_234 x0 x1 m) P) (hQ : ∀ p : Int × jm, jb p.1 → P p → Q (.inl (some (jv p.1))) (jmem N p.2)) : px_C X d 234 [.ref 67, jv x0, jv x1] (jmem N m) Q := by
  unfold jf_234 at h
  have hu : ju px_m234 (0, 0) := ju_0
  refine jr_in (M := px_m234) (lev := 6) (L := [some (.ref 67), some (jv x0), some (jv x1), none, none, none, none]) hd rfl jbd_234 (jl rfl) rfl (fun d hd Q' hQ' => ?_)
  refine jr_al_n (pc' := 1) rfl rfl rfl (jr_gr (pc' := 4) (r := 89) rfl rfl jlk_12_80 (.inl rfl) rfl hN jd_67 rfl rfl rfl (jr_bi (pc' := 6) rfl rfl rfl (jr_il_n (pc' := 7) rfl rfl rfl (jr_add (pc' := 8) rfl rfl ?_))))
  refine jr_ia (pc' := 9) rfl rfl (jl rfl) hN jd_89 jn_89 jg_w h (fun hc h => ?_)
  refine jr_is_n (pc' := 10) (L' := [_, _, _, _, _, _, _]) rfl rfl (jl rfl) rfl rfl (jr_il_n (pc' := 11) rfl rfl rfl (jr_ic (pc' := 12) rfl rfl ?_))
  refine jr_reg (fun t1 => jg t1) (fun t1 => jp X (px_C X d) px_m234 Q' N 25 [some (.ref 67), some (jv x0), some (jv x1), some (jv (ja m 89 (jw ((24 : Int) + x0)).toNat)), none, none, none] [(jv t1)] m (0, 0)) h (fun t1 ht1 h => ?_) (fun R64 k2 h => ?_)
  · refine jr_is (pc' := 27) (L' := [_, _, _, _, _, _, _]) rfl rfl (jl rfl) rfl rfl (jr_il (pc' := 29) rfl rfl rfl (jr_ic (pc' := 30) rfl rfl ?_))
    refine jr_cne (pa := 33) (pb := 35) rfl rfl rfl ht1 jgc_m1 h (fun hc h => ?_) (fun hc h => ?_)
    · refine jr_ic (pc' := 34) rfl rfl ?_
      exact jr_retb rfl hu rfl jb_0 (hQ' _ _ (hQ ((0 : Int), m) jb_0 h))
    · refine jr_al_n (pc' := 36) rfl rfl rfl (jr_il_n (pc' := 37) rfl rfl rfl ?_)
      refine jr_cv_v (pc' := 40) [] rfl rfl jlk_12_385 jq_230 jbd_230 (jl rfl) rfl (jl rfl) hu rfl (jk rfl hN) (jd_67.trans jo_230.symm) (fun Q' hq => jc_230 hN (Nat.le_trans (jl rfl) hd) hx0 (jo_b h) hq) (fun p14 hp14 h => ?_)
      refine jr_al_n (pc' := 41) rfl rfl rfl (jr_il_n (pc' := 42) rfl rfl rfl (jr_il (pc' := 44) rfl rfl rfl (jr_al_n (pc' := 45) rfl rfl rfl (jr_gr (pc' := 48) (r := 76) rfl rfl jlk_12_41 (.inl rfl) rfl hN jd_67 rfl rfl rfl (jr_ic (pc' := 49) rfl rfl ?_)))))
      refine jr_il (pc' := 51) rfl rfl rfl (jr_mul (pc' := 52) rfl rfl ?_)
      refine jr_ia (pc' := 53) rfl rfl (jl rfl) hN jd_76 jn_76 jg_w h (fun hc h => ?_)
      refine jr_il_n (pc' := 54) rfl rfl rfl ?_
      refine jr_reg (fun t15 => jb t15) (fun t15 => jp X (px_C X d) px_m234 Q' N 62 [some (.ref 67), some (jv x0), some (jv x1), some (jv (ja m 89 (jw ((24 : Int) + x0)).toNat)), some (jv t1), none, none] [(jv t15), (jv t1), (jv x0), (.ref 67)] p14 (0, 0)) h (fun t15 ht15 h => ?_) (fun R63 k16 h => ?_)
      · refine jr_al_n (pc' := 63) rfl rfl rfl (jr_gr (pc' := 66) (r := 89) rfl rfl jlk_12_80 (.inl rfl) rfl hN jd_67 rfl rfl rfl (jr_bi (pc' := 68) rfl rfl rfl ?_))
        refine jr_ia (pc' := 69) rfl rfl (jl rfl) hN jd_89 jn_89 jgc_67 h (fun hc h => ?_)
        refine jr_cv_i (pc' := 72) [] rfl rfl jlk_12_398 jq_236 jbd_236 (jl rfl) rfl (jl rfl) hu rfl (jk rfl hN) (jd_67.trans jo_236.symm) (fun Q' hq => jc_236 hN (Nat.le_trans (jl rfl) hd) hx0 ht1 (jg_b ht15) jg_a (jo_b h) hq) (fun p27 hp27 h => ?_)
        refine jr_is (pc' := 74) (L' := [_, _, _, _, _, _, _]) rfl rfl (jl rfl) rfl rfl (jr_al_n (pc' := 75) rfl rfl rfl (jr_gr (pc' := 78) (r := 89) rfl rfl jlk_12_80 (.inl rfl) rfl hN jd_67 rfl rfl rfl (jr_bi (pc' := 80) rfl rfl rfl (jr_il (pc' := 82) rfl rfl rfl (jr_add (pc' := 83) rfl rfl ?_)))))
        refine jr_dup2 (pc' := 84) rfl rfl rfl rfl ?_
        refine jr_ia (pc' := 85) rfl rfl (jl rfl) hN jd_89 jn_89 jg_w h (fun hc h => ?_)
        refine jr_ic (pc' := 86) rfl rfl (jr_add (pc' := 87) rfl rfl ?_)
        refine jr_ist (pc' := 88) rfl rfl (jl rfl) hN jd_89 jn_89 jg_w h (fun hc h => ?_)
        refine jr_le h (fun m28 h => ?_)
        refine jr_il (pc' := 90) rfl rfl rfl ?_
        refine jr_zeq (pa := 105) (pb := 93) rfl rfl rfl (jg_b hp27) h (fun hc h => ?_) (fun hc h => ?_)
        · refine jr_ic (pc' := 106) rfl rfl (jr_is (pc' := 108) (L' := [_, _, _, _, _, _, _]) rfl rfl (jl rfl) rfl rfl ?_)
          refine jr_reg (fun t32 => True) (fun t32 => ∀ o33, jn o33 → jp X (px_C X d) px_m234 Q' N 144 [some (.ref 67), some (jv x0), some (jv x1), some (jv (ja m 89 (jw ((24 : Int) + x0)).toNat)), some (jv t1), some (jv p27.1), o33] [] t32 (0, 0)) h (fun t32 ht32 h o33 ho33 => ?_) (fun R35 k34 h => ?_)
          · refine jr_al_n (pc' := 145) rfl rfl rfl (jr_gr (pc' := 148) (r := 89) rfl rfl jlk_12_80 (.inl rfl) rfl hN jd_67 rfl rfl rfl (jr_bi (pc' := 150) rfl rfl rfl (jr_il_n (pc' := 151) rfl rfl rfl (jr_add (pc' := 152) rfl rfl (jr_ic (pc' := 153) rfl rfl ?_)))))
            refine jr_ist (pc' := 154) rfl rfl (jl rfl) hN jd_89 jn_89 jg_w h (fun hc h => ?_)
            refine jr_le h (fun m60 h => ?_)
            refine jr_al_n (pc' := 155) rfl rfl rfl (jr_gr (pc' := 158) (r := 89) rfl rfl jlk_12_80 (.inl rfl) rfl hN jd_67 rfl rfl rfl (jr_bi (pc' := 160) rfl rfl rfl (jr_il_n (pc' := 161) rfl rfl rfl (jr_add (pc' := 162) rfl rfl (jr_dup2 (pc' := 163) rfl rfl rfl rfl ?_)))))
            refine jr_ia (pc' := 164) rfl rfl (jl rfl) hN jd_89 jn_89 jg_w h (fun hc h => ?_)
            refine jr_ic (pc' := 165) rfl rfl (jr_add (pc' := 166) rfl rfl ?_)
            refine jr_ist (pc' := 167) rfl rfl (jl rfl) hN jd_89 jn_89 jg_w h (fun hc h => ?_)
            refine jr_le h (fun m61 h => ?_)
            refine jr_ic (pc' := 168) rfl rfl ?_
            exact jr_retb rfl hu rfl jb_1 (hQ' _ _ (hQ ((1 : Int), m61) jb_1 h))
          · refine jr_lp (fun s29 => jg s29.1) (fun s29 => jp X (px_C X d) px_m234 Q' N 108 [some (.ref 67), some (jv x0), some (jv x1), some (jv (ja m 89 (jw ((24 : Int) + x0)).toNat)), some (jv t1), some (jv p27.1), some (jv s29.1)] [] s29.2 (0, 0)) h jgc_0 (fun s29 hs29 R31 k30 h => ?_)
            refine jr_il (pc' := 110) rfl rfl rfl (jr_al_n (pc' := 111) rfl rfl rfl (jr_gi (pc' := 114) rfl rfl jlk_12_193 (.inl rfl) rfl hN jd_67 rfl rfl ?_))
            refine jr_cge (pa := 117) (pb := 144) rfl rfl rfl hs29 jg_a h (fun hc h => ?_) (fun hc h => ?_)
            · refine jr_al_n (pc' := 118) rfl rfl rfl (jr_gr (pc' := 121) (r := 89) rfl rfl jlk_12_80 (.inl rfl) rfl hN jd_67 rfl rfl rfl (jr_bi (pc' := 123) rfl rfl rfl (jr_il (pc' := 125) rfl rfl rfl (jr_add (pc' := 126) rfl rfl ?_))))
              refine jr_ia (pc' := 127) rfl rfl (jl rfl) hN jd_89 jn_89 jg_w h (fun hc h => ?_)
              refine jr_il_n (pc' := 128) rfl rfl rfl ?_
              refine jr_reg (fun t36 => True) (fun t36 => jp X (px_C X d) px_m234 Q' N 138 [some (.ref 67), some (jv x0), some (jv x1), some (jv (ja m 89 (jw ((24 : Int) + x0)).toNat)), some (jv t1), some (jv p27.1), some (jv s29.1)] [] t36 (0, 0)) h (fun t36 ht36 h => ?_) (fun R49 k37 h => ?_)
              · refine jr_inc (pc' := 141) (L' := [_, _, _, _, _, _, _]) rfl rfl rfl (jl rfl) rfl rfl (jr_goto (pc' := 108) rfl rfl ?_)
                exact k30 (jw (s29.1 + 1), t36) jg_w h
              · refine jr_cne (pa := 131) (pb := 138) rfl rfl rfl jg_a hx0 h (fun hc h => ?_) (fun hc h => ?_)
                · refine jr_al_n (pc' := 132) rfl rfl rfl (jr_il (pc' := 134) rfl rfl rfl (jr_il_n (pc' := 135) rfl rfl rfl ?_))
                  refine jr_cv_v (pc' := 138) [] rfl rfl jlk_12_392 jq_233 jbd_233 (jl rfl) rfl (jl rfl) hu rfl (jk rfl hN) (jd_67.trans jo_233.symm) (fun Q' hq => jc_233 hN (Nat.le_trans (jl rfl) hd) hs29 jg_a (jo_b h) hq) (fun p38 hp38 h => ?_)
                  exact k37 (p38) trivial h
                · exact k37 (s29.2) trivial h
            · exact k34 (s29.2) trivial h _ jn_i
        · refine jr_al_n (pc' := 94) rfl rfl rfl (jr_gr (pc' := 97) (r := 89) rfl rfl jlk_12_80 (.inl rfl) rfl hN jd_67 rfl rfl rfl (jr_bi (pc' := 99) rfl rfl rfl (jr_il_n (pc' := 100) rfl rfl rfl (jr_add (pc' := 101) rfl rfl (jr_il_n (pc' := 102) rfl rfl rfl ?_)))))
          refine jr_ist (pc' := 103) rfl rfl (jl rfl) hN jd_89 jn_89 jg_w h (fun hc h => ?_)
          refine jr_le h (fun m62 h => ?_)
          refine jr_ic (pc' := 104) rfl rfl ?_
          exact jr_retb rfl hu rfl jb_1 (hQ' _ _ (hQ ((1 : Int), m62) jb_1 h))
      · refine jr_cne (pa := 57) (pb := 61) rfl rfl rfl jg_a jg_a h (fun hc h => ?_) (fun hc h => ?_)
        · refine jr_ic (pc' := 58) rfl rfl (jr_goto (pc' := 62) rfl rfl ?_)
          exact k16 ((0 : Int)) jb_0 h
        · refine jr_ic (pc' := 62) rfl rfl ?_
          exact k16 ((1 : Int)) jb_1 h
  · refine jr_cne (pa := 15) (pb := 19) rfl rfl rfl jg_a jgc_m1 h (fun hc h => ?_) (fun hc h => ?_)
    · refine jr_ic (pc' := 16) rfl rfl (jr_goto (pc' := 25) rfl rfl ?_)
      exact k2 ((-1 : Int)) jgc_m1 h
    · refine jr_al_n (pc' := 20) rfl rfl rfl (jr_il_n (pc' := 21) rfl rfl rfl (jr_il_n (pc' := 22) rfl rfl rfl ?_))
      refine jr_cv_p (pc' := 25) [] rfl rfl jlk_12_395 jq_235 jbd_235 (jl rfl) rfl (jl rfl) hu rfl (jk rfl hN) (jd_67.trans jo_235.symm) (fun Q' hq => jc_235 hN (Nat.le_trans (jl rfl) hd) jg_a hx1 (jo_b h) hq) (fun p3 hp3 h => ?_)
      exact k2 (p3) hp3 h

set_option maxRecDepth 20000 in
set_option maxHeartbeats 1000000 in
theorem jc_243 {X : Nat × (Nat → Int32)} {N d : Nat}  (hN : 102 ≤ N) (hd : 1 ≤ d)  {m : jm} {P : jm → Prop} {Q : px_Q} (h : jo (jf_243 m) P) (hQ : ∀ p : jm, True → P p → Q (.inl (none)) (jmem N p)) : px_C X d 243 [.ref 67] (jmem N m) Q := by
  unfold jf_243 at h
  have hu : ju px_m243 (0, 0) := ju_0
  refine jr_in (M := px_m243) (lev := 0) (L := [some (.ref 67), none]) hd rfl jbd_243 (jl rfl) rfl (fun d hd Q' hQ' => ?_)
  refine jr_al_n (pc' := 1) rfl rfl rfl (jr_gr (pc' := 4) (r := 89) rfl rfl jlk_12_80 (.inl rfl) rfl hN jd_67 rfl rfl rfl (jr_bi (pc' := 6) rfl rfl rfl (jr_dup2 (pc' := 7) rfl rfl rfl rfl ?_)))
  refine jr_ia (pc' := 8) rfl rfl (jl rfl) hN jd_89 jn_89 jgc_66 h (fun hc h => ?_)
  refine jr_ic (pc' := 9) rfl rfl (jr_add (pc' := 10) rfl rfl ?_)
  refine jr_ist (pc' := 11) rfl rfl (jl rfl) hN jd_89 jn_89 jgc_66 h (fun hc h => ?_)
  refine jr_le h (fun m1 h => ?_)
  refine jr_al_n (pc' := 12) rfl rfl rfl (jr_gr (pc' := 15) (r := 89) rfl rfl jlk_12_80 (.inl rfl) rfl hN jd_67 rfl rfl rfl (jr_bi (pc' := 17) rfl rfl rfl (jr_ic (pc' := 18) rfl rfl ?_)))
  refine jr_ist (pc' := 19) rfl rfl (jl rfl) hN jd_89 jn_89 jgc_67 h (fun hc h => ?_)
  refine jr_le h (fun m2 h => ?_)
  refine jr_ic (pc' := 20) rfl rfl (jr_is_n (pc' := 21) (L' := [_, _]) rfl rfl (jl rfl) rfl rfl ?_)
  refine jr_reg (fun t6 => True) (fun t6 => ∀ o7, jn o7 → jp X (px_C X d) px_m243 Q' N 45 [some (.ref 67), o7] [] t6 (0, 0)) h (fun t6 ht6 h o7 ho7 => ?_) (fun R9 k8 h => ?_)
  · refine jr_ic (pc' := 46) rfl rfl (jr_is_n (pc' := 47) (L' := [_, _]) rfl rfl (jl rfl) rfl rfl ?_)
    refine jr_reg (fun t24 => True) (fun t24 => ∀ o25, jn o25 → jp X (px_C X d) px_m243 Q' N 101 [some (.ref 67), o25] [] t24 (0, 0)) h (fun t24 ht24 h o25 ho25 => ?_) (fun R27 k26 h => ?_)
    · exact jr_rv rfl hu rfl (hQ' _ _ (hQ t24 trivial h))
    · refine jr_lp (fun s21 => jg s21.1) (fun s21 => jp X (px_C X d) px_m243 Q' N 47 [some (.ref 67), some (jv s21.1)] [] s21.2 (0, 0)) h jgc_0 (fun s21 hs21 R23 k22 h => ?_)
      refine jr_il_n (pc' := 48) rfl rfl rfl (jr_al_n (pc' := 49) rfl rfl rfl (jr_gi (pc' := 52) rfl rfl jlk_12_190 (.inl rfl) rfl hN jd_67 rfl rfl ?_))
      refine jr_cge (pa := 55) (pb := 101) rfl rfl rfl hs21 jg_a h (fun hc h => ?_) (fun hc h => ?_)
      · refine jr_al_n (pc' := 56) rfl rfl rfl (jr_gr (pc' := 59) (r := 89) rfl rfl jlk_12_80 (.inl rfl) rfl hN jd_67 rfl rfl rfl (jr_bi (pc' := 61) rfl rfl rfl (jr_il_n (pc' := 62) rfl rfl rfl (jr_add (pc' := 63) rfl rfl (jr_ic (pc' := 64) rfl rfl ?_)))))
        refine jr_ist (pc' := 65) rfl rfl (jl rfl) hN jd_89 jn_89 jg_w h (fun hc h => ?_)
        refine jr_le h (fun m28 h => ?_)
        refine jr_al_n (pc' := 66) rfl rfl rfl (jr_gr (pc' := 69) (r := 89) rfl rfl jlk_12_80 (.inl rfl) rfl hN jd_67 rfl rfl rfl (jr_bi (pc' := 71) rfl rfl rfl (jr_il_n (pc' := 72) rfl rfl rfl (jr_add (pc' := 73) rfl rfl ?_))))
        refine jr_ia (pc' := 74) rfl rfl (jl rfl) hN jd_89 jn_89 jg_w h (fun hc h => ?_)
        refine jr_ic (pc' := 75) rfl rfl ?_
        refine jr_reg (fun t29 => True) (fun t29 => jp X (px_C X d) px_m243 Q' N 95 [some (.ref 67), some (jv s21.1)] [] t29 (0, 0)) h (fun t29 ht29 h => ?_) (fun R42 k30 h => ?_)
        · refine jr_inc (pc' := 98) (L' := [_, _]) rfl rfl rfl (jl rfl) rfl rfl (jr_goto (pc' := 47) rfl rfl ?_)
          exact k22 (jw (s21.1 + 1), t29) jg_w h
        · refine jr_cne (pa := 78) (pb := 95) rfl rfl rfl jg_a jgc_m1 h (fun hc h => ?_) (fun hc h => ?_)
          · refine jr_al_n (pc' := 79) rfl rfl rfl (jr_gr (pc' := 82) (r := 89) rfl rfl jlk_12_80 (.inl rfl) rfl hN jd_67 rfl rfl rfl (jr_bi (pc' := 84) rfl rfl rfl (jr_il_n (pc' := 85) rfl rfl rfl (jr_add (pc' := 86) rfl rfl (jr_al_n (pc' := 87) rfl rfl rfl ?_)))))
            refine jr_gr (pc' := 90) (r := 78) rfl rfl jlk_12_47 (.inl rfl) rfl hN jd_67 rfl rfl rfl (jr_ic (pc' := 91) rfl rfl (jr_il_n (pc' := 92) rfl rfl rfl (jr_mul (pc' := 93) rfl rfl ?_)))
            refine jr_ia (pc' := 94) rfl rfl (jl rfl) hN jd_78 jn_78 jg_w h (fun hc h => ?_)
            refine jr_ist (pc' := 95) rfl rfl (jl rfl) hN jd_89 jn_89 jg_w h (fun hc h => ?_)
            refine jr_le h (fun m31 h => ?_)
            exact k30 (m31) trivial h
          · exact k30 (m28) trivial h
      · exact k26 (s21.2) trivial h _ jn_i
  · refine jr_lp (fun s3 => jg s3.1) (fun s3 => jp X (px_C X d) px_m243 Q' N 21 [some (.ref 67), some (jv s3.1)] [] s3.2 (0, 0)) h jgc_0 (fun s3 hs3 R5 k4 h => ?_)
    refine jr_il_n (pc' := 22) rfl rfl rfl (jr_al_n (pc' := 23) rfl rfl rfl (jr_gi (pc' := 26) rfl rfl jlk_12_187 (.inl rfl) rfl hN jd_67 rfl rfl ?_))
    refine jr_cge (pa := 29) (pb := 45) rfl rfl rfl hs3 jg_a h (fun hc h => ?_) (fun hc h => ?_)
    · refine jr_al_n (pc' := 30) rfl rfl rfl (jr_gr (pc' := 33) (r := 89) rfl rfl jlk_12_80 (.inl rfl) rfl hN jd_67 rfl rfl rfl (jr_bi (pc' := 35) rfl rfl rfl (jr_il_n (pc' := 36) rfl rfl rfl (jr_add (pc' := 37) rfl rfl (jr_ic (pc' := 38) rfl rfl ?_)))))
      refine jr_ist (pc' := 39) rfl rfl (jl rfl) hN jd_89 jn_89 jg_w h (fun hc h => ?_)
      refine jr_le h (fun m10 h => ?_)
      refine jr_inc (pc' := 42) (L' := [_, _]) rfl rfl rfl (jl rfl) rfl rfl (jr_goto (pc' := 21) rfl rfl ?_)
      exact k4 (jw (s3.1 + 1), m10) jg_w h
    · exact k8 (s3.2) trivial h _ jn_i

