/-! the pure machine follows the functions, 18 (written by wip/whole/gen/walk.py) -/
set_option maxRecDepth 20000 in
set_option maxHeartbeats 1000000 in
theorem jc_264 {X : Nat × (Nat → Int32)} {N d : Nat} {x0 : Int} {x1 : Int} {x2 : Int} (hN : 102 ≤ N) (hd : 9 ≤ d) (hx0 : jg x0) (hx1 : jg x1) (hx2 : jg x2) {m : jm} {P : Int × jm → Prop} {Q : px_Q} (h : jo (jf_264 x0 x1 x2 m) P) (hQ : ∀ p : Int × jm, jg p.1 → P p → Q (.inl (some (jv p.1))) (jmem N p.2)) : px_C X d 264 [.ref 67, jv x0, jv x1, jv x2] (jmem N m) Q := by
  unfold jf_264 at h
  have hu : ju px_m264 (0, 0) := ju_0
  refine jr_in (M := px_m264) (lev := 8) (L := [some (.ref 67), some (jv x0), some (jv x1), some (jv x2)]) hd rfl jbd_264 (jl rfl) rfl (fun d hd Q' hQ' => ?_)
  refine jr_al_n (pc' := 1) rfl rfl rfl (jr_il_n (pc' := 2) rfl rfl rfl (jr_il_n (pc' := 3) rfl rfl rfl ?_))
  refine jr_cv_v (pc' := 6) [] rfl rfl jlk_12_442 jq_265 jbd_265 (jl rfl) rfl (jl rfl) hu rfl (jk rfl hN) (jd_67.trans jo_265.symm) (fun Q' hq => jc_265 hN (Nat.le_trans (jl rfl) hd) hx0 hx2 (jo_b h) hq) (fun p1 hp1 h => ?_)
  refine jr_al_n (pc' := 7) rfl rfl rfl (jr_gr (pc' := 10) (r := 93) rfl rfl jlk_12_92 (.inl rfl) rfl hN jd_67 rfl rfl rfl (jr_il_n (pc' := 11) rfl rfl rfl ?_))
  refine jr_ia (pc' := 12) rfl rfl (jl rfl) hN jd_93 jn_93 hx1 h (fun hc h => ?_)
  refine jr_ldw (pc' := 15) (x := 100000) rfl rfl jlk_12_438 rfl ?_
  refine jr_reg (fun t2 => jg t2) (fun t2 => jp X (px_C X d) px_m264 Q' N 28 [some (.ref 67), some (jv x0), some (jv x1), some (jv x2)] [(jv t2)] p1 (0, 0)) h (fun t2 ht2 h => ?_) (fun R14 k3 h => ?_)
  · exact jr_ret rfl hu rfl (hQ' _ _ (hQ (t2, p1) ht2 h))
  · refine jr_cne (pa := 18) (pb := 22) rfl rfl rfl jg_a jgc_100000 h (fun hc h => ?_) (fun hc h => ?_)
    · refine jr_ic (pc' := 19) rfl rfl (jr_goto (pc' := 28) rfl rfl ?_)
      exact k3 ((-1 : Int)) jgc_m1 h
    · refine jr_al_n (pc' := 23) rfl rfl rfl (jr_gr (pc' := 26) (r := 93) rfl rfl jlk_12_92 (.inl rfl) rfl hN jd_67 rfl rfl rfl (jr_il_n (pc' := 27) rfl rfl rfl ?_))
      refine jr_ia (pc' := 28) rfl rfl (jl rfl) hN jd_93 jn_93 hx1 h (fun hc h => ?_)
      exact k3 (ja p1 93 x1.toNat) jg_a h

set_option maxRecDepth 20000 in
set_option maxHeartbeats 1000000 in
theorem jc_263 {X : Nat × (Nat → Int32)} {N d : Nat} {x0 : Int} (hN : 102 ≤ N) (hd : 10 ≤ d) (hx0 : jg x0) {m : jm} {P : Int × jm → Prop} {Q : px_Q} (h : jo (jf_263 x0 m) P) (hQ : ∀ p : Int × jm, jg p.1 → P p → Q (.inl (some (jv p.1))) (jmem N p.2)) : px_C X d 263 [.ref 67, jv x0] (jmem N m) Q := by
  unfold jf_263 at h
  have hu : ju px_m263 (0, 0) := ju_0
  refine jr_in (M := px_m263) (lev := 9) (L := [some (.ref 67), some (jv x0), none, none]) hd rfl jbd_263 (jl rfl) rfl (fun d hd Q' hQ' => ?_)
  refine jr_al_n (pc' := 1) rfl rfl rfl (jr_ic (pc' := 2) rfl rfl (jr_pi (pc' := 5) rfl rfl jlk_12_3 (.inl rfl) rfl hN jd_67 rfl rfl ?_))
  refine jr_le h (fun m1 h => ?_)
  refine jr_al_n (pc' := 6) rfl rfl rfl (jr_il_n (pc' := 7) rfl rfl rfl (jr_ic (pc' := 8) rfl rfl ?_))
  refine jr_cv_i (pc' := 11) [] rfl rfl jlk_12_432 jq_256 jbd_256 (jl rfl) rfl (jl rfl) hu rfl (jk rfl hN) (jd_67.trans jo_256.symm) (fun Q' hq => jc_256 hN (Nat.le_trans (jl rfl) hd) hx0 jgc_1 (jo_b h) hq) (fun p2 hp2 h => ?_)
  refine jr_zne (pa := 14) (pb := 16) rfl rfl rfl (jg_b hp2) h (fun hc h => ?_) (fun hc h => ?_)
  · refine jr_ic (pc' := 15) rfl rfl ?_
    exact jr_ret rfl hu rfl (hQ' _ _ (hQ ((0 : Int), p2.2) jgc_0 h))
  · refine jr_al_n (pc' := 17) rfl rfl rfl ?_
    refine jr_cv_v (pc' := 20) [] rfl rfl jlk_12_344 jq_226 jbd_226 (jl rfl) rfl (jl rfl) hu rfl (jk rfl hN) (jd_67.trans jo_226.symm) (fun Q' hq => jc_226 hN (Nat.le_trans (jl rfl) hd)  (jo_b h) hq) (fun p3 hp3 h => ?_)
    refine jr_al_n (pc' := 21) rfl rfl rfl (jr_il_n (pc' := 22) rfl rfl rfl ?_)
    refine jr_cv_v (pc' := 25) [] rfl rfl jlk_12_385 jq_230 jbd_230 (jl rfl) rfl (jl rfl) hu rfl (jk rfl hN) (jd_67.trans jo_230.symm) (fun Q' hq => jc_230 hN (Nat.le_trans (jl rfl) hd) hx0 (jo_b h) hq) (fun p4 hp4 h => ?_)
    refine jr_ic (pc' := 26) rfl rfl (jr_is_n (pc' := 27) (L' := [_, _, _, _]) rfl rfl (jl rfl) rfl rfl (jr_ic (pc' := 28) rfl rfl (jr_is_n (pc' := 29) (L' := [_, _, _, _]) rfl rfl (jl rfl) rfl rfl ?_)))
    refine jr_reg (fun t8 => jg t8.1) (fun t8 => ∀ o9, jn o9 → jp X (px_C X d) px_m263 Q' N 85 [some (.ref 67), some (jv x0), some (jv t8.1), o9] [] t8.2 (0, 0)) h (fun t8 ht8 h o9 ho9 => ?_) (fun R11 k10 h => ?_)
    · refine jr_il_n (pc' := 86) rfl rfl rfl ?_
      exact jr_ret rfl hu rfl (hQ' _ _ (hQ (t8.1, t8.2) ht8 h))
    · refine jr_lp (fun s5 => jg s5.1 ∧ jg s5.2.1) (fun s5 => jp X (px_C X d) px_m263 Q' N 29 [some (.ref 67), some (jv x0), some (jv s5.1), some (jv s5.2.1)] [] s5.2.2 (0, 0)) h ⟨jgc_0, jgc_0⟩ (fun s5 hs5 R7 k6 h => ?_)
      refine jr_il_n (pc' := 30) rfl rfl rfl (jr_al_n (pc' := 31) rfl rfl rfl (jr_gi (pc' := 34) rfl rfl jlk_12_184 (.inl rfl) rfl hN jd_67 rfl rfl ?_))
      refine jr_cge (pa := 37) (pb := 85) rfl rfl rfl hs5.2 jg_a h (fun hc h => ?_) (fun hc h => ?_)
      · refine jr_al_n (pc' := 38) rfl rfl rfl (jr_gr (pc' := 41) (r := 89) rfl rfl jlk_12_80 (.inl rfl) rfl hN jd_67 rfl rfl rfl (jr_bi (pc' := 43) rfl rfl rfl (jr_il_n (pc' := 44) rfl rfl rfl (jr_add (pc' := 45) rfl rfl ?_))))
        refine jr_ia (pc' := 46) rfl rfl (jl rfl) hN jd_89 jn_89 jg_w h (fun hc h => ?_)
        refine jr_ic (pc' := 47) rfl rfl ?_
        refine jr_ceq (pa := 85) (pb := 50) rfl rfl rfl jg_a jgc_m1 h (fun hc h => ?_) (fun hc h => ?_)
        · exact k10 (s5.1, s5.2.2) hs5.1 h _ jn_i
        · refine jr_il_n (pc' := 51) rfl rfl rfl (jr_al_n (pc' := 52) rfl rfl rfl (jr_il_n (pc' := 53) rfl rfl rfl (jr_al_n (pc' := 54) rfl rfl rfl (jr_gr (pc' := 57) (r := 89) rfl rfl jlk_12_80 (.inl rfl) rfl hN jd_67 rfl rfl rfl (jr_bi (pc' := 59) rfl rfl rfl ?_)))))
          refine jr_il_n (pc' := 60) rfl rfl rfl (jr_add (pc' := 61) rfl rfl ?_)
          refine jr_ia (pc' := 62) rfl rfl (jl rfl) hN jd_89 jn_89 jg_w h (fun hc h => ?_)
          refine jr_il_n (pc' := 63) rfl rfl rfl ?_
          refine jr_cv_i (pc' := 66) [_] rfl rfl jlk_12_445 jq_264 jbd_264 (jl rfl) rfl (jl rfl) hu rfl (jk rfl hN) (jd_67.trans jo_264.symm) (fun Q' hq => jc_264 hN (Nat.le_trans (jl rfl) hd) hx0 jg_a hs5.2 (jo_b h) hq) (fun p12 hp12 h => ?_)
          refine jr_ic (pc' := 67) rfl rfl ?_
          refine jr_reg (fun t13 => jg t13) (fun t13 => jp X (px_C X d) px_m263 Q' N 77 [some (.ref 67), some (jv x0), some (jv s5.1), some (jv s5.2.1)] [(jv t13), (jv s5.1)] p12.2 (0, 0)) h (fun t13 ht13 h => ?_) (fun R25 k14 h => ?_)
          · refine jr_or (pc' := 78) rfl rfl (jr_is_n (pc' := 79) (L' := [_, _, _, _]) rfl rfl (jl rfl) rfl rfl (jr_inc (pc' := 82) (L' := [_, _, _, _]) rfl rfl rfl (jl rfl) rfl rfl (jr_goto (pc' := 29) rfl rfl ?_)))
            exact k6 (jbor s5.1 t13, jw (s5.2.1 + 1), p12.2) ⟨jg_bor, jg_w⟩ h
          · refine jr_cne (pa := 70) (pb := 74) rfl rfl rfl hp12 jgc_m1 h (fun hc h => ?_) (fun hc h => ?_)
            · refine jr_ic (pc' := 71) rfl rfl (jr_goto (pc' := 77) rfl rfl ?_)
              exact k14 ((0 : Int)) jgc_0 h
            · refine jr_ic (pc' := 75) rfl rfl (jr_il_n (pc' := 76) rfl rfl rfl (jr_shl (pc' := 77) rfl rfl ?_))
              exact k14 (jshl (1 : Int) s5.2.1) jg_shl h
      · exact k10 (s5.1, s5.2.2) hs5.1 h _ jn_i

set_option maxRecDepth 20000 in
set_option maxHeartbeats 1000000 in
theorem jc_268 {X : Nat × (Nat → Int32)} {N d : Nat} {x0 : Int} {x1 : Int} (hN : 102 ≤ N) (hd : 8 ≤ d) (hx0 : jg x0) (hx1 : jg x1) {m : jm} {P : Int × jm → Prop} {Q : px_Q} (h : jo (jf_268 x0 x1 m) P) (hQ : ∀ p : Int × jm, jg p.1 → P p → Q (.inl (some (jv p.1))) (jmem N p.2)) : px_C X d 268 [.ref 67, jv x0, jv x1] (jmem N m) Q := by
  unfold jf_268 at h
  have hu : ju px_m268 (0, 0) := ju_0
  refine jr_in (M := px_m268) (lev := 7) (L := [some (.ref 67), some (jv x0), some (jv x1), none]) hd rfl jbd_268 (jl rfl) rfl (fun d hd Q' hQ' => ?_)
  refine jr_ic (pc' := 1) rfl rfl (jr_is_n (pc' := 2) (L' := [_, _, _, _]) rfl rfl (jl rfl) rfl rfl ?_)
  refine jr_lp (fun s1 => jg s1.1) (fun s1 => jp X (px_C X d) px_m268 Q' N 2 [some (.ref 67), some (jv x0), some (jv x1), some (jv s1.1)] [] s1.2 (0, 0)) h jgc_0 (fun s1 hs1 R3 k2 h => ?_)
  refine jr_il_n (pc' := 3) rfl rfl rfl (jr_al_n (pc' := 4) rfl rfl rfl (jr_gi (pc' := 7) rfl rfl jlk_12_184 (.inl rfl) rfl hN jd_67 rfl rfl ?_))
  refine jr_cge (pa := 10) (pb := 45) rfl rfl rfl hs1 jg_a h (fun hc h => ?_) (fun hc h => ?_)
  · refine jr_al_n (pc' := 11) rfl rfl rfl (jr_gr (pc' := 14) (r := 93) rfl rfl jlk_12_92 (.inl rfl) rfl hN jd_67 rfl rfl rfl (jr_il_n (pc' := 15) rfl rfl rfl ?_))
    refine jr_ia (pc' := 16) rfl rfl (jl rfl) hN jd_93 jn_93 hs1 h (fun hc h => ?_)
    refine jr_al_n (pc' := 17) rfl rfl rfl (jr_gr (pc' := 20) (r := 93) rfl rfl jlk_12_92 (.inl rfl) rfl hN jd_67 rfl rfl rfl (jr_il_n (pc' := 21) rfl rfl rfl ?_))
    refine jr_ia (pc' := 22) rfl rfl (jl rfl) hN jd_93 jn_93 hx1 h (fun hc h => ?_)
    refine jr_ic (pc' := 23) rfl rfl (jr_sub (pc' := 24) rfl rfl ?_)
    refine jr_cne (pa := 27) (pb := 39) rfl rfl rfl jg_a jg_w h (fun hc h => ?_) (fun hc h => ?_)
    · refine jr_al_n (pc' := 28) rfl rfl rfl (jr_il_n (pc' := 29) rfl rfl rfl (jr_il_n (pc' := 30) rfl rfl rfl (jr_il_n (pc' := 31) rfl rfl rfl ?_)))
      refine jr_cv_i (pc' := 34) [] rfl rfl jlk_12_439 jq_266 jbd_266 (jl rfl) rfl (jl rfl) hu rfl (jk rfl hN) (jd_67.trans jo_266.symm) (fun Q' hq => jc_266 hN (Nat.le_trans (jl rfl) hd) hx0 hx1 hs1 (jo_b h) hq) (fun p4 hp4 h => ?_)
      refine jr_zeq (pa := 39) (pb := 37) rfl rfl rfl (jg_b hp4) h (fun hc h => ?_) (fun hc h => ?_)
      · refine jr_inc (pc' := 42) (L' := [_, _, _, _]) rfl rfl rfl (jl rfl) rfl rfl (jr_goto (pc' := 2) rfl rfl ?_)
        exact k2 (jw (s1.1 + 1), p4.2) jg_w h
      · refine jr_il_n (pc' := 38) rfl rfl rfl ?_
        exact jr_ret rfl hu rfl (hQ' _ _ (hQ (s1.1, p4.2) hs1 h))
    · refine jr_inc (pc' := 42) (L' := [_, _, _, _]) rfl rfl rfl (jl rfl) rfl rfl (jr_goto (pc' := 2) rfl rfl ?_)
      exact k2 (jw (s1.1 + 1), s1.2) jg_w h
  · refine jr_ic (pc' := 46) rfl rfl ?_
    exact jr_ret rfl hu rfl (hQ' _ _ (hQ ((-1 : Int), s1.2) jgc_m1 h))

set_option maxRecDepth 20000 in
set_option maxHeartbeats 1000000 in
theorem jc_267 {X : Nat × (Nat → Int32)} {N d : Nat} {x0 : Int} {x1 : Int} {x2 : Int} (hN : 102 ≤ N) (hd : 10 ≤ d) (hx0 : jg x0) (hx1 : jg x1) (hx2 : jg x2) {m : jm} {P : Int × jm → Prop} {Q : px_Q} (h : jo (jf_267 x0 x1 x2 m) P) (hQ : ∀ p : Int × jm, jg p.1 → P p → Q (.inl (some (jv p.1))) (jmem N p.2)) : px_C X d 267 [.ref 67, jv x0, jv x1, jv x2] (jmem N m) Q := by
  unfold jf_267 at h
  have hu : ju px_m267 (0, 0) := ju_0
  refine jr_in (M := px_m267) (lev := 9) (L := [some (.ref 67), some (jv x0), some (jv x1), some (jv x2), none]) hd rfl jbd_267 (jl rfl) rfl (fun d hd Q' hQ' => ?_)
  refine jr_al_n (pc' := 1) rfl rfl rfl (jr_ic (pc' := 2) rfl rfl (jr_pi (pc' := 5) rfl rfl jlk_12_3 (.inl rfl) rfl hN jd_67 rfl rfl ?_))
  refine jr_le h (fun m1 h => ?_)
  refine jr_al_n (pc' := 6) rfl rfl rfl (jr_il_n (pc' := 7) rfl rfl rfl (jr_ic (pc' := 8) rfl rfl ?_))
  refine jr_cv_i (pc' := 11) [] rfl rfl jlk_12_432 jq_256 jbd_256 (jl rfl) rfl (jl rfl) hu rfl (jk rfl hN) (jd_67.trans jo_256.symm) (fun Q' hq => jc_256 hN (Nat.le_trans (jl rfl) hd) hx0 jgc_1 (jo_b h) hq) (fun p2 hp2 h => ?_)
  refine jr_zeq (pa := 38) (pb := 14) rfl rfl rfl (jg_b hp2) h (fun hc h => ?_) (fun hc h => ?_)
  · refine jr_ic (pc' := 39) rfl rfl ?_
    exact jr_ret rfl hu rfl (hQ' _ _ (hQ ((0 : Int), p2.2) jgc_0 h))
  · refine jr_al_n (pc' := 15) rfl rfl rfl (jr_il_n (pc' := 16) rfl rfl rfl (jr_ic (pc' := 17) rfl rfl ?_))
    refine jr_cv_i (pc' := 20) [] rfl rfl jlk_12_426 jq_252 jbd_252 (jl rfl) rfl (jl rfl) hu rfl (jk rfl hN) (jd_67.trans jo_252.symm) (fun Q' hq => jc_252 hN (Nat.le_trans (jl rfl) hd) hx1 jgc_1 (jo_b h) hq) (fun p3 hp3 h => ?_)
    refine jr_zeq (pa := 38) (pb := 23) rfl rfl rfl (jg_b hp3) h (fun hc h => ?_) (fun hc h => ?_)
    · refine jr_ic (pc' := 39) rfl rfl ?_
      exact jr_ret rfl hu rfl (hQ' _ _ (hQ ((0 : Int), p3.2) jgc_0 h))
    · refine jr_al_n (pc' := 24) rfl rfl rfl (jr_il_n (pc' := 25) rfl rfl rfl (jr_ic (pc' := 26) rfl rfl (jr_ic (pc' := 27) rfl rfl ?_)))
      refine jr_cs_p (pc' := 30) [_] rfl rfl jlk_12_414 jq_247 jbd_247 (jl rfl) rfl (jl rfl) hu (fun Q' hq => jc_247 hN (Nat.le_trans (jl rfl) hd) hx2 jgc_0 jgc_1 (jo_b h) hq) (fun p4 hp4 h => ?_)
      refine jr_ic (pc' := 31) rfl rfl (jr_ic (pc' := 32) rfl rfl ?_)
      refine jr_cv_i (pc' := 35) [] rfl rfl jlk_12_233 jq_194 jbd_194 (jl rfl) rfl (jl rfl) hu rfl (jk rfl hN) (jd_67.trans jo_194.symm) (fun Q' hq => jc_194 hN (Nat.le_trans (jl rfl) hd) (jg_b hp4) jgc_2 jgc_1 (jo_b h) hq) (fun p5 hp5 h => ?_)
      refine jr_zne (pa := 38) (pb := 40) rfl rfl rfl (jg_b hp5) h (fun hc h => ?_) (fun hc h => ?_)
      · refine jr_ic (pc' := 39) rfl rfl ?_
        exact jr_ret rfl hu rfl (hQ' _ _ (hQ ((0 : Int), p5.2) jgc_0 h))
      · refine jr_al_n (pc' := 41) rfl rfl rfl ?_
        refine jr_cv_v (pc' := 44) [] rfl rfl jlk_12_344 jq_226 jbd_226 (jl rfl) rfl (jl rfl) hu rfl (jk rfl hN) (jd_67.trans jo_226.symm) (fun Q' hq => jc_226 hN (Nat.le_trans (jl rfl) hd)  (jo_b h) hq) (fun p6 hp6 h => ?_)
        refine jr_al_n (pc' := 45) rfl rfl rfl (jr_il_n (pc' := 46) rfl rfl rfl ?_)
        refine jr_cv_v (pc' := 49) [] rfl rfl jlk_12_385 jq_230 jbd_230 (jl rfl) rfl (jl rfl) hu rfl (jk rfl hN) (jd_67.trans jo_230.symm) (fun Q' hq => jc_230 hN (Nat.le_trans (jl rfl) hd) hx0 (jo_b h) hq) (fun p7 hp7 h => ?_)
        refine jr_al_n (pc' := 50) rfl rfl rfl (jr_gr (pc' := 53) (r := 89) rfl rfl jlk_12_80 (.inl rfl) rfl hN jd_67 rfl rfl rfl (jr_bi (pc' := 55) rfl rfl rfl (jr_il_n (pc' := 56) rfl rfl rfl (jr_add (pc' := 57) rfl rfl ?_))))
        refine jr_ia (pc' := 58) rfl rfl (jl rfl) hN jd_89 jn_89 jg_w h (fun hc h => ?_)
        refine jr_ic (pc' := 59) rfl rfl ?_
        refine jr_cne (pa := 62) (pb := 64) rfl rfl rfl jg_a jgc_m1 h (fun hc h => ?_) (fun hc h => ?_)
        · refine jr_ic (pc' := 63) rfl rfl ?_
          exact jr_ret rfl hu rfl (hQ' _ _ (hQ ((-1 : Int), p7) jgc_m1 h))
        · refine jr_al_n (pc' := 65) rfl rfl rfl (jr_il_n (pc' := 66) rfl rfl rfl (jr_al_n (pc' := 67) rfl rfl rfl (jr_gr (pc' := 70) (r := 89) rfl rfl jlk_12_80 (.inl rfl) rfl hN jd_67 rfl rfl rfl (jr_bi (pc' := 72) rfl rfl rfl (jr_il_n (pc' := 73) rfl rfl rfl ?_)))))
          refine jr_add (pc' := 74) rfl rfl ?_
          refine jr_ia (pc' := 75) rfl rfl (jl rfl) hN jd_89 jn_89 jg_w h (fun hc h => ?_)
          refine jr_il_n (pc' := 76) rfl rfl rfl ?_
          refine jr_cv_i (pc' := 79) [] rfl rfl jlk_12_445 jq_264 jbd_264 (jl rfl) rfl (jl rfl) hu rfl (jk rfl hN) (jd_67.trans jo_264.symm) (fun Q' hq => jc_264 hN (Nat.le_trans (jl rfl) hd) hx0 jg_a hx1 (jo_b h) hq) (fun p8 hp8 h => ?_)
          refine jr_is (pc' := 81) (L' := [_, _, _, _, _]) rfl rfl (jl rfl) rfl rfl (jr_il_n (pc' := 82) rfl rfl rfl ?_)
          refine jr_zne (pa := 85) (pb := 88) rfl rfl rfl hx2 h (fun hc h => ?_) (fun hc h => ?_)
          · refine jr_il (pc' := 87) rfl rfl rfl ?_
            exact jr_ret rfl hu rfl (hQ' _ _ (hQ (p8.1, p8.2) hp8 h))
          · refine jr_il (pc' := 90) rfl rfl rfl ?_
            refine jr_reg (fun t9 => jg t9.1) (fun t9 => jp X (px_C X d) px_m267 Q' N 111 [some (.ref 67), some (jv x0), some (jv x1), some (jv x2), some (jv p8.1)] [(jv t9.1)] t9.2 (0, 0)) h (fun t9 ht9 h => ?_) (fun R22 k10 h => ?_)
            · exact jr_ret rfl hu rfl (hQ' _ _ (hQ (t9.1, t9.2) ht9 h))
            · refine jr_zgt (pa := 97) (pb := 93) rfl rfl rfl hp8 h (fun hc h => ?_) (fun hc h => ?_)
              · refine jr_al_n (pc' := 98) rfl rfl rfl (jr_il_n (pc' := 99) rfl rfl rfl (jr_al_n (pc' := 100) rfl rfl rfl (jr_gr (pc' := 103) (r := 89) rfl rfl jlk_12_80 (.inl rfl) rfl hN jd_67 rfl rfl rfl (jr_bi (pc' := 105) rfl rfl rfl (jr_il_n (pc' := 106) rfl rfl rfl ?_)))))
                refine jr_add (pc' := 107) rfl rfl ?_
                refine jr_ia (pc' := 108) rfl rfl (jl rfl) hN jd_89 jn_89 jg_w h (fun hc h => ?_)
                refine jr_cv_i (pc' := 111) [] rfl rfl jlk_12_448 jq_268 jbd_268 (jl rfl) rfl (jl rfl) hu rfl (jk rfl hN) (jd_67.trans jo_268.symm) (fun Q' hq => jc_268 hN (Nat.le_trans (jl rfl) hd) hx0 jg_a (jo_b h) hq) (fun p11 hp11 h => ?_)
                exact k10 (p11.1, p11.2) hp11 h
              · refine jr_ic (pc' := 94) rfl rfl (jr_goto (pc' := 111) rfl rfl ?_)
                exact k10 ((-1 : Int), p8.2) jgc_m1 h

set_option maxRecDepth 20000 in
set_option maxHeartbeats 1000000 in
theorem jc_271 {X : Nat × (Nat → Int32)} {N d : Nat} {x0 : Int} (hN : 102 ≤ N) (hd : 1 ≤ d) (hx0 : jg x0) {m : jm} {P : Int → Prop} {Q : px_Q} (h : jo (jf_271 x0 m) P) (hQ : ∀ p : Int, jb p → P p → Q (.inl (some (jv p))) (jmem N m)) : px_C X d 271 [.ref 67, jv x0] (jmem N m) Q := by
  unfold jf_271 at h
  have hu : ju px_m271 (0, 0) := ju_0
  refine jr_in (M := px_m271) (lev := 0) (L := [some (.ref 67), some (jv x0)]) hd rfl jbd_271 (jl rfl) rfl (fun d hd Q' hQ' => ?_)
  refine jr_al_n (pc' := 1) rfl rfl rfl (jr_gr (pc' := 4) (r := 89) rfl rfl jlk_12_80 (.inl rfl) rfl hN jd_67 rfl rfl rfl (jr_bi (pc' := 6) rfl rfl rfl (jr_il_n (pc' := 7) rfl rfl rfl (jr_add (pc' := 8) rfl rfl ?_))))
  refine jr_ia (pc' := 9) rfl rfl (jl rfl) hN jd_89 jn_89 jg_w h (fun hc h => ?_)
  refine jr_ic (pc' := 10) rfl rfl ?_
  refine jr_reg (fun t1 => jb t1) (fun t1 => jp X (px_C X d) px_m271 Q' N 30 [some (.ref 67), some (jv x0)] [(jv t1)] m (0, 0)) h (fun t1 ht1 h => ?_) (fun R13 k2 h => ?_)
  · exact jr_retb rfl hu rfl ht1 (hQ' _ _ (hQ t1 ht1 h))
  · refine jr_cne (pa := 13) (pb := 29) rfl rfl rfl jg_a jgc_m1 h (fun hc h => ?_) (fun hc h => ?_)
    · refine jr_al_n (pc' := 14) rfl rfl rfl (jr_gr (pc' := 17) (r := 89) rfl rfl jlk_12_80 (.inl rfl) rfl hN jd_67 rfl rfl rfl (jr_bi (pc' := 19) rfl rfl rfl (jr_il_n (pc' := 20) rfl rfl rfl (jr_add (pc' := 21) rfl rfl ?_))))
      refine jr_ia (pc' := 22) rfl rfl (jl rfl) hN jd_89 jn_89 jg_w h (fun hc h => ?_)
      refine jr_zne (pa := 25) (pb := 29) rfl rfl rfl jg_a h (fun hc h => ?_) (fun hc h => ?_)
      · refine jr_ic (pc' := 26) rfl rfl (jr_goto (pc' := 30) rfl rfl ?_)
        exact k2 ((1 : Int)) jb_1 h
      · refine jr_ic (pc' := 30) rfl rfl ?_
        exact k2 ((0 : Int)) jb_0 h
    · refine jr_ic (pc' := 30) rfl rfl ?_
      exact k2 ((0 : Int)) jb_0 h

set_option maxRecDepth 20000 in
set_option maxHeartbeats 1000000 in
theorem jc_272 {X : Nat × (Nat → Int32)} {N d : Nat} {x0 : Int} {x1 : Int} (hN : 102 ≤ N) (hd : 1 ≤ d) (hx0 : jg x0) (hx1 : jg x1) {m : jm} {P : jm → Prop} {Q : px_Q} (h : jo (jf_272 x0 x1 m) P) (hQ : ∀ p : jm, True → P p → Q (.inl (none)) (jmem N p)) : px_C X d 272 [.ref 67, jv x0, jv x1] (jmem N m) Q := by
  unfold jf_272 at h
  have hu : ju px_m272 (0, 0) := ju_0
  refine jr_in (M := px_m272) (lev := 0) (L := [some (.ref 67), some (jv x0), some (jv x1)]) hd rfl jbd_272 (jl rfl) rfl (fun d hd Q' hQ' => ?_)
  refine jr_al_n (pc' := 1) rfl rfl rfl (jr_il_n (pc' := 2) rfl rfl rfl (jr_pi (pc' := 5) rfl rfl jlk_12_366 (.inl rfl) rfl hN jd_67 rfl rfl ?_))
  refine jr_le h (fun m1 h => ?_)
  refine jr_al_n (pc' := 6) rfl rfl rfl (jr_il_n (pc' := 7) rfl rfl rfl (jr_pi (pc' := 10) rfl rfl jlk_12_369 (.inl rfl) rfl hN jd_67 rfl rfl ?_))
  refine jr_le h (fun m2 h => ?_)
  refine jr_al_n (pc' := 11) rfl rfl rfl (jr_il_n (pc' := 12) rfl rfl rfl ?_)
  refine jr_reg (fun t3 => jb t3) (fun t3 => jp X (px_C X d) px_m272 Q' N 20 [some (.ref 67), some (jv x0), some (jv x1)] [(jv t3), (.ref 67)] m2 (0, 0)) h (fun t3 ht3 h => ?_) (fun R16 k4 h => ?_)
  · refine jr_pi (pc' := 23) rfl rfl jlk_12_372 (.inl rfl) rfl hN jd_67 rfl rfl ?_
    refine jr_le h (fun m15 h => ?_)
    exact jr_rv rfl hu rfl (hQ' _ _ (hQ m15 trivial h))
  · refine jr_zle (pa := 15) (pb := 19) rfl rfl rfl hx1 h (fun hc h => ?_) (fun hc h => ?_)
    · refine jr_ic (pc' := 16) rfl rfl (jr_goto (pc' := 20) rfl rfl ?_)
      exact k4 ((1 : Int)) jb_1 h
    · refine jr_ic (pc' := 20) rfl rfl ?_
      exact k4 ((0 : Int)) jb_0 h

set_option maxRecDepth 20000 in
set_option maxHeartbeats 1000000 in
theorem jc_270 {X : Nat × (Nat → Int32)} {N d : Nat} {x0 : Int} {x1 : Int} (hN : 102 ≤ N) (hd : 10 ≤ d) (hx0 : jg x0) (hx1 : jg x1) {m : jm} {P : Int × jm → Prop} {Q : px_Q} (h : jo (jf_270 x0 x1 m) P) (hQ : ∀ p : Int × jm, jg p.1 → P p → Q (.inl (some (jv p.1))) (jmem N p.2)) : px_C X d 270 [.ref 67, jv x0, jv x1] (jmem N m) Q := by
  unfold jf_270 at h
  have hu : ju px_m270 (0, 0) := ju_0
  refine jr_in (M := px_m270) (lev := 9) (L := [some (.ref 67), some (jv x0), some (jv x1), none, none]) hd rfl jbd_270 (jl rfl) rfl (fun d hd Q' hQ' => ?_)
  refine jr_al_n (pc' := 1) rfl rfl rfl (jr_il_n (pc' := 2) rfl rfl rfl ?_)
  refine jr_cv_v (pc' := 5) [] rfl rfl jlk_12_385 jq_230 jbd_230 (jl rfl) rfl (jl rfl) hu rfl (jk rfl hN) (jd_67.trans jo_230.symm) (fun Q' hq => jc_230 hN (Nat.le_trans (jl rfl) hd) hx0 (jo_b h) hq) (fun p1 hp1 h => ?_)
  refine jr_al_n (pc' := 6) rfl rfl rfl (jr_gr (pc' := 9) (r := 89) rfl rfl jlk_12_80 (.inl rfl) rfl hN jd_67 rfl rfl rfl (jr_bi (pc' := 11) rfl rfl rfl (jr_il_n (pc' := 12) rfl rfl rfl (jr_add (pc' := 13) rfl rfl ?_))))
  refine jr_ia (pc' := 14) rfl rfl (jl rfl) hN jd_89 jn_89 jg_w h (fun hc h => ?_)
  refine jr_ic (pc' := 15) rfl rfl ?_
  refine jr_ceq (pa := 42) (pb := 18) rfl rfl rfl jg_a jgc_m1 h (fun hc h => ?_) (fun hc h => ?_)
  · refine jr_ic (pc' := 43) rfl rfl ?_
    exact jr_ret rfl hu rfl (hQ' _ _ (hQ ((-1 : Int), p1) jgc_m1 h))
  · refine jr_al_n (pc' := 19) rfl rfl rfl (jr_gi (pc' := 22) rfl rfl jlk_12_372 (.inl rfl) rfl hN jd_67 rfl rfl ?_)
    refine jr_zgt (pa := 42) (pb := 25) rfl rfl rfl jg_a h (fun hc h => ?_) (fun hc h => ?_)
    · refine jr_ic (pc' := 43) rfl rfl ?_
      exact jr_ret rfl hu rfl (hQ' _ _ (hQ ((-1 : Int), p1) jgc_m1 h))
    · refine jr_al_n (pc' := 26) rfl rfl rfl (jr_il_n (pc' := 27) rfl rfl rfl (jr_il_n (pc' := 28) rfl rfl rfl ?_))
      refine jr_cv_p (pc' := 31) [] rfl rfl jlk_12_388 jq_231 jbd_231 (jl rfl) rfl (jl rfl) hu rfl (jk rfl hN) (jd_67.trans jo_231.symm) (fun Q' hq => jc_231 hN (Nat.le_trans (jl rfl) hd) hx0 hx1 (jo_b h) hq) (fun p2 hp2 h => ?_)
      refine jr_zeq (pa := 42) (pb := 34) rfl rfl rfl (jg_b hp2) h (fun hc h => ?_) (fun hc h => ?_)
      · refine jr_ic (pc' := 43) rfl rfl ?_
        exact jr_ret rfl hu rfl (hQ' _ _ (hQ ((-1 : Int), p1) jgc_m1 h))
      · refine jr_al_n (pc' := 35) rfl rfl rfl (jr_il_n (pc' := 36) rfl rfl rfl ?_)
        refine jr_cv_p (pc' := 39) [] rfl rfl jlk_12_451 jq_271 jbd_271 (jl rfl) rfl (jl rfl) hu rfl (jk rfl hN) (jd_67.trans jo_271.symm) (fun Q' hq => jc_271 hN (Nat.le_trans (jl rfl) hd) hx1 (jo_b h) hq) (fun p3 hp3 h => ?_)
        refine jr_zne (pa := 42) (pb := 44) rfl rfl rfl (jg_b hp3) h (fun hc h => ?_) (fun hc h => ?_)
        · refine jr_ic (pc' := 43) rfl rfl ?_
          exact jr_ret rfl hu rfl (hQ' _ _ (hQ ((-1 : Int), p1) jgc_m1 h))
        · refine jr_al_n (pc' := 45) rfl rfl rfl (jr_il_n (pc' := 46) rfl rfl rfl (jr_al_n (pc' := 47) rfl rfl rfl (jr_gr (pc' := 50) (r := 89) rfl rfl jlk_12_80 (.inl rfl) rfl hN jd_67 rfl rfl rfl (jr_bi (pc' := 52) rfl rfl rfl (jr_il_n (pc' := 53) rfl rfl rfl ?_)))))
          refine jr_add (pc' := 54) rfl rfl ?_
          refine jr_ia (pc' := 55) rfl rfl (jl rfl) hN jd_89 jn_89 jg_w h (fun hc h => ?_)
          refine jr_al_n (pc' := 56) rfl rfl rfl (jr_gr (pc' := 59) (r := 89) rfl rfl jlk_12_80 (.inl rfl) rfl hN jd_67 rfl rfl rfl (jr_bi (pc' := 61) rfl rfl rfl (jr_il_n (pc' := 62) rfl rfl rfl (jr_add (pc' := 63) rfl rfl ?_))))
          refine jr_ia (pc' := 64) rfl rfl (jl rfl) hN jd_89 jn_89 jg_w h (fun hc h => ?_)
          refine jr_cv_i (pc' := 67) [] rfl rfl jlk_12_445 jq_264 jbd_264 (jl rfl) rfl (jl rfl) hu rfl (jk rfl hN) (jd_67.trans jo_264.symm) (fun Q' hq => jc_264 hN (Nat.le_trans (jl rfl) hd) hx0 jg_a jg_a (jo_b h) hq) (fun p4 hp4 h => ?_)
          refine jr_is_n (pc' := 68) (L' := [_, _, _, _, _]) rfl rfl (jl rfl) rfl rfl (jr_al_n (pc' := 69) rfl rfl rfl (jr_al_n (pc' := 70) rfl rfl rfl (jr_gr (pc' := 73) (r := 79) rfl rfl jlk_12_50 (.inl rfl) rfl hN jd_67 rfl rfl rfl (jr_ic (pc' := 74) rfl rfl (jr_il_n (pc' := 75) rfl rfl rfl ?_)))))
          refine jr_mul (pc' := 76) rfl rfl (jr_ic (pc' := 77) rfl rfl (jr_add (pc' := 78) rfl rfl ?_))
          refine jr_ia (pc' := 79) rfl rfl (jl rfl) hN jd_79 jn_79 jg_w h (fun hc h => ?_)
          refine jr_al_n (pc' := 80) rfl rfl rfl (jr_gr (pc' := 83) (r := 79) rfl rfl jlk_12_50 (.inl rfl) rfl hN jd_67 rfl rfl rfl (jr_ic (pc' := 84) rfl rfl (jr_il_n (pc' := 85) rfl rfl rfl (jr_mul (pc' := 86) rfl rfl (jr_ic (pc' := 87) rfl rfl ?_)))))
          refine jr_add (pc' := 88) rfl rfl ?_
          refine jr_ia (pc' := 89) rfl rfl (jl rfl) hN jd_79 jn_79 jg_w h (fun hc h => ?_)
          refine jr_cv_v (pc' := 92) [] rfl rfl jlk_12_454 jq_272 jbd_272 (jl rfl) rfl (jl rfl) hu rfl (jk rfl hN) (jd_67.trans jo_272.symm) (fun Q' hq => jc_272 hN (Nat.le_trans (jl rfl) hd) jg_a jg_a (jo_b h) hq) (fun p5 hp5 h => ?_)
          refine jr_al_n (pc' := 93) rfl rfl rfl (jr_il_n (pc' := 94) rfl rfl rfl (jr_al_n (pc' := 95) rfl rfl rfl (jr_gr (pc' := 98) (r := 89) rfl rfl jlk_12_80 (.inl rfl) rfl hN jd_67 rfl rfl rfl (jr_bi (pc' := 100) rfl rfl rfl (jr_il_n (pc' := 101) rfl rfl rfl ?_)))))
          refine jr_add (pc' := 102) rfl rfl ?_
          refine jr_ia (pc' := 103) rfl rfl (jl rfl) hN jd_89 jn_89 jg_w h (fun hc h => ?_)
          refine jr_al_n (pc' := 104) rfl rfl rfl (jr_gr (pc' := 107) (r := 79) rfl rfl jlk_12_50 (.inl rfl) rfl hN jd_67 rfl rfl rfl (jr_ic (pc' := 108) rfl rfl (jr_il_n (pc' := 109) rfl rfl rfl (jr_mul (pc' := 110) rfl rfl (jr_ic (pc' := 111) rfl rfl ?_)))))
          refine jr_add (pc' := 112) rfl rfl ?_
          refine jr_ia (pc' := 113) rfl rfl (jl rfl) hN jd_79 jn_79 jg_w h (fun hc h => ?_)
          refine jr_cv_i (pc' := 116) [] rfl rfl jlk_12_445 jq_264 jbd_264 (jl rfl) rfl (jl rfl) hu rfl (jk rfl hN) (jd_67.trans jo_264.symm) (fun Q' hq => jc_264 hN (Nat.le_trans (jl rfl) hd) hx0 jg_a jg_a (jo_b h) hq) (fun p6 hp6 h => ?_)
          refine jr_is (pc' := 118) (L' := [_, _, _, _, _]) rfl rfl (jl rfl) rfl rfl (jr_il_n (pc' := 119) rfl rfl rfl (jr_ic (pc' := 120) rfl rfl ?_))
          refine jr_reg (fun t7 => jg t7) (fun t7 => jp X (px_C X d) px_m270 Q' N 137 [some (.ref 67), some (jv x0), some (jv x1), some (jv p4.1), some (jv p6.1)] [(jv t7)] p6.2 (0, 0)) h (fun t7 ht7 h => ?_) (fun R19 k8 h => ?_)
          · exact jr_ret rfl hu rfl (hQ' _ _ (hQ (t7, p6.2) ht7 h))
          · refine jr_ceq (pa := 129) (pb := 123) rfl rfl rfl hp4 jgc_m1 h (fun hc h => ?_) (fun hc h => ?_)
            · refine jr_ic (pc' := 130) rfl rfl (jr_goto (pc' := 137) rfl rfl ?_)
              exact k8 ((-1 : Int)) jgc_m1 h
            · refine jr_il (pc' := 125) rfl rfl rfl (jr_ic (pc' := 126) rfl rfl ?_)
              refine jr_cne (pa := 129) (pb := 133) rfl rfl rfl hp6 jgc_m1 h (fun hc h => ?_) (fun hc h => ?_)
              · refine jr_ic (pc' := 130) rfl rfl (jr_goto (pc' := 137) rfl rfl ?_)
                exact k8 ((-1 : Int)) jgc_m1 h
              · refine jr_il_n (pc' := 134) rfl rfl rfl (jr_il (pc' := 136) rfl rfl rfl (jr_add (pc' := 137) rfl rfl ?_))
                exact k8 (jw (p4.1 + p6.1)) jg_w h

set_option maxRecDepth 20000 in
set_option maxHeartbeats 1000000 in
theorem jc_269 {X : Nat × (Nat → Int32)} {N d : Nat} {x0 : Int} {x1 : Int} (hN : 102 ≤ N) (hd : 11 ≤ d) (hx0 : jg x0) (hx1 : jg x1) {m : jm} {P : Int × jm → Prop} {Q : px_Q} (h : jo (jf_269 x0 x1 m) P) (hQ : ∀ p : Int × jm, jg p.1 → P p → Q (.inl (some (jv p.1))) (jmem N p.2)) : px_C X d 269 [.ref 67, jv x0, jv x1] (jmem N m) Q := by
  unfold jf_269 at h
  have hu : ju px_m269 (0, 0) := ju_0
  refine jr_in (M := px_m269) (lev := 10) (L := [some (.ref 67), some (jv x0), some (jv x1), none, none, none, none]) hd rfl jbd_269 (jl rfl) rfl (fun d hd Q' hQ' => ?_)
  refine jr_al_n (pc' := 1) rfl rfl rfl (jr_ic (pc' := 2) rfl rfl (jr_pi (pc' := 5) rfl rfl jlk_12_3 (.inl rfl) rfl hN jd_67 rfl rfl ?_))
  refine jr_le h (fun m1 h => ?_)
  refine jr_al_n (pc' := 6) rfl rfl rfl (jr_il_n (pc' := 7) rfl rfl rfl (jr_ic (pc' := 8) rfl rfl ?_))
  refine jr_cv_i (pc' := 11) [] rfl rfl jlk_12_435 jq_258 jbd_258 (jl rfl) rfl (jl rfl) hu rfl (jk rfl hN) (jd_67.trans jo_258.symm) (fun Q' hq => jc_258 hN (Nat.le_trans (jl rfl) hd) hx0 jgc_1 (jo_b h) hq) (fun p2 hp2 h => ?_)
  refine jr_zeq (pa := 29) (pb := 14) rfl rfl rfl (jg_b hp2) h (fun hc h => ?_) (fun hc h => ?_)
  · refine jr_ic (pc' := 30) rfl rfl ?_
    exact jr_ret rfl hu rfl (hQ' _ _ (hQ ((0 : Int), p2.2) jgc_0 h))
  · refine jr_al_n (pc' := 15) rfl rfl rfl (jr_il_n (pc' := 16) rfl rfl rfl (jr_ic (pc' := 17) rfl rfl (jr_ic (pc' := 18) rfl rfl ?_)))
    refine jr_cs_p (pc' := 21) [_] rfl rfl jlk_12_414 jq_247 jbd_247 (jl rfl) rfl (jl rfl) hu (fun Q' hq => jc_247 hN (Nat.le_trans (jl rfl) hd) hx1 jgc_0 jgc_1 (jo_b h) hq) (fun p3 hp3 h => ?_)
    refine jr_ic (pc' := 22) rfl rfl (jr_ic (pc' := 23) rfl rfl ?_)
    refine jr_cv_i (pc' := 26) [] rfl rfl jlk_12_233 jq_194 jbd_194 (jl rfl) rfl (jl rfl) hu rfl (jk rfl hN) (jd_67.trans jo_194.symm) (fun Q' hq => jc_194 hN (Nat.le_trans (jl rfl) hd) (jg_b hp3) jgc_2 jgc_1 (jo_b h) hq) (fun p4 hp4 h => ?_)
    refine jr_zne (pa := 29) (pb := 31) rfl rfl rfl (jg_b hp4) h (fun hc h => ?_) (fun hc h => ?_)
    · refine jr_ic (pc' := 30) rfl rfl ?_
      exact jr_ret rfl hu rfl (hQ' _ _ (hQ ((0 : Int), p4.2) jgc_0 h))
    · refine jr_al_n (pc' := 32) rfl rfl rfl ?_
      refine jr_cv_v (pc' := 35) [] rfl rfl jlk_12_344 jq_226 jbd_226 (jl rfl) rfl (jl rfl) hu rfl (jk rfl hN) (jd_67.trans jo_226.symm) (fun Q' hq => jc_226 hN (Nat.le_trans (jl rfl) hd)  (jo_b h) hq) (fun p5 hp5 h => ?_)
      refine jr_ic (pc' := 36) rfl rfl (jr_is_n (pc' := 37) (L' := [_, _, _, _, _, _, _]) rfl rfl (jl rfl) rfl rfl (jr_ic (pc' := 38) rfl rfl (jr_is (pc' := 40) (L' := [_, _, _, _, _, _, _]) rfl rfl (jl rfl) rfl rfl (jr_ic (pc' := 41) rfl rfl (jr_is (pc' := 43) (L' := [_, _, _, _, _, _, _]) rfl rfl (jl rfl) rfl rfl ?_)))))
      refine jr_reg (fun t10 => jg t10.1 ∧ jg t10.2.1) (fun t10 => ∀ o11, jn o11 → ∀ o12, jn o12 → jp X (px_C X d) px_m269 Q' N 95 [some (.ref 67), some (jv x0), some (jv x1), some (jv t10.1), some (jv t10.2.1), o11, o12] [] t10.2.2 (0, 0)) h (fun t10 ht10 h o11 ho11 o12 ho12 => ?_) (fun R14 k13 h => ?_)
      · refine jr_il_n (pc' := 96) rfl rfl rfl ?_
        refine jr_reg (fun t39 => jg t39) (fun t39 => jp X (px_C X d) px_m269 Q' N 105 [some (.ref 67), some (jv x0), some (jv x1), some (jv t10.1), some (jv t10.2.1), o11, o12] [(jv t39)] t10.2.2 (0, 0)) h (fun t39 ht39 h => ?_) (fun R51 k40 h => ?_)
        · exact jr_ret rfl hu rfl (hQ' _ _ (hQ (t39, t10.2.2) ht39 h))
        · refine jr_zne (pa := 99) (pb := 103) rfl rfl rfl hx1 h (fun hc h => ?_) (fun hc h => ?_)
          · refine jr_il_n (pc' := 100) rfl rfl rfl (jr_goto (pc' := 105) rfl rfl ?_)
            exact k40 (t10.1) ht10.1 h
          · refine jr_il (pc' := 105) rfl rfl rfl ?_
            exact k40 (t10.2.1) ht10.2 h
      · refine jr_lp (fun s6 => jg s6.1 ∧ jg s6.2.1 ∧ jg s6.2.2.1) (fun s6 => ∀ o7, jn o7 → jp X (px_C X d) px_m269 Q' N 43 [some (.ref 67), some (jv x0), some (jv x1), some (jv s6.1), some (jv s6.2.1), some (jv s6.2.2.1), o7] [] s6.2.2.2 (0, 0)) h ⟨jgc_m1, jgc_m1, jgc_0⟩ (fun s6 hs6 R9 k8 h o7 ho7 => ?_) _ jn_n
        refine jr_il (pc' := 45) rfl rfl rfl (jr_al_n (pc' := 46) rfl rfl rfl (jr_gi (pc' := 49) rfl rfl jlk_12_190 (.inl rfl) rfl hN jd_67 rfl rfl ?_))
        refine jr_cge (pa := 52) (pb := 95) rfl rfl rfl hs6.2.2 jg_a h (fun hc h => ?_) (fun hc h => ?_)
        · refine jr_al_n (pc' := 53) rfl rfl rfl (jr_il (pc' := 55) rfl rfl rfl (jr_il_n (pc' := 56) rfl rfl rfl ?_))
          refine jr_cv_i (pc' := 59) [] rfl rfl jlk_12_457 jq_270 jbd_270 (jl rfl) rfl (jl rfl) hu rfl (jk rfl hN) (jd_67.trans jo_270.symm) (fun Q' hq => jc_270 hN (Nat.le_trans (jl rfl) hd) hs6.2.2 hx0 (jo_b h) hq) (fun p15 hp15 h => ?_)
          refine jr_is (pc' := 61) (L' := [_, _, _, _, _, _, _]) rfl rfl (jl rfl) rfl rfl (jr_il (pc' := 63) rfl rfl rfl (jr_ic (pc' := 64) rfl rfl ?_))
          refine jr_reg (fun t16 => jg t16.1 ∧ jg t16.2) (fun t16 => jp X (px_C X d) px_m269 Q' N 89 [some (.ref 67), some (jv x0), some (jv x1), some (jv t16.1), some (jv t16.2), some (jv s6.2.2.1), some (jv p15.1)] [] p15.2 (0, 0)) h (fun t16 ht16 h => ?_) (fun R28 k17 h => ?_)
          · refine jr_inc (pc' := 92) (L' := [_, _, _, _, _, _, _]) rfl rfl rfl (jl rfl) rfl rfl (jr_goto (pc' := 43) rfl rfl ?_)
            exact k8 (t16.1, t16.2, jw (s6.2.2.1 + 1), p15.2) ⟨ht16.1, ht16.2, jg_w⟩ h _ jn_i
          · refine jr_ceq (pa := 89) (pb := 67) rfl rfl rfl hp15 jgc_m1 h (fun hc h => ?_) (fun hc h => ?_)
            · exact k17 (s6.1, s6.2.1) ⟨hs6.1, hs6.2.1⟩ h
            · refine jr_il_n (pc' := 68) rfl rfl rfl (jr_ic (pc' := 69) rfl rfl ?_)
              refine jr_ceq (pa := 82) (pb := 72) rfl rfl rfl hs6.1 jgc_m1 h (fun hc h => ?_) (fun hc h => ?_)
              · refine jr_il (pc' := 84) rfl rfl rfl (jr_is_n (pc' := 85) (L' := [_, _, _, _, _, _, _]) rfl rfl (jl rfl) rfl rfl (jr_il (pc' := 87) rfl rfl rfl (jr_is (pc' := 89) (L' := [_, _, _, _, _, _, _]) rfl rfl (jl rfl) rfl rfl ?_)))
                exact k17 (s6.2.2.1, p15.1) ⟨hs6.2.2, hp15⟩ h
              · refine jr_il (pc' := 74) rfl rfl rfl (jr_il (pc' := 76) rfl rfl rfl ?_)
                refine jr_clt (pa := 82) (pb := 79) rfl rfl rfl hp15 hs6.2.1 h (fun hc h => ?_) (fun hc h => ?_)
                · refine jr_il (pc' := 84) rfl rfl rfl (jr_is_n (pc' := 85) (L' := [_, _, _, _, _, _, _]) rfl rfl (jl rfl) rfl rfl (jr_il (pc' := 87) rfl rfl rfl (jr_is (pc' := 89) (L' := [_, _, _, _, _, _, _]) rfl rfl (jl rfl) rfl rfl ?_)))
                  exact k17 (s6.2.2.1, p15.1) ⟨hs6.2.2, hp15⟩ h
                · refine jr_goto (pc' := 89) rfl rfl ?_
                  exact k17 (s6.1, s6.2.1) ⟨hs6.1, hs6.2.1⟩ h
        · exact k13 (s6.1, s6.2.1, s6.2.2.2) ⟨hs6.1, hs6.2.1⟩ h _ jn_i _ ho7

set_option maxRecDepth 20000 in
set_option maxHeartbeats 1000000 in
theorem jc_274 {X : Nat × (Nat → Int32)} {N d : Nat} {x0 : Int} {x1 : Int} (hN : 102 ≤ N) (hd : 10 ≤ d) (hx0 : jg x0) (hx1 : jg x1) {m : jm} {P : Int × jm → Prop} {Q : px_Q} (h : jo (jf_274 x0 x1 m) P) (hQ : ∀ p : Int × jm, jg p.1 → P p → Q (.inl (some (jv p.1))) (jmem N p.2)) : px_C X d 274 [.ref 67, jv x0, jv x1] (jmem N m) Q := by
  unfold jf_274 at h
  have hu : ju px_m274 (0, 0) := ju_0
  refine jr_in (M := px_m274) (lev := 9) (L := [some (.ref 67), some (jv x0), some (jv x1)]) hd rfl jbd_274 (jl rfl) rfl (fun d hd Q' hQ' => ?_)
  refine jr_al_n (pc' := 1) rfl rfl rfl (jr_il_n (pc' := 2) rfl rfl rfl ?_)
  refine jr_cv_v (pc' := 5) [] rfl rfl jlk_12_385 jq_230 jbd_230 (jl rfl) rfl (jl rfl) hu rfl (jk rfl hN) (jd_67.trans jo_230.symm) (fun Q' hq => jc_230 hN (Nat.le_trans (jl rfl) hd) hx0 (jo_b h) hq) (fun p1 hp1 h => ?_)
  refine jr_al_n (pc' := 6) rfl rfl rfl (jr_gr (pc' := 9) (r := 89) rfl rfl jlk_12_80 (.inl rfl) rfl hN jd_67 rfl rfl rfl (jr_bi (pc' := 11) rfl rfl rfl (jr_il_n (pc' := 12) rfl rfl rfl (jr_add (pc' := 13) rfl rfl ?_))))
  refine jr_ia (pc' := 14) rfl rfl (jl rfl) hN jd_89 jn_89 jg_w h (fun hc h => ?_)
  refine jr_ic (pc' := 15) rfl rfl ?_
  refine jr_reg (fun t2 => jg t2.1) (fun t2 => jp X (px_C X d) px_m274 Q' N 37 [some (.ref 67), some (jv x0), some (jv x1)] [(jv t2.1)] t2.2 (0, 0)) h (fun t2 ht2 h => ?_) (fun R15 k3 h => ?_)
  · exact jr_ret rfl hu rfl (hQ' _ _ (hQ (t2.1, t2.2) ht2 h))
  · refine jr_cne (pa := 18) (pb := 22) rfl rfl rfl jg_a jgc_m1 h (fun hc h => ?_) (fun hc h => ?_)
    · refine jr_ic (pc' := 19) rfl rfl (jr_goto (pc' := 37) rfl rfl ?_)
      exact k3 ((-1 : Int), p1) jgc_m1 h
    · refine jr_al_n (pc' := 23) rfl rfl rfl (jr_il_n (pc' := 24) rfl rfl rfl (jr_al_n (pc' := 25) rfl rfl rfl (jr_gr (pc' := 28) (r := 89) rfl rfl jlk_12_80 (.inl rfl) rfl hN jd_67 rfl rfl rfl (jr_bi (pc' := 30) rfl rfl rfl (jr_il_n (pc' := 31) rfl rfl rfl ?_)))))
      refine jr_add (pc' := 32) rfl rfl ?_
      refine jr_ia (pc' := 33) rfl rfl (jl rfl) hN jd_89 jn_89 jg_w h (fun hc h => ?_)
      refine jr_il_n (pc' := 34) rfl rfl rfl ?_
      refine jr_cv_i (pc' := 37) [] rfl rfl jlk_12_445 jq_264 jbd_264 (jl rfl) rfl (jl rfl) hu rfl (jk rfl hN) (jd_67.trans jo_264.symm) (fun Q' hq => jc_264 hN (Nat.le_trans (jl rfl) hd) hx0 jg_a hx1 (jo_b h) hq) (fun p4 hp4 h => ?_)
      exact k3 (p4.1, p4.2) hp4 h

set_option maxRecDepth 20000 in
set_option maxHeartbeats 1000000 in
theorem jc_273 {X : Nat × (Nat → Int32)} {N d : Nat} {x0 : Int} {x1 : Int} {x2 : Int} (hN : 102 ≤ N) (hd : 11 ≤ d) (hx0 : jg x0) (hx1 : jg x1) (hx2 : jg x2) {m : jm} {P : Int × jm → Prop} {Q : px_Q} (h : jo (jf_273 x0 x1 x2 m) P) (hQ : ∀ p : Int × jm, jg p.1 → P p → Q (.inl (some (jv p.1))) (jmem N p.2)) : px_C X d 273 [.ref 67, jv x0, jv x1, jv x2] (jmem N m) Q := by
  unfold jf_273 at h
  have hu : ju px_m273 (0, 0) := ju_0
  refine jr_in (M := px_m273) (lev := 10) (L := [some (.ref 67), some (jv x0), some (jv x1), some (jv x2), none, none, none, none, none]) hd rfl jbd_273 (jl rfl) rfl (fun d hd Q' hQ' => ?_)
  refine jr_al_n (pc' := 1) rfl rfl rfl (jr_ic (pc' := 2) rfl rfl (jr_pi (pc' := 5) rfl rfl jlk_12_3 (.inl rfl) rfl hN jd_67 rfl rfl ?_))
  refine jr_le h (fun m1 h => ?_)
  refine jr_al_n (pc' := 6) rfl rfl rfl (jr_il_n (pc' := 7) rfl rfl rfl (jr_ic (pc' := 8) rfl rfl ?_))
  refine jr_cv_i (pc' := 11) [] rfl rfl jlk_12_432 jq_256 jbd_256 (jl rfl) rfl (jl rfl) hu rfl (jk rfl hN) (jd_67.trans jo_256.symm) (fun Q' hq => jc_256 hN (Nat.le_trans (jl rfl) hd) hx0 jgc_1 (jo_b h) hq) (fun p2 hp2 h => ?_)
  refine jr_zeq (pa := 38) (pb := 14) rfl rfl rfl (jg_b hp2) h (fun hc h => ?_) (fun hc h => ?_)
  · refine jr_ic (pc' := 39) rfl rfl ?_
    exact jr_ret rfl hu rfl (hQ' _ _ (hQ ((0 : Int), p2.2) jgc_0 h))
  · refine jr_al_n (pc' := 15) rfl rfl rfl (jr_il_n (pc' := 16) rfl rfl rfl (jr_ic (pc' := 17) rfl rfl ?_))
    refine jr_cv_i (pc' := 20) [] rfl rfl jlk_12_432 jq_256 jbd_256 (jl rfl) rfl (jl rfl) hu rfl (jk rfl hN) (jd_67.trans jo_256.symm) (fun Q' hq => jc_256 hN (Nat.le_trans (jl rfl) hd) hx1 jgc_1 (jo_b h) hq) (fun p3 hp3 h => ?_)
    refine jr_zeq (pa := 38) (pb := 23) rfl rfl rfl (jg_b hp3) h (fun hc h => ?_) (fun hc h => ?_)
    · refine jr_ic (pc' := 39) rfl rfl ?_
      exact jr_ret rfl hu rfl (hQ' _ _ (hQ ((0 : Int), p3.2) jgc_0 h))
    · refine jr_al_n (pc' := 24) rfl rfl rfl (jr_il_n (pc' := 25) rfl rfl rfl (jr_ic (pc' := 26) rfl rfl (jr_ic (pc' := 27) rfl rfl ?_)))
      refine jr_cs_p (pc' := 30) [_] rfl rfl jlk_12_414 jq_247 jbd_247 (jl rfl) rfl (jl rfl) hu (fun Q' hq => jc_247 hN (Nat.le_trans (jl rfl) hd) hx2 jgc_0 jgc_1 (jo_b h) hq) (fun p4 hp4 h => ?_)
      refine jr_ic (pc' := 31) rfl rfl (jr_ic (pc' := 32) rfl rfl ?_)
      refine jr_cv_i (pc' := 35) [] rfl rfl jlk_12_233 jq_194 jbd_194 (jl rfl) rfl (jl rfl) hu rfl (jk rfl hN) (jd_67.trans jo_194.symm) (fun Q' hq => jc_194 hN (Nat.le_trans (jl rfl) hd) (jg_b hp4) jgc_2 jgc_1 (jo_b h) hq) (fun p5 hp5 h => ?_)
      refine jr_zne (pa := 38) (pb := 40) rfl rfl rfl (jg_b hp5) h (fun hc h => ?_) (fun hc h => ?_)
      · refine jr_ic (pc' := 39) rfl rfl ?_
        exact jr_ret rfl hu rfl (hQ' _ _ (hQ ((0 : Int), p5.2) jgc_0 h))
      · refine jr_al_n (pc' := 41) rfl rfl rfl ?_
        refine jr_cv_v (pc' := 44) [] rfl rfl jlk_12_344 jq_226 jbd_226 (jl rfl) rfl (jl rfl) hu rfl (jk rfl hN) (jd_67.trans jo_226.symm) (fun Q' hq => jc_226 hN (Nat.le_trans (jl rfl) hd)  (jo_b h) hq) (fun p6 hp6 h => ?_)
        refine jr_ic (pc' := 45) rfl rfl (jr_is (pc' := 47) (L' := [_, _, _, _, _, _, _, _, _]) rfl rfl (jl rfl) rfl rfl (jr_ic (pc' := 48) rfl rfl (jr_is (pc' := 50) (L' := [_, _, _, _, _, _, _, _, _]) rfl rfl (jl rfl) rfl rfl (jr_ic (pc' := 51) rfl rfl (jr_is (pc' := 53) (L' := [_, _, _, _, _, _, _, _, _]) rfl rfl (jl rfl) rfl rfl ?_)))))
        refine jr_reg (fun t12 => jg t12.1 ∧ jg t12.2.1) (fun t12 => ∀ o13, jn o13 → ∀ o14, jn o14 → ∀ o15, jn o15 → jp X (px_C X d) px_m273 Q' N 128 [some (.ref 67), some (jv x0), some (jv x1), some (jv x2), some (jv t12.1), some (jv t12.2.1), o13, o14, o15] [] t12.2.2 (0, 0)) h (fun t12 ht12 h o13 ho13 o14 ho14 o15 ho15 => ?_) (fun R17 k16 h => ?_)
        · refine jr_il_n (pc' := 129) rfl rfl rfl ?_
          refine jr_reg (fun t43 => jg t43) (fun t43 => jp X (px_C X d) px_m273 Q' N 139 [some (.ref 67), some (jv x0), some (jv x1), some (jv x2), some (jv t12.1), some (jv t12.2.1), o13, o14, o15] [(jv t43)] t12.2.2 (0, 0)) h (fun t43 ht43 h => ?_) (fun R55 k44 h => ?_)
          · exact jr_ret rfl hu rfl (hQ' _ _ (hQ (t43, t12.2.2) ht43 h))
          · refine jr_zne (pa := 132) (pb := 137) rfl rfl rfl hx2 h (fun hc h => ?_) (fun hc h => ?_)
            · refine jr_il (pc' := 134) rfl rfl rfl (jr_goto (pc' := 139) rfl rfl ?_)
              exact k44 (t12.1) ht12.1 h
            · refine jr_il (pc' := 139) rfl rfl rfl ?_
              exact k44 (t12.2.1) ht12.2 h
        · refine jr_lp (fun s7 => jg s7.1 ∧ jg s7.2.1 ∧ jg s7.2.2.1) (fun s7 => ∀ o8, jn o8 → ∀ o9, jn o9 → jp X (px_C X d) px_m273 Q' N 53 [some (.ref 67), some (jv x0), some (jv x1), some (jv x2), some (jv s7.1), some (jv s7.2.1), some (jv s7.2.2.1), o8, o9] [] s7.2.2.2 (0, 0)) h ⟨jgc_m1, jgc_m1, jgc_0⟩ (fun s7 hs7 R11 k10 h o8 ho8 o9 ho9 => ?_) _ jn_n _ jn_n
          refine jr_il (pc' := 55) rfl rfl rfl (jr_al_n (pc' := 56) rfl rfl rfl (jr_gi (pc' := 59) rfl rfl jlk_12_184 (.inl rfl) rfl hN jd_67 rfl rfl ?_))
          refine jr_cge (pa := 62) (pb := 128) rfl rfl rfl hs7.2.2 jg_a h (fun hc h => ?_) (fun hc h => ?_)
          · refine jr_al_n (pc' := 63) rfl rfl rfl (jr_il_n (pc' := 64) rfl rfl rfl (jr_il (pc' := 66) rfl rfl rfl ?_))
            refine jr_cv_i (pc' := 69) [] rfl rfl jlk_12_460 jq_274 jbd_274 (jl rfl) rfl (jl rfl) hu rfl (jk rfl hN) (jd_67.trans jo_274.symm) (fun Q' hq => jc_274 hN (Nat.le_trans (jl rfl) hd) hx0 hs7.2.2 (jo_b h) hq) (fun p18 hp18 h => ?_)
            refine jr_is (pc' := 71) (L' := [_, _, _, _, _, _, _, _, _]) rfl rfl (jl rfl) rfl rfl (jr_al_n (pc' := 72) rfl rfl rfl (jr_il_n (pc' := 73) rfl rfl rfl (jr_il (pc' := 75) rfl rfl rfl ?_)))
            refine jr_cv_i (pc' := 78) [] rfl rfl jlk_12_460 jq_274 jbd_274 (jl rfl) rfl (jl rfl) hu rfl (jk rfl hN) (jd_67.trans jo_274.symm) (fun Q' hq => jc_274 hN (Nat.le_trans (jl rfl) hd) hx1 hs7.2.2 (jo_b h) hq) (fun p19 hp19 h => ?_)
            refine jr_is (pc' := 80) (L' := [_, _, _, _, _, _, _, _, _]) rfl rfl (jl rfl) rfl rfl (jr_il (pc' := 82) rfl rfl rfl (jr_ic (pc' := 83) rfl rfl ?_))
            refine jr_reg (fun t20 => jg t20.1 ∧ jg t20.2) (fun t20 => jp X (px_C X d) px_m273 Q' N 122 [some (.ref 67), some (jv x0), some (jv x1), some (jv x2), some (jv t20.1), some (jv t20.2), some (jv s7.2.2.1), some (jv p18.1), some (jv p19.1)] [] p19.2 (0, 0)) h (fun t20 ht20 h => ?_) (fun R32 k21 h => ?_)
            · refine jr_inc (pc' := 125) (L' := [_, _, _, _, _, _, _, _, _]) rfl rfl rfl (jl rfl) rfl rfl (jr_goto (pc' := 53) rfl rfl ?_)
              exact k10 (t20.1, t20.2, jw (s7.2.2.1 + 1), p19.2) ⟨ht20.1, ht20.2, jg_w⟩ h _ jn_i _ jn_i
            · refine jr_ceq (pa := 122) (pb := 86) rfl rfl rfl hp18 jgc_m1 h (fun hc h => ?_) (fun hc h => ?_)
              · exact k21 (s7.1, s7.2.1) ⟨hs7.1, hs7.2.1⟩ h
              · refine jr_il (pc' := 88) rfl rfl rfl (jr_ic (pc' := 89) rfl rfl ?_)
                refine jr_ceq (pa := 122) (pb := 92) rfl rfl rfl hp19 jgc_m1 h (fun hc h => ?_) (fun hc h => ?_)
                · exact k21 (s7.1, s7.2.1) ⟨hs7.1, hs7.2.1⟩ h
                · refine jr_il (pc' := 94) rfl rfl rfl (jr_ic (pc' := 95) rfl rfl ?_)
                  refine jr_ceq (pa := 111) (pb := 98) rfl rfl rfl hs7.1 jgc_m1 h (fun hc h => ?_) (fun hc h => ?_)
                  · refine jr_il (pc' := 113) rfl rfl rfl (jr_is (pc' := 115) (L' := [_, _, _, _, _, _, _, _, _]) rfl rfl (jl rfl) rfl rfl (jr_il (pc' := 117) rfl rfl rfl (jr_il (pc' := 119) rfl rfl rfl (jr_add (pc' := 120) rfl rfl (jr_is (pc' := 122) (L' := [_, _, _, _, _, _, _, _, _]) rfl rfl (jl rfl) rfl rfl ?_)))))
                    exact k21 (s7.2.2.1, jw (p18.1 + p19.1)) ⟨hs7.2.2, jg_w⟩ h
                  · refine jr_il (pc' := 100) rfl rfl rfl (jr_il (pc' := 102) rfl rfl rfl (jr_add (pc' := 103) rfl rfl (jr_il (pc' := 105) rfl rfl rfl ?_)))
                    refine jr_clt (pa := 111) (pb := 108) rfl rfl rfl jg_w hs7.2.1 h (fun hc h => ?_) (fun hc h => ?_)
                    · refine jr_il (pc' := 113) rfl rfl rfl (jr_is (pc' := 115) (L' := [_, _, _, _, _, _, _, _, _]) rfl rfl (jl rfl) rfl rfl (jr_il (pc' := 117) rfl rfl rfl (jr_il (pc' := 119) rfl rfl rfl (jr_add (pc' := 120) rfl rfl (jr_is (pc' := 122) (L' := [_, _, _, _, _, _, _, _, _]) rfl rfl (jl rfl) rfl rfl ?_)))))
                      exact k21 (s7.2.2.1, jw (p18.1 + p19.1)) ⟨hs7.2.2, jg_w⟩ h
                    · refine jr_goto (pc' := 122) rfl rfl ?_
                      exact k21 (s7.1, s7.2.1) ⟨hs7.1, hs7.2.1⟩ h
          · exact k16 (s7.1, s7.2.1, s7.2.2.2) ⟨hs7.1, hs7.2.1⟩ h _ jn_i _ ho8 _ ho9

set_option maxRecDepth 20000 in
set_option maxHeartbeats 1000000 in
theorem jc_276 {X : Nat × (Nat → Int32)} {N d : Nat} {x0 : Int} (hN : 102 ≤ N) (hd : 1 ≤ d) (hx0 : jg x0) {m : jm} {P : Int × jm → Prop} {Q : px_Q} (h : jo (jf_276 x0 m) P) (hQ : ∀ p : Int × jm, jg p.1 → P p → Q (.inl (some (jv p.1))) (jmem N p.2)) : px_C X d 276 [.ref 67, jv x0] (jmem N m) Q := by
  unfold jf_276 at h
  have hu : ju px_m276 (0, 0) := ju_0
  refine jr_in (M := px_m276) (lev := 0) (L := [some (.ref 67), some (jv x0), none, none, none, none, none]) hd rfl jbd_276 (jl rfl) rfl (fun d hd Q' hQ' => ?_)
  refine jr_ic (pc' := 1) rfl rfl (jr_is_n (pc' := 2) (L' := [_, _, _, _, _, _, _]) rfl rfl (jl rfl) rfl rfl ?_)
  refine jr_reg (fun t4 => True) (fun t4 => ∀ o5, jn o5 → jp X (px_C X d) px_m276 Q' N 23 [some (.ref 67), some (jv x0), o5, none, none, none, none] [] t4 (0, 0)) h (fun t4 ht4 h o5 ho5 => ?_) (fun R7 k6 h => ?_)
  · refine jr_ic (pc' := 24) rfl rfl (jr_is_n (pc' := 25) (L' := [_, _, _, _, _, _, _]) rfl rfl (jl rfl) rfl rfl ?_)
    refine jr_reg (fun t26 => True) (fun t26 => ∀ o27, jn o27 → ∀ o28, jn o28 → ∀ o29, jn o29 → ∀ o30, jn o30 → ∀ o31, jn o31 → jp X (px_C X d) px_m276 Q' N 164 [some (.ref 67), some (jv x0), o27, o28, o29, o30, o31] [] t26 (0, 0)) h (fun t26 ht26 h o27 ho27 o28 ho28 o29 ho29 o30 ho30 o31 ho31 => ?_) (fun R33 k32 h => ?_)
    · refine jr_ic (pc' := 165) rfl rfl (jr_is_n (pc' := 166) (L' := [_, _, _, _, _, _, _]) rfl rfl (jl rfl) (jkill rfl ho27) rfl (jr_ic (pc' := 167) rfl rfl (jr_is (pc' := 169) (L' := [_, _, _, _, _, _, _]) rfl rfl (jl rfl) rfl rfl ?_)))
      refine jr_reg (fun t114 => jg t114) (fun t114 => ∀ o115, jn o115 → jp X (px_C X d) px_m276 Q' N 204 [some (.ref 67), some (jv x0), o27, some (jv t114), o115, o30, o31] [] t26 (0, 0)) h (fun t114 ht114 h o115 ho115 => ?_) (fun R117 k116 h => ?_)
      · refine jr_il_n (pc' := 205) rfl rfl rfl ?_
        exact jr_ret rfl hu rfl (hQ' _ _ (hQ (t114, t26) ht114 h))
      · refine jr_lp (fun s111 => jg s111.1 ∧ jg s111.2) (fun s111 => jp X (px_C X d) px_m276 Q' N 169 [some (.ref 67), some (jv x0), o27, some (jv s111.1), some (jv s111.2), o30, o31] [] t26 (0, 0)) h ⟨jgc_0, jgc_0⟩ (fun s111 hs111 R113 k112 h => ?_)
        refine jr_il (pc' := 171) rfl rfl rfl (jr_al_n (pc' := 172) rfl rfl rfl (jr_gi (pc' := 175) rfl rfl jlk_12_184 (.inl rfl) rfl hN jd_67 rfl rfl ?_))
        refine jr_cge (pa := 178) (pb := 204) rfl rfl rfl hs111.2 jg_a h (fun hc h => ?_) (fun hc h => ?_)
        · refine jr_il_n (pc' := 179) rfl rfl rfl (jr_al_n (pc' := 180) rfl rfl rfl (jr_gr (pc' := 183) (r := 94) rfl rfl jlk_12_95 (.inl rfl) rfl hN jd_67 rfl rfl rfl (jr_il (pc' := 185) rfl rfl rfl ?_)))
          refine jr_ia (pc' := 186) rfl rfl (jl rfl) hN jd_94 jn_94 hs111.2 h (fun hc h => ?_)
          refine jr_il (pc' := 188) rfl rfl rfl ?_
          refine jr_reg (fun t118 => jb t118) (fun t118 => jp X (px_C X d) px_m276 Q' N 196 [some (.ref 67), some (jv x0), o27, some (jv s111.1), some (jv s111.2), o30, o31] [(jv t118), (jv s111.1)] t26 (0, 0)) h (fun t118 ht118 h => ?_) (fun R130 k119 h => ?_)
          · refine jr_add (pc' := 197) rfl rfl (jr_is_n (pc' := 198) (L' := [_, _, _, _, _, _, _]) rfl rfl (jl rfl) (jkill rfl ho27) rfl (jr_inc (pc' := 201) (L' := [_, _, _, _, _, _, _]) rfl rfl rfl (jl rfl) rfl rfl (jr_goto (pc' := 169) rfl rfl ?_)))
            exact k112 (jw (s111.1 + t118), jw (s111.2 + 1)) ⟨jg_w, jg_w⟩ h
          · refine jr_cne (pa := 191) (pb := 195) rfl rfl rfl jg_a hs111.2 h (fun hc h => ?_) (fun hc h => ?_)
            · refine jr_ic (pc' := 192) rfl rfl (jr_goto (pc' := 196) rfl rfl ?_)
              exact k119 ((1 : Int)) jb_1 h
            · refine jr_ic (pc' := 196) rfl rfl ?_
              exact k119 ((0 : Int)) jb_0 h
        · exact k116 (s111.1) hs111.1 h _ jn_i
    · refine jr_lp (fun s19 => jg s19.1) (fun s19 => ∀ o20, jn o20 → ∀ o21, jn o21 → ∀ o22, jn o22 → ∀ o23, jn o23 → jp X (px_C X d) px_m276 Q' N 25 [some (.ref 67), some (jv x0), some (jv s19.1), o20, o21, o22, o23] [] s19.2 (0, 0)) h jgc_1 (fun s19 hs19 R25 k24 h o20 ho20 o21 ho21 o22 ho22 o23 ho23 => ?_) _ jn_n _ jn_n _ jn_n _ jn_n
      refine jr_il_n (pc' := 26) rfl rfl rfl ?_
      refine jr_zeq (pa := 164) (pb := 29) rfl rfl rfl hs19 h (fun hc h => ?_) (fun hc h => ?_)
      · exact k32 (s19.2) trivial h _ jn_i _ ho20 _ ho21 _ ho22 _ ho23
      · refine jr_ic (pc' := 30) rfl rfl (jr_is_n (pc' := 31) (L' := [_, _, _, _, _, _, _]) rfl rfl (jl rfl) rfl rfl (jr_ic (pc' := 32) rfl rfl (jr_is_n (pc' := 33) (L' := [_, _, _, _, _, _, _]) rfl rfl (jl rfl) rfl rfl ?_)))
        refine jr_reg (fun t40 => jg t40.1) (fun t40 => ∀ o41, jn o41 → ∀ o42, jn o42 → ∀ o43, jn o43 → ∀ o44, jn o44 → jp X (px_C X d) px_m276 Q' N 161 [some (.ref 67), some (jv x0), some (jv t40.1), o41, o42, o43, o44] [] t40.2 (0, 0)) h (fun t40 ht40 h o41 ho41 o42 ho42 o43 ho43 o44 ho44 => ?_) (fun R46 k45 h => ?_)
        · refine jr_goto (pc' := 25) rfl rfl ?_
          exact k24 (t40.1, t40.2) ht40 h _ ho41 _ ho42 _ ho43 _ ho44
        · refine jr_lp (fun s34 => jg s34.1 ∧ jg s34.2.1) (fun s34 => ∀ o35, jn o35 → ∀ o36, jn o36 → ∀ o37, jn o37 → jp X (px_C X d) px_m276 Q' N 33 [some (.ref 67), some (jv x0), some (jv s34.1), some (jv s34.2.1), o35, o36, o37] [] s34.2.2 (0, 0)) h ⟨jgc_0, jgc_0⟩ (fun s34 hs34 R39 k38 h o35 ho35 o36 ho36 o37 ho37 => ?_) _ ho21 _ ho22 _ ho23
          refine jr_il_n (pc' := 34) rfl rfl rfl (jr_al_n (pc' := 35) rfl rfl rfl (jr_gi (pc' := 38) rfl rfl jlk_12_187 (.inl rfl) rfl hN jd_67 rfl rfl ?_))
          refine jr_cge (pa := 41) (pb := 161) rfl rfl rfl hs34.2 jg_a h (fun hc h => ?_) (fun hc h => ?_)
          · refine jr_il_n (pc' := 42) rfl rfl rfl (jr_il_n (pc' := 43) rfl rfl rfl (jr_shr (pc' := 44) rfl rfl (jr_ic (pc' := 45) rfl rfl (jr_and (pc' := 46) rfl rfl ?_))))
            refine jr_reg (fun t47 => jg t47.1) (fun t47 => ∀ o48, jn o48 → ∀ o49, jn o49 → ∀ o50, jn o50 → jp X (px_C X d) px_m276 Q' N 155 [some (.ref 67), some (jv x0), some (jv t47.1), some (jv s34.2.1), o48, o49, o50] [] t47.2 (0, 0)) h (fun t47 ht47 h o48 ho48 o49 ho49 o50 ho50 => ?_) (fun R90 k51 h => ?_)
            · refine jr_inc (pc' := 158) (L' := [_, _, _, _, _, _, _]) rfl rfl rfl (jl rfl) rfl rfl (jr_goto (pc' := 33) rfl rfl ?_)
              exact k38 (t47.1, jw (s34.2.1 + 1), t47.2) ⟨ht47, jg_w⟩ h _ ho48 _ ho49 _ ho50
            · refine jr_zne (pa := 49) (pb := 52) rfl rfl rfl jg_band h (fun hc h => ?_) (fun hc h => ?_)
              · refine jr_goto (pc' := 155) rfl rfl ?_
                exact k51 (s34.1, s34.2.2) hs34.1 h _ ho35 _ ho36 _ ho37
              · refine jr_al_n (pc' := 53) rfl rfl rfl (jr_gr (pc' := 56) (r := 76) rfl rfl jlk_12_41 (.inl rfl) rfl hN jd_67 rfl rfl rfl (jr_ic (pc' := 57) rfl rfl (jr_il_n (pc' := 58) rfl rfl rfl (jr_mul (pc' := 59) rfl rfl ?_))))
                refine jr_ia (pc' := 60) rfl rfl (jl rfl) hN jd_76 jn_76 jg_w h (fun hc h => ?_)
                refine jr_is (pc' := 62) (L' := [_, _, _, _, _, _, _]) rfl rfl (jl rfl) rfl rfl (jr_al_n (pc' := 63) rfl rfl rfl (jr_gr (pc' := 66) (r := 76) rfl rfl jlk_12_41 (.inl rfl) rfl hN jd_67 rfl rfl rfl (jr_ic (pc' := 67) rfl rfl (jr_il_n (pc' := 68) rfl rfl rfl (jr_mul (pc' := 69) rfl rfl ?_)))))
                refine jr_ic (pc' := 70) rfl rfl (jr_add (pc' := 71) rfl rfl ?_)
                refine jr_ia (pc' := 72) rfl rfl (jl rfl) hN jd_76 jn_76 jg_w h (fun hc h => ?_)
                refine jr_is (pc' := 74) (L' := [_, _, _, _, _, _, _]) rfl rfl (jl rfl) rfl rfl (jr_al_n (pc' := 75) rfl rfl rfl (jr_gr (pc' := 78) (r := 94) rfl rfl jlk_12_95 (.inl rfl) rfl hN jd_67 rfl rfl rfl (jr_il (pc' := 80) rfl rfl rfl ?_)))
                refine jr_ia (pc' := 81) rfl rfl (jl rfl) hN jd_94 jn_94 jg_a h (fun hc h => ?_)
                refine jr_al_n (pc' := 82) rfl rfl rfl (jr_gr (pc' := 85) (r := 94) rfl rfl jlk_12_95 (.inl rfl) rfl hN jd_67 rfl rfl rfl (jr_il (pc' := 87) rfl rfl rfl ?_))
                refine jr_ia (pc' := 88) rfl rfl (jl rfl) hN jd_94 jn_94 jg_a h (fun hc h => ?_)
                refine jr_reg (fun t52 => jg t52) (fun t52 => jp X (px_C X d) px_m276 Q' N 108 [some (.ref 67), some (jv x0), some (jv s34.1), some (jv s34.2.1), some (jv (ja s34.2.2 76 (jw ((2 : Int) * s34.2.1)).toNat)), some (jv (ja s34.2.2 76 (jw ((jw ((2 : Int) * s34.2.1)) + (1 : Int))).toNat)), o37] [(jv t52)] s34.2.2 (0, 0)) h (fun t52 ht52 h => ?_) (fun R79 k53 h => ?_)
                · refine jr_is (pc' := 110) (L' := [_, _, _, _, _, _, _]) rfl rfl (jl rfl) rfl rfl (jr_il_n (pc' := 111) rfl rfl rfl ?_)
                  refine jr_reg (fun t64 => jb t64) (fun t64 => jp X (px_C X d) px_m276 Q' N 136 [some (.ref 67), some (jv x0), some (jv s34.1), some (jv s34.2.1), some (jv (ja s34.2.2 76 (jw ((2 : Int) * s34.2.1)).toNat)), some (jv (ja s34.2.2 76 (jw ((jw ((2 : Int) * s34.2.1)) + (1 : Int))).toNat)), some (jv t52)] [(jv t64)] s34.2.2 (0, 0)) h (fun t64 ht64 h => ?_) (fun R78 k65 h => ?_)
                  · refine jr_is_n (pc' := 137) (L' := [_, _, _, _, _, _, _]) rfl rfl (jl rfl) rfl rfl (jr_al_n (pc' := 138) rfl rfl rfl (jr_gr (pc' := 141) (r := 94) rfl rfl jlk_12_95 (.inl rfl) rfl hN jd_67 rfl rfl rfl (jr_il (pc' := 143) rfl rfl rfl (jr_il (pc' := 145) rfl rfl rfl ?_))))
                    refine jr_ist (pc' := 146) rfl rfl (jl rfl) hN jd_94 jn_94 jg_a h (fun hc h => ?_)
                    refine jr_le h (fun m76 h => ?_)
                    refine jr_al_n (pc' := 147) rfl rfl rfl (jr_gr (pc' := 150) (r := 94) rfl rfl jlk_12_95 (.inl rfl) rfl hN jd_67 rfl rfl rfl (jr_il (pc' := 152) rfl rfl rfl (jr_il (pc' := 154) rfl rfl rfl ?_)))
                    refine jr_ist (pc' := 155) rfl rfl (jl rfl) hN jd_94 jn_94 jg_a h (fun hc h => ?_)
                    refine jr_le h (fun m77 h => ?_)
                    exact k51 (t64, m77) (jg_b ht64) h _ jn_i _ jn_i _ jn_i
                  · refine jr_zne (pa := 114) (pb := 131) rfl rfl rfl hs34.1 h (fun hc h => ?_) (fun hc h => ?_)
                    · refine jr_al_n (pc' := 115) rfl rfl rfl (jr_gr (pc' := 118) (r := 94) rfl rfl jlk_12_95 (.inl rfl) rfl hN jd_67 rfl rfl rfl (jr_il (pc' := 120) rfl rfl rfl ?_))
                      refine jr_ia (pc' := 121) rfl rfl (jl rfl) hN jd_94 jn_94 jg_a h (fun hc h => ?_)
                      refine jr_al_n (pc' := 122) rfl rfl rfl (jr_gr (pc' := 125) (r := 94) rfl rfl jlk_12_95 (.inl rfl) rfl hN jd_67 rfl rfl rfl (jr_il (pc' := 127) rfl rfl rfl ?_))
                      refine jr_ia (pc' := 128) rfl rfl (jl rfl) hN jd_94 jn_94 jg_a h (fun hc h => ?_)
                      refine jr_ceq (pa := 135) (pb := 131) rfl rfl rfl jg_a jg_a h (fun hc h => ?_) (fun hc h => ?_)
                      · refine jr_ic (pc' := 136) rfl rfl ?_
                        exact k65 ((0 : Int)) jb_0 h
                      · refine jr_ic (pc' := 132) rfl rfl (jr_goto (pc' := 136) rfl rfl ?_)
                        exact k65 ((1 : Int)) jb_1 h
                    · refine jr_ic (pc' := 132) rfl rfl (jr_goto (pc' := 136) rfl rfl ?_)
                      exact k65 ((1 : Int)) jb_1 h
                · refine jr_cge (pa := 91) (pb := 101) rfl rfl rfl jg_a jg_a h (fun hc h => ?_) (fun hc h => ?_)
                  · refine jr_al_n (pc' := 92) rfl rfl rfl (jr_gr (pc' := 95) (r := 94) rfl rfl jlk_12_95 (.inl rfl) rfl hN jd_67 rfl rfl rfl (jr_il (pc' := 97) rfl rfl rfl ?_))
                    refine jr_ia (pc' := 98) rfl rfl (jl rfl) hN jd_94 jn_94 jg_a h (fun hc h => ?_)
                    refine jr_goto (pc' := 108) rfl rfl ?_
                    exact k53 (ja s34.2.2 94 (ja s34.2.2 76 (jw ((2 : Int) * s34.2.1)).toNat).toNat) jg_a h
                  · refine jr_al_n (pc' := 102) rfl rfl rfl (jr_gr (pc' := 105) (r := 94) rfl rfl jlk_12_95 (.inl rfl) rfl hN jd_67 rfl rfl rfl (jr_il (pc' := 107) rfl rfl rfl ?_))
                    refine jr_ia (pc' := 108) rfl rfl (jl rfl) hN jd_94 jn_94 jg_a h (fun hc h => ?_)
                    exact k53 (ja s34.2.2 94 (ja s34.2.2 76 (jw ((jw ((2 : Int) * s34.2.1)) + (1 : Int))).toNat).toNat) jg_a h
          · exact k45 (s34.1, s34.2.2) hs34.1 h _ jn_i _ ho35 _ ho36 _ ho37
  · refine jr_lp (fun s1 => jg s1.1) (fun s1 => jp X (px_C X d) px_m276 Q' N 2 [some (.ref 67), some (jv x0), some (jv s1.1), none, none, none, none] [] s1.2 (0, 0)) h jgc_0 (fun s1 hs1 R3 k2 h => ?_)
    refine jr_il_n (pc' := 3) rfl rfl rfl (jr_al_n (pc' := 4) rfl rfl rfl (jr_gi (pc' := 7) rfl rfl jlk_12_184 (.inl rfl) rfl hN jd_67 rfl rfl ?_))
    refine jr_cge (pa := 10) (pb := 23) rfl rfl rfl hs1 jg_a h (fun hc h => ?_) (fun hc h => ?_)
    · refine jr_al_n (pc' := 11) rfl rfl rfl (jr_gr (pc' := 14) (r := 94) rfl rfl jlk_12_95 (.inl rfl) rfl hN jd_67 rfl rfl rfl (jr_il_n (pc' := 15) rfl rfl rfl (jr_il_n (pc' := 16) rfl rfl rfl ?_)))
      refine jr_ist (pc' := 17) rfl rfl (jl rfl) hN jd_94 jn_94 hs1 h (fun hc h => ?_)
      refine jr_le h (fun m8 h => ?_)
      refine jr_inc (pc' := 20) (L' := [_, _, _, _, _, _, _]) rfl rfl rfl (jl rfl) rfl rfl (jr_goto (pc' := 2) rfl rfl ?_)
      exact k2 (jw (s1.1 + 1), m8) jg_w h
    · exact k6 (s1.2) trivial h _ jn_i

set_option maxRecDepth 20000 in
set_option maxHeartbeats 1000000 in
theorem jc_275 {X : Nat × (Nat → Int32)} {N d : Nat} {x0 : Int} (hN : 102 ≤ N) (hd : 2 ≤ d) (hx0 : jg x0) {m : jm} {P : Int × jm → Prop} {Q : px_Q} (h : jo (jf_275 x0 m) P) (hQ : ∀ p : Int × jm, jg p.1 → P p → Q (.inl (some (jv p.1))) (jmem N p.2)) : px_C X d 275 [.ref 67, jv x0] (jmem N m) Q := by
  unfold jf_275 at h
  have hu : ju px_m275 (0, 0) := ju_0
  refine jr_in (M := px_m275) (lev := 1) (L := [some (.ref 67), some (jv x0), none, none, none, none, none]) hd rfl jbd_275 (jl rfl) rfl (fun d hd Q' hQ' => ?_)
  refine jr_al_n (pc' := 1) rfl rfl rfl (jr_ic (pc' := 2) rfl rfl (jr_pi (pc' := 5) rfl rfl jlk_12_3 (.inl rfl) rfl hN jd_67 rfl rfl ?_))
  refine jr_le h (fun m1 h => ?_)
  refine jr_al_n (pc' := 6) rfl rfl rfl (jr_il_n (pc' := 7) rfl rfl rfl (jr_ic (pc' := 8) rfl rfl (jr_ic (pc' := 9) rfl rfl ?_)))
  refine jr_cs_p (pc' := 12) [_] rfl rfl jlk_12_414 jq_247 jbd_247 (jl rfl) rfl (jl rfl) hu (fun Q' hq => jc_247 hN (Nat.le_trans (jl rfl) hd) hx0 jgc_0 jgc_1 (jo_b h) hq) (fun p2 hp2 h => ?_)
  refine jr_ic (pc' := 13) rfl rfl (jr_ic (pc' := 14) rfl rfl ?_)
  refine jr_cv_i (pc' := 17) [] rfl rfl jlk_12_233 jq_194 jbd_194 (jl rfl) rfl (jl rfl) hu rfl (jk rfl hN) (jd_67.trans jo_194.symm) (fun Q' hq => jc_194 hN (Nat.le_trans (jl rfl) hd) (jg_b hp2) jgc_1 jgc_1 (jo_b h) hq) (fun p3 hp3 h => ?_)
  refine jr_zne (pa := 20) (pb := 22) rfl rfl rfl (jg_b hp3) h (fun hc h => ?_) (fun hc h => ?_)
  · refine jr_ic (pc' := 21) rfl rfl ?_
    exact jr_ret rfl hu rfl (hQ' _ _ (hQ ((0 : Int), p3.2) jgc_0 h))
  · refine jr_al_n (pc' := 23) rfl rfl rfl (jr_ic (pc' := 24) rfl rfl (jr_al_n (pc' := 25) rfl rfl rfl (jr_gi (pc' := 28) rfl rfl jlk_12_187 (.inl rfl) rfl hN jd_67 rfl rfl (jr_shl (pc' := 29) rfl rfl (jr_ic (pc' := 30) rfl rfl ?_)))))
    refine jr_sub (pc' := 31) rfl rfl ?_
    refine jr_cv_i (pc' := 34) [] rfl rfl jlk_12_463 jq_276 jbd_276 (jl rfl) rfl (jl rfl) hu rfl (jk rfl hN) (jd_67.trans jo_276.symm) (fun Q' hq => jc_276 hN (Nat.le_trans (jl rfl) hd) jg_w (jo_b h) hq) (fun p4 hp4 h => ?_)
    refine jr_is_n (pc' := 35) (L' := [_, _, _, _, _, _, _]) rfl rfl (jl rfl) rfl rfl (jr_ic (pc' := 36) rfl rfl (jr_is_n (pc' := 37) (L' := [_, _, _, _, _, _, _]) rfl rfl (jl rfl) rfl rfl (jr_ic (pc' := 38) rfl rfl (jr_is (pc' := 40) (L' := [_, _, _, _, _, _, _]) rfl rfl (jl rfl) rfl rfl ?_))))
    refine jr_reg (fun t10 => jg t10) (fun t10 => ∀ o11, jn o11 → ∀ o12, jn o12 → ∀ o13, jn o13 → jp X (px_C X d) px_m275 Q' N 111 [some (.ref 67), some (jv x0), some (jv p4.1), some (jv t10), o11, o12, o13] [] p4.2 (0, 0)) h (fun t10 ht10 h o11 ho11 o12 ho12 o13 ho13 => ?_) (fun R15 k14 h => ?_)
    · refine jr_il_n (pc' := 112) rfl rfl rfl ?_
      refine jr_reg (fun t69 => jg t69) (fun t69 => jp X (px_C X d) px_m275 Q' N 120 [some (.ref 67), some (jv x0), some (jv p4.1), some (jv t10), o11, o12, o13] [(jv t69)] p4.2 (0, 0)) h (fun t69 ht69 h => ?_) (fun R81 k70 h => ?_)
      · exact jr_ret rfl hu rfl (hQ' _ _ (hQ (t69, p4.2) ht69 h))
      · refine jr_zne (pa := 115) (pb := 119) rfl rfl rfl hx0 h (fun hc h => ?_) (fun hc h => ?_)
        · refine jr_il_n (pc' := 116) rfl rfl rfl (jr_goto (pc' := 120) rfl rfl ?_)
          exact k70 (p4.1) hp4 h
        · refine jr_il_n (pc' := 120) rfl rfl rfl ?_
          exact k70 (t10) ht10 h
    · refine jr_lp (fun s5 => jg s5.1 ∧ jg s5.2) (fun s5 => ∀ o6, jn o6 → ∀ o7, jn o7 → jp X (px_C X d) px_m275 Q' N 40 [some (.ref 67), some (jv x0), some (jv p4.1), some (jv s5.1), some (jv s5.2), o6, o7] [] p4.2 (0, 0)) h ⟨jgc_0, jgc_0⟩ (fun s5 hs5 R9 k8 h o6 ho6 o7 ho7 => ?_) _ jn_n _ jn_n
      refine jr_il (pc' := 42) rfl rfl rfl (jr_al_n (pc' := 43) rfl rfl rfl (jr_gi (pc' := 46) rfl rfl jlk_12_184 (.inl rfl) rfl hN jd_67 rfl rfl ?_))
      refine jr_cge (pa := 49) (pb := 111) rfl rfl rfl hs5.2 jg_a h (fun hc h => ?_) (fun hc h => ?_)
      · refine jr_ic (pc' := 50) rfl rfl (jr_is (pc' := 52) (L' := [_, _, _, _, _, _, _]) rfl rfl (jl rfl) rfl rfl (jr_ic (pc' := 53) rfl rfl (jr_is (pc' := 55) (L' := [_, _, _, _, _, _, _]) rfl rfl (jl rfl) rfl rfl ?_)))
        refine jr_reg (fun t19 => jg t19) (fun t19 => ∀ o20, jn o20 → jp X (px_C X d) px_m275 Q' N 92 [some (.ref 67), some (jv x0), some (jv p4.1), some (jv s5.1), some (jv s5.2), some (jv t19), o20] [] p4.2 (0, 0)) h (fun t19 ht19 h o20 ho20 => ?_) (fun R22 k21 h => ?_)
        · refine jr_il (pc' := 94) rfl rfl rfl (jr_il_n (pc' := 95) rfl rfl rfl ?_)
          refine jr_reg (fun t46 => jg t46) (fun t46 => jp X (px_C X d) px_m275 Q' N 104 [some (.ref 67), some (jv x0), some (jv p4.1), some (jv s5.1), some (jv s5.2), some (jv t19), o20] [(jv t46)] p4.2 (0, 0)) h (fun t46 ht46 h => ?_) (fun R58 k47 h => ?_)
          · refine jr_is_n (pc' := 105) (L' := [_, _, _, _, _, _, _]) rfl rfl (jl rfl) rfl rfl (jr_inc (pc' := 108) (L' := [_, _, _, _, _, _, _]) rfl rfl rfl (jl rfl) rfl rfl (jr_goto (pc' := 40) rfl rfl ?_))
            exact k8 (t46, jw (s5.2 + 1)) ⟨ht46, jg_w⟩ h _ jn_i _ ho20
          · refine jr_cle (pa := 98) (pb := 103) rfl rfl rfl ht19 hs5.1 h (fun hc h => ?_) (fun hc h => ?_)
            · refine jr_il (pc' := 100) rfl rfl rfl (jr_goto (pc' := 104) rfl rfl ?_)
              exact k47 (t19) ht19 h
            · refine jr_il_n (pc' := 104) rfl rfl rfl ?_
              exact k47 (s5.1) hs5.1 h
        · refine jr_lp (fun s16 => jg s16.1 ∧ jg s16.2) (fun s16 => jp X (px_C X d) px_m275 Q' N 55 [some (.ref 67), some (jv x0), some (jv p4.1), some (jv s5.1), some (jv s5.2), some (jv s16.1), some (jv s16.2)] [] p4.2 (0, 0)) h ⟨jgc_0, jgc_0⟩ (fun s16 hs16 R18 k17 h => ?_)
          refine jr_il (pc' := 57) rfl rfl rfl (jr_al_n (pc' := 58) rfl rfl rfl (jr_gi (pc' := 61) rfl rfl jlk_12_184 (.inl rfl) rfl hN jd_67 rfl rfl ?_))
          refine jr_cge (pa := 64) (pb := 92) rfl rfl rfl hs16.2 jg_a h (fun hc h => ?_) (fun hc h => ?_)
          · refine jr_il (pc' := 66) rfl rfl rfl (jr_al_n (pc' := 67) rfl rfl rfl (jr_gr (pc' := 70) (r := 94) rfl rfl jlk_12_95 (.inl rfl) rfl hN jd_67 rfl rfl rfl (jr_il (pc' := 72) rfl rfl rfl ?_)))
            refine jr_ia (pc' := 73) rfl rfl (jl rfl) hN jd_94 jn_94 hs16.2 h (fun hc h => ?_)
            refine jr_il (pc' := 75) rfl rfl rfl ?_
            refine jr_reg (fun t23 => jb t23) (fun t23 => jp X (px_C X d) px_m275 Q' N 83 [some (.ref 67), some (jv x0), some (jv p4.1), some (jv s5.1), some (jv s5.2), some (jv s16.1), some (jv s16.2)] [(jv t23), (jv s16.1)] p4.2 (0, 0)) h (fun t23 ht23 h => ?_) (fun R35 k24 h => ?_)
            · refine jr_add (pc' := 84) rfl rfl (jr_is (pc' := 86) (L' := [_, _, _, _, _, _, _]) rfl rfl (jl rfl) rfl rfl (jr_inc (pc' := 89) (L' := [_, _, _, _, _, _, _]) rfl rfl rfl (jl rfl) rfl rfl (jr_goto (pc' := 55) rfl rfl ?_)))
              exact k17 (jw (s16.1 + t23), jw (s16.2 + 1)) ⟨jg_w, jg_w⟩ h
            · refine jr_cne (pa := 78) (pb := 82) rfl rfl rfl jg_a hs5.2 h (fun hc h => ?_) (fun hc h => ?_)
              · refine jr_ic (pc' := 79) rfl rfl (jr_goto (pc' := 83) rfl rfl ?_)
                exact k24 ((1 : Int)) jb_1 h
              · refine jr_ic (pc' := 83) rfl rfl ?_
                exact k24 ((0 : Int)) jb_0 h
          · exact k21 (s16.1) hs16.1 h _ jn_i
      · exact k14 (s5.1) hs5.1 h _ jn_i _ ho6 _ ho7

