/-! the pure machine follows the functions, 9 (written by wip/whole/gen/walk.py) -/
set_option maxRecDepth 20000 in
set_option maxHeartbeats 1000000 in
theorem jc_132 {X : Nat × (Nat → Int32)} {N d : Nat} {x0 : Int} {x1 : Int} (hN : 102 ≤ N) (hd : 6 ≤ d) (hx0 : jg x0) (hx1 : jg x1) {m : jm} {P : Int × jm → Prop} {Q : px_Q} (h : jo (jf_132 x0 x1 m) P) (hQ : ∀ p : Int × jm, jg p.1 → P p → Q (.inl (some (jv p.1))) (jmem N p.2)) : px_C X d 132 [.ref 56, jv x0, jv x1] (jmem N m) Q := by
  unfold jf_132 at h
  have hu : ju px_m132 (0, 0) := ju_0
  refine jr_in (M := px_m132) (lev := 5) (L := [some (.ref 56), some (jv x0), some (jv x1)]) hd rfl jbd_132 (jl rfl) rfl (fun d hd Q' hQ' => ?_)
  refine jr_al_n (pc' := 1) rfl rfl rfl (jr_il_n (pc' := 2) rfl rfl rfl ?_)
  refine jr_cv_v (pc' := 5) [] rfl rfl jlk_10_76 jq_131 jbd_131 (jl rfl) rfl (jl rfl) hu rfl (jk rfl hN) (jd_56.trans jo_131.symm) (fun Q' hq => jc_131 hN (Nat.le_trans (jl rfl) hd) hx0 (jo_b h) hq) (fun p1 hp1 h => ?_)
  refine jr_al_n (pc' := 6) rfl rfl rfl (jr_al_n (pc' := 7) rfl rfl rfl (jr_gr (pc' := 10) (r := 47) rfl rfl jlk_10_22 (.inl rfl) rfl hN jd_56 rfl rfl rfl (jr_il_n (pc' := 11) rfl rfl rfl ?_)))
  refine jr_cv_p (pc' := 14) [_] rfl rfl jlk_10_80 jq_59 jbd_59 (jl rfl) rfl (jl rfl) hu rfl (jk rfl hN) (jd_47.trans jo_59.symm) (fun Q' hq => jc_59 hN (Nat.le_trans (jl rfl) hd) (.inl rfl) hx0 (jo_b h) hq) (fun p2 hp2 h => ?_)
  refine jr_il_n (pc' := 15) rfl rfl rfl ?_
  refine jr_cv_p (pc' := 18) [] rfl rfl jlk_10_68 jq_128 jbd_128 (jl rfl) rfl (jl rfl) hu rfl (jk rfl hN) (jd_56.trans jo_128.symm) (fun Q' hq => jc_128 hN (Nat.le_trans (jl rfl) hd) hp2 hx1 (jo_b h) hq) (fun p3 hp3 h => ?_)
  exact jr_ret rfl hu rfl (hQ' _ _ (hQ (p3, p1) hp3 h))

set_option maxRecDepth 20000 in
set_option maxHeartbeats 1000000 in
theorem jc_134 {X : Nat × (Nat → Int32)} {N d : Nat} {x0 : Int} {x1 : Int} (hN : 102 ≤ N) (hd : 3 ≤ d) (hx0 : jg x0) (hx1 : jg x1) {m : jm} {P : Int → Prop} {Q : px_Q} (h : jo (jf_134 x0 x1 m) P) (hQ : ∀ p : Int, jg p → P p → Q (.inl (some (jv p))) (jmem N m)) : px_C X d 134 [.ref 56, jv x0, jv x1] (jmem N m) Q := by
  unfold jf_134 at h
  have hu : ju px_m134 (0, 0) := ju_0
  refine jr_in (M := px_m134) (lev := 2) (L := [some (.ref 56), some (jv x0), some (jv x1), none, none]) hd rfl jbd_134 (jl rfl) rfl (fun d hd Q' hQ' => ?_)
  refine jr_al_n (pc' := 1) rfl rfl rfl (jr_il_n (pc' := 2) rfl rfl rfl (jr_il_n (pc' := 3) rfl rfl rfl ?_))
  refine jr_cv_p (pc' := 6) [] rfl rfl jlk_10_68 jq_128 jbd_128 (jl rfl) rfl (jl rfl) hu rfl (jk rfl hN) (jd_56.trans jo_128.symm) (fun Q' hq => jc_128 hN (Nat.le_trans (jl rfl) hd) hx0 hx1 (jo_b h) hq) (fun p1 hp1 h => ?_)
  refine jr_is_n (pc' := 7) (L' := [_, _, _, _, _]) rfl rfl (jl rfl) rfl rfl (jr_ic (pc' := 8) rfl rfl (jr_is (pc' := 10) (L' := [_, _, _, _, _]) rfl rfl (jl rfl) rfl rfl ?_))
  refine jr_lp (fun s2 => jg s2) (fun s2 => jp X (px_C X d) px_m134 Q' N 10 [some (.ref 56), some (jv x0), some (jv x1), some (jv p1), some (jv s2)] [] m (0, 0)) h jgc_0 (fun s2 hs2 R4 k3 h => ?_)
  refine jr_il (pc' := 12) rfl rfl rfl (jr_al_n (pc' := 13) rfl rfl rfl (jr_gr (pc' := 16) (r := 3) rfl rfl jlk_10_18 (.inl rfl) rfl hN jd_56 rfl rfl rfl (jr_gi (pc' := 19) rfl rfl jlk_10_62 (.inr rfl) rfl hN jd_3 rfl rfl ?_)))
  refine jr_cge (pa := 22) (pb := 63) rfl rfl rfl hs2 jg_a h (fun hc h => ?_) (fun hc h => ?_)
  · refine jr_il_n (pc' := 23) rfl rfl rfl ?_
    refine jr_zle (pa := 26) (pb := 63) rfl rfl rfl hp1 h (fun hc h => ?_) (fun hc h => ?_)
    · refine jr_al_n (pc' := 27) rfl rfl rfl (jr_gr (pc' := 30) (r := 57) rfl rfl jlk_10_9 (.inl rfl) rfl hN jd_56 rfl rfl rfl (jr_il_n (pc' := 31) rfl rfl rfl ?_))
      refine jr_ia (pc' := 32) rfl rfl (jl rfl) hN jd_57 jn_57 hx0 h (fun hc h => ?_)
      refine jr_il (pc' := 34) rfl rfl rfl (jr_shr (pc' := 35) rfl rfl (jr_ic (pc' := 36) rfl rfl (jr_and (pc' := 37) rfl rfl (jr_ic (pc' := 38) rfl rfl ?_))))
      refine jr_cne (pa := 41) (pb := 57) rfl rfl rfl jg_band jgc_1 h (fun hc h => ?_) (fun hc h => ?_)
      · refine jr_al_n (pc' := 42) rfl rfl rfl (jr_il (pc' := 44) rfl rfl rfl (jr_il_n (pc' := 45) rfl rfl rfl ?_))
        refine jr_cv_p (pc' := 48) [] rfl rfl jlk_10_68 jq_128 jbd_128 (jl rfl) rfl (jl rfl) hu rfl (jk rfl hN) (jd_56.trans jo_128.symm) (fun Q' hq => jc_128 hN (Nat.le_trans (jl rfl) hd) hs2 hx1 (jo_b h) hq) (fun p5 hp5 h => ?_)
        refine jr_il_n (pc' := 49) rfl rfl rfl (jr_ic (pc' := 50) rfl rfl (jr_sub (pc' := 51) rfl rfl ?_))
        refine jr_cne (pa := 54) (pb := 57) rfl rfl rfl hp5 jg_w h (fun hc h => ?_) (fun hc h => ?_)
        · refine jr_il (pc' := 56) rfl rfl rfl ?_
          exact jr_ret rfl hu rfl (hQ' _ _ (hQ s2 hs2 h))
        · refine jr_inc (pc' := 60) (L' := [_, _, _, _, _]) rfl rfl rfl (jl rfl) rfl rfl (jr_goto (pc' := 10) rfl rfl ?_)
          exact k3 (jw (s2 + 1)) jg_w h
      · refine jr_inc (pc' := 60) (L' := [_, _, _, _, _]) rfl rfl rfl (jl rfl) rfl rfl (jr_goto (pc' := 10) rfl rfl ?_)
        exact k3 (jw (s2 + 1)) jg_w h
    · refine jr_ic (pc' := 64) rfl rfl ?_
      exact jr_ret rfl hu rfl (hQ' _ _ (hQ (-1 : Int) jgc_m1 h))
  · refine jr_ic (pc' := 64) rfl rfl ?_
    exact jr_ret rfl hu rfl (hQ' _ _ (hQ (-1 : Int) jgc_m1 h))

set_option maxRecDepth 20000 in
set_option maxHeartbeats 1000000 in
theorem jc_133 {X : Nat × (Nat → Int32)} {N d : Nat} {x0 : Int} {x1 : Int} (hN : 102 ≤ N) (hd : 6 ≤ d) (hx0 : jg x0) (hx1 : jg x1) {m : jm} {P : Int × jm → Prop} {Q : px_Q} (h : jo (jf_133 x0 x1 m) P) (hQ : ∀ p : Int × jm, jg p.1 → P p → Q (.inl (some (jv p.1))) (jmem N p.2)) : px_C X d 133 [.ref 56, jv x0, jv x1] (jmem N m) Q := by
  unfold jf_133 at h
  have hu : ju px_m133 (0, 0) := ju_0
  refine jr_in (M := px_m133) (lev := 5) (L := [some (.ref 56), some (jv x0), some (jv x1)]) hd rfl jbd_133 (jl rfl) rfl (fun d hd Q' hQ' => ?_)
  refine jr_al_n (pc' := 1) rfl rfl rfl (jr_il_n (pc' := 2) rfl rfl rfl ?_)
  refine jr_cv_v (pc' := 5) [] rfl rfl jlk_10_76 jq_131 jbd_131 (jl rfl) rfl (jl rfl) hu rfl (jk rfl hN) (jd_56.trans jo_131.symm) (fun Q' hq => jc_131 hN (Nat.le_trans (jl rfl) hd) hx0 (jo_b h) hq) (fun p1 hp1 h => ?_)
  refine jr_al_n (pc' := 6) rfl rfl rfl (jr_al_n (pc' := 7) rfl rfl rfl (jr_gr (pc' := 10) (r := 47) rfl rfl jlk_10_22 (.inl rfl) rfl hN jd_56 rfl rfl rfl (jr_il_n (pc' := 11) rfl rfl rfl ?_)))
  refine jr_cv_p (pc' := 14) [_] rfl rfl jlk_10_80 jq_59 jbd_59 (jl rfl) rfl (jl rfl) hu rfl (jk rfl hN) (jd_47.trans jo_59.symm) (fun Q' hq => jc_59 hN (Nat.le_trans (jl rfl) hd) (.inl rfl) hx0 (jo_b h) hq) (fun p2 hp2 h => ?_)
  refine jr_il_n (pc' := 15) rfl rfl rfl ?_
  refine jr_cv_p (pc' := 18) [] rfl rfl jlk_10_83 jq_134 jbd_134 (jl rfl) rfl (jl rfl) hu rfl (jk rfl hN) (jd_56.trans jo_134.symm) (fun Q' hq => jc_134 hN (Nat.le_trans (jl rfl) hd) hp2 hx1 (jo_b h) hq) (fun p3 hp3 h => ?_)
  exact jr_ret rfl hu rfl (hQ' _ _ (hQ (p3, p1) hp3 h))

set_option maxRecDepth 20000 in
set_option maxHeartbeats 1000000 in
theorem jc_135 {X : Nat × (Nat → Int32)} {N d : Nat} {x0 : Int} (hN : 102 ≤ N) (hd : 6 ≤ d) (hx0 : jg x0) {m : jm} {P : Int × jm → Prop} {Q : px_Q} (h : jo (jf_135 x0 m) P) (hQ : ∀ p : Int × jm, jg p.1 → P p → Q (.inl (some (jv p.1))) (jmem N p.2)) : px_C X d 135 [.ref 56, jv x0] (jmem N m) Q := by
  unfold jf_135 at h
  have hu : ju px_m135 (0, 0) := ju_0
  refine jr_in (M := px_m135) (lev := 5) (L := [some (.ref 56), some (jv x0), none, none, none, none]) hd rfl jbd_135 (jl rfl) rfl (fun d hd Q' hQ' => ?_)
  refine jr_ic (pc' := 1) rfl rfl (jr_is_n (pc' := 2) (L' := [_, _, _, _, _, _]) rfl rfl (jl rfl) rfl rfl (jr_ic (pc' := 3) rfl rfl (jr_is_n (pc' := 4) (L' := [_, _, _, _, _, _]) rfl rfl (jl rfl) rfl rfl (jr_ic (pc' := 5) rfl rfl (jr_is (pc' := 7) (L' := [_, _, _, _, _, _]) rfl rfl (jl rfl) rfl rfl ?_)))))
  refine jr_reg (fun t5 => jg t5.1) (fun t5 => ∀ o6, jn o6 → ∀ o7, jn o7 → ∀ o8, jn o8 → jp X (px_C X d) px_m135 Q' N 57 [some (.ref 56), some (jv x0), some (jv t5.1), o6, o7, o8] [] t5.2 (0, 0)) h (fun t5 ht5 h o6 ho6 o7 ho7 o8 ho8 => ?_) (fun R10 k9 h => ?_)
  · refine jr_il_n (pc' := 58) rfl rfl rfl ?_
    exact jr_ret rfl hu rfl (hQ' _ _ (hQ (t5.1, t5.2) ht5 h))
  · refine jr_lp (fun s1 => jg s1.1 ∧ jg s1.2.1 ∧ jg s1.2.2.1) (fun s1 => ∀ o2, jn o2 → jp X (px_C X d) px_m135 Q' N 7 [some (.ref 56), some (jv x0), some (jv s1.1), some (jv s1.2.1), some (jv s1.2.2.1), o2] [] s1.2.2.2 (0, 0)) h ⟨jgc_m1, jgc_m1, jgc_0⟩ (fun s1 hs1 R4 k3 h o2 ho2 => ?_) _ jn_n
    refine jr_il (pc' := 9) rfl rfl rfl (jr_al_n (pc' := 10) rfl rfl rfl (jr_gr (pc' := 13) (r := 3) rfl rfl jlk_10_18 (.inl rfl) rfl hN jd_56 rfl rfl rfl (jr_gi (pc' := 16) rfl rfl jlk_10_95 (.inr rfl) rfl hN jd_3 rfl rfl ?_)))
    refine jr_cge (pa := 19) (pb := 57) rfl rfl rfl hs1.2.2 jg_a h (fun hc h => ?_) (fun hc h => ?_)
    · refine jr_al_n (pc' := 20) rfl rfl rfl (jr_il_n (pc' := 21) rfl rfl rfl (jr_il (pc' := 23) rfl rfl rfl ?_))
      refine jr_cv_i (pc' := 26) [] rfl rfl jlk_10_98 jq_126 jbd_126 (jl rfl) rfl (jl rfl) hu rfl (jk rfl hN) (jd_56.trans jo_126.symm) (fun Q' hq => jc_126 hN (Nat.le_trans (jl rfl) hd) hx0 hs1.2.2 (jo_b h) hq) (fun p11 hp11 h => ?_)
      refine jr_is (pc' := 28) (L' := [_, _, _, _, _, _]) rfl rfl (jl rfl) rfl rfl (jr_il (pc' := 30) rfl rfl rfl (jr_ic (pc' := 31) rfl rfl ?_))
      refine jr_reg (fun t12 => jg t12.1 ∧ jg t12.2) (fun t12 => jp X (px_C X d) px_m135 Q' N 51 [some (.ref 56), some (jv x0), some (jv t12.1), some (jv t12.2), some (jv s1.2.2.1), some (jv p11.1)] [] p11.2 (0, 0)) h (fun t12 ht12 h => ?_) (fun R24 k13 h => ?_)
      · refine jr_inc (pc' := 54) (L' := [_, _, _, _, _, _]) rfl rfl rfl (jl rfl) rfl rfl (jr_goto (pc' := 7) rfl rfl ?_)
        exact k3 (t12.1, t12.2, jw (s1.2.2.1 + 1), p11.2) ⟨ht12.1, ht12.2, jg_w⟩ h _ jn_i
      · refine jr_ceq (pa := 51) (pb := 34) rfl rfl rfl hp11 jgc_m1 h (fun hc h => ?_) (fun hc h => ?_)
        · exact k13 (s1.1, s1.2.1) ⟨hs1.1, hs1.2.1⟩ h
        · refine jr_il_n (pc' := 35) rfl rfl rfl (jr_ic (pc' := 36) rfl rfl ?_)
          refine jr_ceq (pa := 45) (pb := 39) rfl rfl rfl hs1.1 jgc_m1 h (fun hc h => ?_) (fun hc h => ?_)
          · refine jr_il (pc' := 47) rfl rfl rfl (jr_is_n (pc' := 48) (L' := [_, _, _, _, _, _]) rfl rfl (jl rfl) rfl rfl (jr_il (pc' := 50) rfl rfl rfl (jr_is_n (pc' := 51) (L' := [_, _, _, _, _, _]) rfl rfl (jl rfl) rfl rfl ?_)))
            exact k13 (s1.2.2.1, p11.1) ⟨hs1.2.2, hp11⟩ h
          · refine jr_il (pc' := 41) rfl rfl rfl (jr_il_n (pc' := 42) rfl rfl rfl ?_)
            refine jr_cge (pa := 45) (pb := 51) rfl rfl rfl hp11 hs1.2.1 h (fun hc h => ?_) (fun hc h => ?_)
            · refine jr_il (pc' := 47) rfl rfl rfl (jr_is_n (pc' := 48) (L' := [_, _, _, _, _, _]) rfl rfl (jl rfl) rfl rfl (jr_il (pc' := 50) rfl rfl rfl (jr_is_n (pc' := 51) (L' := [_, _, _, _, _, _]) rfl rfl (jl rfl) rfl rfl ?_)))
              exact k13 (s1.2.2.1, p11.1) ⟨hs1.2.2, hp11⟩ h
            · exact k13 (s1.1, s1.2.1) ⟨hs1.1, hs1.2.1⟩ h
    · exact k9 (s1.1, s1.2.2.2) hs1.1 h _ jn_i _ jn_i _ ho2

set_option maxRecDepth 20000 in
set_option maxHeartbeats 1000000 in
theorem jc_137 {X : Nat × (Nat → Int32)} {N d : Nat} {x0 : Int} (hN : 102 ≤ N) (hd : 5 ≤ d) (hx0 : jg x0) {m : jm} {P : jm → Prop} {Q : px_Q} (h : jo (jf_137 x0 m) P) (hQ : ∀ p : jm, True → P p → Q (.inl (none)) (jmem N p)) : px_C X d 137 [.ref 56, jv x0] (jmem N m) Q := by
  unfold jf_137 at h
  have hu : ju px_m137 (0, 0) := ju_0
  refine jr_in (M := px_m137) (lev := 4) (L := [some (.ref 56), some (jv x0), none, none]) hd rfl jbd_137 (jl rfl) rfl (fun d hd Q' hQ' => ?_)
  refine jr_al_n (pc' := 1) rfl rfl rfl (jr_il_n (pc' := 2) rfl rfl rfl (jr_al_n (pc' := 3) rfl rfl rfl (jr_gr (pc' := 6) (r := 47) rfl rfl jlk_10_22 (.inl rfl) rfl hN jd_56 rfl rfl rfl (jr_il_n (pc' := 7) rfl rfl rfl ?_))))
  refine jr_cv_p (pc' := 10) [_, _] rfl rfl jlk_10_54 jq_60 jbd_60 (jl rfl) rfl (jl rfl) hu rfl (jk rfl hN) (jd_47.trans jo_60.symm) (fun Q' hq => jc_60 hN (Nat.le_trans (jl rfl) hd) (.inl rfl) hx0 (jo_b h) hq) (fun p1 hp1 h => ?_)
  refine jr_cv_v (pc' := 13) [] rfl rfl jlk_10_58 jq_127 jbd_127 (jl rfl) rfl (jl rfl) hu rfl (jk rfl hN) (jd_56.trans jo_127.symm) (fun Q' hq => jc_127 hN (Nat.le_trans (jl rfl) hd) hx0 hp1 (jo_b h) hq) (fun p2 hp2 h => ?_)
  refine jr_ic (pc' := 14) rfl rfl (jr_is_n (pc' := 15) (L' := [_, _, _, _]) rfl rfl (jl rfl) rfl rfl ?_)
  refine jr_reg (fun t7 => True) (fun t7 => ∀ o8, jn o8 → ∀ o9, jn o9 → jp X (px_C X d) px_m137 Q' N 79 [some (.ref 56), some (jv x0), o8, o9] [] t7 (0, 0)) h (fun t7 ht7 h o8 ho8 o9 ho9 => ?_) (fun R11 k10 h => ?_)
  · exact jr_rv rfl hu rfl (hQ' _ _ (hQ t7 trivial h))
  · refine jr_lp (fun s3 => jg s3.1) (fun s3 => ∀ o4, jn o4 → jp X (px_C X d) px_m137 Q' N 15 [some (.ref 56), some (jv x0), some (jv s3.1), o4] [] s3.2 (0, 0)) h jgc_0 (fun s3 hs3 R6 k5 h o4 ho4 => ?_) _ jn_n
    refine jr_il_n (pc' := 16) rfl rfl rfl (jr_al_n (pc' := 17) rfl rfl rfl (jr_gr (pc' := 20) (r := 3) rfl rfl jlk_10_18 (.inl rfl) rfl hN jd_56 rfl rfl rfl (jr_gi (pc' := 23) rfl rfl jlk_10_62 (.inr rfl) rfl hN jd_3 rfl rfl ?_)))
    refine jr_cge (pa := 26) (pb := 79) rfl rfl rfl hs3 jg_a h (fun hc h => ?_) (fun hc h => ?_)
    · refine jr_al_n (pc' := 27) rfl rfl rfl (jr_al_n (pc' := 28) rfl rfl rfl (jr_gr (pc' := 31) (r := 47) rfl rfl jlk_10_22 (.inl rfl) rfl hN jd_56 rfl rfl rfl (jr_il_n (pc' := 32) rfl rfl rfl ?_)))
      refine jr_cv_p (pc' := 35) [_] rfl rfl jlk_10_80 jq_59 jbd_59 (jl rfl) rfl (jl rfl) hu rfl (jk rfl hN) (jd_47.trans jo_59.symm) (fun Q' hq => jc_59 hN (Nat.le_trans (jl rfl) hd) (.inl rfl) hx0 (jo_b h) hq) (fun p12 hp12 h => ?_)
      refine jr_il_n (pc' := 36) rfl rfl rfl ?_
      refine jr_cv_p (pc' := 39) [] rfl rfl jlk_10_68 jq_128 jbd_128 (jl rfl) rfl (jl rfl) hu rfl (jk rfl hN) (jd_56.trans jo_128.symm) (fun Q' hq => jc_128 hN (Nat.le_trans (jl rfl) hd) hp12 hs3 (jo_b h) hq) (fun p13 hp13 h => ?_)
      refine jr_is_n (pc' := 40) (L' := [_, _, _, _]) rfl rfl (jl rfl) rfl rfl (jr_al_n (pc' := 41) rfl rfl rfl (jr_gr (pc' := 44) (r := 58) rfl rfl jlk_10_15 (.inl rfl) rfl hN jd_56 rfl rfl rfl (jr_il_n (pc' := 45) rfl rfl rfl (jr_il_n (pc' := 46) rfl rfl rfl (jr_ic (pc' := 47) rfl rfl ?_)))))
      refine jr_reg (fun t14 => jg t14) (fun t14 => jp X (px_C X d) px_m137 Q' N 72 [some (.ref 56), some (jv x0), some (jv s3.1), some (jv p13)] [(jv t14), (jv s3.1), (.ref 58)] s3.2 (0, 0)) h (fun t14 ht14 h => ?_) (fun R27 k15 h => ?_)
      · refine jr_ist (pc' := 73) rfl rfl (jl rfl) hN jd_58 jn_58 hs3 h (fun hc h => ?_)
        refine jr_le h (fun m26 h => ?_)
        refine jr_inc (pc' := 76) (L' := [_, _, _, _]) rfl rfl rfl (jl rfl) rfl rfl (jr_goto (pc' := 15) rfl rfl ?_)
        exact k5 (jw (s3.1 + 1), m26) jg_w h _ jn_i
      · refine jr_ceq (pa := 60) (pb := 50) rfl rfl rfl hp13 jgc_m1 h (fun hc h => ?_) (fun hc h => ?_)
        · refine jr_ic (pc' := 61) rfl rfl (jr_goto (pc' := 72) rfl rfl ?_)
          exact k15 ((-1 : Int)) jgc_m1 h
        · refine jr_al_n (pc' := 51) rfl rfl rfl (jr_gr (pc' := 54) (r := 58) rfl rfl jlk_10_15 (.inl rfl) rfl hN jd_56 rfl rfl rfl (jr_il_n (pc' := 55) rfl rfl rfl ?_))
          refine jr_ia (pc' := 56) rfl rfl (jl rfl) hN jd_58 jn_58 hs3 h (fun hc h => ?_)
          refine jr_ic (pc' := 57) rfl rfl ?_
          refine jr_cne (pa := 60) (pb := 64) rfl rfl rfl jg_a jgc_m1 h (fun hc h => ?_) (fun hc h => ?_)
          · refine jr_ic (pc' := 61) rfl rfl (jr_goto (pc' := 72) rfl rfl ?_)
            exact k15 ((-1 : Int)) jgc_m1 h
          · refine jr_al_n (pc' := 65) rfl rfl rfl (jr_gr (pc' := 68) (r := 58) rfl rfl jlk_10_15 (.inl rfl) rfl hN jd_56 rfl rfl rfl (jr_il_n (pc' := 69) rfl rfl rfl ?_))
            refine jr_ia (pc' := 70) rfl rfl (jl rfl) hN jd_58 jn_58 hs3 h (fun hc h => ?_)
            refine jr_il_n (pc' := 71) rfl rfl rfl (jr_add (pc' := 72) rfl rfl ?_)
            exact k15 (jw ((ja s3.2 58 s3.1.toNat) + p13)) jg_w h
    · exact k10 (s3.2) trivial h _ jn_i _ ho4

set_option maxRecDepth 20000 in
set_option maxHeartbeats 1000000 in
theorem jc_136 {X : Nat × (Nat → Int32)} {N d : Nat} {x0 : Int} {x1 : Int} (hN : 102 ≤ N) (hd : 6 ≤ d) (hx0 : jg x0) (hx1 : jg x1) {m : jm} {P : Int × jm → Prop} {Q : px_Q} (h : jo (jf_136 x0 x1 m) P) (hQ : ∀ p : Int × jm, jg p.1 → P p → Q (.inl (some (jv p.1))) (jmem N p.2)) : px_C X d 136 [.ref 56, jv x0, jv x1] (jmem N m) Q := by
  unfold jf_136 at h
  have hu : ju px_m136 (0, 0) := ju_0
  refine jr_in (M := px_m136) (lev := 5) (L := [some (.ref 56), some (jv x0), some (jv x1), none, none]) hd rfl jbd_136 (jl rfl) rfl (fun d hd Q' hQ' => ?_)
  refine jr_ic (pc' := 1) rfl rfl (jr_is_n (pc' := 2) (L' := [_, _, _, _, _]) rfl rfl (jl rfl) rfl rfl ?_)
  refine jr_reg (fun t4 => True) (fun t4 => ∀ o5, jn o5 → jp X (px_C X d) px_m136 Q' N 26 [some (.ref 56), some (jv x0), some (jv x1), o5, none] [] t4 (0, 0)) h (fun t4 ht4 h o5 ho5 => ?_) (fun R7 k6 h => ?_)
  · refine jr_al_n (pc' := 27) rfl rfl rfl (jr_il_n (pc' := 28) rfl rfl rfl ?_)
    refine jr_cv_v (pc' := 31) [] rfl rfl jlk_10_101 jq_137 jbd_137 (jl rfl) rfl (jl rfl) hu rfl (jk rfl hN) (jd_56.trans jo_137.symm) (fun Q' hq => jc_137 hN (Nat.le_trans (jl rfl) hd) hx0 (jo_b h) hq) (fun p19 hp19 h => ?_)
    refine jr_al_n (pc' := 32) rfl rfl rfl (jr_il_n (pc' := 33) rfl rfl rfl ?_)
    refine jr_cv_v (pc' := 36) [] rfl rfl jlk_10_101 jq_137 jbd_137 (jl rfl) rfl (jl rfl) hu rfl (jk rfl hN) (jd_56.trans jo_137.symm) (fun Q' hq => jc_137 hN (Nat.le_trans (jl rfl) hd) hx1 (jo_b h) hq) (fun p20 hp20 h => ?_)
    refine jr_ic (pc' := 37) rfl rfl (jr_is_n (pc' := 38) (L' := [_, _, _, _, _]) rfl rfl (jl rfl) rfl rfl (jr_ic (pc' := 39) rfl rfl (jr_is (pc' := 41) (L' := [_, _, _, _, _]) rfl rfl (jl rfl) rfl rfl ?_)))
    refine jr_reg (fun t24 => jg t24) (fun t24 => ∀ o25, jn o25 → jp X (px_C X d) px_m136 Q' N 94 [some (.ref 56), some (jv x0), some (jv x1), some (jv t24), o25] [] p20 (0, 0)) h (fun t24 ht24 h o25 ho25 => ?_) (fun R27 k26 h => ?_)
    · refine jr_il_n (pc' := 95) rfl rfl rfl ?_
      exact jr_ret rfl hu rfl (hQ' _ _ (hQ (t24, p20) ht24 h))
    · refine jr_lp (fun s21 => jg s21.1 ∧ jg s21.2) (fun s21 => jp X (px_C X d) px_m136 Q' N 41 [some (.ref 56), some (jv x0), some (jv x1), some (jv s21.1), some (jv s21.2)] [] p20 (0, 0)) h ⟨jgc_m1, jgc_0⟩ (fun s21 hs21 R23 k22 h => ?_)
      refine jr_il (pc' := 43) rfl rfl rfl (jr_al_n (pc' := 44) rfl rfl rfl (jr_gr (pc' := 47) (r := 3) rfl rfl jlk_10_18 (.inl rfl) rfl hN jd_56 rfl rfl rfl (jr_gi (pc' := 50) rfl rfl jlk_10_62 (.inr rfl) rfl hN jd_3 rfl rfl ?_)))
      refine jr_cge (pa := 53) (pb := 94) rfl rfl rfl hs21.2 jg_a h (fun hc h => ?_) (fun hc h => ?_)
      · refine jr_al_n (pc' := 54) rfl rfl rfl (jr_gr (pc' := 57) (r := 58) rfl rfl jlk_10_15 (.inl rfl) rfl hN jd_56 rfl rfl rfl (jr_il (pc' := 59) rfl rfl rfl ?_))
        refine jr_ia (pc' := 60) rfl rfl (jl rfl) hN jd_58 jn_58 hs21.2 h (fun hc h => ?_)
        refine jr_ic (pc' := 61) rfl rfl ?_
        refine jr_reg (fun t28 => jg t28) (fun t28 => jp X (px_C X d) px_m136 Q' N 88 [some (.ref 56), some (jv x0), some (jv x1), some (jv t28), some (jv s21.2)] [] p20 (0, 0)) h (fun t28 ht28 h => ?_) (fun R40 k29 h => ?_)
        · refine jr_inc (pc' := 91) (L' := [_, _, _, _, _]) rfl rfl rfl (jl rfl) rfl rfl (jr_goto (pc' := 41) rfl rfl ?_)
          exact k22 (t28, jw (s21.2 + 1)) ⟨ht28, jg_w⟩ h
        · refine jr_ceq (pa := 88) (pb := 64) rfl rfl rfl jg_a jgc_m1 h (fun hc h => ?_) (fun hc h => ?_)
          · exact k29 (s21.1) hs21.1 h
          · refine jr_il_n (pc' := 65) rfl rfl rfl (jr_ic (pc' := 66) rfl rfl ?_)
            refine jr_ceq (pa := 85) (pb := 69) rfl rfl rfl hs21.1 jgc_m1 h (fun hc h => ?_) (fun hc h => ?_)
            · refine jr_il (pc' := 87) rfl rfl rfl (jr_is_n (pc' := 88) (L' := [_, _, _, _, _]) rfl rfl (jl rfl) rfl rfl ?_)
              exact k29 (s21.2) hs21.2 h
            · refine jr_al_n (pc' := 70) rfl rfl rfl (jr_gr (pc' := 73) (r := 58) rfl rfl jlk_10_15 (.inl rfl) rfl hN jd_56 rfl rfl rfl (jr_il (pc' := 75) rfl rfl rfl ?_))
              refine jr_ia (pc' := 76) rfl rfl (jl rfl) hN jd_58 jn_58 hs21.2 h (fun hc h => ?_)
              refine jr_al_n (pc' := 77) rfl rfl rfl (jr_gr (pc' := 80) (r := 58) rfl rfl jlk_10_15 (.inl rfl) rfl hN jd_56 rfl rfl rfl (jr_il_n (pc' := 81) rfl rfl rfl ?_))
              refine jr_ia (pc' := 82) rfl rfl (jl rfl) hN jd_58 jn_58 hs21.1 h (fun hc h => ?_)
              refine jr_cge (pa := 85) (pb := 88) rfl rfl rfl jg_a jg_a h (fun hc h => ?_) (fun hc h => ?_)
              · refine jr_il (pc' := 87) rfl rfl rfl (jr_is_n (pc' := 88) (L' := [_, _, _, _, _]) rfl rfl (jl rfl) rfl rfl ?_)
                exact k29 (s21.2) hs21.2 h
              · exact k29 (s21.1) hs21.1 h
      · exact k26 (s21.1) hs21.1 h _ jn_i
  · refine jr_lp (fun s1 => jg s1.1) (fun s1 => jp X (px_C X d) px_m136 Q' N 2 [some (.ref 56), some (jv x0), some (jv x1), some (jv s1.1), none] [] s1.2 (0, 0)) h jgc_0 (fun s1 hs1 R3 k2 h => ?_)
    refine jr_il_n (pc' := 3) rfl rfl rfl (jr_al_n (pc' := 4) rfl rfl rfl (jr_gr (pc' := 7) (r := 3) rfl rfl jlk_10_18 (.inl rfl) rfl hN jd_56 rfl rfl rfl (jr_gi (pc' := 10) rfl rfl jlk_10_62 (.inr rfl) rfl hN jd_3 rfl rfl ?_)))
    refine jr_cge (pa := 13) (pb := 26) rfl rfl rfl hs1 jg_a h (fun hc h => ?_) (fun hc h => ?_)
    · refine jr_al_n (pc' := 14) rfl rfl rfl (jr_gr (pc' := 17) (r := 58) rfl rfl jlk_10_15 (.inl rfl) rfl hN jd_56 rfl rfl rfl (jr_il_n (pc' := 18) rfl rfl rfl (jr_ic (pc' := 19) rfl rfl ?_)))
      refine jr_ist (pc' := 20) rfl rfl (jl rfl) hN jd_58 jn_58 hs1 h (fun hc h => ?_)
      refine jr_le h (fun m8 h => ?_)
      refine jr_inc (pc' := 23) (L' := [_, _, _, _, _]) rfl rfl rfl (jl rfl) rfl rfl (jr_goto (pc' := 2) rfl rfl ?_)
      exact k2 (jw (s1.1 + 1), m8) jg_w h
    · exact k6 (s1.2) trivial h _ jn_i

set_option maxRecDepth 20000 in
set_option maxHeartbeats 1000000 in
theorem jc_139 {X : Nat × (Nat → Int32)} {N d : Nat} {x0 : Int} {x1 : Int} {x2 : Int} {x3 : Int} (hN : 102 ≤ N) (hd : 4 ≤ d) (hx0 : jg x0) (hx1 : jg x1) (hx2 : jg x2) (hx3 : jg x3) {m : jm} {P : Int × jm → Prop} {Q : px_Q} (h : jo (jf_139 x0 x1 x2 x3 m) P) (hQ : ∀ p : Int × jm, jg p.1 → P p → Q (.inl (some (jv p.1))) (jmem N p.2)) : px_C X d 139 [.ref 56, jv x0, jv x1, jv x2, jv x3] (jmem N m) Q := by
  unfold jf_139 at h
  have hu : ju px_m139 (0, 0) := ju_0
  refine jr_in (M := px_m139) (lev := 3) (L := [some (.ref 56), some (jv x0), some (jv x1), some (jv x2), some (jv x3), none, none, none, none]) hd rfl jbd_139 (jl rfl) rfl (fun d hd Q' hQ' => ?_)
  refine jr_il_n (pc' := 1) rfl rfl rfl (jr_ic (pc' := 2) rfl rfl ?_)
  refine jr_reg (fun t1 => jg t1) (fun t1 => jp X (px_C X d) px_m139 Q' N 23 [some (.ref 56), some (jv x0), some (jv x1), some (jv x2), some (jv x3), none, none, none, none] [(jv t1)] m (0, 0)) h (fun t1 ht1 h => ?_) (fun R57 k2 h => ?_)
  · refine jr_is (pc' := 25) (L' := [_, _, _, _, _, _, _, _, _]) rfl rfl (jl rfl) rfl rfl (jr_il (pc' := 27) rfl rfl rfl (jr_ic (pc' := 28) rfl rfl ?_))
    refine jr_cne (pa := 31) (pb := 33) rfl rfl rfl ht1 jgc_m1 h (fun hc h => ?_) (fun hc h => ?_)
    · refine jr_ic (pc' := 32) rfl rfl ?_
      exact jr_ret rfl hu rfl (hQ' _ _ (hQ ((0 : Int), m) jgc_0 h))
    · refine jr_al_n (pc' := 34) rfl rfl rfl (jr_gr (pc' := 37) (r := 3) rfl rfl jlk_10_18 (.inl rfl) rfl hN jd_56 rfl rfl rfl (jr_gr (pc' := 40) (r := 5) rfl rfl jlk_10_38 (.inr rfl) rfl hN jd_3 rfl rfl rfl (jr_il (pc' := 42) rfl rfl rfl ?_)))
      refine jr_ia (pc' := 43) rfl rfl (jl rfl) hN jd_5 jn_5 ht1 h (fun hc h => ?_)
      refine jr_il_n (pc' := 44) rfl rfl rfl ?_
      refine jr_reg (fun t14 => jb t14) (fun t14 => jp X (px_C X d) px_m139 Q' N 52 [some (.ref 56), some (jv x0), some (jv x1), some (jv x2), some (jv x3), some (jv t1), none, none, none] [(jv t14)] m (0, 0)) h (fun t14 ht14 h => ?_) (fun R56 k15 h => ?_)
      · refine jr_is (pc' := 54) (L' := [_, _, _, _, _, _, _, _, _]) rfl rfl (jl rfl) rfl rfl (jr_al_n (pc' := 55) rfl rfl rfl (jr_gr (pc' := 58) (r := 47) rfl rfl jlk_10_22 (.inl rfl) rfl hN jd_56 rfl rfl rfl (jr_il_n (pc' := 59) rfl rfl rfl (jr_al_n (pc' := 60) rfl rfl rfl (jr_gr (pc' := 63) (r := 47) rfl rfl jlk_10_22 (.inl rfl) rfl hN jd_56 rfl rfl rfl ?_)))))
        refine jr_il_n (pc' := 64) rfl rfl rfl (jr_il (pc' := 66) rfl rfl rfl (jr_il (pc' := 68) rfl rfl rfl (jr_ic (pc' := 69) rfl rfl ?_)))
        refine jr_cv_i (pc' := 72) [_, _] rfl rfl jlk_10_121 jq_78 jbd_78 (jl rfl) rfl (jl rfl) hu rfl (jk rfl hN) (jd_47.trans jo_78.symm) (fun Q' hq => jc_78 hN (Nat.le_trans (jl rfl) hd) (.inl rfl) hx0 ht1 (jg_b ht14) jgc_0 (jo_b h) hq) (fun p26 hp26 h => ?_)
        refine jr_cv_p (pc' := 75) [] rfl rfl jlk_10_50 jq_73 jbd_73 (jl rfl) rfl (jl rfl) hu rfl (jk rfl hN) (jd_47.trans jo_73.symm) (fun Q' hq => jc_73 hN (Nat.le_trans (jl rfl) hd) (.inl rfl) hx0 hp26 (jo_b h) hq) (fun p27 hp27 h => ?_)
        refine jr_reg (fun t28 => jg t28) (fun t28 => jp X (px_C X d) px_m139 Q' N 87 [some (.ref 56), some (jv x0), some (jv x1), some (jv x2), some (jv x3), some (jv t1), some (jv t14), none, none] [(jv t28)] p26.2 (0, 0)) h (fun t28 ht28 h => ?_) (fun R55 k29 h => ?_)
        · refine jr_is (pc' := 89) (L' := [_, _, _, _, _, _, _, _, _]) rfl rfl (jl rfl) rfl rfl (jr_al_n (pc' := 90) rfl rfl rfl (jr_gr (pc' := 93) (r := 47) rfl rfl jlk_10_22 (.inl rfl) rfl hN jd_56 rfl rfl rfl (jr_il_n (pc' := 94) rfl rfl rfl (jr_al_n (pc' := 95) rfl rfl rfl (jr_gr (pc' := 98) (r := 47) rfl rfl jlk_10_22 (.inl rfl) rfl hN jd_56 rfl rfl rfl ?_)))))
          refine jr_il_n (pc' := 99) rfl rfl rfl (jr_il (pc' := 101) rfl rfl rfl (jr_il (pc' := 103) rfl rfl rfl (jr_ic (pc' := 104) rfl rfl ?_)))
          refine jr_cv_i (pc' := 107) [_, _] rfl rfl jlk_10_121 jq_78 jbd_78 (jl rfl) rfl (jl rfl) hu rfl (jk rfl hN) (jd_47.trans jo_78.symm) (fun Q' hq => jc_78 hN (Nat.le_trans (jl rfl) hd) (.inl rfl) hx0 ht1 (jg_b ht14) jgc_1 (jo_b h) hq) (fun p40 hp40 h => ?_)
          refine jr_cv_p (pc' := 110) [] rfl rfl jlk_10_50 jq_73 jbd_73 (jl rfl) rfl (jl rfl) hu rfl (jk rfl hN) (jd_47.trans jo_73.symm) (fun Q' hq => jc_73 hN (Nat.le_trans (jl rfl) hd) (.inl rfl) hx0 hp40 (jo_b h) hq) (fun p41 hp41 h => ?_)
          refine jr_reg (fun t42 => jg t42) (fun t42 => jp X (px_C X d) px_m139 Q' N 119 [some (.ref 56), some (jv x0), some (jv x1), some (jv x2), some (jv x3), some (jv t1), some (jv t14), some (jv t28), none] [(jv t42)] p40.2 (0, 0)) h (fun t42 ht42 h => ?_) (fun R54 k43 h => ?_)
          · refine jr_is (pc' := 121) (L' := [_, _, _, _, _, _, _, _, _]) rfl rfl (jl rfl) rfl rfl (jr_il (pc' := 123) rfl rfl rfl (jr_il (pc' := 125) rfl rfl rfl (jr_add (pc' := 126) rfl rfl ?_)))
            exact jr_ret rfl hu rfl (hQ' _ _ (hQ (jw (t28 + t42), p40.2) jg_w h))
          · refine jr_zeq (pa := 118) (pb := 113) rfl rfl rfl (jg_b hp41) h (fun hc h => ?_) (fun hc h => ?_)
            · refine jr_ic (pc' := 119) rfl rfl ?_
              exact k43 ((0 : Int)) jgc_0 h
            · refine jr_il (pc' := 115) rfl rfl rfl (jr_goto (pc' := 119) rfl rfl ?_)
              exact k43 (x3) hx3 h
        · refine jr_zeq (pa := 86) (pb := 78) rfl rfl rfl (jg_b hp27) h (fun hc h => ?_) (fun hc h => ?_)
          · refine jr_ic (pc' := 87) rfl rfl ?_
            exact k29 ((0 : Int)) jgc_0 h
          · refine jr_bi (pc' := 80) rfl rfl rfl (jr_il (pc' := 82) rfl rfl rfl (jr_sub (pc' := 83) rfl rfl (jr_goto (pc' := 87) rfl rfl ?_)))
            exact k29 (jw ((16 : Int) - x3)) jg_w h
      · refine jr_cne (pa := 47) (pb := 51) rfl rfl rfl jg_a hx1 h (fun hc h => ?_) (fun hc h => ?_)
        · refine jr_ic (pc' := 48) rfl rfl (jr_goto (pc' := 52) rfl rfl ?_)
          exact k15 ((0 : Int)) jb_0 h
        · refine jr_ic (pc' := 52) rfl rfl ?_
          exact k15 ((1 : Int)) jb_1 h
  · refine jr_ceq (pa := 10) (pb := 5) rfl rfl rfl hx1 jgc_m1 h (fun hc h => ?_) (fun hc h => ?_)
    · refine jr_ic (pc' := 11) rfl rfl (jr_goto (pc' := 23) rfl rfl ?_)
      exact k2 ((-1 : Int)) jgc_m1 h
    · refine jr_il_n (pc' := 6) rfl rfl rfl (jr_ic (pc' := 7) rfl rfl ?_)
      refine jr_cne (pa := 10) (pb := 14) rfl rfl rfl hx2 jgc_m1 h (fun hc h => ?_) (fun hc h => ?_)
      · refine jr_ic (pc' := 11) rfl rfl (jr_goto (pc' := 23) rfl rfl ?_)
        exact k2 ((-1 : Int)) jgc_m1 h
      · refine jr_al_n (pc' := 15) rfl rfl rfl (jr_gr (pc' := 18) (r := 3) rfl rfl jlk_10_18 (.inl rfl) rfl hN jd_56 rfl rfl rfl (jr_il_n (pc' := 19) rfl rfl rfl (jr_il_n (pc' := 20) rfl rfl rfl ?_)))
        refine jr_cv_p (pc' := 23) [] rfl rfl jlk_10_118 jq_16 jbd_16 (jl rfl) rfl (jl rfl) hu rfl (jk rfl hN) (jd_3.trans jo_16.symm) (fun Q' hq => jc_16 hN (Nat.le_trans (jl rfl) hd) (.inl rfl) hx1 hx2 (jo_b h) hq) (fun p3 hp3 h => ?_)
        exact k2 (p3) hp3 h

set_option maxRecDepth 20000 in
set_option maxHeartbeats 1000000 in
theorem jc_138 {X : Nat × (Nat → Int32)} {N d : Nat} {x0 : Int} {x1 : Int} {x2 : Int} (hN : 102 ≤ N) (hd : 6 ≤ d) (hx0 : jg x0) (hx1 : jg x1) (hx2 : jg x2) {m : jm} {P : jm → Prop} {Q : px_Q} (h : jo (jf_138 x0 x1 x2 m) P) (hQ : ∀ p : jm, True → P p → Q (.inl (none)) (jmem N p)) : px_C X d 138 [.ref 56, jv x0, jv x1, jv x2] (jmem N m) Q := by
  unfold jf_138 at h
  have hu : ju px_m138 (0, 0) := ju_0
  refine jr_in (M := px_m138) (lev := 5) (L := [some (.ref 56), some (jv x0), some (jv x1), some (jv x2), none, none, none, none]) hd rfl jbd_138 (jl rfl) rfl (fun d hd Q' hQ' => ?_)
  refine jr_al_n (pc' := 1) rfl rfl rfl (jr_il_n (pc' := 2) rfl rfl rfl ?_)
  refine jr_cv_v (pc' := 5) [] rfl rfl jlk_10_76 jq_131 jbd_131 (jl rfl) rfl (jl rfl) hu rfl (jk rfl hN) (jd_56.trans jo_131.symm) (fun Q' hq => jc_131 hN (Nat.le_trans (jl rfl) hd) hx0 (jo_b h) hq) (fun p1 hp1 h => ?_)
  refine jr_al_n (pc' := 6) rfl rfl rfl (jr_gr (pc' := 9) (r := 47) rfl rfl jlk_10_22 (.inl rfl) rfl hN jd_56 rfl rfl rfl (jr_il_n (pc' := 10) rfl rfl rfl ?_))
  refine jr_cv_p (pc' := 13) [] rfl rfl jlk_10_80 jq_59 jbd_59 (jl rfl) rfl (jl rfl) hu rfl (jk rfl hN) (jd_47.trans jo_59.symm) (fun Q' hq => jc_59 hN (Nat.le_trans (jl rfl) hd) (.inl rfl) hx0 (jo_b h) hq) (fun p2 hp2 h => ?_)
  refine jr_is (pc' := 15) (L' := [_, _, _, _, _, _, _, _]) rfl rfl (jl rfl) rfl rfl (jr_al_n (pc' := 16) rfl rfl rfl (jr_il (pc' := 18) rfl rfl rfl (jr_il_n (pc' := 19) rfl rfl rfl ?_)))
  refine jr_cv_p (pc' := 22) [] rfl rfl jlk_10_68 jq_128 jbd_128 (jl rfl) rfl (jl rfl) hu rfl (jk rfl hN) (jd_56.trans jo_128.symm) (fun Q' hq => jc_128 hN (Nat.le_trans (jl rfl) hd) hp2 hx1 (jo_b h) hq) (fun p3 hp3 h => ?_)
  refine jr_is (pc' := 24) (L' := [_, _, _, _, _, _, _, _]) rfl rfl (jl rfl) rfl rfl (jr_al_n (pc' := 25) rfl rfl rfl (jr_il (pc' := 27) rfl rfl rfl (jr_ic (pc' := 28) rfl rfl ?_)))
  refine jr_reg (fun t4 => jgl t4) (fun t4 => jp X (px_C X d) px_m138 Q' N 36 [some (.ref 56), some (jv x0), some (jv x1), some (jv x2), some (jv p2), some (jv p3), none, none] [(jvl t4), (.ref 56)] p1 (0, 0)) h (fun t4 ht4 h => ?_) (fun R61 k5 h => ?_)
  · refine jr_pl (pc' := 39) rfl rfl jlk_10_104 (.inl rfl) rfl hN jd_56 rfl rfl ?_
    refine jr_le h (fun m16 h => ?_)
    refine jr_al_n (pc' := 40) rfl rfl rfl (jr_lc (pc' := 41) (x := 1) rfl rfl rfl (jr_pl (pc' := 44) rfl rfl jlk_10_108 (.inl rfl) rfl hN jd_56 rfl rfl ?_))
    refine jr_le h (fun m17 h => ?_)
    refine jr_ic (pc' := 45) rfl rfl (jr_is (pc' := 47) (L' := [_, _, _, _, _, _, _, _]) rfl rfl (jl rfl) rfl rfl ?_)
    refine jr_reg (fun t22 => True) (fun t22 => ∀ o23, jn o23 → ∀ o24, jn o24 → ∀ o25, jn o25 → jp X (px_C X d) px_m138 Q' N 105 [some (.ref 56), some (jv x0), some (jv x1), some (jv x2), o23, some (jv p3), o24, o25] [] t22 (0, 0)) h (fun t22 ht22 h o23 ho23 o24 ho24 o25 ho25 => ?_) (fun R27 k26 h => ?_)
    · refine jr_ic (pc' := 106) rfl rfl (jr_is (pc' := 108) (L' := [_, _, _, _, _, _, _, _]) rfl rfl (jl rfl) rfl rfl ?_)
      refine jr_reg (fun t45 => True) (fun t45 => ∀ o46, jn o46 → jp X (px_C X d) px_m138 Q' N 167 [some (.ref 56), some (jv x0), some (jv x1), some (jv x2), o23, some (jv p3), o46, o25] [] t45 (0, 0)) h (fun t45 ht45 h o46 ho46 => ?_) (fun R48 k47 h => ?_)
      · exact jr_rv rfl hu rfl (hQ' _ _ (hQ t45 trivial h))
      · refine jr_lp (fun s42 => jg s42.1) (fun s42 => jp X (px_C X d) px_m138 Q' N 108 [some (.ref 56), some (jv x0), some (jv x1), some (jv x2), o23, some (jv p3), some (jv s42.1), o25] [] s42.2 (0, 0)) h jgc_0 (fun s42 hs42 R44 k43 h => ?_)
        refine jr_il (pc' := 110) rfl rfl rfl (jr_bi (pc' := 112) rfl rfl rfl ?_)
        refine jr_cge (pa := 115) (pb := 167) rfl rfl rfl hs42 jgc_32 h (fun hc h => ?_) (fun hc h => ?_)
        · refine jr_al_n (pc' := 116) rfl rfl rfl (jr_gl (pc' := 119) rfl rfl jlk_10_108 (.inl rfl) rfl hN jd_56 rfl rfl (jr_lc (pc' := 120) (x := 1) rfl rfl rfl (jr_lcmp (pc' := 121) rfl rfl jgl_a jglc_1 ?_)))
          refine jr_zle (pa := 124) (pb := 167) rfl rfl rfl jg_cmp h (fun hc h => ?_) (fun hc h => ?_)
          · refine jr_al_n (pc' := 125) rfl rfl rfl (jr_gl (pc' := 128) rfl rfl jlk_10_104 (.inl rfl) rfl hN jd_56 rfl rfl (jr_ldl (pc' := 131) (x := 2) rfl rfl jlk_10_116 rfl (jr_lrem (pc' := 132) rfl rfl jglc_2 (by decide) (jr_lc (pc' := 133) (x := 0) rfl rfl rfl (jr_lcmp (pc' := 134) rfl rfl jgl_rem jglc_0 ?_)))))
            refine jr_zne (pa := 137) (pb := 167) rfl rfl rfl jg_cmp h (fun hc h => ?_) (fun hc h => ?_)
            · refine jr_al_n (pc' := 138) rfl rfl rfl (jr_dup (pc' := 139) rfl rfl rfl (jr_gl (pc' := 142) rfl rfl jlk_10_104 (.inl rfl) rfl hN jd_56 rfl rfl (jr_ldl (pc' := 145) (x := 2) rfl rfl jlk_10_116 rfl (jr_ldiv (pc' := 146) rfl rfl jglc_2 (by decide) (jr_pl (pc' := 149) rfl rfl jlk_10_104 (.inl rfl) rfl hN jd_56 rfl rfl ?_)))))
              refine jr_le h (fun m49 h => ?_)
              refine jr_al_n (pc' := 150) rfl rfl rfl (jr_dup (pc' := 151) rfl rfl rfl (jr_gl (pc' := 154) rfl rfl jlk_10_108 (.inl rfl) rfl hN jd_56 rfl rfl (jr_ldl (pc' := 157) (x := 2) rfl rfl jlk_10_116 rfl (jr_ldiv (pc' := 158) rfl rfl jglc_2 (by decide) (jr_pl (pc' := 161) rfl rfl jlk_10_108 (.inl rfl) rfl hN jd_56 rfl rfl ?_)))))
              refine jr_le h (fun m50 h => ?_)
              refine jr_inc (pc' := 164) (L' := [_, _, _, _, _, _, _, _]) rfl rfl rfl (jl rfl) rfl rfl (jr_goto (pc' := 108) rfl rfl ?_)
              exact k43 (jw (s42.1 + 1), m50) jg_w h
            · exact k47 (s42.2) trivial h _ jn_i
          · exact k47 (s42.2) trivial h _ jn_i
        · exact k47 (s42.2) trivial h _ jn_i
    · refine jr_lp (fun s18 => jg s18.1 ∧ jg s18.2.1) (fun s18 => ∀ o19, jn o19 → jp X (px_C X d) px_m138 Q' N 47 [some (.ref 56), some (jv x0), some (jv x1), some (jv x2), some (jv s18.1), some (jv p3), some (jv s18.2.1), o19] [] s18.2.2 (0, 0)) h ⟨hp2, jgc_0⟩ (fun s18 hs18 R21 k20 h o19 ho19 => ?_) _ jn_n
      refine jr_il (pc' := 49) rfl rfl rfl (jr_il (pc' := 51) rfl rfl rfl ?_)
      refine jr_cge (pa := 54) (pb := 105) rfl rfl rfl hs18.2 hp3 h (fun hc h => ?_) (fun hc h => ?_)
      · refine jr_al_n (pc' := 55) rfl rfl rfl (jr_il (pc' := 57) rfl rfl rfl (jr_il_n (pc' := 58) rfl rfl rfl ?_))
        refine jr_cv_p (pc' := 61) [] rfl rfl jlk_10_83 jq_134 jbd_134 (jl rfl) rfl (jl rfl) hu rfl (jk rfl hN) (jd_56.trans jo_134.symm) (fun Q' hq => jc_134 hN (Nat.le_trans (jl rfl) hd) hs18.1 hx1 (jo_b h) hq) (fun p28 hp28 h => ?_)
        refine jr_is (pc' := 63) (L' := [_, _, _, _, _, _, _, _]) rfl rfl (jl rfl) rfl rfl (jr_al_n (pc' := 64) rfl rfl rfl (jr_dup (pc' := 65) rfl rfl rfl (jr_gl (pc' := 68) rfl rfl jlk_10_104 (.inl rfl) rfl hN jd_56 rfl rfl (jr_al_n (pc' := 69) rfl rfl rfl (jr_il_n (pc' := 70) rfl rfl rfl ?_)))))
        refine jr_il (pc' := 72) rfl rfl rfl (jr_il (pc' := 74) rfl rfl rfl (jr_il_n (pc' := 75) rfl rfl rfl ?_))
        refine jr_cv_i (pc' := 78) [_, _] rfl rfl jlk_10_111 jq_139 jbd_139 (jl rfl) rfl (jl rfl) hu rfl (jk rfl hN) (jd_56.trans jo_139.symm) (fun Q' hq => jc_139 hN (Nat.le_trans (jl rfl) hd) hx0 hs18.1 hp28 hx2 (jo_b h) hq) (fun p29 hp29 h => ?_)
        refine jr_i2l (pc' := 79) rfl rfl hp29 (jr_lmul (pc' := 80) rfl rfl (jr_pl (pc' := 83) rfl rfl jlk_10_104 (.inl rfl) rfl hN jd_56 rfl rfl ?_))
        refine jr_le h (fun m30 h => ?_)
        refine jr_al_n (pc' := 84) rfl rfl rfl (jr_dup (pc' := 85) rfl rfl rfl (jr_gl (pc' := 88) rfl rfl jlk_10_108 (.inl rfl) rfl hN jd_56 rfl rfl (jr_ldl (pc' := 91) (x := 16) rfl rfl jlk_10_114 rfl (jr_lmul (pc' := 92) rfl rfl (jr_pl (pc' := 95) rfl rfl jlk_10_108 (.inl rfl) rfl hN jd_56 rfl rfl ?_)))))
        refine jr_le h (fun m31 h => ?_)
        refine jr_il (pc' := 97) rfl rfl rfl (jr_is (pc' := 99) (L' := [_, _, _, _, _, _, _, _]) rfl rfl (jl rfl) rfl rfl (jr_inc (pc' := 102) (L' := [_, _, _, _, _, _, _, _]) rfl rfl rfl (jl rfl) rfl rfl (jr_goto (pc' := 47) rfl rfl ?_)))
        exact k20 (p28, jw (s18.2.1 + 1), m31) ⟨hp28, jg_w⟩ h _ jn_i
      · exact k26 (s18.2.2) trivial h _ jn_i _ jn_i _ ho19
  · refine jr_cne (pa := 31) (pb := 35) rfl rfl rfl hp3 jgc_m1 h (fun hc h => ?_) (fun hc h => ?_)
    · refine jr_lc (pc' := 32) (x := 0) rfl rfl rfl (jr_goto (pc' := 36) rfl rfl ?_)
      exact k5 ((0 : Int)) jglc_0 h
    · refine jr_lc (pc' := 36) (x := 1) rfl rfl rfl ?_
      exact k5 ((1 : Int)) jglc_1 h

set_option maxRecDepth 20000 in
set_option maxHeartbeats 1000000 in
theorem jc_141 {X : Nat × (Nat → Int32)} {N d : Nat} {x0 : Int} {x1 : Int} {x2 : Int} {x3 : Int} {x4 : Int} (hN : 102 ≤ N) (hd : 2 ≤ d) (hx0 : jg x0) (hx1 : jg x1) (hx2 : jg x2) (hx3 : jg x3) (hx4 : jg x4) {m : jm} {P : Int × jm → Prop} {Q : px_Q} (h : jo (jf_141 x0 x1 x2 x3 x4 m) P) (hQ : ∀ p : Int × jm, jg p.1 → P p → Q (.inl (some (jv p.1))) (jmem N p.2)) : px_C X d 141 [.ref 0, jv x0, jv x1, jv x2, jv x3, jv x4] (jmem N m) Q := by
  unfold jf_141 at h
  have hu : ju px_m141 (0, 0) := ju_0
  refine jr_in (M := px_m141) (lev := 1) (L := [some (.ref 0), some (jv x0), some (jv x1), some (jv x2), some (jv x3), some (jv x4)]) hd rfl jbd_141 (jl rfl) rfl (fun d hd Q' hQ' => ?_)
  refine jr_al_n (pc' := 1) rfl rfl rfl (jr_gr (pc' := 4) (r := 1) rfl rfl jlk_11_10 (.inl rfl) rfl hN jd_0 rfl rfl rfl (jr_gi (pc' := 7) rfl rfl jlk_11_101 (.inr rfl) rfl hN jd_1 rfl rfl (jr_bi (pc' := 9) rfl rfl rfl (jr_add (pc' := 10) rfl rfl (jr_si (pc' := 13) rfl rfl rfl ?_)))))
  refine jr_cle (pa := 16) (pb := 18) rfl rfl rfl jg_w jgc_600 h (fun hc h => ?_) (fun hc h => ?_)
  · refine jr_ic (pc' := 17) rfl rfl ?_
    exact jr_ret rfl hu rfl (hQ' _ _ (hQ ((-1 : Int), m) jgc_m1 h))
  · refine jr_al_n (pc' := 19) rfl rfl rfl (jr_gr (pc' := 22) (r := 1) rfl rfl jlk_11_10 (.inl rfl) rfl hN jd_0 rfl rfl rfl (jr_il_n (pc' := 23) rfl rfl rfl ?_))
    refine jr_cv_v (pc' := 26) [] rfl rfl jlk_11_105 jq_114 jbd_114 (jl rfl) rfl (jl rfl) hu rfl (jk rfl hN) (jd_1.trans jo_114.symm) (fun Q' hq => jc_114 hN (Nat.le_trans (jl rfl) hd) hx0 (jo_b h) hq) (fun p1 hp1 h => ?_)
    refine jr_al_n (pc' := 27) rfl rfl rfl (jr_gr (pc' := 30) (r := 1) rfl rfl jlk_11_10 (.inl rfl) rfl hN jd_0 rfl rfl rfl (jr_il_n (pc' := 31) rfl rfl rfl ?_))
    refine jr_cv_v (pc' := 34) [] rfl rfl jlk_11_105 jq_114 jbd_114 (jl rfl) rfl (jl rfl) hu rfl (jk rfl hN) (jd_1.trans jo_114.symm) (fun Q' hq => jc_114 hN (Nat.le_trans (jl rfl) hd) hx1 (jo_b h) hq) (fun p2 hp2 h => ?_)
    refine jr_al_n (pc' := 35) rfl rfl rfl (jr_gr (pc' := 38) (r := 1) rfl rfl jlk_11_10 (.inl rfl) rfl hN jd_0 rfl rfl rfl (jr_il_n (pc' := 39) rfl rfl rfl ?_))
    refine jr_cv_v (pc' := 42) [] rfl rfl jlk_11_105 jq_114 jbd_114 (jl rfl) rfl (jl rfl) hu rfl (jk rfl hN) (jd_1.trans jo_114.symm) (fun Q' hq => jc_114 hN (Nat.le_trans (jl rfl) hd) hx2 (jo_b h) hq) (fun p3 hp3 h => ?_)
    refine jr_al_n (pc' := 43) rfl rfl rfl (jr_gr (pc' := 46) (r := 1) rfl rfl jlk_11_10 (.inl rfl) rfl hN jd_0 rfl rfl rfl (jr_il (pc' := 48) rfl rfl rfl ?_))
    refine jr_cv_v (pc' := 51) [] rfl rfl jlk_11_105 jq_114 jbd_114 (jl rfl) rfl (jl rfl) hu rfl (jk rfl hN) (jd_1.trans jo_114.symm) (fun Q' hq => jc_114 hN (Nat.le_trans (jl rfl) hd) hx3 (jo_b h) hq) (fun p4 hp4 h => ?_)
    refine jr_al_n (pc' := 52) rfl rfl rfl (jr_gr (pc' := 55) (r := 1) rfl rfl jlk_11_10 (.inl rfl) rfl hN jd_0 rfl rfl rfl (jr_il (pc' := 57) rfl rfl rfl ?_))
    refine jr_cv_v (pc' := 60) [] rfl rfl jlk_11_105 jq_114 jbd_114 (jl rfl) rfl (jl rfl) hu rfl (jk rfl hN) (jd_1.trans jo_114.symm) (fun Q' hq => jc_114 hN (Nat.le_trans (jl rfl) hd) hx4 (jo_b h) hq) (fun p5 hp5 h => ?_)
    refine jr_al_n (pc' := 61) rfl rfl rfl (jr_gr (pc' := 64) (r := 1) rfl rfl jlk_11_10 (.inl rfl) rfl hN jd_0 rfl rfl rfl (jr_gi (pc' := 67) rfl rfl jlk_11_101 (.inr rfl) rfl hN jd_1 rfl rfl ?_))
    exact jr_ret rfl hu rfl (hQ' _ _ (hQ (ja p5 1 1, p5) jg_a h))

set_option maxRecDepth 20000 in
set_option maxHeartbeats 1000000 in
theorem jc_142 {X : Nat × (Nat → Int32)} {N d : Nat}  (hN : 102 ≤ N) (hd : 1 ≤ d)  {m : jm} {P : Int → Prop} {Q : px_Q} (h : jo (jf_142 m) P) (hQ : ∀ p : Int, jg p → P p → Q (.inl (some (jv p))) (jmem N m)) : px_C X d 142 [.ref 0] (jmem N m) Q := by
  unfold jf_142 at h
  have hu : ju px_m142 (0, 0) := ju_0
  refine jr_in (M := px_m142) (lev := 0) (L := [some (.ref 0)]) hd rfl jbd_142 (jl rfl) rfl (fun d hd Q' hQ' => ?_)
  refine jr_al_n (pc' := 1) rfl rfl rfl (jr_gr (pc' := 4) (r := 1) rfl rfl jlk_11_10 (.inl rfl) rfl hN jd_0 rfl rfl rfl (jr_gi (pc' := 7) rfl rfl jlk_11_177 (.inr rfl) rfl hN jd_1 rfl rfl ?_))
  exact jr_ret rfl hu rfl (hQ' _ _ (hQ (ja m 1 6) jg_a h))

set_option maxRecDepth 20000 in
set_option maxHeartbeats 1000000 in
theorem jc_143 {X : Nat × (Nat → Int32)} {N d : Nat}  (hN : 102 ≤ N) (hd : 2 ≤ d)  {m : jm} {P : Int × jm → Prop} {Q : px_Q} (h : jo (jf_143 m) P) (hQ : ∀ p : Int × jm, jg p.1 → P p → Q (.inl (some (jv p.1))) (jmem N p.2)) : px_C X d 143 [.ref 0] (jmem N m) Q := by
  unfold jf_143 at h
  have hu : ju px_m143 (0, 0) := ju_0
  refine jr_in (M := px_m143) (lev := 1) (L := [some (.ref 0)]) hd rfl jbd_143 (jl rfl) rfl (fun d hd Q' hQ' => ?_)
  refine jr_al_n (pc' := 1) rfl rfl rfl (jr_gr (pc' := 4) (r := 50) rfl rfl jlk_11_65 (.inl rfl) rfl hN jd_0 rfl rfl rfl (jr_al_n (pc' := 5) rfl rfl rfl (jr_gr (pc' := 8) (r := 47) rfl rfl jlk_11_58 (.inl rfl) rfl hN jd_0 rfl rfl rfl ?_)))
  refine jr_cv_i (pc' := 11) [] rfl rfl jlk_11_180 jq_50 jbd_50 (jl rfl) rfl (jl rfl) hu rfl (jk rfl hN) (jd_50.trans jo_50.symm) (fun Q' hq => jc_50 hN (Nat.le_trans (jl rfl) hd)  (jo_b h) hq) (fun p1 hp1 h => ?_)
  refine jr_zne (pa := 14) (pb := 16) rfl rfl rfl (jg_b hp1) h (fun hc h => ?_) (fun hc h => ?_)
  · refine jr_ic (pc' := 15) rfl rfl ?_
    exact jr_ret rfl hu rfl (hQ' _ _ (hQ ((-1 : Int), p1.2) jgc_m1 h))
  · refine jr_al_n (pc' := 17) rfl rfl rfl (jr_ic (pc' := 18) rfl rfl (jr_pi (pc' := 21) rfl rfl jlk_11_135 (.inl rfl) rfl hN jd_0 rfl rfl ?_))
    refine jr_le h (fun m2 h => ?_)
    refine jr_al_n (pc' := 22) rfl rfl rfl (jr_gr (pc' := 25) (r := 50) rfl rfl jlk_11_65 (.inl rfl) rfl hN jd_0 rfl rfl rfl (jr_gi (pc' := 28) rfl rfl jlk_11_184 (.inr rfl) rfl hN jd_50 rfl rfl ?_))
    exact jr_ret rfl hu rfl (hQ' _ _ (hQ (ja m2 50 1, m2) jg_a h))

set_option maxRecDepth 20000 in
set_option maxHeartbeats 1000000 in
theorem jc_144 {X : Nat × (Nat → Int32)} {N d : Nat}  (hN : 102 ≤ N) (hd : 4 ≤ d)  {m : jm} {P : Int → Prop} {Q : px_Q} (h : jo (jf_144 m) P) (hQ : ∀ p : Int, jg p → P p → Q (.inl (some (jv p))) (jmem N m)) : px_C X d 144 [.ref 0] (jmem N m) Q := by
  unfold jf_144 at h
  have hu : ju px_m144 (0, 0) := ju_0
  refine jr_in (M := px_m144) (lev := 3) (L := [some (.ref 0)]) hd rfl jbd_144 (jl rfl) rfl (fun d hd Q' hQ' => ?_)
  refine jr_al_n (pc' := 1) rfl rfl rfl (jr_gr (pc' := 4) (r := 55) rfl rfl jlk_11_74 (.inl rfl) rfl hN jd_0 rfl rfl rfl ?_)
  refine jr_cv_p (pc' := 7) [] rfl rfl jlk_11_351 jq_35 jbd_35 (jl rfl) rfl (jl rfl) hu rfl (jk rfl hN) (jd_55.trans jo_35.symm) (fun Q' hq => jc_35 hN (Nat.le_trans (jl rfl) hd)  (jo_b h) hq) (fun p1 hp1 h => ?_)
  exact jr_ret rfl hu rfl (hQ' _ _ (hQ p1 hp1 h))

set_option maxRecDepth 20000 in
set_option maxHeartbeats 1000000 in
theorem jc_145 {X : Nat × (Nat → Int32)} {N d : Nat}  (hN : 102 ≤ N) (hd : 7 ≤ d)  {m : jm} {P : Int × jm → Prop} {Q : px_Q} (h : jo (jf_145 m) P) (hQ : ∀ p : Int × jm, jg p.1 → P p → Q (.inl (some (jv p.1))) (jmem N p.2)) : px_C X d 145 [.ref 0] (jmem N m) Q := by
  unfold jf_145 at h
  have hu : ju px_m145 (0, 0) := ju_0
  refine jr_in (M := px_m145) (lev := 6) (L := [some (.ref 0)]) hd rfl jbd_145 (jl rfl) rfl (fun d hd Q' hQ' => ?_)
  refine jr_al_n (pc' := 1) rfl rfl rfl (jr_gr (pc' := 4) (r := 59) rfl rfl jlk_11_90 (.inl rfl) rfl hN jd_0 rfl rfl rfl ?_)
  refine jr_cv_i (pc' := 7) [] rfl rfl jlk_11_377 jq_43 jbd_43 (jl rfl) rfl (jl rfl) hu rfl (jk rfl hN) (jd_59.trans jo_43.symm) (fun Q' hq => jc_43 hN (Nat.le_trans (jl rfl) hd)  (jo_b h) hq) (fun p1 hp1 h => ?_)
  exact jr_ret rfl hu rfl (hQ' _ _ (hQ (p1.1, p1.2) hp1 h))

set_option maxRecDepth 20000 in
set_option maxHeartbeats 1000000 in
theorem jc_146 {X : Nat × (Nat → Int32)} {N d : Nat}  (hN : 102 ≤ N) (hd : 2 ≤ d)  {m : jm} {P : Int × jm → Prop} {Q : px_Q} (h : jo (jf_146 m) P) (hQ : ∀ p : Int × jm, jg p.1 → P p → Q (.inl (some (jv p.1))) (jmem N p.2)) : px_C X d 146 [.ref 0] (jmem N m) Q := by
  unfold jf_146 at h
  have hu : ju px_m146 (0, 0) := ju_0
  refine jr_in (M := px_m146) (lev := 1) (L := [some (.ref 0)]) hd rfl jbd_146 (jl rfl) rfl (fun d hd Q' hQ' => ?_)
  refine jr_al_n (pc' := 1) rfl rfl rfl (jr_gr (pc' := 4) (r := 50) rfl rfl jlk_11_65 (.inl rfl) rfl hN jd_0 rfl rfl rfl (jr_al_n (pc' := 5) rfl rfl rfl (jr_gr (pc' := 8) (r := 47) rfl rfl jlk_11_58 (.inl rfl) rfl hN jd_0 rfl rfl rfl ?_)))
  refine jr_cv_i (pc' := 11) [] rfl rfl jlk_11_432 jq_51 jbd_51 (jl rfl) rfl (jl rfl) hu rfl (jk rfl hN) (jd_50.trans jo_51.symm) (fun Q' hq => jc_51 hN (Nat.le_trans (jl rfl) hd)  (jo_b h) hq) (fun p1 hp1 h => ?_)
  refine jr_reg (fun t2 => jg t2) (fun t2 => jp X (px_C X d) px_m146 Q' N 25 [some (.ref 0)] [(jv t2)] p1.2 (0, 0)) h (fun t2 ht2 h => ?_) (fun R14 k3 h => ?_)
  · exact jr_ret rfl hu rfl (hQ' _ _ (hQ (t2, p1.2) ht2 h))
  · refine jr_zeq (pa := 24) (pb := 14) rfl rfl rfl (jg_b hp1) h (fun hc h => ?_) (fun hc h => ?_)
    · refine jr_ic (pc' := 25) rfl rfl ?_
      exact k3 ((-1 : Int)) jgc_m1 h
    · refine jr_al_n (pc' := 15) rfl rfl rfl (jr_gr (pc' := 18) (r := 50) rfl rfl jlk_11_65 (.inl rfl) rfl hN jd_0 rfl rfl rfl (jr_gi (pc' := 21) rfl rfl jlk_11_435 (.inr rfl) rfl hN jd_50 rfl rfl (jr_goto (pc' := 25) rfl rfl ?_)))
      exact k3 (ja p1.2 50 5) jg_a h

set_option maxRecDepth 20000 in
set_option maxHeartbeats 1000000 in
theorem jc_147 {X : Nat × (Nat → Int32)} {N d : Nat}  (hN : 102 ≤ N) (hd : 2 ≤ d)  {m : jm} {P : Int × jm → Prop} {Q : px_Q} (h : jo (jf_147 m) P) (hQ : ∀ p : Int × jm, jg p.1 → P p → Q (.inl (some (jv p.1))) (jmem N p.2)) : px_C X d 147 [.ref 0] (jmem N m) Q := by
  unfold jf_147 at h
  have hu : ju px_m147 (0, 0) := ju_0
  refine jr_in (M := px_m147) (lev := 1) (L := [some (.ref 0)]) hd rfl jbd_147 (jl rfl) rfl (fun d hd Q' hQ' => ?_)
  refine jr_al_n (pc' := 1) rfl rfl rfl (jr_gr (pc' := 4) (r := 50) rfl rfl jlk_11_65 (.inl rfl) rfl hN jd_0 rfl rfl rfl (jr_al_n (pc' := 5) rfl rfl rfl (jr_gr (pc' := 8) (r := 47) rfl rfl jlk_11_58 (.inl rfl) rfl hN jd_0 rfl rfl rfl ?_)))
  refine jr_cv_i (pc' := 11) [] rfl rfl jlk_11_438 jq_52 jbd_52 (jl rfl) rfl (jl rfl) hu rfl (jk rfl hN) (jd_50.trans jo_52.symm) (fun Q' hq => jc_52 hN (Nat.le_trans (jl rfl) hd)  (jo_b h) hq) (fun p1 hp1 h => ?_)
  refine jr_zne (pa := 14) (pb := 16) rfl rfl rfl (jg_b hp1) h (fun hc h => ?_) (fun hc h => ?_)
  · refine jr_ic (pc' := 15) rfl rfl ?_
    exact jr_ret rfl hu rfl (hQ' _ _ (hQ ((-1 : Int), p1.2) jgc_m1 h))
  · refine jr_al_n (pc' := 17) rfl rfl rfl (jr_ic (pc' := 18) rfl rfl (jr_pi (pc' := 21) rfl rfl jlk_11_135 (.inl rfl) rfl hN jd_0 rfl rfl ?_))
    refine jr_le h (fun m2 h => ?_)
    refine jr_al_n (pc' := 22) rfl rfl rfl (jr_gr (pc' := 25) (r := 50) rfl rfl jlk_11_65 (.inl rfl) rfl hN jd_0 rfl rfl rfl (jr_gi (pc' := 28) rfl rfl jlk_11_435 (.inr rfl) rfl hN jd_50 rfl rfl ?_))
    exact jr_ret rfl hu rfl (hQ' _ _ (hQ (ja m2 50 5, m2) jg_a h))

set_option maxRecDepth 20000 in
set_option maxHeartbeats 1000000 in
theorem jc_148 {X : Nat × (Nat → Int32)} {N d : Nat} {x0 : Int} (hN : 102 ≤ N) (hd : 1 ≤ d) (hx0 : jg x0) {m : jm} {P : Int → Prop} {Q : px_Q} (h : jo (jf_148 x0 m) P) (hQ : ∀ p : Int, jg p → P p → Q (.inl (some (jv p))) (jmem N m)) : px_C X d 148 [.ref 0, jv x0] (jmem N m) Q := by
  unfold jf_148 at h
  have hu : ju px_m148 (0, 0) := ju_0
  refine jr_in (M := px_m148) (lev := 0) (L := [some (.ref 0), some (jv x0)]) hd rfl jbd_148 (jl rfl) rfl (fun d hd Q' hQ' => ?_)
  refine jr_il_n (pc' := 1) rfl rfl rfl ?_
  refine jr_zne (pa := 4) (pb := 9) rfl rfl rfl hx0 h (fun hc h => ?_) (fun hc h => ?_)
  · refine jr_al_n (pc' := 5) rfl rfl rfl (jr_gi (pc' := 8) rfl rfl jlk_11_441 (.inl rfl) rfl hN jd_0 rfl rfl ?_)
    exact jr_ret rfl hu rfl (hQ' _ _ (hQ (ja m 0 15) jg_a h))
  · refine jr_il_n (pc' := 10) rfl rfl rfl (jr_ic (pc' := 11) rfl rfl ?_)
    refine jr_reg (fun t1 => jg t1) (fun t1 => jp X (px_C X d) px_m148 Q' N 22 [some (.ref 0), some (jv x0)] [(jv t1)] m (0, 0)) h (fun t1 ht1 h => ?_) (fun R13 k2 h => ?_)
    · exact jr_ret rfl hu rfl (hQ' _ _ (hQ t1 ht1 h))
    · refine jr_cne (pa := 14) (pb := 21) rfl rfl rfl hx0 jgc_1 h (fun hc h => ?_) (fun hc h => ?_)
      · refine jr_al_n (pc' := 15) rfl rfl rfl (jr_gi (pc' := 18) rfl rfl jlk_11_444 (.inl rfl) rfl hN jd_0 rfl rfl (jr_goto (pc' := 22) rfl rfl ?_))
        exact k2 (ja m 0 16) jg_a h
      · refine jr_ic (pc' := 22) rfl rfl ?_
        exact k2 ((-1 : Int)) jgc_m1 h

set_option maxRecDepth 20000 in
set_option maxHeartbeats 1000000 in
theorem jc_149 {X : Nat × (Nat → Int32)} {N d : Nat} {x0 : Int} (hN : 102 ≤ N) (hd : 1 ≤ d) (hx0 : jg x0) {m : jm} {P : Int → Prop} {Q : px_Q} (h : jo (jf_149 x0 m) P) (hQ : ∀ p : Int, jg p → P p → Q (.inl (some (jv p))) (jmem N m)) : px_C X d 149 [.ref 0, jv x0] (jmem N m) Q := by
  unfold jf_149 at h
  have hu : ju px_m149 (0, 0) := ju_0
  refine jr_in (M := px_m149) (lev := 0) (L := [some (.ref 0), some (jv x0)]) hd rfl jbd_149 (jl rfl) rfl (fun d hd Q' hQ' => ?_)
  refine jr_il_n (pc' := 1) rfl rfl rfl ?_
  refine jo_i h (fun hc h => ?_) (fun hc0 h => ?_)
  · refine jr_tsc (pc' := 28) (0) rfl hx0 hc (by decide) rfl rfl (jr_al_n (pc' := 29) rfl rfl rfl (jr_gr (pc' := 32) (r := 50) rfl rfl jlk_11_65 (.inl rfl) rfl hN jd_0 rfl rfl rfl (jr_gi (pc' := 35) rfl rfl jlk_11_435 (.inr rfl) rfl hN jd_50 rfl rfl ?_)))
    exact jr_ret rfl hu rfl (hQ' _ _ (hQ (ja m 50 5) jg_a h))
  · refine jo_i h (fun hc h => ?_) (fun hc1 h => ?_)
    · refine jr_tsc (pc' := 36) (1) rfl hx0 hc (by decide) rfl rfl (jr_al_n (pc' := 37) rfl rfl rfl (jr_gr (pc' := 40) (r := 1) rfl rfl jlk_11_10 (.inl rfl) rfl hN jd_0 rfl rfl rfl (jr_gi (pc' := 43) rfl rfl jlk_11_101 (.inr rfl) rfl hN jd_1 rfl rfl ?_)))
      exact jr_ret rfl hu rfl (hQ' _ _ (hQ (ja m 1 1) jg_a h))
    · refine jo_i h (fun hc h => ?_) (fun hc2 h => ?_)
      · refine jr_tsc (pc' := 44) (2) rfl hx0 hc (by decide) rfl rfl (jr_al_n (pc' := 45) rfl rfl rfl (jr_gr (pc' := 48) (r := 50) rfl rfl jlk_11_65 (.inl rfl) rfl hN jd_0 rfl rfl rfl (jr_gi (pc' := 51) rfl rfl jlk_11_184 (.inr rfl) rfl hN jd_50 rfl rfl ?_)))
        exact jr_ret rfl hu rfl (hQ' _ _ (hQ (ja m 50 1) jg_a h))
      · refine jr_tsd (pc' := 52) rfl hx0 (by omega) rfl (jr_ic (pc' := 53) rfl rfl ?_)
        exact jr_ret rfl hu rfl (hQ' _ _ (hQ (-1 : Int) jgc_m1 h))

set_option maxRecDepth 20000 in
set_option maxHeartbeats 1000000 in
theorem jc_154 {X : Nat × (Nat → Int32)} {N d : Nat} {x0 : Int} (hN3 : 103 ≤ N) (hd : 1 ≤ d) (hx0 : jg x0) {m : jm} {P : Nat × jm → Prop} {Q : px_Q} (h : jo (jf_154 x0 m) P) (hQ0 : ∀ p : Nat × jm, p.1 = 0 → True → P p → Q (.inl (none)) (jmem N p.2)) (hQ1 : ∀ (p : Nat × jm) e, p.1 = e + 1 → P p → Q (.inr e) (jmem N p.2)) : px_C X d 154 [.ref 0, jv x0] (jmem N m) Q := by
  unfold jf_154 at h
  have hN : 102 ≤ N := Nat.le_of_succ_le hN3
  have hu : ju px_m154 (0, 0) := ju_0
  refine jr_inT (M := px_m154) (lev := 0) (L := [some (.ref 0), some (jv x0)]) hd hN3 rfl (jl rfl) rfl (fun d hd Q' hQ' => ?_)
  refine jr_il_n (pc' := 1) rfl rfl rfl ?_
  refine jr_zne (pa := 4) (pb := 25) rfl rfl rfl hx0 h (fun hc h => ?_) (fun hc h => ?_)
  · refine jr_al_n (pc' := 5) rfl rfl rfl (jr_dup (pc' := 6) rfl rfl rfl (jr_gi (pc' := 9) rfl rfl jlk_11_444 (.inl rfl) rfl hN jd_0 rfl rfl (jr_ic (pc' := 10) rfl rfl (jr_add (pc' := 11) rfl rfl (jr_pi (pc' := 14) rfl rfl jlk_11_444 (.inl rfl) rfl hN jd_0 rfl rfl ?_)))))
    refine jr_le h (fun m1 h => ?_)
    exact jr_thr rfl jlk_11_454 rfl (jl rfl) (jl rfl) (jl rfl) (hQ' _ _ (hQ1 (_, _) _ rfl h))
  · exact jr_rv rfl hu rfl (hQ' _ _ (hQ0 (0, m) rfl trivial h))

set_option maxRecDepth 20000 in
set_option maxHeartbeats 1000000 in
theorem jc_152 {X : Nat × (Nat → Int32)} {N d : Nat} {x0 : Int} {x1 : Int} {x2 : Int} (hN3 : 103 ≤ N) (hd : 2 ≤ d) (hx0 : jg x0) (hx1 : jg x1) (hx2 : jg x2) {m : jm} {P : Nat × jm → Prop} {Q : px_Q} (h : jo (jf_152 x0 x1 x2 m) P) (hQ0 : ∀ p : Nat × jm, p.1 = 0 → True → P p → Q (.inl (none)) (jmem N p.2)) (hQ1 : ∀ (p : Nat × jm) e, p.1 = e + 1 → P p → Q (.inr e) (jmem N p.2)) : px_C X d 152 [.ref 0, jv x0, jv x1, jv x2] (jmem N m) Q := by
  unfold jf_152 at h
  have hN : 102 ≤ N := Nat.le_of_succ_le hN3
  have hu : ju px_m152 (0, 0) := ju_0
  refine jr_inT (M := px_m152) (lev := 1) (L := [some (.ref 0), some (jv x0), some (jv x1), some (jv x2)]) hd hN3 rfl (jl rfl) rfl (fun d hd Q' hQ' => ?_)
  refine jr_al_n (pc' := 1) rfl rfl rfl (jr_il_n (pc' := 2) rfl rfl rfl (jr_il_n (pc' := 3) rfl rfl rfl (jr_il_n (pc' := 4) rfl rfl rfl ?_)))
  refine jr_cs_p (pc' := 7) [_] rfl rfl jlk_11_297 jq_153 jbd_153 (jl rfl) rfl (jl rfl) hu (fun Q' hq => jc_153 hN (Nat.le_trans (jl rfl) hd) hx0 hx1 hx2 (jo_b h) hq) (fun p1 hp1 h => ?_)
  refine jr_ct_v (pc' := 10) [] rfl rfl jlk_11_301 jq_154 (u' := (1, 6)) rfl (ju_l rfl rfl) (jl rfl) rfl (jl rfl) rfl (jk rfl hN) (jd_0.trans jo_154.symm) (fun Q' hq0 hq1 => jc_154 hN3 (Nat.le_trans (jl rfl) hd) (jg_b hp1) (jo_b h) hq0 hq1) (fun p2 h0 hp2 h => jo_i h (fun _ h => ?_) (fun hc _ => absurd h0 hc)) (fun p2 e he h => jo_i h (fun hc _ => absurd (he.symm.trans hc) (Nat.succ_ne_zero e)) (fun _ h => jh_0 rfl (ju_l rfl rfl) (hQ' _ _ (hQ1 (_, _) e he h))))
  exact jr_rv rfl (ju_l rfl rfl) rfl (hQ' _ _ (hQ0 (0, p2.2) rfl trivial h))

set_option maxRecDepth 20000 in
set_option maxHeartbeats 1000000 in
theorem jc_151 {X : Nat × (Nat → Int32)} {N d : Nat} {x0 : Int} {x1 : Int} (hN3 : 103 ≤ N) (hd : 3 ≤ d) (hx0 : jg x0) (hx1 : jg x1) {m : jm} {P : Nat × jm → Prop} {Q : px_Q} (h : jo (jf_151 x0 x1 m) P) (hQ0 : ∀ p : Nat × jm, p.1 = 0 → True → P p → Q (.inl (none)) (jmem N p.2)) (hQ1 : ∀ (p : Nat × jm) e, p.1 = e + 1 → P p → Q (.inr e) (jmem N p.2)) : px_C X d 151 [.ref 0, jv x0, jv x1] (jmem N m) Q := by
  unfold jf_151 at h
  have hN : 102 ≤ N := Nat.le_of_succ_le hN3
  have hu : ju px_m151 (0, 0) := ju_0
  refine jr_inT (M := px_m151) (lev := 2) (L := [some (.ref 0), some (jv x0), some (jv x1)]) hd hN3 rfl (jl rfl) rfl (fun d hd Q' hQ' => ?_)
  refine jr_al_n (pc' := 1) rfl rfl rfl (jr_il_n (pc' := 2) rfl rfl rfl (jr_ic (pc' := 3) rfl rfl (jr_il_n (pc' := 4) rfl rfl rfl (jr_al_n (pc' := 5) rfl rfl rfl (jr_gr (pc' := 8) (r := 1) rfl rfl jlk_11_10 (.inl rfl) rfl hN jd_0 rfl rfl rfl ?_)))))
  refine jr_gi (pc' := 11) rfl rfl jlk_11_101 (.inr rfl) rfl hN jd_1 rfl rfl (jr_min (pc' := 14) rfl rfl jlk_11_424 (jl rfl) hu hx1 jg_a ?_)
  refine jr_ct_v (pc' := 17) [] rfl rfl jlk_11_187 jq_152 (u' := (1, 6)) rfl (ju_l rfl rfl) (jl rfl) rfl (jl rfl) rfl (jk rfl hN) (jd_0.trans jo_152.symm) (fun Q' hq0 hq1 => jc_152 hN3 (Nat.le_trans (jl rfl) hd) hx0 jgc_0 (jg_min hx1 jg_a) (jo_b h) hq0 hq1) (fun p1 h0 hp1 h => jo_i h (fun _ h => ?_) (fun hc _ => absurd h0 hc)) (fun p1 e he h => jo_i h (fun hc _ => absurd (he.symm.trans hc) (Nat.succ_ne_zero e)) (fun _ h => jh_0 rfl (ju_l rfl rfl) (hQ' _ _ (hQ1 (_, _) e he h))))
  exact jr_rv rfl (ju_l rfl rfl) rfl (hQ' _ _ (hQ0 (0, p1.2) rfl trivial h))

set_option maxRecDepth 20000 in
set_option maxHeartbeats 1000000 in
theorem jc_150 {X : Nat × (Nat → Int32)} {N d : Nat} {x0 : Int} (hN3 : 103 ≤ N) (hd : 7 ≤ d) (hx0 : jg x0) {m : jm} {P : Int × Nat × jm → Prop} {Q : px_Q} (h : jo (jf_150 x0 m) P) (hQ0 : ∀ p : Int × Nat × jm, p.2.1 = 0 → jg p.1 → P p → Q (.inl (some (jv p.1))) (jmem N p.2.2)) (hQ1 : ∀ (p : Int × Nat × jm) e, p.2.1 = e + 1 → P p → Q (.inr e) (jmem N p.2.2)) : px_C X d 150 [.ref 0, jv x0] (jmem N m) Q := by
  unfold jf_150 at h
  have hN : 102 ≤ N := Nat.le_of_succ_le hN3
  have hu : ju px_m150 (0, 0) := ju_0
  refine jr_inT (M := px_m150) (lev := 6) (L := [some (.ref 0), some (jv x0)]) hd hN3 rfl (jl rfl) rfl (fun d hd Q' hQ' => ?_)
  refine jr_al_n (pc' := 1) rfl rfl rfl (jr_il_n (pc' := 2) rfl rfl rfl (jr_si (pc' := 5) rfl rfl rfl ?_))
  refine jr_ct_v (pc' := 8) [] rfl rfl jlk_11_109 jq_151 (u' := (1, 6)) rfl (ju_l rfl rfl) (jl rfl) rfl (jl rfl) rfl (jk rfl hN) (jd_0.trans jo_151.symm) (fun Q' hq0 hq1 => jc_151 hN3 (Nat.le_trans (jl rfl) hd) hx0 jgc_600 (jo_b h) hq0 hq1) (fun p1 h0 hp1 h => jo_i h (fun _ h => ?_) (fun hc _ => absurd h0 hc)) (fun p1 e he h => jo_i h (fun hc _ => absurd (he.symm.trans hc) (Nat.succ_ne_zero e)) (fun _ h => jh_0 rfl (ju_l rfl rfl) (hQ' _ _ (hQ1 (_, _, _) e he h))))
  refine jr_al_n (pc' := 9) rfl rfl rfl (jr_gr (pc' := 12) (r := 1) rfl rfl jlk_11_10 (.inl rfl) rfl hN jd_0 rfl rfl rfl (jr_il_n (pc' := 13) rfl rfl rfl ?_))
  refine jr_cv_v (pc' := 16) [] rfl rfl jlk_11_113 jq_115 jbd_115 (jl rfl) rfl (jl rfl) (ju_l rfl rfl) rfl (jk rfl hN) (jd_1.trans jo_115.symm) (fun Q' hq => jc_115 hN (Nat.le_trans (jl rfl) hd) hx0 (jo_b h) hq) (fun p2 hp2 h => ?_)
  refine jr_al_n (pc' := 17) rfl rfl rfl (jr_gr (pc' := 20) (r := 15) rfl rfl jlk_11_23 (.inl rfl) rfl hN jd_0 rfl rfl rfl (jr_al_n (pc' := 21) rfl rfl rfl (jr_gr (pc' := 24) (r := 1) rfl rfl jlk_11_10 (.inl rfl) rfl hN jd_0 rfl rfl rfl ?_)))
  refine jr_cv_i (pc' := 27) [] rfl rfl jlk_11_116 jq_11 jbd_11 (jl rfl) rfl (jl rfl) (ju_l rfl rfl) rfl (jk rfl hN) (jd_15.trans jo_11.symm) (fun Q' hq => jc_11 hN (Nat.le_trans (jl rfl) hd)  (jo_b h) hq) (fun p3 hp3 h => ?_)
  refine jr_zne (pa := 30) (pb := 41) rfl rfl rfl (jg_b hp3) h (fun hc h => ?_) (fun hc h => ?_)
  · refine jr_bi (pc' := 32) rfl rfl rfl (jr_al_n (pc' := 33) rfl rfl rfl (jr_gr (pc' := 36) (r := 1) rfl rfl jlk_11_10 (.inl rfl) rfl hN jd_0 rfl rfl rfl (jr_gi (pc' := 39) rfl rfl jlk_11_120 (.inr rfl) rfl hN jd_1 rfl rfl (jr_add (pc' := 40) rfl rfl ?_))))
    exact jr_ret rfl (ju_l rfl rfl) rfl (hQ' _ _ (hQ0 (jw ((-10 : Int) + (ja p3.2 1 5)), 0, p3.2) rfl jg_w h))
  · refine jr_al_n (pc' := 42) rfl rfl rfl (jr_gr (pc' := 45) (r := 3) rfl rfl jlk_11_19 (.inl rfl) rfl hN jd_0 rfl rfl rfl (jr_al_n (pc' := 46) rfl rfl rfl (jr_gr (pc' := 49) (r := 15) rfl rfl jlk_11_23 (.inl rfl) rfl hN jd_0 rfl rfl rfl ?_)))
    refine jr_cv_v (pc' := 52) [] rfl rfl jlk_11_123 jq_19 jbd_19 (jl rfl) rfl (jl rfl) (ju_l rfl rfl) rfl (jk rfl hN) (jd_3.trans jo_19.symm) (fun Q' hq => jc_19 hN (Nat.le_trans (jl rfl) hd)  (jo_b h) hq) (fun p4 hp4 h => ?_)
    refine jr_al_n (pc' := 53) rfl rfl rfl (jr_gr (pc' := 56) (r := 27) rfl rfl jlk_11_29 (.inl rfl) rfl hN jd_0 rfl rfl rfl ?_)
    refine jr_cv_v (pc' := 59) [] rfl rfl jlk_11_127 jq_25 jbd_25 (jl rfl) rfl (jl rfl) (ju_l rfl rfl) rfl (jk rfl hN) (jd_27.trans jo_25.symm) (fun Q' hq => jc_25 hN (Nat.le_trans (jl rfl) hd)  (jo_b h) hq) (fun p5 hp5 h => ?_)
    refine jr_al_n (pc' := 60) rfl rfl rfl (jr_gr (pc' := 63) (r := 33) rfl rfl jlk_11_39 (.inl rfl) rfl hN jd_0 rfl rfl rfl ?_)
    refine jr_cv_v (pc' := 66) [] rfl rfl jlk_11_130 jq_1 jbd_1 (jl rfl) rfl (jl rfl) (ju_l rfl rfl) rfl (jk rfl hN) (jd_33.trans jo_1.symm) (fun Q' hq => jc_1 hN (Nat.le_trans (jl rfl) hd) (.inl rfl) (jo_b h) hq) (fun p6 hp6 h => ?_)
    refine jr_al_n (pc' := 67) rfl rfl rfl (jr_gr (pc' := 70) (r := 50) rfl rfl jlk_11_65 (.inl rfl) rfl hN jd_0 rfl rfl rfl ?_)
    refine jr_cv_v (pc' := 73) [] rfl rfl jlk_11_131 jq_53 jbd_53 (jl rfl) rfl (jl rfl) (ju_l rfl rfl) rfl (jk rfl hN) (jd_50.trans jo_53.symm) (fun Q' hq => jc_53 hN (Nat.le_trans (jl rfl) hd)  (jo_b h) hq) (fun p7 hp7 h => ?_)
    refine jr_al_n (pc' := 74) rfl rfl rfl (jr_gr (pc' := 77) (r := 47) rfl rfl jlk_11_58 (.inl rfl) rfl hN jd_0 rfl rfl rfl ?_)
    refine jr_cv_v (pc' := 80) [] rfl rfl jlk_11_132 jq_74 jbd_74 (jl rfl) rfl (jl rfl) (ju_l rfl rfl) rfl (jk rfl hN) (jd_47.trans jo_74.symm) (fun Q' hq => jc_74 hN (Nat.le_trans (jl rfl) hd) (.inl rfl) (jo_b h) hq) (fun p8 hp8 h => ?_)
    refine jr_al_n (pc' := 81) rfl rfl rfl (jr_ic (pc' := 82) rfl rfl (jr_pi (pc' := 85) rfl rfl jlk_11_135 (.inl rfl) rfl hN jd_0 rfl rfl ?_))
    refine jr_le h (fun m9 h => ?_)
    refine jr_al_n (pc' := 86) rfl rfl rfl (jr_gr (pc' := 89) (r := 3) rfl rfl jlk_11_19 (.inl rfl) rfl hN jd_0 rfl rfl rfl (jr_gi (pc' := 92) rfl rfl jlk_11_138 (.inr rfl) rfl hN jd_3 rfl rfl ?_))
    exact jr_ret rfl (ju_l rfl rfl) rfl (hQ' _ _ (hQ0 (ja m9 3 3, 0, m9) rfl jg_a h))

