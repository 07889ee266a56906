/-! the pure machine follows the functions, 5 (written by wip/whole/gen/walk.py) -/
set_option maxRecDepth 20000 in
set_option maxHeartbeats 1000000 in
theorem jc_62 {X : Nat × (Nat → Int32)} {N d : Nat} {q : Nat} {x0 : Int} {x1 : Int} {x2 : Int} {x3 : Int} (hN : 102 ≤ N) (hd : 3 ≤ d) (hq : q = 0 ∨ q = 17) (hx0 : jg x0) (hx1 : jg x1) (hx2 : jg x2) (hx3 : jg x3) {m : jm} {P : Int × jm → Prop} {Q : px_Q} (h : jo (jf_62 q x0 x1 x2 x3 m) P) (hQ : ∀ p : Int × jm, jg p.1 → P p → Q (.inl (some (jv p.1))) (jmem N p.2)) : px_C X d 62 [.ref (47 + q), jv x0, jv x1, jv x2, jv x3] (jmem N m) Q := by
  unfold jf_62 at h
  rcases hq with rfl | rfl
  · have hu : ju px_m62 (0, 0) := ju_0
    try dsimp only [Nat.reduceAdd] at h
    refine jr_in (M := px_m62) (lev := 2) (L := [some (.ref 47), some (jv x0), some (jv x1), some (jv x2), some (jv x3)]) hd rfl jbd_62 (jl rfl) rfl (fun d hd Q' hQ' => ?_)
    refine jr_al_n (pc' := 1) rfl rfl rfl (jr_il_n (pc' := 2) rfl rfl rfl (jr_il_n (pc' := 3) rfl rfl rfl (jr_il_n (pc' := 4) rfl rfl rfl (jr_al_n (pc' := 5) rfl rfl rfl ?_))))
    refine jr_cv_p (pc' := 8) [_, _, _, _] rfl rfl jlk_6_131 jq_63 jbd_63 (jl rfl) rfl (jl rfl) hu rfl (jk rfl hN) (jd_47.trans jo_63.symm) (fun Q' hq => jc_63 hN (Nat.le_trans (jl rfl) hd) (.inl rfl) (jo_b h) hq) (fun p1 hp1 h => ?_)
    refine jr_cv_v (pc' := 11) [] rfl rfl jlk_6_138 jq_64 jbd_64 (jl rfl) rfl (jl rfl) hu rfl (jk rfl hN) (jd_47.trans jo_64.symm) (fun Q' hq => jc_64 hN (Nat.le_trans (jl rfl) hd) (.inl rfl) hx0 hx1 hx2 hp1 (jo_b h) hq) (fun p2 hp2 h => ?_)
    refine jr_al_n (pc' := 12) rfl rfl rfl (jr_il (pc' := 14) rfl rfl rfl ?_)
    refine jr_cv_v (pc' := 17) [] rfl rfl jlk_6_145 jq_71 jbd_71 (jl rfl) rfl (jl rfl) hu rfl (jk rfl hN) (jd_47.trans jo_71.symm) (fun Q' hq => jc_71 hN (Nat.le_trans (jl rfl) hd) (.inl rfl) hx3 (jo_b h) hq) (fun p3 hp3 h => ?_)
    refine jr_al_n (pc' := 18) rfl rfl rfl (jr_gr (pc' := 21) (r := 27) rfl rfl jlk_6_24 (.inl rfl) rfl hN jd_47 rfl rfl rfl (jr_al_n (pc' := 22) rfl rfl rfl (jr_gr (pc' := 25) (r := 49) rfl rfl jlk_6_17 (.inl rfl) rfl hN jd_47 rfl rfl rfl ?_)))
    refine jr_cv_i (pc' := 28) [] rfl rfl jlk_6_81 jq_23 jbd_23 (jl rfl) rfl (jl rfl) hu rfl (jk rfl hN) (jd_27.trans jo_23.symm) (fun Q' hq => jc_23 hN (Nat.le_trans (jl rfl) hd) (.inl rfl) (jo_b h) hq) (fun p4 hp4 h => ?_)
    exact jr_ret rfl hu rfl (hQ' _ _ (hQ (p4.1, p4.2) hp4 h))
  · have hu : ju px_m62 (0, 0) := ju_0
    try dsimp only [Nat.reduceAdd] at h
    refine jr_in (M := px_m62) (lev := 2) (L := [some (.ref 64), some (jv x0), some (jv x1), some (jv x2), some (jv x3)]) hd rfl jbd_62 (jl rfl) rfl (fun d hd Q' hQ' => ?_)
    refine jr_al_n (pc' := 1) rfl rfl rfl (jr_il_n (pc' := 2) rfl rfl rfl (jr_il_n (pc' := 3) rfl rfl rfl (jr_il_n (pc' := 4) rfl rfl rfl (jr_al_n (pc' := 5) rfl rfl rfl ?_))))
    refine jr_cv_p (pc' := 8) [_, _, _, _] rfl rfl jlk_6_131 jq_63 jbd_63 (jl rfl) rfl (jl rfl) hu rfl (jk rfl hN) (jd_64.trans jo_63.symm) (fun Q' hq => jc_63 hN (Nat.le_trans (jl rfl) hd) (.inr rfl) (jo_b h) hq) (fun p1 hp1 h => ?_)
    refine jr_cv_v (pc' := 11) [] rfl rfl jlk_6_138 jq_64 jbd_64 (jl rfl) rfl (jl rfl) hu rfl (jk rfl hN) (jd_64.trans jo_64.symm) (fun Q' hq => jc_64 hN (Nat.le_trans (jl rfl) hd) (.inr rfl) hx0 hx1 hx2 hp1 (jo_b h) hq) (fun p2 hp2 h => ?_)
    refine jr_al_n (pc' := 12) rfl rfl rfl (jr_il (pc' := 14) rfl rfl rfl ?_)
    refine jr_cv_v (pc' := 17) [] rfl rfl jlk_6_145 jq_71 jbd_71 (jl rfl) rfl (jl rfl) hu rfl (jk rfl hN) (jd_64.trans jo_71.symm) (fun Q' hq => jc_71 hN (Nat.le_trans (jl rfl) hd) (.inr rfl) hx3 (jo_b h) hq) (fun p3 hp3 h => ?_)
    refine jr_al_n (pc' := 18) rfl rfl rfl (jr_gr (pc' := 21) (r := 27) rfl rfl jlk_6_24 (.inl rfl) rfl hN jd_64 rfl rfl rfl (jr_al_n (pc' := 22) rfl rfl rfl (jr_gr (pc' := 25) (r := 66) rfl rfl jlk_6_17 (.inl rfl) rfl hN jd_64 rfl rfl rfl ?_)))
    refine jr_cv_i (pc' := 28) [] rfl rfl jlk_6_81 jq_23 jbd_23 (jl rfl) rfl (jl rfl) hu rfl (jk rfl hN) (jd_27.trans jo_23.symm) (fun Q' hq => jc_23 hN (Nat.le_trans (jl rfl) hd) (.inr rfl) (jo_b h) hq) (fun p4 hp4 h => ?_)
    exact jr_ret rfl hu rfl (hQ' _ _ (hQ (p4.1, p4.2) hp4 h))

set_option maxRecDepth 20000 in
set_option maxHeartbeats 1000000 in
theorem jc_73 {X : Nat × (Nat → Int32)} {N d : Nat} {q : Nat} {x0 : Int} {x1 : Int} (hN : 102 ≤ N) (hd : 1 ≤ d) (hq : q = 0 ∨ q = 17) (hx0 : jg x0) (hx1 : jg x1) {m : jm} {P : Int → Prop} {Q : px_Q} (h : jo (jf_73 q x0 x1 m) P) (hQ : ∀ p : Int, jb p → P p → Q (.inl (some (jv p))) (jmem N m)) : px_C X d 73 [.ref (47 + q), jv x0, jv x1] (jmem N m) Q := by
  unfold jf_73 at h
  rcases hq with rfl | rfl
  · have hu : ju px_m73 (0, 0) := ju_0
    try dsimp only [Nat.reduceAdd] at h
    refine jr_in (M := px_m73) (lev := 0) (L := [some (.ref 47), some (jv x0), some (jv x1)]) hd rfl jbd_73 (jl rfl) rfl (fun d hd Q' hQ' => ?_)
    refine jr_il_n (pc' := 1) rfl rfl rfl (jr_abs (pc' := 4) rfl rfl jlk_6_149 (jl rfl) hu hx1 (jr_al_n (pc' := 5) rfl rfl rfl (jr_gr (pc' := 8) (r := 3) rfl rfl jlk_6_20 (.inl rfl) rfl hN jd_47 rfl rfl rfl (jr_gr (pc' := 11) (r := 9) rfl rfl jlk_6_152 (.inr rfl) rfl hN jd_3 rfl rfl rfl (jr_il_n (pc' := 12) rfl rfl rfl ?_)))))
    refine jr_ia (pc' := 13) rfl rfl (jl rfl) hN jd_9 jn_9 hx0 h (fun hc h => ?_)
    refine jr_reg (fun t1 => jb t1) (fun t1 => jp X (px_C X d) px_m73 Q' N 21 [some (.ref 47), some (jv x0), some (jv x1)] [(jv t1)] m (0, 0)) h (fun t1 ht1 h => ?_) (fun R13 k2 h => ?_)
    · exact jr_retb rfl hu rfl ht1 (hQ' _ _ (hQ t1 ht1 h))
    · refine jr_cgt (pa := 20) (pb := 16) rfl rfl rfl (jg_abs hx1) jg_a h (fun hc h => ?_) (fun hc h => ?_)
      · refine jr_ic (pc' := 21) rfl rfl ?_
        exact k2 ((0 : Int)) jb_0 h
      · refine jr_ic (pc' := 17) rfl rfl (jr_goto (pc' := 21) rfl rfl ?_)
        exact k2 ((1 : Int)) jb_1 h
  · have hu : ju px_m73 (0, 0) := ju_0
    try dsimp only [Nat.reduceAdd] at h
    refine jr_in (M := px_m73) (lev := 0) (L := [some (.ref 64), some (jv x0), some (jv x1)]) hd rfl jbd_73 (jl rfl) rfl (fun d hd Q' hQ' => ?_)
    refine jr_il_n (pc' := 1) rfl rfl rfl (jr_abs (pc' := 4) rfl rfl jlk_6_149 (jl rfl) hu hx1 (jr_al_n (pc' := 5) rfl rfl rfl (jr_gr (pc' := 8) (r := 3) rfl rfl jlk_6_20 (.inl rfl) rfl hN jd_64 rfl rfl rfl (jr_gr (pc' := 11) (r := 9) rfl rfl jlk_6_152 (.inr rfl) rfl hN jd_3 rfl rfl rfl (jr_il_n (pc' := 12) rfl rfl rfl ?_)))))
    refine jr_ia (pc' := 13) rfl rfl (jl rfl) hN jd_9 jn_9 hx0 h (fun hc h => ?_)
    refine jr_reg (fun t1 => jb t1) (fun t1 => jp X (px_C X d) px_m73 Q' N 21 [some (.ref 64), some (jv x0), some (jv x1)] [(jv t1)] m (0, 0)) h (fun t1 ht1 h => ?_) (fun R13 k2 h => ?_)
    · exact jr_retb rfl hu rfl ht1 (hQ' _ _ (hQ t1 ht1 h))
    · refine jr_cgt (pa := 20) (pb := 16) rfl rfl rfl (jg_abs hx1) jg_a h (fun hc h => ?_) (fun hc h => ?_)
      · refine jr_ic (pc' := 21) rfl rfl ?_
        exact k2 ((0 : Int)) jb_0 h
      · refine jr_ic (pc' := 17) rfl rfl (jr_goto (pc' := 21) rfl rfl ?_)
        exact k2 ((1 : Int)) jb_1 h

set_option maxRecDepth 20000 in
set_option maxHeartbeats 1000000 in
theorem jc_127 {X : Nat × (Nat → Int32)} {N d : Nat} {x0 : Int} {x1 : Int} (hN : 102 ≤ N) (hd : 4 ≤ d) (hx0 : jg x0) (hx1 : jg x1) {m : jm} {P : jm → Prop} {Q : px_Q} (h : jo (jf_127 x0 x1 m) P) (hQ : ∀ p : jm, True → P p → Q (.inl (none)) (jmem N p)) : px_C X d 127 [.ref 56, jv x0, jv x1] (jmem N m) Q := by
  unfold jf_127 at h
  have hu : ju px_m127 (0, 0) := ju_0
  refine jr_in (M := px_m127) (lev := 3) (L := [some (.ref 56), some (jv x0), some (jv x1), none, none, none]) hd rfl jbd_127 (jl rfl) rfl (fun d hd Q' hQ' => ?_)
  refine jr_al_n (pc' := 1) rfl rfl rfl (jr_gr (pc' := 4) (r := 57) rfl rfl jlk_10_9 (.inl rfl) rfl hN jd_56 rfl rfl rfl (jr_ic (pc' := 5) rfl rfl ?_))
  refine jr_cs_v (pc' := 8) [] rfl rfl jlk_10_26 jq_334 jbd_334 (jl rfl) rfl (jl rfl) hu (fun Q' hq => jc_334 hN (Nat.le_trans (jl rfl) hd) ⟨jl rfl, jd_57⟩ jgc_0 (jo_b h) hq) (fun p1 hp1 h => ?_)
  refine jr_ic (pc' := 9) rfl rfl (jr_is_n (pc' := 10) (L' := [_, _, _, _, _, _]) rfl rfl (jl rfl) rfl rfl ?_)
  refine jr_reg (fun t7 => True) (fun t7 => ∀ o8, jn o8 → ∀ o9, jn o9 → ∀ o10, jn o10 → jp X (px_C X d) px_m127 Q' N 121 [some (.ref 56), some (jv x0), some (jv x1), o8, o9, o10] [] t7 (0, 0)) h (fun t7 ht7 h o8 ho8 o9 ho9 o10 ho10 => ?_) (fun R12 k11 h => ?_)
  · exact jr_rv rfl hu rfl (hQ' _ _ (hQ t7 trivial h))
  · refine jr_lp (fun s2 => jg s2.1) (fun s2 => ∀ o3, jn o3 → ∀ o4, jn o4 → jp X (px_C X d) px_m127 Q' N 10 [some (.ref 56), some (jv x0), some (jv x1), some (jv s2.1), o3, o4] [] s2.2 (0, 0)) h jgc_0 (fun s2 hs2 R6 k5 h o3 ho3 o4 ho4 => ?_) _ jn_n _ jn_n
    refine jr_il_n (pc' := 11) rfl rfl rfl (jr_al_n (pc' := 12) rfl rfl rfl (jr_gr (pc' := 15) (r := 3) rfl rfl jlk_10_18 (.inl rfl) rfl hN jd_56 rfl rfl rfl (jr_gi (pc' := 18) rfl rfl jlk_10_32 (.inr rfl) rfl hN jd_3 rfl rfl ?_)))
    refine jr_cge (pa := 21) (pb := 121) rfl rfl rfl hs2 jg_a h (fun hc h => ?_) (fun hc h => ?_)
    · refine jr_al_n (pc' := 22) rfl rfl rfl (jr_gr (pc' := 25) (r := 3) rfl rfl jlk_10_18 (.inl rfl) rfl hN jd_56 rfl rfl rfl (jr_gr (pc' := 28) (r := 5) rfl rfl jlk_10_38 (.inr rfl) rfl hN jd_3 rfl rfl rfl (jr_il_n (pc' := 29) rfl rfl rfl ?_)))
      refine jr_ia (pc' := 30) rfl rfl (jl rfl) hN jd_5 jn_5 hs2 h (fun hc h => ?_)
      refine jr_is (pc' := 32) (L' := [_, _, _, _, _, _]) rfl rfl (jl rfl) rfl rfl (jr_al_n (pc' := 33) rfl rfl rfl (jr_gr (pc' := 36) (r := 3) rfl rfl jlk_10_18 (.inl rfl) rfl hN jd_56 rfl rfl rfl (jr_gr (pc' := 39) (r := 6) rfl rfl jlk_10_41 (.inr rfl) rfl hN jd_3 rfl rfl rfl (jr_il_n (pc' := 40) rfl rfl rfl ?_))))
      refine jr_ia (pc' := 41) rfl rfl (jl rfl) hN jd_6 jn_6 hs2 h (fun hc h => ?_)
      refine jr_is (pc' := 43) (L' := [_, _, _, _, _, _]) rfl rfl (jl rfl) rfl rfl (jr_al_n (pc' := 44) rfl rfl rfl (jr_gr (pc' := 47) (r := 47) rfl rfl jlk_10_22 (.inl rfl) rfl hN jd_56 rfl rfl rfl (jr_il_n (pc' := 48) rfl rfl rfl (jr_al_n (pc' := 49) rfl rfl rfl (jr_gr (pc' := 52) (r := 47) rfl rfl jlk_10_22 (.inl rfl) rfl hN jd_56 rfl rfl rfl ?_)))))
      refine jr_il_n (pc' := 53) rfl rfl rfl (jr_il_n (pc' := 54) rfl rfl rfl (jr_ic (pc' := 55) rfl rfl (jr_il_n (pc' := 56) rfl rfl rfl ?_)))
      refine jr_cv_i (pc' := 59) [_, _] rfl rfl jlk_10_44 jq_62 jbd_62 (jl rfl) rfl (jl rfl) hu rfl (jk rfl hN) (jd_47.trans jo_62.symm) (fun Q' hq => jc_62 hN (Nat.le_trans (jl rfl) hd) (.inl rfl) hx0 hs2 jgc_0 hx1 (jo_b h) hq) (fun p13 hp13 h => ?_)
      refine jr_cv_p (pc' := 62) [] rfl rfl jlk_10_50 jq_73 jbd_73 (jl rfl) rfl (jl rfl) hu rfl (jk rfl hN) (jd_47.trans jo_73.symm) (fun Q' hq => jc_73 hN (Nat.le_trans (jl rfl) hd) (.inl rfl) hx0 hp13 (jo_b h) hq) (fun p14 hp14 h => ?_)
      refine jr_reg (fun t15 => True) (fun t15 => jp X (px_C X d) px_m127 Q' N 79 [some (.ref 56), some (jv x0), some (jv x1), some (jv s2.1), some (jv (ja s2.2 5 s2.1.toNat)), some (jv (ja s2.2 6 s2.1.toNat))] [] t15 (0, 0)) h (fun t15 ht15 h => ?_) (fun R44 k16 h => ?_)
      · refine jr_al_n (pc' := 80) rfl rfl rfl (jr_gr (pc' := 83) (r := 47) rfl rfl jlk_10_22 (.inl rfl) rfl hN jd_56 rfl rfl rfl (jr_il_n (pc' := 84) rfl rfl rfl (jr_al_n (pc' := 85) rfl rfl rfl (jr_gr (pc' := 88) (r := 47) rfl rfl jlk_10_22 (.inl rfl) rfl hN jd_56 rfl rfl rfl (jr_il_n (pc' := 89) rfl rfl rfl ?_)))))
        refine jr_il_n (pc' := 90) rfl rfl rfl (jr_ic (pc' := 91) rfl rfl (jr_il_n (pc' := 92) rfl rfl rfl ?_))
        refine jr_cv_i (pc' := 95) [_, _] rfl rfl jlk_10_44 jq_62 jbd_62 (jl rfl) rfl (jl rfl) hu rfl (jk rfl hN) (jd_47.trans jo_62.symm) (fun Q' hq => jc_62 hN (Nat.le_trans (jl rfl) hd) (.inl rfl) hx0 hs2 jgc_1 hx1 (jo_b h) hq) (fun p28 hp28 h => ?_)
        refine jr_cv_p (pc' := 98) [] rfl rfl jlk_10_50 jq_73 jbd_73 (jl rfl) rfl (jl rfl) hu rfl (jk rfl hN) (jd_47.trans jo_73.symm) (fun Q' hq => jc_73 hN (Nat.le_trans (jl rfl) hd) (.inl rfl) hx0 hp28 (jo_b h) hq) (fun p29 hp29 h => ?_)
        refine jr_reg (fun t30 => True) (fun t30 => jp X (px_C X d) px_m127 Q' N 115 [some (.ref 56), some (jv x0), some (jv x1), some (jv s2.1), some (jv (ja s2.2 5 s2.1.toNat)), some (jv (ja s2.2 6 s2.1.toNat))] [] t30 (0, 0)) h (fun t30 ht30 h => ?_) (fun R43 k31 h => ?_)
        · refine jr_inc (pc' := 118) (L' := [_, _, _, _, _, _]) rfl rfl rfl (jl rfl) rfl rfl (jr_goto (pc' := 10) rfl rfl ?_)
          exact k5 (jw (s2.1 + 1), t30) jg_w h _ jn_i _ jn_i
        · refine jr_zeq (pa := 115) (pb := 101) rfl rfl rfl (jg_b hp29) h (fun hc h => ?_) (fun hc h => ?_)
          · exact k31 (p28.2) trivial h
          · refine jr_al_n (pc' := 102) rfl rfl rfl (jr_gr (pc' := 105) (r := 57) rfl rfl jlk_10_9 (.inl rfl) rfl hN jd_56 rfl rfl rfl (jr_il (pc' := 107) rfl rfl rfl (jr_dup2 (pc' := 108) rfl rfl rfl rfl ?_)))
            refine jr_ia (pc' := 109) rfl rfl (jl rfl) hN jd_57 jn_57 jg_a h (fun hc h => ?_)
            refine jr_ic (pc' := 110) rfl rfl (jr_il (pc' := 112) rfl rfl rfl (jr_shl (pc' := 113) rfl rfl (jr_or (pc' := 114) rfl rfl ?_)))
            refine jr_ist (pc' := 115) rfl rfl (jl rfl) hN jd_57 jn_57 jg_a h (fun hc h => ?_)
            refine jr_le h (fun m32 h => ?_)
            exact k31 (m32) trivial h
      · refine jr_zeq (pa := 79) (pb := 65) rfl rfl rfl (jg_b hp14) h (fun hc h => ?_) (fun hc h => ?_)
        · exact k16 (p13.2) trivial h
        · refine jr_al_n (pc' := 66) rfl rfl rfl (jr_gr (pc' := 69) (r := 57) rfl rfl jlk_10_9 (.inl rfl) rfl hN jd_56 rfl rfl rfl (jr_il (pc' := 71) rfl rfl rfl (jr_dup2 (pc' := 72) rfl rfl rfl rfl ?_)))
          refine jr_ia (pc' := 73) rfl rfl (jl rfl) hN jd_57 jn_57 jg_a h (fun hc h => ?_)
          refine jr_ic (pc' := 74) rfl rfl (jr_il (pc' := 76) rfl rfl rfl (jr_shl (pc' := 77) rfl rfl (jr_or (pc' := 78) rfl rfl ?_)))
          refine jr_ist (pc' := 79) rfl rfl (jl rfl) hN jd_57 jn_57 jg_a h (fun hc h => ?_)
          refine jr_le h (fun m17 h => ?_)
          exact k16 (m17) trivial h
    · exact k11 (s2.2) trivial h _ jn_i _ ho3 _ ho4

set_option maxRecDepth 20000 in
set_option maxHeartbeats 1000000 in
theorem jc_129 {X : Nat × (Nat → Int32)} {N d : Nat} {x0 : Int} (hN : 102 ≤ N) (hd : 1 ≤ d) (hx0 : jg x0) {m : jm} {P : Int → Prop} {Q : px_Q} (h : jo (jf_129 x0 m) P) (hQ : ∀ p : Int, jg p → P p → Q (.inl (some (jv p))) (jmem N m)) : px_C X d 129 [.ref 56, jv x0] (jmem N m) Q := by
  unfold jf_129 at h
  have hu : ju px_m129 (0, 0) := ju_0
  refine jr_in (M := px_m129) (lev := 0) (L := [some (.ref 56), some (jv x0), none, none]) hd rfl jbd_129 (jl rfl) rfl (fun d hd Q' hQ' => ?_)
  refine jr_il_n (pc' := 1) rfl rfl rfl (jr_is_n (pc' := 2) (L' := [_, _, _, _]) rfl rfl (jl rfl) rfl rfl (jr_ic (pc' := 3) rfl rfl (jr_is_n (pc' := 4) (L' := [_, _, _, _]) rfl rfl (jl rfl) rfl rfl ?_)))
  refine jr_reg (fun t4 => jg t4) (fun t4 => ∀ o5, jn o5 → jp X (px_C X d) px_m129 Q' N 43 [some (.ref 56), some (jv x0), some (jv t4), o5] [] m (0, 0)) h (fun t4 ht4 h o5 ho5 => ?_) (fun R7 k6 h => ?_)
  · refine jr_il_n (pc' := 44) rfl rfl rfl ?_
    exact jr_ret rfl hu rfl (hQ' _ _ (hQ t4 ht4 h))
  · refine jr_lp (fun s1 => jg s1.1 ∧ jg s1.2) (fun s1 => jp X (px_C X d) px_m129 Q' N 4 [some (.ref 56), some (jv x0), some (jv s1.1), some (jv s1.2)] [] m (0, 0)) h ⟨hx0, jgc_0⟩ (fun s1 hs1 R3 k2 h => ?_)
    refine jr_il_n (pc' := 5) rfl rfl rfl (jr_al_n (pc' := 6) rfl rfl rfl (jr_gr (pc' := 9) (r := 3) rfl rfl jlk_10_18 (.inl rfl) rfl hN jd_56 rfl rfl rfl (jr_gi (pc' := 12) rfl rfl jlk_10_62 (.inr rfl) rfl hN jd_3 rfl rfl ?_)))
    refine jr_cge (pa := 15) (pb := 43) rfl rfl rfl hs1.2 jg_a h (fun hc h => ?_) (fun hc h => ?_)
    · refine jr_il_n (pc' := 16) rfl rfl rfl (jr_il_n (pc' := 17) rfl rfl rfl (jr_il_n (pc' := 18) rfl rfl rfl (jr_shr (pc' := 19) rfl rfl (jr_ic (pc' := 20) rfl rfl (jr_and (pc' := 21) rfl rfl ?_)))))
      refine jr_ic (pc' := 22) rfl rfl ?_
      refine jr_reg (fun t8 => jg t8) (fun t8 => jp X (px_C X d) px_m129 Q' N 35 [some (.ref 56), some (jv x0), some (jv s1.1), some (jv s1.2)] [(jv t8), (jv s1.1)] m (0, 0)) h (fun t8 ht8 h => ?_) (fun R20 k9 h => ?_)
      · refine jr_or (pc' := 36) rfl rfl (jr_is_n (pc' := 37) (L' := [_, _, _, _]) rfl rfl (jl rfl) rfl rfl (jr_inc (pc' := 40) (L' := [_, _, _, _]) rfl rfl rfl (jl rfl) rfl rfl (jr_goto (pc' := 4) rfl rfl ?_)))
        exact k2 (jbor s1.1 t8, jw (s1.2 + 1)) ⟨jg_bor, jg_w⟩ h
      · refine jr_cne (pa := 25) (pb := 34) rfl rfl rfl jg_band jgc_1 h (fun hc h => ?_) (fun hc h => ?_)
        · refine jr_al_n (pc' := 26) rfl rfl rfl (jr_gr (pc' := 29) (r := 57) rfl rfl jlk_10_9 (.inl rfl) rfl hN jd_56 rfl rfl rfl (jr_il_n (pc' := 30) rfl rfl rfl ?_))
          refine jr_ia (pc' := 31) rfl rfl (jl rfl) hN jd_57 jn_57 hs1.2 h (fun hc h => ?_)
          refine jr_goto (pc' := 35) rfl rfl ?_
          exact k9 (ja m 57 s1.2.toNat) jg_a h
        · refine jr_ic (pc' := 35) rfl rfl ?_
          exact k9 ((0 : Int)) jgc_0 h
    · exact k6 (s1.1) hs1.1 h _ jn_i

set_option maxRecDepth 20000 in
set_option maxHeartbeats 1000000 in
theorem jc_128 {X : Nat × (Nat → Int32)} {N d : Nat} {x0 : Int} {x1 : Int} (hN : 102 ≤ N) (hd : 2 ≤ d) (hx0 : jg x0) (hx1 : jg x1) {m : jm} {P : Int → Prop} {Q : px_Q} (h : jo (jf_128 x0 x1 m) P) (hQ : ∀ p : Int, jg p → P p → Q (.inl (some (jv p))) (jmem N m)) : px_C X d 128 [.ref 56, jv x0, jv x1] (jmem N m) Q := by
  unfold jf_128 at h
  have hu : ju px_m128 (0, 0) := ju_0
  refine jr_in (M := px_m128) (lev := 1) (L := [some (.ref 56), some (jv x0), some (jv x1), none, none]) hd rfl jbd_128 (jl rfl) rfl (fun d hd Q' hQ' => ?_)
  refine jr_il_n (pc' := 1) rfl rfl rfl (jr_ic (pc' := 2) rfl rfl ?_)
  refine jr_cne (pa := 5) (pb := 7) rfl rfl rfl hx0 jgc_m1 h (fun hc h => ?_) (fun hc h => ?_)
  · refine jr_ic (pc' := 6) rfl rfl ?_
    exact jr_ret rfl hu rfl (hQ' _ _ (hQ (-1 : Int) jgc_m1 h))
  · refine jr_ic (pc' := 8) rfl rfl (jr_il_n (pc' := 9) rfl rfl rfl (jr_shl (pc' := 10) rfl rfl (jr_is_n (pc' := 11) (L' := [_, _, _, _, _]) rfl rfl (jl rfl) rfl rfl (jr_ic (pc' := 12) rfl rfl (jr_is (pc' := 14) (L' := [_, _, _, _, _]) rfl rfl (jl rfl) rfl rfl ?_)))))
    refine jr_lp (fun s1 => jg s1.1 ∧ jg s1.2) (fun s1 => jp X (px_C X d) px_m128 Q' N 14 [some (.ref 56), some (jv x0), some (jv x1), some (jv s1.1), some (jv s1.2)] [] m (0, 0)) h ⟨jg_shl, jgc_0⟩ (fun s1 hs1 R3 k2 h => ?_)
    refine jr_il (pc' := 16) rfl rfl rfl (jr_bi (pc' := 18) rfl rfl rfl ?_)
    refine jr_cge (pa := 21) (pb := 45) rfl rfl rfl hs1.2 jgc_8 h (fun hc h => ?_) (fun hc h => ?_)
    · refine jr_il_n (pc' := 22) rfl rfl rfl (jr_il_n (pc' := 23) rfl rfl rfl (jr_shr (pc' := 24) rfl rfl (jr_ic (pc' := 25) rfl rfl (jr_and (pc' := 26) rfl rfl (jr_ic (pc' := 27) rfl rfl ?_)))))
      refine jr_cne (pa := 30) (pb := 33) rfl rfl rfl jg_band jgc_1 h (fun hc h => ?_) (fun hc h => ?_)
      · refine jr_il (pc' := 32) rfl rfl rfl ?_
        exact jr_ret rfl hu rfl (hQ' _ _ (hQ s1.2 hs1.2 h))
      · refine jr_al_n (pc' := 34) rfl rfl rfl (jr_il_n (pc' := 35) rfl rfl rfl ?_)
        refine jr_cv_p (pc' := 38) [] rfl rfl jlk_10_65 jq_129 jbd_129 (jl rfl) rfl (jl rfl) hu rfl (jk rfl hN) (jd_56.trans jo_129.symm) (fun Q' hq => jc_129 hN (Nat.le_trans (jl rfl) hd) hs1.1 (jo_b h) hq) (fun p4 hp4 h => ?_)
        refine jr_is_n (pc' := 39) (L' := [_, _, _, _, _]) rfl rfl (jl rfl) rfl rfl (jr_inc (pc' := 42) (L' := [_, _, _, _, _]) rfl rfl rfl (jl rfl) rfl rfl (jr_goto (pc' := 14) rfl rfl ?_))
        exact k2 (p4, jw (s1.2 + 1)) ⟨hp4, jg_w⟩ h
    · refine jr_ic (pc' := 46) rfl rfl ?_
      exact jr_ret rfl hu rfl (hQ' _ _ (hQ (-1 : Int) jgc_m1 h))

set_option maxRecDepth 20000 in
set_option maxHeartbeats 1000000 in
theorem jc_126 {X : Nat × (Nat → Int32)} {N d : Nat} {x0 : Int} {x1 : Int} (hN : 102 ≤ N) (hd : 5 ≤ d) (hx0 : jg x0) (hx1 : jg x1) {m : jm} {P : Int × jm → Prop} {Q : px_Q} (h : jo (jf_126 x0 x1 m) P) (hQ : ∀ p : Int × jm, jg p.1 → P p → Q (.inl (some (jv p.1))) (jmem N p.2)) : px_C X d 126 [.ref 56, jv x0, jv x1] (jmem N m) Q := by
  unfold jf_126 at h
  have hu : ju px_m126 (0, 0) := ju_0
  refine jr_in (M := px_m126) (lev := 4) (L := [some (.ref 56), some (jv x0), some (jv x1), none, none, none, none]) hd rfl jbd_126 (jl rfl) rfl (fun d hd Q' hQ' => ?_)
  refine jr_al_n (pc' := 1) rfl rfl rfl (jr_gr (pc' := 4) (r := 47) rfl rfl jlk_10_22 (.inl rfl) rfl hN jd_56 rfl rfl rfl (jr_il_n (pc' := 5) rfl rfl rfl ?_))
  refine jr_cv_p (pc' := 8) [] rfl rfl jlk_10_86 jq_57 jbd_57 (jl rfl) rfl (jl rfl) hu rfl (jk rfl hN) (jd_47.trans jo_57.symm) (fun Q' hq => jc_57 hN (Nat.le_trans (jl rfl) hd) (.inl rfl) hx0 (jo_b h) hq) (fun p1 hp1 h => ?_)
  refine jr_is_n (pc' := 9) (L' := [_, _, _, _, _, _, _]) rfl rfl (jl rfl) rfl rfl (jr_al_n (pc' := 10) rfl rfl rfl (jr_gr (pc' := 13) (r := 47) rfl rfl jlk_10_22 (.inl rfl) rfl hN jd_56 rfl rfl rfl (jr_il_n (pc' := 14) rfl rfl rfl ?_)))
  refine jr_cv_p (pc' := 17) [] rfl rfl jlk_10_72 jq_58 jbd_58 (jl rfl) rfl (jl rfl) hu rfl (jk rfl hN) (jd_47.trans jo_58.symm) (fun Q' hq => jc_58 hN (Nat.le_trans (jl rfl) hd) (.inl rfl) hx1 (jo_b h) hq) (fun p2 hp2 h => ?_)
  refine jr_reg (fun t3 => jb t3) (fun t3 => jp X (px_C X d) px_m126 Q' N 36 [some (.ref 56), some (jv x0), some (jv x1), some (jv p1), none, none, none] [(jv t3)] m (0, 0)) h (fun t3 ht3 h => ?_) (fun R35 k4 h => ?_)
  · refine jr_is (pc' := 38) (L' := [_, _, _, _, _, _, _]) rfl rfl (jl rfl) rfl rfl (jr_il_n (pc' := 39) rfl rfl rfl (jr_ic (pc' := 40) rfl rfl ?_))
    refine jr_ceq (pa := 60) (pb := 43) rfl rfl rfl hp1 jgc_m1 h (fun hc h => ?_) (fun hc h => ?_)
    · refine jr_ic (pc' := 61) rfl rfl ?_
      exact jr_ret rfl hu rfl (hQ' _ _ (hQ ((-1 : Int), m) jgc_m1 h))
    · refine jr_il (pc' := 45) rfl rfl rfl ?_
      refine jr_zeq (pa := 60) (pb := 48) rfl rfl rfl (jg_b ht3) h (fun hc h => ?_) (fun hc h => ?_)
      · refine jr_ic (pc' := 61) rfl rfl ?_
        exact jr_ret rfl hu rfl (hQ' _ _ (hQ ((-1 : Int), m) jgc_m1 h))
      · refine jr_al_n (pc' := 49) rfl rfl rfl (jr_gr (pc' := 52) (r := 3) rfl rfl jlk_10_18 (.inl rfl) rfl hN jd_56 rfl rfl rfl (jr_il_n (pc' := 53) rfl rfl rfl (jr_il_n (pc' := 54) rfl rfl rfl ?_)))
        refine jr_cv_p (pc' := 57) [] rfl rfl jlk_10_89 jq_10 jbd_10 (jl rfl) rfl (jl rfl) hu rfl (jk rfl hN) (jd_3.trans jo_10.symm) (fun Q' hq => jc_10 hN (Nat.le_trans (jl rfl) hd) hx1 hx0 (jo_b h) hq) (fun p16 hp16 h => ?_)
        refine jr_zne (pa := 60) (pb := 62) rfl rfl rfl (jg_b hp16) h (fun hc h => ?_) (fun hc h => ?_)
        · refine jr_ic (pc' := 61) rfl rfl ?_
          exact jr_ret rfl hu rfl (hQ' _ _ (hQ ((-1 : Int), m) jgc_m1 h))
        · refine jr_al_n (pc' := 63) rfl rfl rfl (jr_il_n (pc' := 64) rfl rfl rfl (jr_ic (pc' := 65) rfl rfl ?_))
          refine jr_cv_v (pc' := 68) [] rfl rfl jlk_10_58 jq_127 jbd_127 (jl rfl) rfl (jl rfl) hu rfl (jk rfl hN) (jd_56.trans jo_127.symm) (fun Q' hq => jc_127 hN (Nat.le_trans (jl rfl) hd) hx1 jgc_0 (jo_b h) hq) (fun p17 hp17 h => ?_)
          refine jr_al_n (pc' := 69) rfl rfl rfl (jr_al_n (pc' := 70) rfl rfl rfl (jr_gr (pc' := 73) (r := 47) rfl rfl jlk_10_22 (.inl rfl) rfl hN jd_56 rfl rfl rfl (jr_il_n (pc' := 74) rfl rfl rfl ?_)))
          refine jr_cv_p (pc' := 77) [_] rfl rfl jlk_10_80 jq_59 jbd_59 (jl rfl) rfl (jl rfl) hu rfl (jk rfl hN) (jd_47.trans jo_59.symm) (fun Q' hq => jc_59 hN (Nat.le_trans (jl rfl) hd) (.inl rfl) hx1 (jo_b h) hq) (fun p18 hp18 h => ?_)
          refine jr_il_n (pc' := 78) rfl rfl rfl ?_
          refine jr_cv_p (pc' := 81) [] rfl rfl jlk_10_68 jq_128 jbd_128 (jl rfl) rfl (jl rfl) hu rfl (jk rfl hN) (jd_56.trans jo_128.symm) (fun Q' hq => jc_128 hN (Nat.le_trans (jl rfl) hd) hp18 hp1 (jo_b h) hq) (fun p19 hp19 h => ?_)
          refine jr_is (pc' := 83) (L' := [_, _, _, _, _, _, _]) rfl rfl (jl rfl) rfl rfl (jr_il (pc' := 85) rfl rfl rfl (jr_ic (pc' := 86) rfl rfl ?_))
          refine jr_cne (pa := 89) (pb := 91) rfl rfl rfl hp19 jgc_m1 h (fun hc h => ?_) (fun hc h => ?_)
          · refine jr_ic (pc' := 90) rfl rfl ?_
            exact jr_ret rfl hu rfl (hQ' _ _ (hQ ((-1 : Int), p17) jgc_m1 h))
          · refine jr_al_n (pc' := 92) rfl rfl rfl (jr_il_n (pc' := 93) rfl rfl rfl (jr_ic (pc' := 94) rfl rfl (jr_il_n (pc' := 95) rfl rfl rfl (jr_shl (pc' := 96) rfl rfl ?_))))
            refine jr_cv_v (pc' := 99) [] rfl rfl jlk_10_58 jq_127 jbd_127 (jl rfl) rfl (jl rfl) hu rfl (jk rfl hN) (jd_56.trans jo_127.symm) (fun Q' hq => jc_127 hN (Nat.le_trans (jl rfl) hd) hx1 jg_shl (jo_b h) hq) (fun p20 hp20 h => ?_)
            refine jr_al_n (pc' := 100) rfl rfl rfl (jr_il_n (pc' := 101) rfl rfl rfl (jr_al_n (pc' := 102) rfl rfl rfl (jr_gr (pc' := 105) (r := 3) rfl rfl jlk_10_18 (.inl rfl) rfl hN jd_56 rfl rfl rfl (jr_gr (pc' := 108) (r := 12) rfl rfl jlk_10_92 (.inr rfl) rfl hN jd_3 rfl rfl rfl (jr_il_n (pc' := 109) rfl rfl rfl ?_)))))
            refine jr_ia (pc' := 110) rfl rfl (jl rfl) hN jd_12 jn_12 hx0 h (fun hc h => ?_)
            refine jr_cv_p (pc' := 113) [] rfl rfl jlk_10_68 jq_128 jbd_128 (jl rfl) rfl (jl rfl) hu rfl (jk rfl hN) (jd_56.trans jo_128.symm) (fun Q' hq => jc_128 hN (Nat.le_trans (jl rfl) hd) hp1 jg_a (jo_b h) hq) (fun p21 hp21 h => ?_)
            refine jr_is (pc' := 115) (L' := [_, _, _, _, _, _, _]) rfl rfl (jl rfl) rfl rfl (jr_il (pc' := 117) rfl rfl rfl (jr_ic (pc' := 118) rfl rfl ?_))
            refine jr_reg (fun t22 => jg t22) (fun t22 => jp X (px_C X d) px_m126 Q' N 130 [some (.ref 56), some (jv x0), some (jv x1), some (jv p1), some (jv t3), some (jv p19), some (jv p21)] [(jv t22)] p20 (0, 0)) h (fun t22 ht22 h => ?_) (fun R34 k23 h => ?_)
            · exact jr_ret rfl hu rfl (hQ' _ _ (hQ (t22, p20) ht22 h))
            · refine jr_cne (pa := 121) (pb := 125) rfl rfl rfl hp21 jgc_m1 h (fun hc h => ?_) (fun hc h => ?_)
              · refine jr_ic (pc' := 122) rfl rfl (jr_goto (pc' := 130) rfl rfl ?_)
                exact k23 ((-1 : Int)) jgc_m1 h
              · refine jr_il (pc' := 127) rfl rfl rfl (jr_il (pc' := 129) rfl rfl rfl (jr_add (pc' := 130) rfl rfl ?_))
                exact k23 (jw (p19 + p21)) jg_w h
  · refine jr_zne (pa := 20) (pb := 35) rfl rfl rfl (jg_b hp2) h (fun hc h => ?_) (fun hc h => ?_)
    · refine jr_al_n (pc' := 21) rfl rfl rfl (jr_gr (pc' := 24) (r := 47) rfl rfl jlk_10_22 (.inl rfl) rfl hN jd_56 rfl rfl rfl (jr_il_n (pc' := 25) rfl rfl rfl ?_))
      refine jr_cv_p (pc' := 28) [] rfl rfl jlk_10_54 jq_60 jbd_60 (jl rfl) rfl (jl rfl) hu rfl (jk rfl hN) (jd_47.trans jo_60.symm) (fun Q' hq => jc_60 hN (Nat.le_trans (jl rfl) hd) (.inl rfl) hx1 (jo_b h) hq) (fun p5 hp5 h => ?_)
      refine jr_zne (pa := 31) (pb := 35) rfl rfl rfl hp5 h (fun hc h => ?_) (fun hc h => ?_)
      · refine jr_ic (pc' := 32) rfl rfl (jr_goto (pc' := 36) rfl rfl ?_)
        exact k4 ((1 : Int)) jb_1 h
      · refine jr_ic (pc' := 36) rfl rfl ?_
        exact k4 ((0 : Int)) jb_0 h
    · refine jr_ic (pc' := 36) rfl rfl ?_
      exact k4 ((0 : Int)) jb_0 h

set_option maxRecDepth 20000 in
set_option maxHeartbeats 1000000 in
theorem jc_45 {X : Nat × (Nat → Int32)} {N d : Nat} {x0 : Int} {x1 : Int} {x2 : Int} (hN : 102 ≤ N) (hd : 1 ≤ d) (hx0 : jg x0) (hx1 : jg x1) (hx2 : jg x2) {m : jm} {P : Int → Prop} {Q : px_Q} (h : jo (jf_45 x0 x1 x2 m) P) (hQ : ∀ p : Int, jb p → P p → Q (.inl (some (jv p))) (jmem N m)) : px_C X d 45 [.ref 59, jv x0, jv x1, jv x2] (jmem N m) Q := by
  unfold jf_45 at h
  have hu : ju px_m45 (0, 0) := ju_0
  refine jr_in (M := px_m45) (lev := 0) (L := [some (.ref 59), some (jv x0), some (jv x1), some (jv x2)]) hd rfl jbd_45 (jl rfl) rfl (fun d hd Q' hQ' => ?_)
  refine jr_al_n (pc' := 1) rfl rfl rfl (jr_gr (pc' := 4) (r := 60) rfl rfl jlk_4_9 (.inl rfl) rfl hN jd_59 rfl rfl rfl (jr_il_n (pc' := 5) rfl rfl rfl ?_))
  refine jr_ia (pc' := 6) rfl rfl (jl rfl) hN jd_60 jn_60 hx0 h (fun hc h => ?_)
  refine jr_il_n (pc' := 7) rfl rfl rfl (jr_ic (pc' := 8) rfl rfl (jr_xor (pc' := 9) rfl rfl (jr_and (pc' := 10) rfl rfl (jr_il_n (pc' := 11) rfl rfl rfl (jr_shr (pc' := 12) rfl rfl ?_)))))
  refine jr_ic (pc' := 13) rfl rfl (jr_and (pc' := 14) rfl rfl (jr_ic (pc' := 15) rfl rfl ?_))
  refine jr_reg (fun t1 => jb t1) (fun t1 => jp X (px_C X d) px_m45 Q' N 23 [some (.ref 59), some (jv x0), some (jv x1), some (jv x2)] [(jv t1)] m (0, 0)) h (fun t1 ht1 h => ?_) (fun R13 k2 h => ?_)
  · exact jr_retb rfl hu rfl ht1 (hQ' _ _ (hQ t1 ht1 h))
  · refine jr_cne (pa := 18) (pb := 22) rfl rfl rfl jg_band jgc_1 h (fun hc h => ?_) (fun hc h => ?_)
    · refine jr_ic (pc' := 19) rfl rfl (jr_goto (pc' := 23) rfl rfl ?_)
      exact k2 ((1 : Int)) jb_1 h
    · refine jr_ic (pc' := 23) rfl rfl ?_
      exact k2 ((0 : Int)) jb_0 h

set_option maxRecDepth 20000 in
set_option maxHeartbeats 1000000 in
theorem jc_46 {X : Nat × (Nat → Int32)} {N d : Nat} {x0 : Int} {x1 : Int} {x2 : Int} (hN : 102 ≤ N) (hd : 1 ≤ d) (hx0 : jg x0) (hx1 : jg x1) (hx2 : jg x2) {m : jm} {P : Int → Prop} {Q : px_Q} (h : jo (jf_46 x0 x1 x2 m) P) (hQ : ∀ p : Int, jg p → P p → Q (.inl (some (jv p))) (jmem N m)) : px_C X d 46 [.ref 59, jv x0, jv x1, jv x2] (jmem N m) Q := by
  unfold jf_46 at h
  have hu : ju px_m46 (0, 0) := ju_0
  refine jr_in (M := px_m46) (lev := 0) (L := [some (.ref 59), some (jv x0), some (jv x1), some (jv x2)]) hd rfl jbd_46 (jl rfl) rfl (fun d hd Q' hQ' => ?_)
  refine jr_ic (pc' := 1) rfl rfl (jr_al_n (pc' := 2) rfl rfl rfl (jr_gr (pc' := 5) (r := 61) rfl rfl jlk_4_15 (.inl rfl) rfl hN jd_59 rfl rfl rfl (jr_il_n (pc' := 6) rfl rfl rfl (jr_ic (pc' := 7) rfl rfl (jr_add (pc' := 8) rfl rfl ?_)))))
  refine jr_bi (pc' := 10) rfl rfl rfl (jr_mul (pc' := 11) rfl rfl (jr_il_n (pc' := 12) rfl rfl rfl (jr_ic (pc' := 13) rfl rfl (jr_il_n (pc' := 14) rfl rfl rfl (jr_shl (pc' := 15) rfl rfl ?_)))))
  refine jr_or (pc' := 16) rfl rfl (jr_add (pc' := 17) rfl rfl ?_)
  refine jr_ia (pc' := 18) rfl rfl (jl rfl) hN jd_61 jn_61 jg_w h (fun hc h => ?_)
  refine jr_add (pc' := 19) rfl rfl ?_
  exact jr_ret rfl hu rfl (hQ' _ _ (hQ (jw ((1 : Int) + (ja m 61 (jw ((jw ((jw (x0 + (1 : Int))) * (64 : Int))) + (jbor x2 (jshl (1 : Int) x1)))).toNat))) jg_w h))

set_option maxRecDepth 20000 in
set_option maxHeartbeats 1000000 in
theorem jc_44 {X : Nat × (Nat → Int32)} {N d : Nat} {x0 : Int} {x1 : Int} (hN : 102 ≤ N) (hd : 2 ≤ d) (hx0 : jg x0) (hx1 : jg x1) {m : jm} {P : jm → Prop} {Q : px_Q} (h : jo (jf_44 x0 x1 m) P) (hQ : ∀ p : jm, True → P p → Q (.inl (none)) (jmem N p)) : px_C X d 44 [.ref 59, jv x0, jv x1] (jmem N m) Q := by
  unfold jf_44 at h
  have hu : ju px_m44 (0, 0) := ju_0
  refine jr_in (M := px_m44) (lev := 1) (L := [some (.ref 59), some (jv x0), some (jv x1), none, none]) hd rfl jbd_44 (jl rfl) rfl (fun d hd Q' hQ' => ?_)
  refine jr_al_n (pc' := 1) rfl rfl rfl (jr_gr (pc' := 4) (r := 61) rfl rfl jlk_4_15 (.inl rfl) rfl hN jd_59 rfl rfl rfl (jr_il_n (pc' := 5) rfl rfl rfl (jr_ic (pc' := 6) rfl rfl (jr_add (pc' := 7) rfl rfl (jr_bi (pc' := 9) rfl rfl rfl ?_)))))
  refine jr_mul (pc' := 10) rfl rfl (jr_il_n (pc' := 11) rfl rfl rfl (jr_add (pc' := 12) rfl rfl ?_))
  refine jr_ia (pc' := 13) rfl rfl (jl rfl) hN jd_61 jn_61 jg_w h (fun hc h => ?_)
  refine jr_is_n (pc' := 14) (L' := [_, _, _, _, _]) rfl rfl (jl rfl) rfl rfl (jr_ic (pc' := 15) rfl rfl (jr_is (pc' := 17) (L' := [_, _, _, _, _]) rfl rfl (jl rfl) rfl rfl ?_))
  refine jr_reg (fun t4 => jg t4) (fun t4 => ∀ o5, jn o5 → jp X (px_C X d) px_m44 Q' N 54 [some (.ref 59), some (jv x0), some (jv x1), some (jv t4), o5] [] m (0, 0)) h (fun t4 ht4 h o5 ho5 => ?_) (fun R7 k6 h => ?_)
  · refine jr_al_n (pc' := 55) rfl rfl rfl (jr_gr (pc' := 58) (r := 61) rfl rfl jlk_4_15 (.inl rfl) rfl hN jd_59 rfl rfl rfl (jr_il_n (pc' := 59) rfl rfl rfl (jr_bi (pc' := 61) rfl rfl rfl (jr_mul (pc' := 62) rfl rfl (jr_il_n (pc' := 63) rfl rfl rfl ?_)))))
    refine jr_add (pc' := 64) rfl rfl (jr_il_n (pc' := 65) rfl rfl rfl ?_)
    refine jr_ist (pc' := 66) rfl rfl (jl rfl) hN jd_61 jn_61 jg_w h (fun hc h => ?_)
    refine jr_le h (fun m33 h => ?_)
    exact jr_rv rfl hu rfl (hQ' _ _ (hQ m33 trivial h))
  · refine jr_lp (fun s1 => jg s1.1 ∧ jg s1.2) (fun s1 => jp X (px_C X d) px_m44 Q' N 17 [some (.ref 59), some (jv x0), some (jv x1), some (jv s1.1), some (jv s1.2)] [] m (0, 0)) h ⟨jg_a, jgc_0⟩ (fun s1 hs1 R3 k2 h => ?_)
    refine jr_il (pc' := 19) rfl rfl rfl (jr_bi (pc' := 21) rfl rfl rfl ?_)
    refine jr_cge (pa := 24) (pb := 54) rfl rfl rfl hs1.2 jgc_6 h (fun hc h => ?_) (fun hc h => ?_)
    · refine jr_al_n (pc' := 25) rfl rfl rfl (jr_il_n (pc' := 26) rfl rfl rfl (jr_il (pc' := 28) rfl rfl rfl (jr_il_n (pc' := 29) rfl rfl rfl ?_)))
      refine jr_cv_p (pc' := 32) [] rfl rfl jlk_4_56 jq_45 jbd_45 (jl rfl) rfl (jl rfl) hu rfl (jk rfl hN) (jd_59.trans jo_45.symm) (fun Q' hq => jc_45 hN (Nat.le_trans (jl rfl) hd) hx0 hs1.2 hx1 (jo_b h) hq) (fun p8 hp8 h => ?_)
      refine jr_reg (fun t9 => jg t9) (fun t9 => jp X (px_C X d) px_m44 Q' N 48 [some (.ref 59), some (jv x0), some (jv x1), some (jv t9), some (jv s1.2)] [] m (0, 0)) h (fun t9 ht9 h => ?_) (fun R22 k10 h => ?_)
      · refine jr_inc (pc' := 51) (L' := [_, _, _, _, _]) rfl rfl rfl (jl rfl) rfl rfl (jr_goto (pc' := 17) rfl rfl ?_)
        exact k2 (t9, jw (s1.2 + 1)) ⟨ht9, jg_w⟩ h
      · refine jr_zeq (pa := 48) (pb := 35) rfl rfl rfl (jg_b hp8) h (fun hc h => ?_) (fun hc h => ?_)
        · exact k10 (s1.1) hs1.1 h
        · refine jr_il_n (pc' := 36) rfl rfl rfl (jr_al_n (pc' := 37) rfl rfl rfl (jr_il_n (pc' := 38) rfl rfl rfl (jr_il (pc' := 40) rfl rfl rfl (jr_il_n (pc' := 41) rfl rfl rfl ?_))))
          refine jr_cv_p (pc' := 44) [_] rfl rfl jlk_4_60 jq_46 jbd_46 (jl rfl) rfl (jl rfl) hu rfl (jk rfl hN) (jd_59.trans jo_46.symm) (fun Q' hq => jc_46 hN (Nat.le_trans (jl rfl) hd) hx0 hs1.2 hx1 (jo_b h) hq) (fun p11 hp11 h => ?_)
          refine jr_max (pc' := 47) rfl rfl jlk_4_64 (jl rfl) hu hs1.1 hp11 (jr_is_n (pc' := 48) (L' := [_, _, _, _, _]) rfl rfl (jl rfl) rfl rfl ?_)
          exact k10 (jmax s1.1 p11) (jg_max hs1.1 hp11) h
    · exact k6 (s1.1) hs1.1 h _ jn_i

set_option maxRecDepth 20000 in
set_option maxHeartbeats 1000000 in
theorem jc_48 {X : Nat × (Nat → Int32)} {N d : Nat} {x0 : Int} {x1 : Int} (hN : 102 ≤ N) (hd : 2 ≤ d) (hx0 : jg x0) (hx1 : jg x1) {m : jm} {P : Int → Prop} {Q : px_Q} (h : jo (jf_48 x0 x1 m) P) (hQ : ∀ p : Int, jg p → P p → Q (.inl (some (jv p))) (jmem N m)) : px_C X d 48 [.ref 59, jv x0, jv x1] (jmem N m) Q := by
  unfold jf_48 at h
  have hu : ju px_m48 (0, 0) := ju_0
  refine jr_in (M := px_m48) (lev := 1) (L := [some (.ref 59), some (jv x0), some (jv x1), none]) hd rfl jbd_48 (jl rfl) rfl (fun d hd Q' hQ' => ?_)
  refine jr_ic (pc' := 1) rfl rfl (jr_is_n (pc' := 2) (L' := [_, _, _, _]) rfl rfl (jl rfl) rfl rfl ?_)
  refine jr_lp (fun s1 => jg s1) (fun s1 => jp X (px_C X d) px_m48 Q' N 2 [some (.ref 59), some (jv x0), some (jv x1), some (jv s1)] [] m (0, 0)) h jgc_0 (fun s1 hs1 R3 k2 h => ?_)
  refine jr_il_n (pc' := 3) rfl rfl rfl (jr_bi (pc' := 5) rfl rfl rfl ?_)
  refine jr_cge (pa := 8) (pb := 47) rfl rfl rfl hs1 jgc_6 h (fun hc h => ?_) (fun hc h => ?_)
  · refine jr_al_n (pc' := 9) rfl rfl rfl (jr_il_n (pc' := 10) rfl rfl rfl (jr_il_n (pc' := 11) rfl rfl rfl (jr_il_n (pc' := 12) rfl rfl rfl ?_)))
    refine jr_cv_p (pc' := 15) [] rfl rfl jlk_4_56 jq_45 jbd_45 (jl rfl) rfl (jl rfl) hu rfl (jk rfl hN) (jd_59.trans jo_45.symm) (fun Q' hq => jc_45 hN (Nat.le_trans (jl rfl) hd) hx0 hs1 hx1 (jo_b h) hq) (fun p4 hp4 h => ?_)
    refine jr_zeq (pa := 41) (pb := 18) rfl rfl rfl (jg_b hp4) h (fun hc h => ?_) (fun hc h => ?_)
    · refine jr_inc (pc' := 44) (L' := [_, _, _, _]) rfl rfl rfl (jl rfl) rfl rfl (jr_goto (pc' := 2) rfl rfl ?_)
      exact k2 (jw (s1 + 1)) jg_w h
    · refine jr_al_n (pc' := 19) rfl rfl rfl (jr_il_n (pc' := 20) rfl rfl rfl (jr_il_n (pc' := 21) rfl rfl rfl (jr_il_n (pc' := 22) rfl rfl rfl ?_)))
      refine jr_cv_p (pc' := 25) [] rfl rfl jlk_4_60 jq_46 jbd_46 (jl rfl) rfl (jl rfl) hu rfl (jk rfl hN) (jd_59.trans jo_46.symm) (fun Q' hq => jc_46 hN (Nat.le_trans (jl rfl) hd) hx0 hs1 hx1 (jo_b h) hq) (fun p5 hp5 h => ?_)
      refine jr_al_n (pc' := 26) rfl rfl rfl (jr_gr (pc' := 29) (r := 61) rfl rfl jlk_4_15 (.inl rfl) rfl hN jd_59 rfl rfl rfl (jr_il_n (pc' := 30) rfl rfl rfl (jr_bi (pc' := 32) rfl rfl rfl (jr_mul (pc' := 33) rfl rfl (jr_il_n (pc' := 34) rfl rfl rfl ?_)))))
      refine jr_add (pc' := 35) rfl rfl ?_
      refine jr_ia (pc' := 36) rfl rfl (jl rfl) hN jd_61 jn_61 jg_w h (fun hc h => ?_)
      refine jr_cne (pa := 39) (pb := 41) rfl rfl rfl hp5 jg_a h (fun hc h => ?_) (fun hc h => ?_)
      · refine jr_il_n (pc' := 40) rfl rfl rfl ?_
        exact jr_ret rfl hu rfl (hQ' _ _ (hQ s1 hs1 h))
      · refine jr_inc (pc' := 44) (L' := [_, _, _, _]) rfl rfl rfl (jl rfl) rfl rfl (jr_goto (pc' := 2) rfl rfl ?_)
        exact k2 (jw (s1 + 1)) jg_w h
  · refine jr_ic (pc' := 48) rfl rfl ?_
    exact jr_ret rfl hu rfl (hQ' _ _ (hQ (-1 : Int) jgc_m1 h))

set_option maxRecDepth 20000 in
set_option maxHeartbeats 1000000 in
theorem jc_47 {X : Nat × (Nat → Int32)} {N d : Nat}  (hN : 102 ≤ N) (hd : 3 ≤ d)  {m : jm} {P : jm → Prop} {Q : px_Q} (h : jo (jf_47 m) P) (hQ : ∀ p : jm, True → P p → Q (.inl (none)) (jmem N p)) : px_C X d 47 [.ref 59] (jmem N m) Q := by
  unfold jf_47 at h
  have hu : ju px_m47 (0, 0) := ju_0
  refine jr_in (M := px_m47) (lev := 2) (L := [some (.ref 59), none, none]) hd rfl jbd_47 (jl rfl) rfl (fun d hd Q' hQ' => ?_)
  refine jr_ic (pc' := 1) rfl rfl (jr_is_n (pc' := 2) (L' := [_, _, _]) rfl rfl (jl rfl) rfl rfl (jr_ic (pc' := 3) rfl rfl (jr_is_n (pc' := 4) (L' := [_, _, _]) rfl rfl (jl rfl) rfl rfl ?_)))
  refine jr_reg (fun t4 => True) (fun t4 => ∀ o5, jn o5 → ∀ o6, jn o6 → jp X (px_C X d) px_m47 Q' N 54 [some (.ref 59), o5, o6] [] t4 (0, 0)) h (fun t4 ht4 h o5 ho5 o6 ho6 => ?_) (fun R8 k7 h => ?_)
  · exact jr_rv rfl hu rfl (hQ' _ _ (hQ t4 trivial h))
  · refine jr_lp (fun s1 => jg s1.1 ∧ jg s1.2.1) (fun s1 => jp X (px_C X d) px_m47 Q' N 4 [some (.ref 59), some (jv s1.1), some (jv s1.2.1)] [] s1.2.2 (0, 0)) h ⟨jgc_0, jgc_0⟩ (fun s1 hs1 R3 k2 h => ?_)
    refine jr_il_n (pc' := 5) rfl rfl rfl (jr_al_n (pc' := 6) rfl rfl rfl (jr_gr (pc' := 9) (r := 3) rfl rfl jlk_4_21 (.inl rfl) rfl hN jd_59 rfl rfl rfl (jr_gi (pc' := 12) rfl rfl jlk_4_29 (.inr rfl) rfl hN jd_3 rfl rfl ?_)))
    refine jr_cge (pa := 15) (pb := 54) rfl rfl rfl hs1.2 jg_a h (fun hc h => ?_) (fun hc h => ?_)
    · refine jr_al_n (pc' := 16) rfl rfl rfl (jr_gr (pc' := 19) (r := 62) rfl rfl jlk_4_18 (.inl rfl) rfl hN jd_59 rfl rfl rfl (jr_il_n (pc' := 20) rfl rfl rfl (jr_al_n (pc' := 21) rfl rfl rfl (jr_il_n (pc' := 22) rfl rfl rfl (jr_il_n (pc' := 23) rfl rfl rfl ?_)))))
      refine jr_cv_p (pc' := 26) [_, _] rfl rfl jlk_4_69 jq_48 jbd_48 (jl rfl) rfl (jl rfl) hu rfl (jk rfl hN) (jd_59.trans jo_48.symm) (fun Q' hq => jc_48 hN (Nat.le_trans (jl rfl) hd) hs1.2 hs1.1 (jo_b h) hq) (fun p9 hp9 h => ?_)
      refine jr_ist (pc' := 27) rfl rfl (jl rfl) hN jd_62 jn_62 hs1.2 h (fun hc h => ?_)
      refine jr_le h (fun m10 h => ?_)
      refine jr_al_n (pc' := 28) rfl rfl rfl (jr_gr (pc' := 31) (r := 62) rfl rfl jlk_4_18 (.inl rfl) rfl hN jd_59 rfl rfl rfl (jr_il_n (pc' := 32) rfl rfl rfl ?_))
      refine jr_ia (pc' := 33) rfl rfl (jl rfl) hN jd_62 jn_62 hs1.2 h (fun hc h => ?_)
      refine jr_ic (pc' := 34) rfl rfl ?_
      refine jr_reg (fun t11 => jg t11) (fun t11 => jp X (px_C X d) px_m47 Q' N 48 [some (.ref 59), some (jv t11), some (jv s1.2.1)] [] m10 (0, 0)) h (fun t11 ht11 h => ?_) (fun R23 k12 h => ?_)
      · refine jr_inc (pc' := 51) (L' := [_, _, _]) rfl rfl rfl (jl rfl) rfl rfl (jr_goto (pc' := 4) rfl rfl ?_)
        exact k2 (t11, jw (s1.2.1 + 1), m10) ⟨ht11, jg_w⟩ h
      · refine jr_ceq (pa := 48) (pb := 37) rfl rfl rfl jg_a jgc_m1 h (fun hc h => ?_) (fun hc h => ?_)
        · exact k12 (s1.1) hs1.1 h
        · refine jr_il_n (pc' := 38) rfl rfl rfl (jr_ic (pc' := 39) rfl rfl (jr_al_n (pc' := 40) rfl rfl rfl (jr_gr (pc' := 43) (r := 62) rfl rfl jlk_4_18 (.inl rfl) rfl hN jd_59 rfl rfl rfl (jr_il_n (pc' := 44) rfl rfl rfl ?_))))
          refine jr_ia (pc' := 45) rfl rfl (jl rfl) hN jd_62 jn_62 hs1.2 h (fun hc h => ?_)
          refine jr_shl (pc' := 46) rfl rfl (jr_or (pc' := 47) rfl rfl (jr_is_n (pc' := 48) (L' := [_, _, _]) rfl rfl (jl rfl) rfl rfl ?_))
          exact k12 (jbor s1.1 (jshl (1 : Int) (ja m10 62 s1.2.1.toNat))) jg_bor h
    · exact k7 (s1.2.2) trivial h _ jn_i _ jn_i

set_option maxRecDepth 20000 in
set_option maxHeartbeats 1000000 in
theorem jc_43 {X : Nat × (Nat → Int32)} {N d : Nat}  (hN : 102 ≤ N) (hd : 6 ≤ d)  {m : jm} {P : Int × jm → Prop} {Q : px_Q} (h : jo (jf_43 m) P) (hQ : ∀ p : Int × jm, jg p.1 → P p → Q (.inl (some (jv p.1))) (jmem N p.2)) : px_C X d 43 [.ref 59] (jmem N m) Q := by
  unfold jf_43 at h
  have hu : ju px_m43 (0, 0) := ju_0
  refine jr_in (M := px_m43) (lev := 5) (L := [some (.ref 59), none, none]) hd rfl jbd_43 (jl rfl) rfl (fun d hd Q' hQ' => ?_)
  refine jr_ic (pc' := 1) rfl rfl (jr_is_n (pc' := 2) (L' := [_, _, _]) rfl rfl (jl rfl) rfl rfl ?_)
  refine jr_reg (fun t5 => True) (fun t5 => ∀ o6, jn o6 → ∀ o7, jn o7 → jp X (px_C X d) px_m43 Q' N 74 [some (.ref 59), o6, o7] [] t5 (0, 0)) h (fun t5 ht5 h o6 ho6 o7 ho7 => ?_) (fun R9 k8 h => ?_)
  · refine jr_al_n (pc' := 75) rfl rfl rfl (jr_gr (pc' := 78) (r := 61) rfl rfl jlk_4_15 (.inl rfl) rfl hN jd_59 rfl rfl rfl (jr_ic (pc' := 79) rfl rfl ?_))
    refine jr_cs_v (pc' := 82) [] rfl rfl jlk_4_44 jq_334 jbd_334 (jl rfl) rfl (jl rfl) hu (fun Q' hq => jc_334 hN (Nat.le_trans (jl rfl) hd) ⟨jl rfl, jd_61⟩ jgc_0 (jo_b h) hq) (fun p53 hp53 h => ?_)
    refine jr_al_n (pc' := 83) rfl rfl rfl (jr_gr (pc' := 86) (r := 3) rfl rfl jlk_4_21 (.inl rfl) rfl hN jd_59 rfl rfl rfl (jr_gi (pc' := 89) rfl rfl jlk_4_29 (.inr rfl) rfl hN jd_3 rfl rfl (jr_ic (pc' := 90) rfl rfl (jr_sub (pc' := 91) rfl rfl (jr_is_n (pc' := 92) (L' := [_, _, _]) rfl rfl (jl rfl) rfl rfl ?_)))))
    refine jr_reg (fun t58 => True) (fun t58 => ∀ o59, jn o59 → ∀ o60, jn o60 → jp X (px_C X d) px_m43 Q' N 122 [some (.ref 59), o59, o60] [] t58 (0, 0)) h (fun t58 ht58 h o59 ho59 o60 ho60 => ?_) (fun R62 k61 h => ?_)
    · refine jr_al_n (pc' := 123) rfl rfl rfl ?_
      refine jr_cv_v (pc' := 126) [] rfl rfl jlk_4_53 jq_47 jbd_47 (jl rfl) rfl (jl rfl) hu rfl (jk rfl hN) (jd_59.trans jo_47.symm) (fun Q' hq => jc_47 hN (Nat.le_trans (jl rfl) hd)  (jo_b h) hq) (fun p91 hp91 h => ?_)
      refine jr_al_n (pc' := 127) rfl rfl rfl (jr_gr (pc' := 130) (r := 61) rfl rfl jlk_4_15 (.inl rfl) rfl hN jd_59 rfl rfl rfl (jr_ic (pc' := 131) rfl rfl ?_))
      refine jr_ia (pc' := 132) rfl rfl (jl rfl) hN jd_61 jn_61 jgc_0 h (fun hc h => ?_)
      exact jr_ret rfl hu rfl (hQ' _ _ (hQ (ja p91 61 (0 : Int).toNat, p91) jg_a h))
    · refine jr_lp (fun s54 => jg s54.1) (fun s54 => ∀ o55, jn o55 → jp X (px_C X d) px_m43 Q' N 92 [some (.ref 59), some (jv s54.1), o55] [] s54.2 (0, 0)) h jg_w (fun s54 hs54 R57 k56 h o55 ho55 => ?_) _ ho7
      refine jr_il_n (pc' := 93) rfl rfl rfl ?_
      refine jr_zlt (pa := 122) (pb := 96) rfl rfl rfl hs54 h (fun hc h => ?_) (fun hc h => ?_)
      · exact k61 (s54.2) trivial h _ jn_i _ ho55
      · refine jr_ic (pc' := 97) rfl rfl (jr_is_n (pc' := 98) (L' := [_, _, _]) rfl rfl (jl rfl) rfl rfl ?_)
        refine jr_reg (fun t66 => True) (fun t66 => ∀ o67, jn o67 → jp X (px_C X d) px_m43 Q' N 116 [some (.ref 59), some (jv s54.1), o67] [] t66 (0, 0)) h (fun t66 ht66 h o67 ho67 => ?_) (fun R69 k68 h => ?_)
        · refine jr_inc (pc' := 119) (L' := [_, _, _]) rfl rfl rfl (jl rfl) rfl rfl (jr_goto (pc' := 92) rfl rfl ?_)
          exact k56 (jw (s54.1 + (-1)), t66) jg_w h _ ho67
        · refine jr_lp (fun s63 => jg s63.1) (fun s63 => jp X (px_C X d) px_m43 Q' N 98 [some (.ref 59), some (jv s54.1), some (jv s63.1)] [] s63.2 (0, 0)) h jgc_0 (fun s63 hs63 R65 k64 h => ?_)
          refine jr_il_n (pc' := 99) rfl rfl rfl (jr_bi (pc' := 101) rfl rfl rfl ?_)
          refine jr_cge (pa := 104) (pb := 116) rfl rfl rfl hs63 jgc_64 h (fun hc h => ?_) (fun hc h => ?_)
          · refine jr_al_n (pc' := 105) rfl rfl rfl (jr_il_n (pc' := 106) rfl rfl rfl (jr_il_n (pc' := 107) rfl rfl rfl ?_))
            refine jr_cv_v (pc' := 110) [] rfl rfl jlk_4_50 jq_44 jbd_44 (jl rfl) rfl (jl rfl) hu rfl (jk rfl hN) (jd_59.trans jo_44.symm) (fun Q' hq => jc_44 hN (Nat.le_trans (jl rfl) hd) hs54 hs63 (jo_b h) hq) (fun p70 hp70 h => ?_)
            refine jr_inc (pc' := 113) (L' := [_, _, _]) rfl rfl rfl (jl rfl) rfl rfl (jr_goto (pc' := 98) rfl rfl ?_)
            exact k64 (jw (s63.1 + 1), p70) jg_w h
          · exact k68 (s63.2) trivial h _ jn_i
  · refine jr_lp (fun s1 => jg s1.1) (fun s1 => ∀ o2, jn o2 → jp X (px_C X d) px_m43 Q' N 2 [some (.ref 59), some (jv s1.1), o2] [] s1.2 (0, 0)) h jgc_0 (fun s1 hs1 R4 k3 h o2 ho2 => ?_) _ jn_n
    refine jr_il_n (pc' := 3) rfl rfl rfl (jr_al_n (pc' := 4) rfl rfl rfl (jr_gr (pc' := 7) (r := 3) rfl rfl jlk_4_21 (.inl rfl) rfl hN jd_59 rfl rfl rfl (jr_gi (pc' := 10) rfl rfl jlk_4_29 (.inr rfl) rfl hN jd_3 rfl rfl ?_)))
    refine jr_cge (pa := 13) (pb := 74) rfl rfl rfl hs1 jg_a h (fun hc h => ?_) (fun hc h => ?_)
    · refine jr_al_n (pc' := 14) rfl rfl rfl (jr_gr (pc' := 17) (r := 60) rfl rfl jlk_4_9 (.inl rfl) rfl hN jd_59 rfl rfl rfl (jr_il_n (pc' := 18) rfl rfl rfl (jr_ic (pc' := 19) rfl rfl ?_)))
      refine jr_ist (pc' := 20) rfl rfl (jl rfl) hN jd_60 jn_60 hs1 h (fun hc h => ?_)
      refine jr_le h (fun m10 h => ?_)
      refine jr_ic (pc' := 21) rfl rfl (jr_is_n (pc' := 22) (L' := [_, _, _]) rfl rfl (jl rfl) rfl rfl ?_)
      refine jr_reg (fun t14 => True) (fun t14 => ∀ o15, jn o15 → jp X (px_C X d) px_m43 Q' N 68 [some (.ref 59), some (jv s1.1), o15] [] t14 (0, 0)) h (fun t14 ht14 h o15 ho15 => ?_) (fun R17 k16 h => ?_)
      · refine jr_inc (pc' := 71) (L' := [_, _, _]) rfl rfl rfl (jl rfl) rfl rfl (jr_goto (pc' := 2) rfl rfl ?_)
        exact k3 (jw (s1.1 + 1), t14) jg_w h _ ho15
      · refine jr_lp (fun s11 => jg s11.1) (fun s11 => jp X (px_C X d) px_m43 Q' N 22 [some (.ref 59), some (jv s1.1), some (jv s11.1)] [] s11.2 (0, 0)) h jgc_0 (fun s11 hs11 R13 k12 h => ?_)
        refine jr_il_n (pc' := 23) rfl rfl rfl (jr_al_n (pc' := 24) rfl rfl rfl (jr_gr (pc' := 27) (r := 3) rfl rfl jlk_4_21 (.inl rfl) rfl hN jd_59 rfl rfl rfl (jr_gi (pc' := 30) rfl rfl jlk_4_35 (.inr rfl) rfl hN jd_3 rfl rfl ?_)))
        refine jr_cge (pa := 33) (pb := 68) rfl rfl rfl hs11 jg_a h (fun hc h => ?_) (fun hc h => ?_)
        · refine jr_al_n (pc' := 34) rfl rfl rfl (jr_gr (pc' := 37) (r := 60) rfl rfl jlk_4_9 (.inl rfl) rfl hN jd_59 rfl rfl rfl (jr_il_n (pc' := 38) rfl rfl rfl (jr_dup2 (pc' := 39) rfl rfl rfl rfl ?_)))
          refine jr_ia (pc' := 40) rfl rfl (jl rfl) hN jd_60 jn_60 hs1 h (fun hc h => ?_)
          refine jr_al_n (pc' := 41) rfl rfl rfl (jr_gr (pc' := 44) (r := 56) rfl rfl jlk_4_25 (.inl rfl) rfl hN jd_59 rfl rfl rfl (jr_il_n (pc' := 45) rfl rfl rfl (jr_il_n (pc' := 46) rfl rfl rfl ?_)))
          refine jr_cv_i (pc' := 49) [_, _, _] rfl rfl jlk_4_38 jq_126 jbd_126 (jl rfl) rfl (jl rfl) hu rfl (jk rfl hN) (jd_56.trans jo_126.symm) (fun Q' hq => jc_126 hN (Nat.le_trans (jl rfl) hd) hs1 hs11 (jo_b h) hq) (fun p18 hp18 h => ?_)
          refine jr_ic (pc' := 50) rfl rfl ?_
          refine jr_reg (fun t19 => jg t19) (fun t19 => jp X (px_C X d) px_m43 Q' N 60 [some (.ref 59), some (jv s1.1), some (jv s11.1)] [(jv t19), (jv (ja s11.2 60 s1.1.toNat)), (jv s1.1), (.ref 60)] p18.2 (0, 0)) h (fun t19 ht19 h => ?_) (fun R32 k20 h => ?_)
          · refine jr_or (pc' := 61) rfl rfl ?_
            refine jr_ist (pc' := 62) rfl rfl (jl rfl) hN jd_60 jn_60 hs1 h (fun hc h => ?_)
            refine jr_le h (fun m31 h => ?_)
            refine jr_inc (pc' := 65) (L' := [_, _, _]) rfl rfl rfl (jl rfl) rfl rfl (jr_goto (pc' := 22) rfl rfl ?_)
            exact k12 (jw (s11.1 + 1), m31) jg_w h
          · refine jr_ceq (pa := 59) (pb := 53) rfl rfl rfl hp18 jgc_m1 h (fun hc h => ?_) (fun hc h => ?_)
            · refine jr_ic (pc' := 60) rfl rfl ?_
              exact k20 ((0 : Int)) jgc_0 h
            · refine jr_ic (pc' := 54) rfl rfl (jr_il_n (pc' := 55) rfl rfl rfl (jr_shl (pc' := 56) rfl rfl (jr_goto (pc' := 60) rfl rfl ?_)))
              exact k20 (jshl (1 : Int) s11.1) jg_shl h
        · exact k16 (s11.2) trivial h _ jn_i
    · exact k8 (s1.2) trivial h _ jn_i _ ho2

set_option maxRecDepth 20000 in
set_option maxHeartbeats 1000000 in
theorem jc_50 {X : Nat × (Nat → Int32)} {N d : Nat}  (hN : 102 ≤ N) (hd : 1 ≤ d)  {m : jm} {P : Int × jm → Prop} {Q : px_Q} (h : jo (jf_50 m) P) (hQ : ∀ p : Int × jm, jb p.1 → P p → Q (.inl (some (jv p.1))) (jmem N p.2)) : px_C X d 50 [.ref 50, .ref 47] (jmem N m) Q := by
  unfold jf_50 at h
  have hu : ju px_m50 (0, 0) := ju_0
  refine jr_in (M := px_m50) (lev := 0) (L := [some (.ref 50), some (.ref 47)]) hd rfl jbd_50 (jl rfl) rfl (fun d hd Q' hQ' => ?_)
  refine jr_al_n (pc' := 1) rfl rfl rfl (jr_gi (pc' := 4) rfl rfl jlk_5_26 (.inl rfl) rfl hN jd_50 rfl rfl ?_)
  refine jr_zgt (pa := 9) (pb := 7) rfl rfl rfl jg_a h (fun hc h => ?_) (fun hc h => ?_)
  · refine jr_al_n (pc' := 10) rfl rfl rfl (jr_dup (pc' := 11) rfl rfl rfl (jr_gi (pc' := 14) rfl rfl jlk_5_26 (.inl rfl) rfl hN jd_50 rfl rfl (jr_ic (pc' := 15) rfl rfl (jr_sub (pc' := 16) rfl rfl (jr_pi (pc' := 19) rfl rfl jlk_5_26 (.inl rfl) rfl hN jd_50 rfl rfl ?_)))))
    refine jr_le h (fun m1 h => ?_)
    refine jr_al_n (pc' := 20) rfl rfl rfl (jr_gr (pc' := 23) (r := 51) rfl rfl jlk_5_13 (.inl rfl) rfl hN jd_50 rfl rfl rfl (jr_al_n (pc' := 24) rfl rfl rfl (jr_gi (pc' := 27) rfl rfl jlk_5_26 (.inl rfl) rfl hN jd_50 rfl rfl (jr_bi (pc' := 29) rfl rfl rfl (jr_mul (pc' := 30) rfl rfl ?_)))))
    refine jr_al_n (pc' := 31) rfl rfl rfl (jr_gr (pc' := 34) (r := 48) rfl rfl jlk_5_37 (.inr rfl) rfl hN jd_47 rfl rfl rfl (jr_ic (pc' := 35) rfl rfl (jr_bi (pc' := 37) rfl rfl rfl ?_)))
    refine jr_cp (pc' := 40) rfl rfl jlk_5_40 (jl rfl) (jl rfl) hN jd_51 jd_48 jn_51 jn_48 (jl rfl) jg_w jgc_0 jgc_52 h (fun h => ?_)
    refine jr_le h (fun m2 h => ?_)
    refine jr_ic (pc' := 41) rfl rfl ?_
    exact jr_retb rfl hu rfl jb_1 (hQ' _ _ (hQ ((1 : Int), m2) jb_1 h))
  · refine jr_ic (pc' := 8) rfl rfl ?_
    exact jr_retb rfl hu rfl jb_0 (hQ' _ _ (hQ ((0 : Int), m) jb_0 h))

set_option maxRecDepth 20000 in
set_option maxHeartbeats 1000000 in
theorem jc_51 {X : Nat × (Nat → Int32)} {N d : Nat}  (hN : 102 ≤ N) (hd : 1 ≤ d)  {m : jm} {P : Int × jm → Prop} {Q : px_Q} (h : jo (jf_51 m) P) (hQ : ∀ p : Int × jm, jb p.1 → P p → Q (.inl (some (jv p.1))) (jmem N p.2)) : px_C X d 51 [.ref 50, .ref 47] (jmem N m) Q := by
  unfold jf_51 at h
  have hu : ju px_m51 (0, 0) := ju_0
  refine jr_in (M := px_m51) (lev := 0) (L := [some (.ref 50), some (.ref 47)]) hd rfl jbd_51 (jl rfl) rfl (fun d hd Q' hQ' => ?_)
  refine jr_al_n (pc' := 1) rfl rfl rfl (jr_gi (pc' := 4) rfl rfl jlk_5_30 (.inl rfl) rfl hN jd_50 rfl rfl (jr_ic (pc' := 5) rfl rfl ?_))
  refine jr_clt (pa := 10) (pb := 8) rfl rfl rfl jg_a jgc_3 h (fun hc h => ?_) (fun hc h => ?_)
  · refine jr_al_n (pc' := 11) rfl rfl rfl (jr_gr (pc' := 14) (r := 48) rfl rfl jlk_5_37 (.inr rfl) rfl hN jd_47 rfl rfl rfl (jr_ic (pc' := 15) rfl rfl (jr_al_n (pc' := 16) rfl rfl rfl (jr_gr (pc' := 19) (r := 53) rfl rfl jlk_5_20 (.inl rfl) rfl hN jd_50 rfl rfl rfl (jr_al_n (pc' := 20) rfl rfl rfl ?_)))))
    refine jr_gi (pc' := 23) rfl rfl jlk_5_30 (.inl rfl) rfl hN jd_50 rfl rfl (jr_bi (pc' := 25) rfl rfl rfl (jr_mul (pc' := 26) rfl rfl (jr_bi (pc' := 28) rfl rfl rfl ?_)))
    refine jr_cp (pc' := 31) rfl rfl jlk_5_40 (jl rfl) (jl rfl) hN jd_48 jd_53 jn_48 jn_53 (jl rfl) jgc_0 jg_w jgc_52 h (fun h => ?_)
    refine jr_le h (fun m1 h => ?_)
    refine jr_al_n (pc' := 32) rfl rfl rfl (jr_gr (pc' := 35) (r := 51) rfl rfl jlk_5_13 (.inl rfl) rfl hN jd_50 rfl rfl rfl (jr_ic (pc' := 36) rfl rfl (jr_al_n (pc' := 37) rfl rfl rfl (jr_gr (pc' := 40) (r := 52) rfl rfl jlk_5_17 (.inl rfl) rfl hN jd_50 rfl rfl rfl (jr_al_n (pc' := 41) rfl rfl rfl ?_)))))
    refine jr_gi (pc' := 44) rfl rfl jlk_5_30 (.inl rfl) rfl hN jd_50 rfl rfl (jr_si (pc' := 47) rfl rfl rfl (jr_mul (pc' := 48) rfl rfl (jr_al_n (pc' := 49) rfl rfl rfl (jr_gi (pc' := 52) rfl rfl jlk_5_26 (.inl rfl) rfl hN jd_50 rfl rfl (jr_bi (pc' := 54) rfl rfl rfl ?_)))))
    refine jr_mul (pc' := 55) rfl rfl ?_
    refine jr_cp (pc' := 58) rfl rfl jlk_5_40 (jl rfl) (jl rfl) hN jd_51 jd_52 jn_51 jn_52 (jl rfl) jgc_0 jg_w jg_w h (fun h => ?_)
    refine jr_le h (fun m2 h => ?_)
    refine jr_al_n (pc' := 59) rfl rfl rfl (jr_gr (pc' := 62) (r := 54) rfl rfl jlk_5_23 (.inl rfl) rfl hN jd_50 rfl rfl rfl (jr_al_n (pc' := 63) rfl rfl rfl (jr_gi (pc' := 66) rfl rfl jlk_5_30 (.inl rfl) rfl hN jd_50 rfl rfl (jr_al_n (pc' := 67) rfl rfl rfl (jr_gi (pc' := 70) rfl rfl jlk_5_26 (.inl rfl) rfl hN jd_50 rfl rfl ?_)))))
    refine jr_ist (pc' := 71) rfl rfl (jl rfl) hN jd_54 jn_54 jg_a h (fun hc h => ?_)
    refine jr_le h (fun m3 h => ?_)
    refine jr_al_n (pc' := 72) rfl rfl rfl (jr_dup (pc' := 73) rfl rfl rfl (jr_gi (pc' := 76) rfl rfl jlk_5_30 (.inl rfl) rfl hN jd_50 rfl rfl (jr_ic (pc' := 77) rfl rfl (jr_add (pc' := 78) rfl rfl (jr_pi (pc' := 81) rfl rfl jlk_5_30 (.inl rfl) rfl hN jd_50 rfl rfl ?_)))))
    refine jr_le h (fun m4 h => ?_)
    refine jr_ic (pc' := 82) rfl rfl ?_
    exact jr_retb rfl hu rfl jb_1 (hQ' _ _ (hQ ((1 : Int), m4) jb_1 h))
  · refine jr_ic (pc' := 9) rfl rfl ?_
    exact jr_retb rfl hu rfl jb_0 (hQ' _ _ (hQ ((0 : Int), m) jb_0 h))

set_option maxRecDepth 20000 in
set_option maxHeartbeats 1000000 in
theorem jc_52 {X : Nat × (Nat → Int32)} {N d : Nat}  (hN : 102 ≤ N) (hd : 1 ≤ d)  {m : jm} {P : Int × jm → Prop} {Q : px_Q} (h : jo (jf_52 m) P) (hQ : ∀ p : Int × jm, jb p.1 → P p → Q (.inl (some (jv p.1))) (jmem N p.2)) : px_C X d 52 [.ref 50, .ref 47] (jmem N m) Q := by
  unfold jf_52 at h
  have hu : ju px_m52 (0, 0) := ju_0
  refine jr_in (M := px_m52) (lev := 0) (L := [some (.ref 50), some (.ref 47)]) hd rfl jbd_52 (jl rfl) rfl (fun d hd Q' hQ' => ?_)
  refine jr_al_n (pc' := 1) rfl rfl rfl (jr_gi (pc' := 4) rfl rfl jlk_5_30 (.inl rfl) rfl hN jd_50 rfl rfl ?_)
  refine jr_zgt (pa := 9) (pb := 7) rfl rfl rfl jg_a h (fun hc h => ?_) (fun hc h => ?_)
  · refine jr_al_n (pc' := 10) rfl rfl rfl (jr_dup (pc' := 11) rfl rfl rfl (jr_gi (pc' := 14) rfl rfl jlk_5_30 (.inl rfl) rfl hN jd_50 rfl rfl (jr_ic (pc' := 15) rfl rfl (jr_sub (pc' := 16) rfl rfl (jr_pi (pc' := 19) rfl rfl jlk_5_30 (.inl rfl) rfl hN jd_50 rfl rfl ?_)))))
    refine jr_le h (fun m1 h => ?_)
    refine jr_al_n (pc' := 20) rfl rfl rfl (jr_al_n (pc' := 21) rfl rfl rfl (jr_gr (pc' := 24) (r := 54) rfl rfl jlk_5_23 (.inl rfl) rfl hN jd_50 rfl rfl rfl (jr_al_n (pc' := 25) rfl rfl rfl (jr_gi (pc' := 28) rfl rfl jlk_5_30 (.inl rfl) rfl hN jd_50 rfl rfl ?_))))
    refine jr_ia (pc' := 29) rfl rfl (jl rfl) hN jd_54 jn_54 jg_a h (fun hc h => ?_)
    refine jr_pi (pc' := 32) rfl rfl jlk_5_26 (.inl rfl) rfl hN jd_50 rfl rfl ?_
    refine jr_le h (fun m2 h => ?_)
    refine jr_al_n (pc' := 33) rfl rfl rfl (jr_gr (pc' := 36) (r := 53) rfl rfl jlk_5_20 (.inl rfl) rfl hN jd_50 rfl rfl rfl (jr_al_n (pc' := 37) rfl rfl rfl (jr_gi (pc' := 40) rfl rfl jlk_5_30 (.inl rfl) rfl hN jd_50 rfl rfl (jr_bi (pc' := 42) rfl rfl rfl (jr_mul (pc' := 43) rfl rfl ?_)))))
    refine jr_al_n (pc' := 44) rfl rfl rfl (jr_gr (pc' := 47) (r := 48) rfl rfl jlk_5_37 (.inr rfl) rfl hN jd_47 rfl rfl rfl (jr_ic (pc' := 48) rfl rfl (jr_bi (pc' := 50) rfl rfl rfl ?_)))
    refine jr_cp (pc' := 53) rfl rfl jlk_5_40 (jl rfl) (jl rfl) hN jd_53 jd_48 jn_53 jn_48 (jl rfl) jg_w jgc_0 jgc_52 h (fun h => ?_)
    refine jr_le h (fun m3 h => ?_)
    refine jr_al_n (pc' := 54) rfl rfl rfl (jr_gr (pc' := 57) (r := 52) rfl rfl jlk_5_17 (.inl rfl) rfl hN jd_50 rfl rfl rfl (jr_al_n (pc' := 58) rfl rfl rfl (jr_gi (pc' := 61) rfl rfl jlk_5_30 (.inl rfl) rfl hN jd_50 rfl rfl (jr_si (pc' := 64) rfl rfl rfl (jr_mul (pc' := 65) rfl rfl ?_)))))
    refine jr_al_n (pc' := 66) rfl rfl rfl (jr_gr (pc' := 69) (r := 51) rfl rfl jlk_5_13 (.inl rfl) rfl hN jd_50 rfl rfl rfl (jr_ic (pc' := 70) rfl rfl (jr_al_n (pc' := 71) rfl rfl rfl (jr_gi (pc' := 74) rfl rfl jlk_5_26 (.inl rfl) rfl hN jd_50 rfl rfl (jr_bi (pc' := 76) rfl rfl rfl ?_)))))
    refine jr_mul (pc' := 77) rfl rfl ?_
    refine jr_cp (pc' := 80) rfl rfl jlk_5_40 (jl rfl) (jl rfl) hN jd_52 jd_51 jn_52 jn_51 (jl rfl) jg_w jgc_0 jg_w h (fun h => ?_)
    refine jr_le h (fun m4 h => ?_)
    refine jr_ic (pc' := 81) rfl rfl ?_
    exact jr_retb rfl hu rfl jb_1 (hQ' _ _ (hQ ((1 : Int), m4) jb_1 h))
  · refine jr_ic (pc' := 8) rfl rfl ?_
    exact jr_retb rfl hu rfl jb_0 (hQ' _ _ (hQ ((0 : Int), m) jb_0 h))

set_option maxRecDepth 20000 in
set_option maxHeartbeats 1000000 in
theorem jc_53 {X : Nat × (Nat → Int32)} {N d : Nat}  (hN : 102 ≤ N) (hd : 1 ≤ d)  {m : jm} {P : jm → Prop} {Q : px_Q} (h : jo (jf_53 m) P) (hQ : ∀ p : jm, True → P p → Q (.inl (none)) (jmem N p)) : px_C X d 53 [.ref 50] (jmem N m) Q := by
  unfold jf_53 at h
  have hu : ju px_m53 (0, 0) := ju_0
  refine jr_in (M := px_m53) (lev := 0) (L := [some (.ref 50)]) hd rfl jbd_53 (jl rfl) rfl (fun d hd Q' hQ' => ?_)
  refine jr_al_n (pc' := 1) rfl rfl rfl (jr_ic (pc' := 2) rfl rfl (jr_pi (pc' := 5) rfl rfl jlk_5_26 (.inl rfl) rfl hN jd_50 rfl rfl ?_))
  refine jr_le h (fun m1 h => ?_)
  refine jr_al_n (pc' := 6) rfl rfl rfl (jr_ic (pc' := 7) rfl rfl (jr_pi (pc' := 10) rfl rfl jlk_5_30 (.inl rfl) rfl hN jd_50 rfl rfl ?_))
  refine jr_le h (fun m2 h => ?_)
  exact jr_rv rfl hu rfl (hQ' _ _ (hQ m2 trivial h))

set_option maxRecDepth 20000 in
set_option maxHeartbeats 1000000 in
theorem jc_54 {X : Nat × (Nat → Int32)} {N d : Nat}  (hN : 102 ≤ N) (hd : 1 ≤ d)  {m : jm} {P : Int → Prop} {Q : px_Q} (h : jo (jf_54 m) P) (hQ : ∀ p : Int, jb p → P p → Q (.inl (some (jv p))) (jmem N m)) : px_C X d 54 [.ref 50] (jmem N m) Q := by
  unfold jf_54 at h
  have hu : ju px_m54 (0, 0) := ju_0
  refine jr_in (M := px_m54) (lev := 0) (L := [some (.ref 50)]) hd rfl jbd_54 (jl rfl) rfl (fun d hd Q' hQ' => ?_)
  refine jr_al_n (pc' := 1) rfl rfl rfl (jr_gi (pc' := 4) rfl rfl jlk_5_26 (.inl rfl) rfl hN jd_50 rfl rfl (jr_bi (pc' := 6) rfl rfl rfl ?_))
  refine jr_reg (fun t1 => jb t1) (fun t1 => jp X (px_C X d) px_m54 Q' N 14 [some (.ref 50)] [(jv t1)] m (0, 0)) h (fun t1 ht1 h => ?_) (fun R13 k2 h => ?_)
  · exact jr_retb rfl hu rfl ht1 (hQ' _ _ (hQ t1 ht1 h))
  · refine jr_clt (pa := 13) (pb := 9) rfl rfl rfl jg_a jgc_16 h (fun hc h => ?_) (fun hc h => ?_)
    · refine jr_ic (pc' := 14) rfl rfl ?_
      exact k2 ((0 : Int)) jb_0 h
    · refine jr_ic (pc' := 10) rfl rfl (jr_goto (pc' := 14) rfl rfl ?_)
      exact k2 ((1 : Int)) jb_1 h

set_option maxRecDepth 20000 in
set_option maxHeartbeats 1000000 in
theorem jc_55 {X : Nat × (Nat → Int32)} {N d : Nat}  (hN : 102 ≤ N) (hd : 2 ≤ d)  {m : jm} {P : jm → Prop} {Q : px_Q} (h : jo (jf_55 m) P) (hQ : ∀ p : jm, True → P p → Q (.inl (none)) (jmem N p)) : px_C X d 55 [.ref 50, .ref 47] (jmem N m) Q := by
  unfold jf_55 at h
  have hu : ju px_m55 (0, 0) := ju_0
  refine jr_in (M := px_m55) (lev := 1) (L := [some (.ref 50), some (.ref 47)]) hd rfl jbd_55 (jl rfl) rfl (fun d hd Q' hQ' => ?_)
  refine jr_al_n (pc' := 1) rfl rfl rfl ?_
  refine jr_cv_p (pc' := 4) [] rfl rfl jlk_5_33 jq_54 jbd_54 (jl rfl) rfl (jl rfl) hu rfl (jk rfl hN) (jd_50.trans jo_54.symm) (fun Q' hq => jc_54 hN (Nat.le_trans (jl rfl) hd)  (jo_b h) hq) (fun p1 hp1 h => ?_)
  refine jr_reg (fun t2 => True) (fun t2 => jp X (px_C X d) px_m55 Q' N 38 [some (.ref 50), some (.ref 47)] [] t2 (0, 0)) h (fun t2 ht2 h => ?_) (fun R16 k3 h => ?_)
  · exact jr_rv rfl hu rfl (hQ' _ _ (hQ t2 trivial h))
  · refine jr_zne (pa := 7) (pb := 38) rfl rfl rfl (jg_b hp1) h (fun hc h => ?_) (fun hc h => ?_)
    · refine jr_al_n (pc' := 8) rfl rfl rfl (jr_gr (pc' := 11) (r := 48) rfl rfl jlk_5_37 (.inr rfl) rfl hN jd_47 rfl rfl rfl (jr_ic (pc' := 12) rfl rfl (jr_al_n (pc' := 13) rfl rfl rfl (jr_gr (pc' := 16) (r := 51) rfl rfl jlk_5_13 (.inl rfl) rfl hN jd_50 rfl rfl rfl (jr_al_n (pc' := 17) rfl rfl rfl ?_)))))
      refine jr_gi (pc' := 20) rfl rfl jlk_5_26 (.inl rfl) rfl hN jd_50 rfl rfl (jr_bi (pc' := 22) rfl rfl rfl (jr_mul (pc' := 23) rfl rfl (jr_bi (pc' := 25) rfl rfl rfl ?_)))
      refine jr_cp (pc' := 28) rfl rfl jlk_5_40 (jl rfl) (jl rfl) hN jd_48 jd_51 jn_48 jn_51 (jl rfl) jgc_0 jg_w jgc_52 h (fun h => ?_)
      refine jr_le h (fun m4 h => ?_)
      refine jr_al_n (pc' := 29) rfl rfl rfl (jr_dup (pc' := 30) rfl rfl rfl (jr_gi (pc' := 33) rfl rfl jlk_5_26 (.inl rfl) rfl hN jd_50 rfl rfl (jr_ic (pc' := 34) rfl rfl (jr_add (pc' := 35) rfl rfl (jr_pi (pc' := 38) rfl rfl jlk_5_26 (.inl rfl) rfl hN jd_50 rfl rfl ?_)))))
      refine jr_le h (fun m5 h => ?_)
      exact k3 (m5) trivial h
    · exact k3 (m) trivial h

