/-! the pure machine follows the functions, 2 (written by wip/whole/gen/walk.py) -/
set_option maxRecDepth 20000 in
set_option maxHeartbeats 1000000 in
theorem jc_94 {X : Nat × (Nat → Int32)} {N d : Nat} {q : Nat} {x0 : Int} {x1 : Int} {x2 : Int} {x3 : Int} (hN : 102 ≤ N) (hd : 3 ≤ d) (hq : q = 0 ∨ q = 17) (hx0 : jg x0) (hx1 : jg x1) (hx2 : jg x2) (hx3 : jg x3) {m : jm} {P : Int × jm → Prop} {Q : px_Q} (h : jo (jf_94 q x0 x1 x2 x3 m) P) (hQ : ∀ p : Int × jm, jg p.1 → P p → Q (.inl (some (jv p.1))) (jmem N p.2)) : px_C X d 94 [.ref (47 + q), jv x0, jv x1, jv x2, jv x3] (jmem N m) Q := by
  unfold jf_94 at h
  rcases hq with rfl | rfl
  · have hu : ju px_m94 (0, 0) := ju_0
    try dsimp only [Nat.reduceAdd] at h
    refine jr_in (M := px_m94) (lev := 2) (L := [some (.ref 47), some (jv x0), some (jv x1), some (jv x2), some (jv x3)]) hd rfl jbd_94 (jl rfl) rfl (fun d hd Q' hQ' => ?_)
    refine jr_al_n (pc' := 1) rfl rfl rfl (jr_il_n (pc' := 2) rfl rfl rfl (jr_il_n (pc' := 3) rfl rfl rfl (jr_ic (pc' := 4) rfl rfl (jr_al_n (pc' := 5) rfl rfl rfl ?_))))
    refine jr_cv_p (pc' := 8) [_, _, _, _] rfl rfl jlk_6_131 jq_63 jbd_63 (jl rfl) rfl (jl rfl) hu rfl (jk rfl hN) (jd_47.trans jo_63.symm) (fun Q' hq => jc_63 hN (Nat.le_trans (jl rfl) hd) (.inl rfl) (jo_b h) hq) (fun p1 hp1 h => ?_)
    refine jr_cv_v (pc' := 11) [] rfl rfl jlk_6_138 jq_64 jbd_64 (jl rfl) rfl (jl rfl) hu rfl (jk rfl hN) (jd_47.trans jo_64.symm) (fun Q' hq => jc_64 hN (Nat.le_trans (jl rfl) hd) (.inl rfl) hx0 hx1 jgc_0 hp1 (jo_b h) hq) (fun p2 hp2 h => ?_)
    refine jr_al_n (pc' := 12) rfl rfl rfl (jr_il (pc' := 14) rfl rfl rfl (jr_il_n (pc' := 15) rfl rfl rfl (jr_ic (pc' := 16) rfl rfl ?_)))
    refine jr_cv_v (pc' := 19) [] rfl rfl jlk_6_128 jq_72 jbd_72 (jl rfl) rfl (jl rfl) hu rfl (jk rfl hN) (jd_47.trans jo_72.symm) (fun Q' hq => jc_72 hN (Nat.le_trans (jl rfl) hd) (.inl rfl) hx3 hx2 jgc_1 (jo_b h) hq) (fun p3 hp3 h => ?_)
    refine jr_al_n (pc' := 20) rfl rfl rfl (jr_gr (pc' := 23) (r := 27) rfl rfl jlk_6_24 (.inl rfl) rfl hN jd_47 rfl rfl rfl (jr_al_n (pc' := 24) rfl rfl rfl (jr_gr (pc' := 27) (r := 49) rfl rfl jlk_6_17 (.inl rfl) rfl hN jd_47 rfl rfl rfl ?_)))
    refine jr_cv_i (pc' := 30) [] rfl rfl jlk_6_81 jq_23 jbd_23 (jl rfl) rfl (jl rfl) hu rfl (jk rfl hN) (jd_27.trans jo_23.symm) (fun Q' hq => jc_23 hN (Nat.le_trans (jl rfl) hd) (.inl rfl) (jo_b h) hq) (fun p4 hp4 h => ?_)
    exact jr_ret rfl hu rfl (hQ' _ _ (hQ (p4.1, p4.2) hp4 h))
  · have hu : ju px_m94 (0, 0) := ju_0
    try dsimp only [Nat.reduceAdd] at h
    refine jr_in (M := px_m94) (lev := 2) (L := [some (.ref 64), some (jv x0), some (jv x1), some (jv x2), some (jv x3)]) hd rfl jbd_94 (jl rfl) rfl (fun d hd Q' hQ' => ?_)
    refine jr_al_n (pc' := 1) rfl rfl rfl (jr_il_n (pc' := 2) rfl rfl rfl (jr_il_n (pc' := 3) rfl rfl rfl (jr_ic (pc' := 4) rfl rfl (jr_al_n (pc' := 5) rfl rfl rfl ?_))))
    refine jr_cv_p (pc' := 8) [_, _, _, _] rfl rfl jlk_6_131 jq_63 jbd_63 (jl rfl) rfl (jl rfl) hu rfl (jk rfl hN) (jd_64.trans jo_63.symm) (fun Q' hq => jc_63 hN (Nat.le_trans (jl rfl) hd) (.inr rfl) (jo_b h) hq) (fun p1 hp1 h => ?_)
    refine jr_cv_v (pc' := 11) [] rfl rfl jlk_6_138 jq_64 jbd_64 (jl rfl) rfl (jl rfl) hu rfl (jk rfl hN) (jd_64.trans jo_64.symm) (fun Q' hq => jc_64 hN (Nat.le_trans (jl rfl) hd) (.inr rfl) hx0 hx1 jgc_0 hp1 (jo_b h) hq) (fun p2 hp2 h => ?_)
    refine jr_al_n (pc' := 12) rfl rfl rfl (jr_il (pc' := 14) rfl rfl rfl (jr_il_n (pc' := 15) rfl rfl rfl (jr_ic (pc' := 16) rfl rfl ?_)))
    refine jr_cv_v (pc' := 19) [] rfl rfl jlk_6_128 jq_72 jbd_72 (jl rfl) rfl (jl rfl) hu rfl (jk rfl hN) (jd_64.trans jo_72.symm) (fun Q' hq => jc_72 hN (Nat.le_trans (jl rfl) hd) (.inr rfl) hx3 hx2 jgc_1 (jo_b h) hq) (fun p3 hp3 h => ?_)
    refine jr_al_n (pc' := 20) rfl rfl rfl (jr_gr (pc' := 23) (r := 27) rfl rfl jlk_6_24 (.inl rfl) rfl hN jd_64 rfl rfl rfl (jr_al_n (pc' := 24) rfl rfl rfl (jr_gr (pc' := 27) (r := 66) rfl rfl jlk_6_17 (.inl rfl) rfl hN jd_64 rfl rfl rfl ?_)))
    refine jr_cv_i (pc' := 30) [] rfl rfl jlk_6_81 jq_23 jbd_23 (jl rfl) rfl (jl rfl) hu rfl (jk rfl hN) (jd_27.trans jo_23.symm) (fun Q' hq => jc_23 hN (Nat.le_trans (jl rfl) hd) (.inr rfl) (jo_b h) hq) (fun p4 hp4 h => ?_)
    exact jr_ret rfl hu rfl (hQ' _ _ (hQ (p4.1, p4.2) hp4 h))

set_option maxRecDepth 20000 in
set_option maxHeartbeats 1000000 in
theorem jc_5 {X : Nat × (Nat → Int32)} {N d : Nat} {x1 : Int} {x2 : Int} {x3 : Int} (hN : 102 ≤ N) (hd : 4 ≤ d) (hx1 : jg x1) (hx2 : jg x2) (hx3 : jg x3) {m : jm} {P : Int × jm → Prop} {Q : px_Q} (h : jo (jf_5 x1 x2 x3 m) P) (hQ : ∀ p : Int × jm, jg p.1 → P p → Q (.inl (some (jv p.1))) (jmem N p.2)) : px_C X d 5 [.ref 47, jv x1, jv x2, jv x3] (jmem N m) Q := by
  unfold jf_5 at h
  have hu : ju px_m5 (0, 0) := ju_0
  refine jr_in (M := px_m5) (lev := 3) (L := [some (.ref 47), some (jv x1), some (jv x2), some (jv x3)]) hd rfl jbd_5 (jl rfl) rfl (fun d hd Q' hQ' => ?_)
  refine jr_al_n (pc' := 1) rfl rfl rfl (jr_il_n (pc' := 2) rfl rfl rfl (jr_il_n (pc' := 3) rfl rfl rfl (jr_il_n (pc' := 4) rfl rfl rfl (jr_bi (pc' := 6) rfl rfl rfl (jr_div (pc' := 7) rfl rfl jgc_9 (by decide) ?_)))))
  refine jr_il_n (pc' := 8) rfl rfl rfl (jr_bi (pc' := 10) rfl rfl rfl (jr_rem (pc' := 11) rfl rfl jgc_9 (by decide) (jr_ic (pc' := 12) rfl rfl (jr_add (pc' := 13) rfl rfl ?_))))
  refine jr_cv_i (pc' := 16) [] rfl rfl jlk_0_69 jq_94 jbd_94 (jl rfl) rfl (jl rfl) hu rfl (jk rfl hN) (jd_47.trans jo_94.symm) (fun Q' hq => jc_94 hN (Nat.le_trans (jl rfl) hd) (.inl rfl) hx1 hx2 jg_div jg_w (jo_b h) hq) (fun p1 hp1 h => ?_)
  refine jr_abs (pc' := 19) rfl rfl jlk_0_75 (jl rfl) hu hp1 ?_
  exact jr_ret rfl hu rfl (hQ' _ _ (hQ (jabs p1.1, p1.2) (jg_abs hp1) h))

set_option maxRecDepth 20000 in
set_option maxHeartbeats 1000000 in
theorem jc_4 {X : Nat × (Nat → Int32)} {N d : Nat} {x1 : Int} (hN : 102 ≤ N) (hd : 5 ≤ d) (hx1 : jg x1) {m : jm} {P : jm → Prop} {Q : px_Q} (h : jo (jf_4 x1 m) P) (hQ : ∀ p : jm, True → P p → Q (.inl (none)) (jmem N p)) : px_C X d 4 [.ref 33, .ref 47, jv x1] (jmem N m) Q := by
  unfold jf_4 at h
  have hu : ju px_m4 (0, 0) := ju_0
  refine jr_in (M := px_m4) (lev := 4) (L := [some (.ref 33), some (.ref 47), some (jv x1), none, none]) hd rfl jbd_4 (jl rfl) rfl (fun d hd Q' hQ' => ?_)
  refine jr_al_n (pc' := 1) rfl rfl rfl (jr_ic (pc' := 2) rfl rfl (jr_pi (pc' := 5) rfl rfl jlk_0_62 (.inl rfl) rfl hN jd_33 rfl rfl ?_))
  refine jr_le h (fun m1 h => ?_)
  refine jr_ic (pc' := 6) rfl rfl (jr_is_n (pc' := 7) (L' := [_, _, _, _, _]) rfl rfl (jl rfl) rfl rfl ?_)
  refine jr_reg (fun t6 => True) (fun t6 => ∀ o7, jn o7 → ∀ o8, jn o8 → jp X (px_C X d) px_m4 Q' N 101 [some (.ref 33), some (.ref 47), some (jv x1), o7, o8] [] t6 (0, 0)) h (fun t6 ht6 h o7 ho7 o8 ho8 => ?_) (fun R10 k9 h => ?_)
  · exact jr_rv rfl hu rfl (hQ' _ _ (hQ t6 trivial h))
  · refine jr_lp (fun s2 => jg s2.1) (fun s2 => ∀ o3, jn o3 → jp X (px_C X d) px_m4 Q' N 7 [some (.ref 33), some (.ref 47), some (jv x1), some (jv s2.1), o3] [] s2.2 (0, 0)) h jgc_0 (fun s2 hs2 R5 k4 h o3 ho3 => ?_) _ jn_n
    refine jr_il_n (pc' := 8) rfl rfl rfl (jr_bi (pc' := 10) rfl rfl rfl ?_)
    refine jr_cge (pa := 13) (pb := 101) rfl rfl rfl hs2 jgc_54 h (fun hc h => ?_) (fun hc h => ?_)
    · refine jr_al_n (pc' := 14) rfl rfl rfl (jr_gr (pc' := 17) (r := 35) rfl rfl jlk_0_15 (.inl rfl) rfl hN jd_33 rfl rfl rfl (jr_il_n (pc' := 18) rfl rfl rfl (jr_ic (pc' := 19) rfl rfl ?_)))
      refine jr_bst (pc' := 20) rfl rfl (jl rfl) hN jd_35 jn_35 hs2 jb_1 h (fun hc h => ?_)
      refine jr_le h (fun m11 h => ?_)
      refine jr_ic (pc' := 21) rfl rfl (jr_is (pc' := 23) (L' := [_, _, _, _, _]) rfl rfl (jl rfl) rfl rfl ?_)
      refine jr_reg (fun t15 => True) (fun t15 => ∀ o16, jn o16 → jp X (px_C X d) px_m4 Q' N 72 [some (.ref 33), some (.ref 47), some (jv x1), some (jv s2.1), o16] [] t15 (0, 0)) h (fun t15 ht15 h o16 ho16 => ?_) (fun R18 k17 h => ?_)
      · refine jr_al_n (pc' := 73) rfl rfl rfl (jr_dup (pc' := 74) rfl rfl rfl (jr_gi (pc' := 77) rfl rfl jlk_0_62 (.inl rfl) rfl hN jd_33 rfl rfl (jr_al_n (pc' := 78) rfl rfl rfl (jr_gr (pc' := 81) (r := 35) rfl rfl jlk_0_15 (.inl rfl) rfl hN jd_33 rfl rfl rfl (jr_il_n (pc' := 82) rfl rfl rfl ?_)))))
        refine jr_ba (pc' := 83) rfl rfl (jl rfl) hN jd_35 jn_35 hs2 h (fun hc h => ?_)
        refine jr_reg (fun t44 => jb t44) (fun t44 => jp X (px_C X d) px_m4 Q' N 91 [some (.ref 33), some (.ref 47), some (jv x1), some (jv s2.1), o16] [(jv t44), (jv (ja t15 33 3)), (.ref 33)] t15 (0, 0)) h (fun t44 ht44 h => ?_) (fun R57 k45 h => ?_)
        · refine jr_add (pc' := 92) rfl rfl (jr_pi (pc' := 95) rfl rfl jlk_0_62 (.inl rfl) rfl hN jd_33 rfl rfl ?_)
          refine jr_le h (fun m56 h => ?_)
          refine jr_inc (pc' := 98) (L' := [_, _, _, _, _]) rfl rfl rfl (jl rfl) rfl rfl (jr_goto (pc' := 7) rfl rfl ?_)
          exact k4 (jw (s2.1 + 1), m56) jg_w h _ ho16
        · refine jr_zeq (pa := 90) (pb := 86) rfl rfl rfl jg_a h (fun hc h => ?_) (fun hc h => ?_)
          · refine jr_ic (pc' := 91) rfl rfl ?_
            exact k45 ((0 : Int)) jb_0 h
          · refine jr_ic (pc' := 87) rfl rfl (jr_goto (pc' := 91) rfl rfl ?_)
            exact k45 ((1 : Int)) jb_1 h
      · refine jr_lp (fun s12 => jg s12.1) (fun s12 => jp X (px_C X d) px_m4 Q' N 23 [some (.ref 33), some (.ref 47), some (jv x1), some (jv s2.1), some (jv s12.1)] [] s12.2 (0, 0)) h jgc_0 (fun s12 hs12 R14 k13 h => ?_)
        refine jr_il (pc' := 25) rfl rfl rfl (jr_bi (pc' := 27) rfl rfl rfl ?_)
        refine jr_cge (pa := 30) (pb := 72) rfl rfl rfl hs12 jgc_12 h (fun hc h => ?_) (fun hc h => ?_)
        · refine jr_al_n (pc' := 31) rfl rfl rfl (jr_gr (pc' := 34) (r := 34) rfl rfl jlk_0_9 (.inl rfl) rfl hN jd_33 rfl rfl rfl (jr_il (pc' := 36) rfl rfl rfl ?_))
          refine jr_ia (pc' := 37) rfl rfl (jl rfl) hN jd_34 jn_34 hs12 h (fun hc h => ?_)
          refine jr_ic (pc' := 38) rfl rfl ?_
          refine jr_reg (fun t19 => True) (fun t19 => jp X (px_C X d) px_m4 Q' N 66 [some (.ref 33), some (.ref 47), some (jv x1), some (jv s2.1), some (jv s12.1)] [] t19 (0, 0)) h (fun t19 ht19 h => ?_) (fun R33 k20 h => ?_)
          · refine jr_inc (pc' := 69) (L' := [_, _, _, _, _]) rfl rfl rfl (jl rfl) rfl rfl (jr_goto (pc' := 23) rfl rfl ?_)
            exact k13 (jw (s12.1 + 1), t19) jg_w h
          · refine jr_ceq (pa := 66) (pb := 41) rfl rfl rfl jg_a jgc_m1 h (fun hc h => ?_) (fun hc h => ?_)
            · exact k20 (s12.2) trivial h
            · refine jr_al_n (pc' := 42) rfl rfl rfl (jr_gr (pc' := 45) (r := 34) rfl rfl jlk_0_9 (.inl rfl) rfl hN jd_33 rfl rfl rfl (jr_il (pc' := 47) rfl rfl rfl ?_))
              refine jr_ia (pc' := 48) rfl rfl (jl rfl) hN jd_34 jn_34 hs12 h (fun hc h => ?_)
              refine jr_al_n (pc' := 49) rfl rfl rfl (jr_il_n (pc' := 50) rfl rfl rfl (jr_il (pc' := 52) rfl rfl rfl (jr_il_n (pc' := 53) rfl rfl rfl ?_)))
              refine jr_cs_i (pc' := 56) [_] rfl rfl jlk_0_65 jq_5 jbd_5 (jl rfl) rfl (jl rfl) hu (fun Q' hq => jc_5 hN (Nat.le_trans (jl rfl) hd) hx1 hs12 hs2 (jo_b h) hq) (fun p21 hp21 h => ?_)
              refine jr_ceq (pa := 66) (pb := 59) rfl rfl rfl jg_a hp21 h (fun hc h => ?_) (fun hc h => ?_)
              · exact k20 (p21.2) trivial h
              · refine jr_al_n (pc' := 60) rfl rfl rfl (jr_gr (pc' := 63) (r := 35) rfl rfl jlk_0_15 (.inl rfl) rfl hN jd_33 rfl rfl rfl (jr_il_n (pc' := 64) rfl rfl rfl (jr_ic (pc' := 65) rfl rfl ?_)))
                refine jr_bst (pc' := 66) rfl rfl (jl rfl) hN jd_35 jn_35 hs2 jb_0 h (fun hc h => ?_)
                refine jr_le h (fun m22 h => ?_)
                exact k20 (m22) trivial h
        · exact k17 (s12.2) trivial h _ jn_i
    · exact k9 (s2.2) trivial h _ jn_i _ ho3

set_option maxRecDepth 20000 in
set_option maxHeartbeats 1000000 in
theorem jc_6 {X : Nat × (Nat → Int32)} {N d : Nat}  (hN : 102 ≤ N) (hd : 1 ≤ d)  {m : jm} {P : Int → Prop} {Q : px_Q} (h : jo (jf_6 m) P) (hQ : ∀ p : Int, jg p → P p → Q (.inl (some (jv p))) (jmem N m)) : px_C X d 6 [.ref 33] (jmem N m) Q := by
  unfold jf_6 at h
  have hu : ju px_m6 (0, 0) := ju_0
  refine jr_in (M := px_m6) (lev := 0) (L := [some (.ref 33), none]) hd rfl jbd_6 (jl rfl) rfl (fun d hd Q' hQ' => ?_)
  refine jr_ic (pc' := 1) rfl rfl (jr_is_n (pc' := 2) (L' := [_, _]) rfl rfl (jl rfl) rfl rfl ?_)
  refine jr_lp (fun s1 => jg s1) (fun s1 => jp X (px_C X d) px_m6 Q' N 2 [some (.ref 33), some (jv s1)] [] m (0, 0)) h jgc_0 (fun s1 hs1 R3 k2 h => ?_)
  refine jr_il_n (pc' := 3) rfl rfl rfl (jr_bi (pc' := 5) rfl rfl rfl ?_)
  refine jr_cge (pa := 8) (pb := 38) rfl rfl rfl hs1 jgc_54 h (fun hc h => ?_) (fun hc h => ?_)
  · refine jr_al_n (pc' := 9) rfl rfl rfl (jr_gr (pc' := 12) (r := 35) rfl rfl jlk_0_15 (.inl rfl) rfl hN jd_33 rfl rfl rfl (jr_il_n (pc' := 13) rfl rfl rfl ?_))
    refine jr_ba (pc' := 14) rfl rfl (jl rfl) hN jd_35 jn_35 hs1 h (fun hc h => ?_)
    refine jr_zeq (pa := 32) (pb := 17) rfl rfl rfl jg_a h (fun hc h => ?_) (fun hc h => ?_)
    · refine jr_inc (pc' := 35) (L' := [_, _]) rfl rfl rfl (jl rfl) rfl rfl (jr_goto (pc' := 2) rfl rfl ?_)
      exact k2 (jw (s1 + 1)) jg_w h
    · refine jr_bi (pc' := 19) rfl rfl rfl (jr_il_n (pc' := 20) rfl rfl rfl (jr_bi (pc' := 22) rfl rfl rfl (jr_div (pc' := 23) rfl rfl jgc_9 (by decide) (jr_mul (pc' := 24) rfl rfl (jr_il_n (pc' := 25) rfl rfl rfl ?_)))))
      refine jr_bi (pc' := 27) rfl rfl rfl (jr_rem (pc' := 28) rfl rfl jgc_9 (by decide) (jr_add (pc' := 29) rfl rfl (jr_ic (pc' := 30) rfl rfl (jr_add (pc' := 31) rfl rfl ?_))))
      exact jr_ret rfl hu rfl (hQ' _ _ (hQ (jw ((jw ((jw ((10 : Int) * (jdiv s1 (9 : Int)))) + (jrem s1 (9 : Int)))) + (1 : Int))) jg_w h))
  · refine jr_ic (pc' := 39) rfl rfl ?_
    exact jr_ret rfl hu rfl (hQ' _ _ (hQ (-1 : Int) jgc_m1 h))

set_option maxRecDepth 20000 in
set_option maxHeartbeats 1000000 in
theorem jc_8 {X : Nat × (Nat → Int32)} {N d : Nat} {x1 : Int} {x2 : Int} (hN : 102 ≤ N) (hd : 5 ≤ d) (hx1 : jg x1) (hx2 : jg x2) {m : jm} {P : Int × jm → Prop} {Q : px_Q} (h : jo (jf_8 x1 x2 m) P) (hQ : ∀ p : Int × jm, jg p.1 → P p → Q (.inl (some (jv p.1))) (jmem N p.2)) : px_C X d 8 [.ref 33, .ref 47, jv x1, jv x2] (jmem N m) Q := by
  unfold jf_8 at h
  have hu : ju px_m8 (0, 0) := ju_0
  refine jr_in (M := px_m8) (lev := 4) (L := [some (.ref 33), some (.ref 47), some (jv x1), some (jv x2), none, none, none]) hd rfl jbd_8 (jl rfl) rfl (fun d hd Q' hQ' => ?_)
  refine jr_al_n (pc' := 1) rfl rfl rfl (jr_gr (pc' := 4) (r := 36) rfl rfl jlk_0_19 (.inl rfl) rfl hN jd_33 rfl rfl rfl (jr_ic (pc' := 5) rfl rfl ?_))
  refine jr_cs_v (pc' := 8) [] rfl rfl jlk_0_22 jq_334 jbd_334 (jl rfl) rfl (jl rfl) hu (fun Q' hq => jc_334 hN (Nat.le_trans (jl rfl) hd) ⟨jl rfl, jd_36⟩ jgc_0 (jo_b h) hq) (fun p1 hp1 h => ?_)
  refine jr_ic (pc' := 9) rfl rfl (jr_is (pc' := 11) (L' := [_, _, _, _, _, _, _]) rfl rfl (jl rfl) rfl rfl (jr_ic (pc' := 12) rfl rfl (jr_is (pc' := 14) (L' := [_, _, _, _, _, _, _]) rfl rfl (jl rfl) rfl rfl ?_)))
  refine jr_reg (fun t6 => jg t6.1) (fun t6 => ∀ o7, jn o7 → ∀ o8, jn o8 → jp X (px_C X d) px_m8 Q' N 72 [some (.ref 33), some (.ref 47), some (jv x1), some (jv x2), some (jv t6.1), o7, o8] [] t6.2 (0, 0)) h (fun t6 ht6 h o7 ho7 o8 ho8 => ?_) (fun R10 k9 h => ?_)
  · refine jr_il (pc' := 74) rfl rfl rfl ?_
    exact jr_ret rfl hu rfl (hQ' _ _ (hQ (t6.1, t6.2) ht6 h))
  · refine jr_lp (fun s2 => jg s2.1 ∧ jg s2.2.1) (fun s2 => ∀ o3, jn o3 → jp X (px_C X d) px_m8 Q' N 14 [some (.ref 33), some (.ref 47), some (jv x1), some (jv x2), some (jv s2.1), some (jv s2.2.1), o3] [] s2.2.2 (0, 0)) h ⟨jgc_0, jgc_0⟩ (fun s2 hs2 R5 k4 h o3 ho3 => ?_) _ jn_n
    refine jr_il (pc' := 16) rfl rfl rfl (jr_bi (pc' := 18) rfl rfl rfl ?_)
    refine jr_cge (pa := 21) (pb := 72) rfl rfl rfl hs2.2 jgc_54 h (fun hc h => ?_) (fun hc h => ?_)
    · refine jr_al_n (pc' := 22) rfl rfl rfl (jr_gr (pc' := 25) (r := 35) rfl rfl jlk_0_15 (.inl rfl) rfl hN jd_33 rfl rfl rfl (jr_il (pc' := 27) rfl rfl rfl ?_))
      refine jr_ba (pc' := 28) rfl rfl (jl rfl) hN jd_35 jn_35 hs2.2 h (fun hc h => ?_)
      refine jr_reg (fun t11 => jg t11.1) (fun t11 => ∀ o12, jn o12 → jp X (px_C X d) px_m8 Q' N 66 [some (.ref 33), some (.ref 47), some (jv x1), some (jv x2), some (jv t11.1), some (jv s2.2.1), o12] [] t11.2 (0, 0)) h (fun t11 ht11 h o12 ho12 => ?_) (fun R26 k13 h => ?_)
      · refine jr_inc (pc' := 69) (L' := [_, _, _, _, _, _, _]) rfl rfl rfl (jl rfl) rfl rfl (jr_goto (pc' := 14) rfl rfl ?_)
        exact k4 (t11.1, jw (s2.2.1 + 1), t11.2) ⟨ht11, jg_w⟩ h _ ho12
      · refine jr_zeq (pa := 66) (pb := 31) rfl rfl rfl jg_a h (fun hc h => ?_) (fun hc h => ?_)
        · exact k13 (s2.1, s2.2.2) hs2.1 h _ ho3
        · refine jr_al_n (pc' := 32) rfl rfl rfl (jr_il_n (pc' := 33) rfl rfl rfl (jr_il_n (pc' := 34) rfl rfl rfl (jr_il (pc' := 36) rfl rfl rfl ?_)))
          refine jr_cs_i (pc' := 39) [] rfl rfl jlk_0_65 jq_5 jbd_5 (jl rfl) rfl (jl rfl) hu (fun Q' hq => jc_5 hN (Nat.le_trans (jl rfl) hd) hx1 hx2 hs2.2 (jo_b h) hq) (fun p14 hp14 h => ?_)
          refine jr_is (pc' := 41) (L' := [_, _, _, _, _, _, _]) rfl rfl (jl rfl) rfl rfl (jr_al_n (pc' := 42) rfl rfl rfl (jr_gr (pc' := 45) (r := 36) rfl rfl jlk_0_19 (.inl rfl) rfl hN jd_33 rfl rfl rfl (jr_il (pc' := 47) rfl rfl rfl (jr_dup2 (pc' := 48) rfl rfl rfl rfl ?_))))
          refine jr_ia (pc' := 49) rfl rfl (jl rfl) hN jd_36 jn_36 hp14 h (fun hc h => ?_)
          refine jr_ic (pc' := 50) rfl rfl (jr_add (pc' := 51) rfl rfl ?_)
          refine jr_ist (pc' := 52) rfl rfl (jl rfl) hN jd_36 jn_36 hp14 h (fun hc h => ?_)
          refine jr_le h (fun m15 h => ?_)
          refine jr_il (pc' := 54) rfl rfl rfl (jr_al_n (pc' := 55) rfl rfl rfl (jr_gr (pc' := 58) (r := 36) rfl rfl jlk_0_19 (.inl rfl) rfl hN jd_33 rfl rfl rfl (jr_il (pc' := 60) rfl rfl rfl ?_)))
          refine jr_ia (pc' := 61) rfl rfl (jl rfl) hN jd_36 jn_36 hp14 h (fun hc h => ?_)
          refine jr_max (pc' := 64) rfl rfl jlk_0_81 (jl rfl) hu hs2.1 jg_a (jr_is (pc' := 66) (L' := [_, _, _, _, _, _, _]) rfl rfl (jl rfl) rfl rfl ?_)
          exact k13 (jmax s2.1 (ja m15 36 p14.1.toNat), m15) (jg_max hs2.1 jg_a) h _ jn_i
    · exact k9 (s2.1, s2.2.2) hs2.1 h _ jn_i _ ho3

set_option maxRecDepth 20000 in
set_option maxHeartbeats 1000000 in
theorem jc_7 {X : Nat × (Nat → Int32)} {N d : Nat} {x1 : Int} {x2 : Int} (hN : 102 ≤ N) (hd : 6 ≤ d) (hx1 : jg x1) (hx2 : jg x2) {m : jm} {P : Int × jm → Prop} {Q : px_Q} (h : jo (jf_7 x1 x2 m) P) (hQ : ∀ p : Int × jm, jg p.1 → P p → Q (.inl (some (jv p.1))) (jmem N p.2)) : px_C X d 7 [.ref 33, .ref 47, jv x1, jv x2] (jmem N m) Q := by
  unfold jf_7 at h
  have hu : ju px_m7 (0, 0) := ju_0
  refine jr_in (M := px_m7) (lev := 5) (L := [some (.ref 33), some (.ref 47), some (jv x1), some (jv x2), none, none, none, none]) hd rfl jbd_7 (jl rfl) rfl (fun d hd Q' hQ' => ?_)
  refine jr_ic (pc' := 1) rfl rfl (jr_is (pc' := 3) (L' := [_, _, _, _, _, _, _, _]) rfl rfl (jl rfl) rfl rfl (jr_bi (pc' := 5) rfl rfl rfl (jr_is (pc' := 7) (L' := [_, _, _, _, _, _, _, _]) rfl rfl (jl rfl) rfl rfl (jr_ic (pc' := 8) rfl rfl (jr_is (pc' := 10) (L' := [_, _, _, _, _, _, _, _]) rfl rfl (jl rfl) rfl rfl ?_)))))
  refine jr_reg (fun t5 => jg t5.1) (fun t5 => ∀ o6, jn o6 → ∀ o7, jn o7 → ∀ o8, jn o8 → jp X (px_C X d) px_m7 Q' N 58 [some (.ref 33), some (.ref 47), some (jv x1), some (jv x2), some (jv t5.1), o6, o7, o8] [] t5.2 (0, 0)) h (fun t5 ht5 h o6 ho6 o7 ho7 o8 ho8 => ?_) (fun R10 k9 h => ?_)
  · refine jr_il (pc' := 60) rfl rfl rfl ?_
    exact jr_ret rfl hu rfl (hQ' _ _ (hQ (t5.1, t5.2) ht5 h))
  · refine jr_lp (fun s1 => jg s1.1 ∧ jg s1.2.1 ∧ jg s1.2.2.1) (fun s1 => ∀ o2, jn o2 → jp X (px_C X d) px_m7 Q' N 10 [some (.ref 33), some (.ref 47), some (jv x1), some (jv x2), some (jv s1.1), some (jv s1.2.1), some (jv s1.2.2.1), o2] [] s1.2.2.2 (0, 0)) h ⟨jgc_m1, jgc_55, jgc_0⟩ (fun s1 hs1 R4 k3 h o2 ho2 => ?_) _ jn_n
    refine jr_il (pc' := 12) rfl rfl rfl (jr_il_n (pc' := 13) rfl rfl rfl ?_)
    refine jr_cge (pa := 16) (pb := 58) rfl rfl rfl hs1.2.2 hx2 h (fun hc h => ?_) (fun hc h => ?_)
    · refine jr_al_n (pc' := 17) rfl rfl rfl (jr_gr (pc' := 20) (r := 34) rfl rfl jlk_0_9 (.inl rfl) rfl hN jd_33 rfl rfl rfl (jr_il (pc' := 22) rfl rfl rfl ?_))
      refine jr_ia (pc' := 23) rfl rfl (jl rfl) hN jd_34 jn_34 hs1.2.2 h (fun hc h => ?_)
      refine jr_ic (pc' := 24) rfl rfl ?_
      refine jr_reg (fun t11 => jg t11.1 ∧ jg t11.2.1) (fun t11 => ∀ o12, jn o12 → jp X (px_C X d) px_m7 Q' N 52 [some (.ref 33), some (.ref 47), some (jv x1), some (jv x2), some (jv t11.1), some (jv t11.2.1), some (jv s1.2.2.1), o12] [] t11.2.2 (0, 0)) h (fun t11 ht11 h o12 ho12 => ?_) (fun R25 k13 h => ?_)
      · refine jr_inc (pc' := 55) (L' := [_, _, _, _, _, _, _, _]) rfl rfl rfl (jl rfl) rfl rfl (jr_goto (pc' := 10) rfl rfl ?_)
        exact k3 (t11.1, t11.2.1, jw (s1.2.2.1 + 1), t11.2.2) ⟨ht11.1, ht11.2, jg_w⟩ h _ ho12
      · refine jr_cne (pa := 27) (pb := 52) rfl rfl rfl jg_a jgc_m1 h (fun hc h => ?_) (fun hc h => ?_)
        · refine jr_al_n (pc' := 28) rfl rfl rfl (jr_al_n (pc' := 29) rfl rfl rfl (jr_il_n (pc' := 30) rfl rfl rfl (jr_il (pc' := 32) rfl rfl rfl ?_)))
          refine jr_cv_i (pc' := 35) [] rfl rfl jlk_0_84 jq_8 jbd_8 (jl rfl) rfl (jl rfl) hu rfl (jk rfl hN) (jd_33.trans jo_8.symm) (fun Q' hq => jc_8 hN (Nat.le_trans (jl rfl) hd) hx1 hs1.2.2 (jo_b h) hq) (fun p14 hp14 h => ?_)
          refine jr_is (pc' := 37) (L' := [_, _, _, _, _, _, _, _]) rfl rfl (jl rfl) rfl rfl (jr_il (pc' := 39) rfl rfl rfl (jr_il (pc' := 41) rfl rfl rfl ?_))
          refine jr_cge (pa := 44) (pb := 52) rfl rfl rfl hp14 hs1.2.1 h (fun hc h => ?_) (fun hc h => ?_)
          · refine jr_il (pc' := 46) rfl rfl rfl (jr_is (pc' := 48) (L' := [_, _, _, _, _, _, _, _]) rfl rfl (jl rfl) rfl rfl (jr_il (pc' := 50) rfl rfl rfl (jr_is (pc' := 52) (L' := [_, _, _, _, _, _, _, _]) rfl rfl (jl rfl) rfl rfl ?_)))
            exact k13 (s1.2.2.1, p14.1, p14.2) ⟨hs1.2.2, hp14⟩ h _ jn_i
          · exact k13 (s1.1, s1.2.1, p14.2) ⟨hs1.1, hs1.2.1⟩ h _ jn_i
        · exact k13 (s1.1, s1.2.1, s1.2.2.2) ⟨hs1.1, hs1.2.1⟩ h _ ho2
    · exact k9 (s1.1, s1.2.2.2) hs1.1 h _ jn_i _ jn_i _ ho2

set_option maxRecDepth 20000 in
set_option maxHeartbeats 1000000 in
theorem jc_10 {X : Nat × (Nat → Int32)} {N d : Nat} {x0 : Int} {x1 : Int} (hN : 102 ≤ N) (hd : 1 ≤ d) (hx0 : jg x0) (hx1 : jg x1) {m : jm} {P : Int → Prop} {Q : px_Q} (h : jo (jf_10 x0 x1 m) P) (hQ : ∀ p : Int, jb p → P p → Q (.inl (some (jv p))) (jmem N m)) : px_C X d 10 [.ref 3, jv x0, jv x1] (jmem N m) Q := by
  unfold jf_10 at h
  have hu : ju px_m10 (0, 0) := ju_0
  refine jr_in (M := px_m10) (lev := 0) (L := [some (.ref 3), some (jv x0), some (jv x1)]) hd rfl jbd_10 (jl rfl) rfl (fun d hd Q' hQ' => ?_)
  refine jr_al_n (pc' := 1) rfl rfl rfl (jr_gr (pc' := 4) (r := 10) rfl rfl jlk_1_30 (.inl rfl) rfl hN jd_3 rfl rfl rfl (jr_il_n (pc' := 5) rfl rfl rfl ?_))
  refine jr_ia (pc' := 6) rfl rfl (jl rfl) hN jd_10 jn_10 hx0 h (fun hc h => ?_)
  refine jr_bi (pc' := 8) rfl rfl rfl ?_
  refine jr_reg (fun t1 => jb t1) (fun t1 => jp X (px_C X d) px_m10 Q' N 31 [some (.ref 3), some (jv x0), some (jv x1)] [(jv t1)] m (0, 0)) h (fun t1 ht1 h => ?_) (fun R13 k2 h => ?_)
  · exact jr_retb rfl hu rfl ht1 (hQ' _ _ (hQ t1 ht1 h))
  · refine jr_ceq (pa := 26) (pb := 11) rfl rfl rfl jg_a jgc_6 h (fun hc h => ?_) (fun hc h => ?_)
    · refine jr_ic (pc' := 27) rfl rfl (jr_goto (pc' := 31) rfl rfl ?_)
      exact k2 ((1 : Int)) jb_1 h
    · refine jr_al_n (pc' := 12) rfl rfl rfl (jr_gr (pc' := 15) (r := 10) rfl rfl jlk_1_30 (.inl rfl) rfl hN jd_3 rfl rfl rfl (jr_il_n (pc' := 16) rfl rfl rfl ?_))
      refine jr_ia (pc' := 17) rfl rfl (jl rfl) hN jd_10 jn_10 hx0 h (fun hc h => ?_)
      refine jr_al_n (pc' := 18) rfl rfl rfl (jr_gr (pc' := 21) (r := 13) rfl rfl jlk_1_39 (.inl rfl) rfl hN jd_3 rfl rfl rfl (jr_il_n (pc' := 22) rfl rfl rfl ?_))
      refine jr_ia (pc' := 23) rfl rfl (jl rfl) hN jd_13 jn_13 hx1 h (fun hc h => ?_)
      refine jr_cne (pa := 26) (pb := 30) rfl rfl rfl jg_a jg_a h (fun hc h => ?_) (fun hc h => ?_)
      · refine jr_ic (pc' := 27) rfl rfl (jr_goto (pc' := 31) rfl rfl ?_)
        exact k2 ((1 : Int)) jb_1 h
      · refine jr_ic (pc' := 31) rfl rfl ?_
        exact k2 ((0 : Int)) jb_0 h

set_option maxRecDepth 20000 in
set_option maxHeartbeats 1000000 in
theorem jc_118 {X : Nat × (Nat → Int32)} {N d : Nat} {s0 : Nat} {x1 : Int} (hN : 102 ≤ N) (hd : 1 ≤ d) (hs0 : s0 < 25) (hx1 : jg x1) {m : jm} {P : Int → Prop} {Q : px_Q} (h : jo (jf_118 s0 x1 m) P) (hQ : ∀ p : Int, jg p → P p → Q (.inl (some (jv p))) (jmem N m)) : px_C X d 118 [.ref (1000 + s0), jv x1] (jmem N m) Q := by
  unfold jf_118 at h
  have hu : ju px_m118 (0, 0) := ju_0
  refine jr_in (M := px_m118) (lev := 0) (L := [some (.ref (1000 + s0)), some (jv x1), none]) hd rfl jbd_118 (jl rfl) rfl (fun d hd Q' hQ' => ?_)
  refine jr_il_n (pc' := 1) rfl rfl rfl (jr_is_n (pc' := 2) (L' := [_, _, _]) rfl rfl (jl rfl) rfl rfl ?_)
  refine jr_reg (fun t4 => jg t4) (fun t4 => jp X (px_C X d) px_m118 Q' N 26 [some (.ref (1000 + s0)), some (jv x1), some (jv t4)] [] m (0, 0)) h (fun t4 ht4 h => ?_) (fun R6 k5 h => ?_)
  · refine jr_il_n (pc' := 27) rfl rfl rfl ?_
    exact jr_ret rfl hu rfl (hQ' _ _ (hQ t4 ht4 h))
  · refine jr_lp (fun s1 => jg s1) (fun s1 => jp X (px_C X d) px_m118 Q' N 2 [some (.ref (1000 + s0)), some (jv x1), some (jv s1)] [] m (0, 0)) h hx1 (fun s1 hs1 R3 k2 h => ?_)
    refine jr_il_n (pc' := 3) rfl rfl rfl (jr_al_n (pc' := 4) rfl rfl rfl (jr_slen (pc' := 7) rfl rfl jlk_9_60 hs0 (jl rfl) hu ?_))
    refine jr_cge (pa := 10) (pb := 26) rfl rfl rfl hs1 (jg_sl hs0) h (fun hc h => ?_) (fun hc h => ?_)
    · refine jr_al_n (pc' := 11) rfl rfl rfl (jr_il_n (pc' := 12) rfl rfl rfl ?_)
      refine jr_schr (pc' := 15) rfl rfl jlk_9_72 hs0 (jl rfl) hu hs1 h (fun hc h => ?_)
      refine jr_bi (pc' := 17) rfl rfl rfl ?_
      refine jr_ceq (pa := 26) (pb := 20) rfl rfl rfl (jg_sc hs0) jgc_32 h (fun hc h => ?_) (fun hc h => ?_)
      · exact k5 (s1) hs1 h
      · refine jr_inc (pc' := 23) (L' := [_, _, _]) rfl rfl rfl (jl rfl) rfl rfl (jr_goto (pc' := 2) rfl rfl ?_)
        exact k2 (jw (s1 + 1)) jg_w h
    · exact k5 (s1) hs1 h

set_option maxRecDepth 20000 in
set_option maxHeartbeats 1000000 in
theorem jc_119 {X : Nat × (Nat → Int32)} {N d : Nat} {s0 : Nat} {x1 : Int} {x2 : Int} (hN : 102 ≤ N) (hd : 1 ≤ d) (hs0 : s0 < 25) (hx1 : jg x1) (hx2 : jg x2) {m : jm} {P : Int → Prop} {Q : px_Q} (h : jo (jf_119 s0 x1 x2 m) P) (hQ : ∀ p : Int, jb p → P p → Q (.inl (some (jv p))) (jmem N m)) : px_C X d 119 [.ref 1, .ref (1000 + s0), jv x1, jv x2] (jmem N m) Q := by
  unfold jf_119 at h
  have hu : ju px_m119 (0, 0) := ju_0
  refine jr_in (M := px_m119) (lev := 0) (L := [some (.ref 1), some (.ref (1000 + s0)), some (jv x1), some (jv x2), none]) hd rfl jbd_119 (jl rfl) rfl (fun d hd Q' hQ' => ?_)
  refine jr_il_n (pc' := 1) rfl rfl rfl (jr_il_n (pc' := 2) rfl rfl rfl (jr_sub (pc' := 3) rfl rfl (jr_al_n (pc' := 4) rfl rfl rfl (jr_gi (pc' := 7) rfl rfl jlk_9_31 (.inl rfl) rfl hN jd_1 rfl rfl (jr_al_n (pc' := 8) rfl rfl rfl ?_)))))
  refine jr_gi (pc' := 11) rfl rfl jlk_9_34 (.inl rfl) rfl hN jd_1 rfl rfl (jr_sub (pc' := 12) rfl rfl ?_)
  refine jr_ceq (pa := 17) (pb := 15) rfl rfl rfl jg_w jg_w h (fun hc h => ?_) (fun hc h => ?_)
  · refine jr_ic (pc' := 18) rfl rfl (jr_is (pc' := 20) (L' := [_, _, _, _, _]) rfl rfl (jl rfl) rfl rfl ?_)
    refine jr_lp (fun s1 => jg s1) (fun s1 => jp X (px_C X d) px_m119 Q' N 20 [some (.ref 1), some (.ref (1000 + s0)), some (jv x1), some (jv x2), some (jv s1)] [] m (0, 0)) h jgc_0 (fun s1 hs1 R3 k2 h => ?_)
    refine jr_il (pc' := 22) rfl rfl rfl (jr_il_n (pc' := 23) rfl rfl rfl (jr_il_n (pc' := 24) rfl rfl rfl (jr_sub (pc' := 25) rfl rfl ?_)))
    refine jr_cge (pa := 28) (pb := 59) rfl rfl rfl hs1 jg_w h (fun hc h => ?_) (fun hc h => ?_)
    · refine jr_al_n (pc' := 29) rfl rfl rfl (jr_il_n (pc' := 30) rfl rfl rfl (jr_il (pc' := 32) rfl rfl rfl (jr_add (pc' := 33) rfl rfl ?_)))
      refine jr_schr (pc' := 36) rfl rfl jlk_9_72 hs0 (jl rfl) hu jg_w h (fun hc h => ?_)
      refine jr_al_n (pc' := 37) rfl rfl rfl (jr_gr (pc' := 40) (r := 2) rfl rfl jlk_9_9 (.inl rfl) rfl hN jd_1 rfl rfl rfl (jr_al_n (pc' := 41) rfl rfl rfl (jr_gi (pc' := 44) rfl rfl jlk_9_34 (.inl rfl) rfl hN jd_1 rfl rfl (jr_il (pc' := 46) rfl rfl rfl (jr_add (pc' := 47) rfl rfl ?_)))))
      refine jr_ia (pc' := 48) rfl rfl (jl rfl) hN jd_2 jn_2 jg_w h (fun hc h => ?_)
      refine jr_ceq (pa := 53) (pb := 51) rfl rfl rfl (jg_sc hs0) jg_a h (fun hc h => ?_) (fun hc h => ?_)
      · refine jr_inc (pc' := 56) (L' := [_, _, _, _, _]) rfl rfl rfl (jl rfl) rfl rfl (jr_goto (pc' := 20) rfl rfl ?_)
        exact k2 (jw (s1 + 1)) jg_w h
      · refine jr_ic (pc' := 52) rfl rfl ?_
        exact jr_retb rfl hu rfl jb_0 (hQ' _ _ (hQ (0 : Int) jb_0 h))
    · refine jr_ic (pc' := 60) rfl rfl ?_
      exact jr_retb rfl hu rfl jb_1 (hQ' _ _ (hQ (1 : Int) jb_1 h))
  · refine jr_ic (pc' := 16) rfl rfl ?_
    exact jr_retb rfl hu rfl jb_0 (hQ' _ _ (hQ (0 : Int) jb_0 h))

set_option maxRecDepth 20000 in
set_option maxHeartbeats 1000000 in
theorem jc_117 {X : Nat × (Nat → Int32)} {N d : Nat} {s0 : Nat} (hN : 102 ≤ N) (hd : 2 ≤ d) (hs0 : s0 < 25) {m : jm} {P : Int × jm → Prop} {Q : px_Q} (h : jo (jf_117 s0 m) P) (hQ : ∀ p : Int × jm, jg p.1 → P p → Q (.inl (some (jv p.1))) (jmem N p.2)) : px_C X d 117 [.ref 1, .ref (1000 + s0)] (jmem N m) Q := by
  unfold jf_117 at h
  have hu : ju px_m117 (0, 0) := ju_0
  refine jr_in (M := px_m117) (lev := 1) (L := [some (.ref 1), some (.ref (1000 + s0)), none, none, none]) hd rfl jbd_117 (jl rfl) rfl (fun d hd Q' hQ' => ?_)
  refine jr_al_n (pc' := 1) rfl rfl rfl ?_
  refine jr_cv_i (pc' := 4) [] rfl rfl jlk_9_40 jq_116 jbd_116 (jl rfl) rfl (jl rfl) hu rfl (jk rfl hN) (jd_1.trans jo_116.symm) (fun Q' hq => jc_116 hN (Nat.le_trans (jl rfl) hd)  (jo_b h) hq) (fun p1 hp1 h => ?_)
  refine jr_pop (pc' := 5) rfl rfl rfl (jr_al_n (pc' := 6) rfl rfl rfl (jr_al_n (pc' := 7) rfl rfl rfl (jr_gi (pc' := 10) rfl rfl jlk_9_31 (.inl rfl) rfl hN jd_1 rfl rfl (jr_pi (pc' := 13) rfl rfl jlk_9_34 (.inl rfl) rfl hN jd_1 rfl rfl ?_))))
  refine jr_le h (fun m2 h => ?_)
  refine jr_reg (fun t6 => True) (fun t6 => jp X (px_C X d) px_m117 Q' N 65 [some (.ref 1), some (.ref (1000 + s0)), none, none, none] [] t6 (0, 0)) h (fun t6 ht6 h => ?_) (fun R8 k7 h => ?_)
  · refine jr_ic (pc' := 66) rfl rfl (jr_is_n (pc' := 67) (L' := [_, _, _, _, _]) rfl rfl (jl rfl) rfl rfl (jr_ic (pc' := 68) rfl rfl (jr_is_n (pc' := 69) (L' := [_, _, _, _, _]) rfl rfl (jl rfl) rfl rfl ?_)))
    refine jr_lp (fun s20 => jg s20.1 ∧ jg s20.2) (fun s20 => ∀ o21, jn o21 → jp X (px_C X d) px_m117 Q' N 69 [some (.ref 1), some (.ref (1000 + s0)), some (jv s20.1), some (jv s20.2), o21] [] t6 (0, 0)) h ⟨jgc_0, jgc_0⟩ (fun s20 hs20 R23 k22 h o21 ho21 => ?_) _ jn_n
    refine jr_il_n (pc' := 70) rfl rfl rfl (jr_al_n (pc' := 71) rfl rfl rfl (jr_slen (pc' := 74) rfl rfl jlk_9_60 hs0 (jl rfl) hu ?_))
    refine jr_cge (pa := 77) (pb := 108) rfl rfl rfl hs20.2 (jg_sl hs0) h (fun hc h => ?_) (fun hc h => ?_)
    · refine jr_al_n (pc' := 78) rfl rfl rfl (jr_il_n (pc' := 79) rfl rfl rfl ?_)
      refine jr_cs_p (pc' := 82) [] rfl rfl jlk_9_64 jq_118 jbd_118 (jl rfl) rfl (jl rfl) hu (fun Q' hq => jc_118 hN (Nat.le_trans (jl rfl) hd) hs0 hs20.2 (jo_b h) hq) (fun p24 hp24 h => ?_)
      refine jr_is (pc' := 84) (L' := [_, _, _, _, _]) rfl rfl (jl rfl) rfl rfl (jr_al_n (pc' := 85) rfl rfl rfl (jr_al_n (pc' := 86) rfl rfl rfl (jr_il_n (pc' := 87) rfl rfl rfl (jr_il (pc' := 89) rfl rfl rfl ?_))))
      refine jr_cv_p (pc' := 92) [] rfl rfl jlk_9_68 jq_119 jbd_119 (jl rfl) rfl (jl rfl) hu rfl (jk rfl hN) (jd_1.trans jo_119.symm) (fun Q' hq => jc_119 hN (Nat.le_trans (jl rfl) hd) hs0 hs20.2 hp24 (jo_b h) hq) (fun p25 hp25 h => ?_)
      refine jr_zeq (pa := 97) (pb := 95) rfl rfl rfl (jg_b hp25) h (fun hc h => ?_) (fun hc h => ?_)
      · refine jr_il (pc' := 99) rfl rfl rfl (jr_ic (pc' := 100) rfl rfl (jr_add (pc' := 101) rfl rfl (jr_is_n (pc' := 102) (L' := [_, _, _, _, _]) rfl rfl (jl rfl) rfl rfl (jr_inc (pc' := 105) (L' := [_, _, _, _, _]) rfl rfl rfl (jl rfl) rfl rfl (jr_goto (pc' := 69) rfl rfl ?_)))))
        exact k22 (jw (s20.1 + 1), jw (p24 + (1 : Int))) ⟨jg_w, jg_w⟩ h _ jn_i
      · refine jr_il_n (pc' := 96) rfl rfl rfl ?_
        exact jr_ret rfl hu rfl (hQ' _ _ (hQ (s20.1, t6) hs20.1 h))
    · refine jr_al_n (pc' := 109) rfl rfl rfl (jr_ic (pc' := 110) rfl rfl (jr_al_n (pc' := 111) rfl rfl rfl (jr_gi (pc' := 114) rfl rfl jlk_9_34 (.inl rfl) rfl hN jd_1 rfl rfl ?_)))
      refine jr_cv_i (pc' := 117) [] rfl rfl jlk_9_44 jq_120 jbd_120 (jl rfl) rfl (jl rfl) hu rfl (jk rfl hN) (jd_1.trans jo_120.symm) (fun Q' hq => jc_120 hN (Nat.le_trans (jl rfl) hd) jgc_1 jg_a (jo_b h) hq) (fun p26 hp26 h => ?_)
      refine jr_pop (pc' := 118) rfl rfl rfl (jr_ic (pc' := 119) rfl rfl ?_)
      exact jr_ret rfl hu rfl (hQ' _ _ (hQ ((-1 : Int), p26.2) jgc_m1 h))
  · refine jr_lp (fun s3 => True) (fun s3 => jp X (px_C X d) px_m117 Q' N 13 [some (.ref 1), some (.ref (1000 + s0)), none, none, none] [] s3 (0, 0)) h trivial (fun s3 hs3 R5 k4 h => ?_)
    refine jr_al_n (pc' := 14) rfl rfl rfl (jr_gi (pc' := 17) rfl rfl jlk_9_31 (.inl rfl) rfl hN jd_1 rfl rfl (jr_al_n (pc' := 18) rfl rfl rfl (jr_gi (pc' := 21) rfl rfl jlk_9_28 (.inl rfl) rfl hN jd_1 rfl rfl ?_)))
    refine jr_cge (pa := 24) (pb := 65) rfl rfl rfl jg_a jg_a h (fun hc h => ?_) (fun hc h => ?_)
    · refine jr_al_n (pc' := 25) rfl rfl rfl (jr_gr (pc' := 28) (r := 2) rfl rfl jlk_9_9 (.inl rfl) rfl hN jd_1 rfl rfl rfl (jr_al_n (pc' := 29) rfl rfl rfl (jr_gi (pc' := 32) rfl rfl jlk_9_31 (.inl rfl) rfl hN jd_1 rfl rfl ?_)))
      refine jr_ia (pc' := 33) rfl rfl (jl rfl) hN jd_2 jn_2 jg_a h (fun hc h => ?_)
      refine jr_bi (pc' := 35) rfl rfl rfl ?_
      refine jr_clt (pa := 65) (pb := 38) rfl rfl rfl jg_a jgc_97 h (fun hc h => ?_) (fun hc h => ?_)
      · exact k7 (s3) trivial h
      · refine jr_al_n (pc' := 39) rfl rfl rfl (jr_gr (pc' := 42) (r := 2) rfl rfl jlk_9_9 (.inl rfl) rfl hN jd_1 rfl rfl rfl (jr_al_n (pc' := 43) rfl rfl rfl (jr_gi (pc' := 46) rfl rfl jlk_9_31 (.inl rfl) rfl hN jd_1 rfl rfl ?_)))
        refine jr_ia (pc' := 47) rfl rfl (jl rfl) hN jd_2 jn_2 jg_a h (fun hc h => ?_)
        refine jr_bi (pc' := 49) rfl rfl rfl ?_
        refine jr_cgt (pa := 65) (pb := 52) rfl rfl rfl jg_a jgc_122 h (fun hc h => ?_) (fun hc h => ?_)
        · exact k7 (s3) trivial h
        · refine jr_al_n (pc' := 53) rfl rfl rfl (jr_dup (pc' := 54) rfl rfl rfl (jr_gi (pc' := 57) rfl rfl jlk_9_31 (.inl rfl) rfl hN jd_1 rfl rfl (jr_ic (pc' := 58) rfl rfl (jr_add (pc' := 59) rfl rfl (jr_pi (pc' := 62) rfl rfl jlk_9_31 (.inl rfl) rfl hN jd_1 rfl rfl ?_)))))
          refine jr_le h (fun m9 h => ?_)
          refine jr_goto (pc' := 13) rfl rfl ?_
          exact k4 (m9) trivial h
    · exact k7 (s3) trivial h

set_option maxRecDepth 20000 in
set_option maxHeartbeats 1000000 in
theorem jc_12 {X : Nat × (Nat → Int32)} {N d : Nat} {x0 : Int} (hN : 102 ≤ N) (hd : 1 ≤ d) (hx0 : jg x0) {m : jm} {P : Int → Prop} {Q : px_Q} (h : jo (jf_12 x0 m) P) (hQ : ∀ p : Int, jb p → P p → Q (.inl (some (jv p))) (jmem N m)) : px_C X d 12 [.ref 15, jv x0] (jmem N m) Q := by
  unfold jf_12 at h
  have hu : ju px_m12 (0, 0) := ju_0
  refine jr_in (M := px_m12) (lev := 0) (L := [some (.ref 15), some (jv x0)]) hd rfl jbd_12 (jl rfl) rfl (fun d hd Q' hQ' => ?_)
  refine jr_il_n (pc' := 1) rfl rfl rfl ?_
  refine jo_i h (fun hc h => ?_) (fun hc0 h => ?_)
  · refine jr_tsc (pc' := 28) (0) rfl hx0 hc (by decide) rfl rfl (jr_al_n (pc' := 29) rfl rfl rfl (jr_gi (pc' := 32) rfl rfl jlk_1_45 (.inl rfl) rfl hN jd_15 rfl rfl (jr_bi (pc' := 34) rfl rfl rfl ?_)))
    refine jr_reg (fun t40 => jb t40) (fun t40 => jp X (px_C X d) px_m12 Q' N 42 [some (.ref 15), some (jv x0)] [(jv t40)] m (0, 0)) h (fun t40 ht40 h => ?_) (fun R52 k41 h => ?_)
    · exact jr_retb rfl hu rfl ht40 (hQ' _ _ (hQ t40 ht40 h))
    · refine jr_clt (pa := 41) (pb := 37) rfl rfl rfl jg_a jgc_8 h (fun hc h => ?_) (fun hc h => ?_)
      · refine jr_ic (pc' := 42) rfl rfl ?_
        exact k41 ((0 : Int)) jb_0 h
      · refine jr_ic (pc' := 38) rfl rfl (jr_goto (pc' := 42) rfl rfl ?_)
        exact k41 ((1 : Int)) jb_1 h
  · refine jo_i h (fun hc h => ?_) (fun hc1 h => ?_)
    · refine jr_tsc (pc' := 43) (1) rfl hx0 hc (by decide) rfl rfl (jr_al_n (pc' := 44) rfl rfl rfl (jr_gi (pc' := 47) rfl rfl jlk_1_49 (.inl rfl) rfl hN jd_15 rfl rfl (jr_bi (pc' := 49) rfl rfl rfl ?_)))
      refine jr_reg (fun t27 => jb t27) (fun t27 => jp X (px_C X d) px_m12 Q' N 57 [some (.ref 15), some (jv x0)] [(jv t27)] m (0, 0)) h (fun t27 ht27 h => ?_) (fun R39 k28 h => ?_)
      · exact jr_retb rfl hu rfl ht27 (hQ' _ _ (hQ t27 ht27 h))
      · refine jr_clt (pa := 56) (pb := 52) rfl rfl rfl jg_a jgc_12 h (fun hc h => ?_) (fun hc h => ?_)
        · refine jr_ic (pc' := 57) rfl rfl ?_
          exact k28 ((0 : Int)) jb_0 h
        · refine jr_ic (pc' := 53) rfl rfl (jr_goto (pc' := 57) rfl rfl ?_)
          exact k28 ((1 : Int)) jb_1 h
    · refine jo_i h (fun hc h => ?_) (fun hc2 h => ?_)
      · refine jr_tsc (pc' := 58) (2) rfl hx0 hc (by decide) rfl rfl (jr_al_n (pc' := 59) rfl rfl rfl (jr_gi (pc' := 62) rfl rfl jlk_1_52 (.inl rfl) rfl hN jd_15 rfl rfl (jr_bi (pc' := 64) rfl rfl rfl ?_)))
        refine jr_reg (fun t14 => jb t14) (fun t14 => jp X (px_C X d) px_m12 Q' N 72 [some (.ref 15), some (jv x0)] [(jv t14)] m (0, 0)) h (fun t14 ht14 h => ?_) (fun R26 k15 h => ?_)
        · exact jr_retb rfl hu rfl ht14 (hQ' _ _ (hQ t14 ht14 h))
        · refine jr_clt (pa := 71) (pb := 67) rfl rfl rfl jg_a jgc_6 h (fun hc h => ?_) (fun hc h => ?_)
          · refine jr_ic (pc' := 72) rfl rfl ?_
            exact k15 ((0 : Int)) jb_0 h
          · refine jr_ic (pc' := 68) rfl rfl (jr_goto (pc' := 72) rfl rfl ?_)
            exact k15 ((1 : Int)) jb_1 h
      · refine jr_tsd (pc' := 73) rfl hx0 (by omega) rfl (jr_al_n (pc' := 74) rfl rfl rfl (jr_gi (pc' := 77) rfl rfl jlk_1_55 (.inl rfl) rfl hN jd_15 rfl rfl (jr_bi (pc' := 79) rfl rfl rfl ?_)))
        refine jr_reg (fun t1 => jb t1) (fun t1 => jp X (px_C X d) px_m12 Q' N 87 [some (.ref 15), some (jv x0)] [(jv t1)] m (0, 0)) h (fun t1 ht1 h => ?_) (fun R13 k2 h => ?_)
        · exact jr_retb rfl hu rfl ht1 (hQ' _ _ (hQ t1 ht1 h))
        · refine jr_clt (pa := 86) (pb := 82) rfl rfl rfl jg_a jgc_8 h (fun hc h => ?_) (fun hc h => ?_)
          · refine jr_ic (pc' := 87) rfl rfl ?_
            exact k2 ((0 : Int)) jb_0 h
          · refine jr_ic (pc' := 83) rfl rfl (jr_goto (pc' := 87) rfl rfl ?_)
            exact k2 ((1 : Int)) jb_1 h

set_option maxRecDepth 20000 in
set_option maxHeartbeats 1000000 in
theorem jc_14 {X : Nat × (Nat → Int32)} {N d : Nat}  (hN : 102 ≤ N) (hd : 4 ≤ d)  {m : jm} {P : Int × jm → Prop} {Q : px_Q} (h : jo (jf_14 m) P) (hQ : ∀ p : Int × jm, jb p.1 → P p → Q (.inl (some (jv p.1))) (jmem N p.2)) : px_C X d 14 [.ref 15, .ref 1] (jmem N m) Q := by
  unfold jf_14 at h
  have hu : ju px_m14 (0, 0) := ju_0
  refine jr_in (M := px_m14) (lev := 3) (L := [some (.ref 15), some (.ref 1)]) hd rfl jbd_14 (jl rfl) rfl (fun d hd Q' hQ' => ?_)
  refine jr_al_n (pc' := 1) rfl rfl rfl (jr_gr (pc' := 4) (r := 16) rfl rfl jlk_1_9 (.inl rfl) rfl hN jd_15 rfl rfl rfl (jr_al_n (pc' := 5) rfl rfl rfl (jr_gi (pc' := 8) rfl rfl jlk_1_45 (.inl rfl) rfl hN jd_15 rfl rfl (jr_al_n (pc' := 9) rfl rfl rfl (jr_ic (pc' := 10) rfl rfl ?_)))))
  refine jr_bi (pc' := 12) rfl rfl rfl ?_
  refine jr_cv_i (pc' := 15) [_, _] rfl rfl jlk_1_108 jq_121 jbd_121 (jl rfl) rfl (jl rfl) hu rfl (jk rfl hN) (jd_1.trans jo_121.symm) (fun Q' hq => jc_121 hN (Nat.le_trans (jl rfl) hd) jgc_0 jgc_40 (jo_b h) hq) (fun p1 hp1 h => ?_)
  refine jr_ist (pc' := 16) rfl rfl (jl rfl) hN jd_16 jn_16 jg_a h (fun hc h => ?_)
  refine jr_le h (fun m2 h => ?_)
  refine jr_al_n (pc' := 17) rfl rfl rfl (jr_gr (pc' := 20) (r := 16) rfl rfl jlk_1_9 (.inl rfl) rfl hN jd_15 rfl rfl rfl (jr_al_n (pc' := 21) rfl rfl rfl (jr_gi (pc' := 24) rfl rfl jlk_1_45 (.inl rfl) rfl hN jd_15 rfl rfl ?_)))
  refine jr_ia (pc' := 25) rfl rfl (jl rfl) hN jd_16 jn_16 jg_a h (fun hc h => ?_)
  refine jr_ic (pc' := 26) rfl rfl ?_
  refine jr_cne (pa := 29) (pb := 31) rfl rfl rfl jg_a jgc_m1 h (fun hc h => ?_) (fun hc h => ?_)
  · refine jr_ic (pc' := 30) rfl rfl ?_
    exact jr_retb rfl hu rfl jb_0 (hQ' _ _ (hQ ((0 : Int), m2) jb_0 h))
  · refine jr_al_n (pc' := 32) rfl rfl rfl (jr_dup (pc' := 33) rfl rfl rfl (jr_gi (pc' := 36) rfl rfl jlk_1_45 (.inl rfl) rfl hN jd_15 rfl rfl (jr_ic (pc' := 37) rfl rfl (jr_add (pc' := 38) rfl rfl (jr_pi (pc' := 41) rfl rfl jlk_1_45 (.inl rfl) rfl hN jd_15 rfl rfl ?_)))))
    refine jr_le h (fun m3 h => ?_)
    refine jr_ic (pc' := 42) rfl rfl ?_
    exact jr_retb rfl hu rfl jb_1 (hQ' _ _ (hQ ((1 : Int), m3) jb_1 h))

set_option maxRecDepth 20000 in
set_option maxHeartbeats 1000000 in
theorem jc_16 {X : Nat × (Nat → Int32)} {N d : Nat} {q : Nat} {x0 : Int} {x1 : Int} (hN : 102 ≤ N) (hd : 1 ≤ d) (hq : q = 0 ∨ q = 12) (hx0 : jg x0) (hx1 : jg x1) {m : jm} {P : Int → Prop} {Q : px_Q} (h : jo (jf_16 q x0 x1 m) P) (hQ : ∀ p : Int, jg p → P p → Q (.inl (some (jv p))) (jmem N m)) : px_C X d 16 [.ref (3 + q), jv x0, jv x1] (jmem N m) Q := by
  unfold jf_16 at h
  rcases hq with rfl | rfl
  · have hu : ju px_m16 (0, 0) := ju_0
    try dsimp only [Nat.reduceAdd] at h
    refine jr_in (M := px_m16) (lev := 0) (L := [some (.ref 3), some (jv x0), some (jv x1), none, none, none]) hd rfl jbd_16 (jl rfl) rfl (fun d hd Q' hQ' => ?_)
    refine jr_ic (pc' := 1) rfl rfl (jr_is_n (pc' := 2) (L' := [_, _, _, _, _, _]) rfl rfl (jl rfl) rfl rfl ?_)
    refine jr_lp (fun s1 => jg s1) (fun s1 => ∀ o2, jn o2 → ∀ o3, jn o3 → jp X (px_C X d) px_m16 Q' N 2 [some (.ref 3), some (jv x0), some (jv x1), some (jv s1), o2, o3] [] m (0, 0)) h jgc_0 (fun s1 hs1 R5 k4 h o2 ho2 o3 ho3 => ?_) _ jn_n _ jn_n
    refine jr_il_n (pc' := 3) rfl rfl rfl (jr_al_n (pc' := 4) rfl rfl rfl (jr_gi (pc' := 7) rfl rfl jlk_1_49 (.inl rfl) rfl hN jd_3 rfl rfl ?_))
    refine jr_cge (pa := 10) (pb := 82) rfl rfl rfl hs1 jg_a h (fun hc h => ?_) (fun hc h => ?_)
    · refine jr_al_n (pc' := 11) rfl rfl rfl (jr_gr (pc' := 14) (r := 5) rfl rfl jlk_1_15 (.inl rfl) rfl hN jd_3 rfl rfl rfl (jr_il_n (pc' := 15) rfl rfl rfl ?_))
      refine jr_ia (pc' := 16) rfl rfl (jl rfl) hN jd_5 jn_5 hs1 h (fun hc h => ?_)
      refine jr_il_n (pc' := 17) rfl rfl rfl ?_
      refine jr_reg (fun t6 => jb t6) (fun t6 => jp X (px_C X d) px_m16 Q' N 35 [some (.ref 3), some (jv x0), some (jv x1), some (jv s1), o2, o3] [(jv t6)] m (0, 0)) h (fun t6 ht6 h => ?_) (fun R31 k7 h => ?_)
      · refine jr_is (pc' := 37) (L' := [_, _, _, _, _, _]) rfl rfl (jl rfl) rfl rfl (jr_al_n (pc' := 38) rfl rfl rfl (jr_gr (pc' := 41) (r := 5) rfl rfl jlk_1_15 (.inl rfl) rfl hN jd_3 rfl rfl rfl (jr_il_n (pc' := 42) rfl rfl rfl ?_)))
        refine jr_ia (pc' := 43) rfl rfl (jl rfl) hN jd_5 jn_5 hs1 h (fun hc h => ?_)
        refine jr_il_n (pc' := 44) rfl rfl rfl ?_
        refine jr_reg (fun t18 => jb t18) (fun t18 => jp X (px_C X d) px_m16 Q' N 62 [some (.ref 3), some (jv x0), some (jv x1), some (jv s1), some (jv t6), o3] [(jv t18)] m (0, 0)) h (fun t18 ht18 h => ?_) (fun R30 k19 h => ?_)
        · refine jr_is (pc' := 64) (L' := [_, _, _, _, _, _]) rfl rfl (jl rfl) rfl rfl (jr_il (pc' := 66) rfl rfl rfl ?_)
          refine jr_zne (pa := 69) (pb := 74) rfl rfl rfl (jg_b ht6) h (fun hc h => ?_) (fun hc h => ?_)
          · refine jr_il (pc' := 71) rfl rfl rfl ?_
            refine jr_zeq (pa := 76) (pb := 74) rfl rfl rfl (jg_b ht18) h (fun hc h => ?_) (fun hc h => ?_)
            · refine jr_inc (pc' := 79) (L' := [_, _, _, _, _, _]) rfl rfl rfl (jl rfl) rfl rfl (jr_goto (pc' := 2) rfl rfl ?_)
              exact k4 (jw (s1 + 1)) jg_w h _ jn_i _ jn_i
            · refine jr_il_n (pc' := 75) rfl rfl rfl ?_
              exact jr_ret rfl hu rfl (hQ' _ _ (hQ s1 hs1 h))
          · refine jr_il_n (pc' := 75) rfl rfl rfl ?_
            exact jr_ret rfl hu rfl (hQ' _ _ (hQ s1 hs1 h))
        · refine jr_cne (pa := 47) (pb := 61) rfl rfl rfl jg_a hx1 h (fun hc h => ?_) (fun hc h => ?_)
          · refine jr_al_n (pc' := 48) rfl rfl rfl (jr_gr (pc' := 51) (r := 6) rfl rfl jlk_1_18 (.inl rfl) rfl hN jd_3 rfl rfl rfl (jr_il_n (pc' := 52) rfl rfl rfl ?_))
            refine jr_ia (pc' := 53) rfl rfl (jl rfl) hN jd_6 jn_6 hs1 h (fun hc h => ?_)
            refine jr_il_n (pc' := 54) rfl rfl rfl ?_
            refine jr_cne (pa := 57) (pb := 61) rfl rfl rfl jg_a hx0 h (fun hc h => ?_) (fun hc h => ?_)
            · refine jr_ic (pc' := 58) rfl rfl (jr_goto (pc' := 62) rfl rfl ?_)
              exact k19 ((1 : Int)) jb_1 h
            · refine jr_ic (pc' := 62) rfl rfl ?_
              exact k19 ((0 : Int)) jb_0 h
          · refine jr_ic (pc' := 62) rfl rfl ?_
            exact k19 ((0 : Int)) jb_0 h
      · refine jr_cne (pa := 20) (pb := 34) rfl rfl rfl jg_a hx0 h (fun hc h => ?_) (fun hc h => ?_)
        · refine jr_al_n (pc' := 21) rfl rfl rfl (jr_gr (pc' := 24) (r := 6) rfl rfl jlk_1_18 (.inl rfl) rfl hN jd_3 rfl rfl rfl (jr_il_n (pc' := 25) rfl rfl rfl ?_))
          refine jr_ia (pc' := 26) rfl rfl (jl rfl) hN jd_6 jn_6 hs1 h (fun hc h => ?_)
          refine jr_il_n (pc' := 27) rfl rfl rfl ?_
          refine jr_cne (pa := 30) (pb := 34) rfl rfl rfl jg_a hx1 h (fun hc h => ?_) (fun hc h => ?_)
          · refine jr_ic (pc' := 31) rfl rfl (jr_goto (pc' := 35) rfl rfl ?_)
            exact k7 ((1 : Int)) jb_1 h
          · refine jr_ic (pc' := 35) rfl rfl ?_
            exact k7 ((0 : Int)) jb_0 h
        · refine jr_ic (pc' := 35) rfl rfl ?_
          exact k7 ((0 : Int)) jb_0 h
    · refine jr_ic (pc' := 83) rfl rfl ?_
      exact jr_ret rfl hu rfl (hQ' _ _ (hQ (-1 : Int) jgc_m1 h))
  · have hu : ju px_m16 (0, 0) := ju_0
    try dsimp only [Nat.reduceAdd] at h
    refine jr_in (M := px_m16) (lev := 0) (L := [some (.ref 15), some (jv x0), some (jv x1), none, none, none]) hd rfl jbd_16 (jl rfl) rfl (fun d hd Q' hQ' => ?_)
    refine jr_ic (pc' := 1) rfl rfl (jr_is_n (pc' := 2) (L' := [_, _, _, _, _, _]) rfl rfl (jl rfl) rfl rfl ?_)
    refine jr_lp (fun s1 => jg s1) (fun s1 => ∀ o2, jn o2 → ∀ o3, jn o3 → jp X (px_C X d) px_m16 Q' N 2 [some (.ref 15), some (jv x0), some (jv x1), some (jv s1), o2, o3] [] m (0, 0)) h jgc_0 (fun s1 hs1 R5 k4 h o2 ho2 o3 ho3 => ?_) _ jn_n _ jn_n
    refine jr_il_n (pc' := 3) rfl rfl rfl (jr_al_n (pc' := 4) rfl rfl rfl (jr_gi (pc' := 7) rfl rfl jlk_1_49 (.inl rfl) rfl hN jd_15 rfl rfl ?_))
    refine jr_cge (pa := 10) (pb := 82) rfl rfl rfl hs1 jg_a h (fun hc h => ?_) (fun hc h => ?_)
    · refine jr_al_n (pc' := 11) rfl rfl rfl (jr_gr (pc' := 14) (r := 17) rfl rfl jlk_1_15 (.inl rfl) rfl hN jd_15 rfl rfl rfl (jr_il_n (pc' := 15) rfl rfl rfl ?_))
      refine jr_ia (pc' := 16) rfl rfl (jl rfl) hN jd_17 jn_17 hs1 h (fun hc h => ?_)
      refine jr_il_n (pc' := 17) rfl rfl rfl ?_
      refine jr_reg (fun t6 => jb t6) (fun t6 => jp X (px_C X d) px_m16 Q' N 35 [some (.ref 15), some (jv x0), some (jv x1), some (jv s1), o2, o3] [(jv t6)] m (0, 0)) h (fun t6 ht6 h => ?_) (fun R31 k7 h => ?_)
      · refine jr_is (pc' := 37) (L' := [_, _, _, _, _, _]) rfl rfl (jl rfl) rfl rfl (jr_al_n (pc' := 38) rfl rfl rfl (jr_gr (pc' := 41) (r := 17) rfl rfl jlk_1_15 (.inl rfl) rfl hN jd_15 rfl rfl rfl (jr_il_n (pc' := 42) rfl rfl rfl ?_)))
        refine jr_ia (pc' := 43) rfl rfl (jl rfl) hN jd_17 jn_17 hs1 h (fun hc h => ?_)
        refine jr_il_n (pc' := 44) rfl rfl rfl ?_
        refine jr_reg (fun t18 => jb t18) (fun t18 => jp X (px_C X d) px_m16 Q' N 62 [some (.ref 15), some (jv x0), some (jv x1), some (jv s1), some (jv t6), o3] [(jv t18)] m (0, 0)) h (fun t18 ht18 h => ?_) (fun R30 k19 h => ?_)
        · refine jr_is (pc' := 64) (L' := [_, _, _, _, _, _]) rfl rfl (jl rfl) rfl rfl (jr_il (pc' := 66) rfl rfl rfl ?_)
          refine jr_zne (pa := 69) (pb := 74) rfl rfl rfl (jg_b ht6) h (fun hc h => ?_) (fun hc h => ?_)
          · refine jr_il (pc' := 71) rfl rfl rfl ?_
            refine jr_zeq (pa := 76) (pb := 74) rfl rfl rfl (jg_b ht18) h (fun hc h => ?_) (fun hc h => ?_)
            · refine jr_inc (pc' := 79) (L' := [_, _, _, _, _, _]) rfl rfl rfl (jl rfl) rfl rfl (jr_goto (pc' := 2) rfl rfl ?_)
              exact k4 (jw (s1 + 1)) jg_w h _ jn_i _ jn_i
            · refine jr_il_n (pc' := 75) rfl rfl rfl ?_
              exact jr_ret rfl hu rfl (hQ' _ _ (hQ s1 hs1 h))
          · refine jr_il_n (pc' := 75) rfl rfl rfl ?_
            exact jr_ret rfl hu rfl (hQ' _ _ (hQ s1 hs1 h))
        · refine jr_cne (pa := 47) (pb := 61) rfl rfl rfl jg_a hx1 h (fun hc h => ?_) (fun hc h => ?_)
          · refine jr_al_n (pc' := 48) rfl rfl rfl (jr_gr (pc' := 51) (r := 18) rfl rfl jlk_1_18 (.inl rfl) rfl hN jd_15 rfl rfl rfl (jr_il_n (pc' := 52) rfl rfl rfl ?_))
            refine jr_ia (pc' := 53) rfl rfl (jl rfl) hN jd_18 jn_18 hs1 h (fun hc h => ?_)
            refine jr_il_n (pc' := 54) rfl rfl rfl ?_
            refine jr_cne (pa := 57) (pb := 61) rfl rfl rfl jg_a hx0 h (fun hc h => ?_) (fun hc h => ?_)
            · refine jr_ic (pc' := 58) rfl rfl (jr_goto (pc' := 62) rfl rfl ?_)
              exact k19 ((1 : Int)) jb_1 h
            · refine jr_ic (pc' := 62) rfl rfl ?_
              exact k19 ((0 : Int)) jb_0 h
          · refine jr_ic (pc' := 62) rfl rfl ?_
            exact k19 ((0 : Int)) jb_0 h
      · refine jr_cne (pa := 20) (pb := 34) rfl rfl rfl jg_a hx0 h (fun hc h => ?_) (fun hc h => ?_)
        · refine jr_al_n (pc' := 21) rfl rfl rfl (jr_gr (pc' := 24) (r := 18) rfl rfl jlk_1_18 (.inl rfl) rfl hN jd_15 rfl rfl rfl (jr_il_n (pc' := 25) rfl rfl rfl ?_))
          refine jr_ia (pc' := 26) rfl rfl (jl rfl) hN jd_18 jn_18 hs1 h (fun hc h => ?_)
          refine jr_il_n (pc' := 27) rfl rfl rfl ?_
          refine jr_cne (pa := 30) (pb := 34) rfl rfl rfl jg_a hx1 h (fun hc h => ?_) (fun hc h => ?_)
          · refine jr_ic (pc' := 31) rfl rfl (jr_goto (pc' := 35) rfl rfl ?_)
            exact k7 ((1 : Int)) jb_1 h
          · refine jr_ic (pc' := 35) rfl rfl ?_
            exact k7 ((0 : Int)) jb_0 h
        · refine jr_ic (pc' := 35) rfl rfl ?_
          exact k7 ((0 : Int)) jb_0 h
    · refine jr_ic (pc' := 83) rfl rfl ?_
      exact jr_ret rfl hu rfl (hQ' _ _ (hQ (-1 : Int) jgc_m1 h))

set_option maxRecDepth 20000 in
set_option maxHeartbeats 1000000 in
theorem jc_15 {X : Nat × (Nat → Int32)} {N d : Nat}  (hN : 102 ≤ N) (hd : 4 ≤ d)  {m : jm} {P : Int × jm → Prop} {Q : px_Q} (h : jo (jf_15 m) P) (hQ : ∀ p : Int × jm, jb p.1 → P p → Q (.inl (some (jv p.1))) (jmem N p.2)) : px_C X d 15 [.ref 15, .ref 1] (jmem N m) Q := by
  unfold jf_15 at h
  have hu : ju px_m15 (0, 0) := ju_0
  refine jr_in (M := px_m15) (lev := 3) (L := [some (.ref 15), some (.ref 1), none, none, none]) hd rfl jbd_15 (jl rfl) rfl (fun d hd Q' hQ' => ?_)
  refine jr_al_n (pc' := 1) rfl rfl rfl (jr_ic (pc' := 2) rfl rfl (jr_al_n (pc' := 3) rfl rfl rfl (jr_gi (pc' := 6) rfl rfl jlk_1_45 (.inl rfl) rfl hN jd_15 rfl rfl (jr_ic (pc' := 7) rfl rfl (jr_sub (pc' := 8) rfl rfl ?_)))))
  refine jr_cv_i (pc' := 11) [] rfl rfl jlk_1_108 jq_121 jbd_121 (jl rfl) rfl (jl rfl) hu rfl (jk rfl hN) (jd_1.trans jo_121.symm) (fun Q' hq => jc_121 hN (Nat.le_trans (jl rfl) hd) jgc_0 jg_w (jo_b h) hq) (fun p1 hp1 h => ?_)
  refine jr_is_n (pc' := 12) (L' := [_, _, _, _, _]) rfl rfl (jl rfl) rfl rfl (jr_il_n (pc' := 13) rfl rfl rfl (jr_ic (pc' := 14) rfl rfl ?_))
  refine jr_cne (pa := 17) (pb := 19) rfl rfl rfl hp1 jgc_m1 h (fun hc h => ?_) (fun hc h => ?_)
  · refine jr_ic (pc' := 18) rfl rfl ?_
    exact jr_retb rfl hu rfl jb_0 (hQ' _ _ (hQ ((0 : Int), p1.2) jb_0 h))
  · refine jr_al_n (pc' := 20) rfl rfl rfl (jr_ic (pc' := 21) rfl rfl (jr_al_n (pc' := 22) rfl rfl rfl (jr_gi (pc' := 25) rfl rfl jlk_1_45 (.inl rfl) rfl hN jd_15 rfl rfl (jr_ic (pc' := 26) rfl rfl (jr_sub (pc' := 27) rfl rfl ?_)))))
    refine jr_cv_i (pc' := 30) [] rfl rfl jlk_1_108 jq_121 jbd_121 (jl rfl) rfl (jl rfl) hu rfl (jk rfl hN) (jd_1.trans jo_121.symm) (fun Q' hq => jc_121 hN (Nat.le_trans (jl rfl) hd) jgc_0 jg_w (jo_b h) hq) (fun p2 hp2 h => ?_)
    refine jr_is_n (pc' := 31) (L' := [_, _, _, _, _]) rfl rfl (jl rfl) rfl rfl (jr_il_n (pc' := 32) rfl rfl rfl (jr_ic (pc' := 33) rfl rfl ?_))
    refine jr_cne (pa := 36) (pb := 38) rfl rfl rfl hp2 jgc_m1 h (fun hc h => ?_) (fun hc h => ?_)
    · refine jr_ic (pc' := 37) rfl rfl ?_
      exact jr_retb rfl hu rfl jb_0 (hQ' _ _ (hQ ((0 : Int), p2.2) jb_0 h))
    · refine jr_il_n (pc' := 39) rfl rfl rfl (jr_il_n (pc' := 40) rfl rfl rfl ?_)
      refine jr_ceq (pa := 53) (pb := 43) rfl rfl rfl hp1 hp2 h (fun hc h => ?_) (fun hc h => ?_)
      · refine jr_al_n (pc' := 54) rfl rfl rfl (jr_ic (pc' := 55) rfl rfl (jr_al_n (pc' := 56) rfl rfl rfl (jr_gi (pc' := 59) rfl rfl jlk_1_80 (.inr rfl) rfl hN jd_1 rfl rfl ?_)))
        refine jr_cv_i (pc' := 62) [] rfl rfl jlk_1_83 jq_120 jbd_120 (jl rfl) rfl (jl rfl) hu rfl (jk rfl hN) (jd_1.trans jo_120.symm) (fun Q' hq => jc_120 hN (Nat.le_trans (jl rfl) hd) jgc_2 jg_a (jo_b h) hq) (fun p3 hp3 h => ?_)
        exact jr_retb rfl hu rfl hp3 (hQ' _ _ (hQ (p3.1, p3.2) hp3 h))
      · refine jr_al_n (pc' := 44) rfl rfl rfl (jr_il_n (pc' := 45) rfl rfl rfl (jr_il_n (pc' := 46) rfl rfl rfl ?_))
        refine jr_cv_p (pc' := 49) [] rfl rfl jlk_1_112 jq_16 jbd_16 (jl rfl) rfl (jl rfl) hu rfl (jk rfl hN) (jd_15.trans jo_16.symm) (fun Q' hq => jc_16 hN (Nat.le_trans (jl rfl) hd) (.inr rfl) hp1 hp2 (jo_b h) hq) (fun p4 hp4 h => ?_)
        refine jr_ic (pc' := 50) rfl rfl ?_
        refine jr_ceq (pa := 63) (pb := 53) rfl rfl rfl hp4 jgc_m1 h (fun hc h => ?_) (fun hc h => ?_)
        · refine jr_al_n (pc' := 64) rfl rfl rfl (jr_ic (pc' := 65) rfl rfl (jr_bi (pc' := 67) rfl rfl rfl ?_))
          refine jr_cv_i (pc' := 70) [] rfl rfl jlk_1_108 jq_121 jbd_121 (jl rfl) rfl (jl rfl) hu rfl (jk rfl hN) (jd_1.trans jo_121.symm) (fun Q' hq => jc_121 hN (Nat.le_trans (jl rfl) hd) jgc_0 jgc_9 (jo_b h) hq) (fun p5 hp5 h => ?_)
          refine jr_is (pc' := 72) (L' := [_, _, _, _, _]) rfl rfl (jl rfl) rfl rfl (jr_il (pc' := 74) rfl rfl rfl (jr_ic (pc' := 75) rfl rfl ?_))
          refine jr_cne (pa := 78) (pb := 80) rfl rfl rfl hp5 jgc_m1 h (fun hc h => ?_) (fun hc h => ?_)
          · refine jr_ic (pc' := 79) rfl rfl ?_
            exact jr_retb rfl hu rfl jb_0 (hQ' _ _ (hQ ((0 : Int), p5.2) jb_0 h))
          · refine jr_al_n (pc' := 81) rfl rfl rfl (jr_gr (pc' := 84) (r := 17) rfl rfl jlk_1_15 (.inl rfl) rfl hN jd_15 rfl rfl rfl (jr_al_n (pc' := 85) rfl rfl rfl (jr_gi (pc' := 88) rfl rfl jlk_1_49 (.inl rfl) rfl hN jd_15 rfl rfl (jr_il_n (pc' := 89) rfl rfl rfl ?_))))
            refine jr_ist (pc' := 90) rfl rfl (jl rfl) hN jd_17 jn_17 jg_a h (fun hc h => ?_)
            refine jr_le h (fun m6 h => ?_)
            refine jr_al_n (pc' := 91) rfl rfl rfl (jr_gr (pc' := 94) (r := 18) rfl rfl jlk_1_18 (.inl rfl) rfl hN jd_15 rfl rfl rfl (jr_al_n (pc' := 95) rfl rfl rfl (jr_gi (pc' := 98) rfl rfl jlk_1_49 (.inl rfl) rfl hN jd_15 rfl rfl (jr_il_n (pc' := 99) rfl rfl rfl ?_))))
            refine jr_ist (pc' := 100) rfl rfl (jl rfl) hN jd_18 jn_18 jg_a h (fun hc h => ?_)
            refine jr_le h (fun m7 h => ?_)
            refine jr_al_n (pc' := 101) rfl rfl rfl (jr_gr (pc' := 104) (r := 19) rfl rfl jlk_1_21 (.inl rfl) rfl hN jd_15 rfl rfl rfl (jr_al_n (pc' := 105) rfl rfl rfl (jr_gi (pc' := 108) rfl rfl jlk_1_49 (.inl rfl) rfl hN jd_15 rfl rfl (jr_il (pc' := 110) rfl rfl rfl ?_))))
            refine jr_ist (pc' := 111) rfl rfl (jl rfl) hN jd_19 jn_19 jg_a h (fun hc h => ?_)
            refine jr_le h (fun m8 h => ?_)
            refine jr_al_n (pc' := 112) rfl rfl rfl (jr_dup (pc' := 113) rfl rfl rfl (jr_gi (pc' := 116) rfl rfl jlk_1_49 (.inl rfl) rfl hN jd_15 rfl rfl (jr_ic (pc' := 117) rfl rfl (jr_add (pc' := 118) rfl rfl (jr_pi (pc' := 121) rfl rfl jlk_1_49 (.inl rfl) rfl hN jd_15 rfl rfl ?_)))))
            refine jr_le h (fun m9 h => ?_)
            refine jr_ic (pc' := 122) rfl rfl ?_
            exact jr_retb rfl hu rfl jb_1 (hQ' _ _ (hQ ((1 : Int), m9) jb_1 h))
        · refine jr_al_n (pc' := 54) rfl rfl rfl (jr_ic (pc' := 55) rfl rfl (jr_al_n (pc' := 56) rfl rfl rfl (jr_gi (pc' := 59) rfl rfl jlk_1_80 (.inr rfl) rfl hN jd_1 rfl rfl ?_)))
          refine jr_cv_i (pc' := 62) [] rfl rfl jlk_1_83 jq_120 jbd_120 (jl rfl) rfl (jl rfl) hu rfl (jk rfl hN) (jd_1.trans jo_120.symm) (fun Q' hq => jc_120 hN (Nat.le_trans (jl rfl) hd) jgc_2 jg_a (jo_b h) hq) (fun p10 hp10 h => ?_)
          exact jr_retb rfl hu rfl hp10 (hQ' _ _ (hQ (p10.1, p10.2) hp10 h))

set_option maxRecDepth 20000 in
set_option maxHeartbeats 1000000 in
theorem jc_17 {X : Nat × (Nat → Int32)} {N d : Nat}  (hN : 102 ≤ N) (hd : 4 ≤ d)  {m : jm} {P : Int × jm → Prop} {Q : px_Q} (h : jo (jf_17 m) P) (hQ : ∀ p : Int × jm, jb p.1 → P p → Q (.inl (some (jv p.1))) (jmem N p.2)) : px_C X d 17 [.ref 15, .ref 1] (jmem N m) Q := by
  unfold jf_17 at h
  have hu : ju px_m17 (0, 0) := ju_0
  refine jr_in (M := px_m17) (lev := 3) (L := [some (.ref 15), some (.ref 1)]) hd rfl jbd_17 (jl rfl) rfl (fun d hd Q' hQ' => ?_)
  refine jr_al_n (pc' := 1) rfl rfl rfl (jr_gr (pc' := 4) (r := 20) rfl rfl jlk_1_24 (.inl rfl) rfl hN jd_15 rfl rfl rfl (jr_al_n (pc' := 5) rfl rfl rfl (jr_gi (pc' := 8) rfl rfl jlk_1_52 (.inl rfl) rfl hN jd_15 rfl rfl (jr_al_n (pc' := 9) rfl rfl rfl (jr_ic (pc' := 10) rfl rfl ?_)))))
  refine jr_al_n (pc' := 11) rfl rfl rfl (jr_gi (pc' := 14) rfl rfl jlk_1_45 (.inl rfl) rfl hN jd_15 rfl rfl (jr_ic (pc' := 15) rfl rfl (jr_sub (pc' := 16) rfl rfl ?_)))
  refine jr_cv_i (pc' := 19) [_, _] rfl rfl jlk_1_108 jq_121 jbd_121 (jl rfl) rfl (jl rfl) hu rfl (jk rfl hN) (jd_1.trans jo_121.symm) (fun Q' hq => jc_121 hN (Nat.le_trans (jl rfl) hd) jgc_0 jg_w (jo_b h) hq) (fun p1 hp1 h => ?_)
  refine jr_ist (pc' := 20) rfl rfl (jl rfl) hN jd_20 jn_20 jg_a h (fun hc h => ?_)
  refine jr_le h (fun m2 h => ?_)
  refine jr_al_n (pc' := 21) rfl rfl rfl (jr_gr (pc' := 24) (r := 20) rfl rfl jlk_1_24 (.inl rfl) rfl hN jd_15 rfl rfl rfl (jr_al_n (pc' := 25) rfl rfl rfl (jr_gi (pc' := 28) rfl rfl jlk_1_52 (.inl rfl) rfl hN jd_15 rfl rfl ?_)))
  refine jr_ia (pc' := 29) rfl rfl (jl rfl) hN jd_20 jn_20 jg_a h (fun hc h => ?_)
  refine jr_ic (pc' := 30) rfl rfl ?_
  refine jr_cne (pa := 33) (pb := 35) rfl rfl rfl jg_a jgc_m1 h (fun hc h => ?_) (fun hc h => ?_)
  · refine jr_ic (pc' := 34) rfl rfl ?_
    exact jr_retb rfl hu rfl jb_0 (hQ' _ _ (hQ ((0 : Int), m2) jb_0 h))
  · refine jr_al_n (pc' := 36) rfl rfl rfl (jr_gr (pc' := 39) (r := 21) rfl rfl jlk_1_27 (.inl rfl) rfl hN jd_15 rfl rfl rfl (jr_al_n (pc' := 40) rfl rfl rfl (jr_gi (pc' := 43) rfl rfl jlk_1_52 (.inl rfl) rfl hN jd_15 rfl rfl (jr_al_n (pc' := 44) rfl rfl rfl (jr_ic (pc' := 45) rfl rfl ?_)))))
    refine jr_bi (pc' := 47) rfl rfl rfl ?_
    refine jr_cv_i (pc' := 50) [_, _] rfl rfl jlk_1_108 jq_121 jbd_121 (jl rfl) rfl (jl rfl) hu rfl (jk rfl hN) (jd_1.trans jo_121.symm) (fun Q' hq => jc_121 hN (Nat.le_trans (jl rfl) hd) jgc_0 jgc_40 (jo_b h) hq) (fun p3 hp3 h => ?_)
    refine jr_ist (pc' := 51) rfl rfl (jl rfl) hN jd_21 jn_21 jg_a h (fun hc h => ?_)
    refine jr_le h (fun m4 h => ?_)
    refine jr_al_n (pc' := 52) rfl rfl rfl (jr_gr (pc' := 55) (r := 21) rfl rfl jlk_1_27 (.inl rfl) rfl hN jd_15 rfl rfl rfl (jr_al_n (pc' := 56) rfl rfl rfl (jr_gi (pc' := 59) rfl rfl jlk_1_52 (.inl rfl) rfl hN jd_15 rfl rfl ?_)))
    refine jr_ia (pc' := 60) rfl rfl (jl rfl) hN jd_21 jn_21 jg_a h (fun hc h => ?_)
    refine jr_ic (pc' := 61) rfl rfl ?_
    refine jr_cne (pa := 64) (pb := 66) rfl rfl rfl jg_a jgc_m1 h (fun hc h => ?_) (fun hc h => ?_)
    · refine jr_ic (pc' := 65) rfl rfl ?_
      exact jr_retb rfl hu rfl jb_0 (hQ' _ _ (hQ ((0 : Int), m4) jb_0 h))
    · refine jr_al_n (pc' := 67) rfl rfl rfl (jr_gr (pc' := 70) (r := 22) rfl rfl jlk_1_30 (.inl rfl) rfl hN jd_15 rfl rfl rfl (jr_al_n (pc' := 71) rfl rfl rfl (jr_gi (pc' := 74) rfl rfl jlk_1_52 (.inl rfl) rfl hN jd_15 rfl rfl (jr_al_n (pc' := 75) rfl rfl rfl (jr_ic (pc' := 76) rfl rfl ?_)))))
      refine jr_bi (pc' := 78) rfl rfl rfl ?_
      refine jr_cv_i (pc' := 81) [_, _] rfl rfl jlk_1_108 jq_121 jbd_121 (jl rfl) rfl (jl rfl) hu rfl (jk rfl hN) (jd_1.trans jo_121.symm) (fun Q' hq => jc_121 hN (Nat.le_trans (jl rfl) hd) jgc_0 jgc_6 (jo_b h) hq) (fun p5 hp5 h => ?_)
      refine jr_ist (pc' := 82) rfl rfl (jl rfl) hN jd_22 jn_22 jg_a h (fun hc h => ?_)
      refine jr_le h (fun m6 h => ?_)
      refine jr_al_n (pc' := 83) rfl rfl rfl (jr_gr (pc' := 86) (r := 22) rfl rfl jlk_1_30 (.inl rfl) rfl hN jd_15 rfl rfl rfl (jr_al_n (pc' := 87) rfl rfl rfl (jr_gi (pc' := 90) rfl rfl jlk_1_52 (.inl rfl) rfl hN jd_15 rfl rfl ?_)))
      refine jr_ia (pc' := 91) rfl rfl (jl rfl) hN jd_22 jn_22 jg_a h (fun hc h => ?_)
      refine jr_ic (pc' := 92) rfl rfl ?_
      refine jr_cne (pa := 95) (pb := 97) rfl rfl rfl jg_a jgc_m1 h (fun hc h => ?_) (fun hc h => ?_)
      · refine jr_ic (pc' := 96) rfl rfl ?_
        exact jr_retb rfl hu rfl jb_0 (hQ' _ _ (hQ ((0 : Int), m6) jb_0 h))
      · refine jr_al_n (pc' := 98) rfl rfl rfl (jr_dup (pc' := 99) rfl rfl rfl (jr_gi (pc' := 102) rfl rfl jlk_1_52 (.inl rfl) rfl hN jd_15 rfl rfl (jr_ic (pc' := 103) rfl rfl (jr_add (pc' := 104) rfl rfl (jr_pi (pc' := 107) rfl rfl jlk_1_52 (.inl rfl) rfl hN jd_15 rfl rfl ?_)))))
        refine jr_le h (fun m7 h => ?_)
        refine jr_ic (pc' := 108) rfl rfl ?_
        exact jr_retb rfl hu rfl jb_1 (hQ' _ _ (hQ ((1 : Int), m7) jb_1 h))

