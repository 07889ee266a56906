/-! the pure machine follows the functions, 3 (written by wip/whole/gen/walk.py) -/
set_option maxRecDepth 20000 in
set_option maxHeartbeats 1000000 in
theorem jc_18 {X : Nat × (Nat → Int32)} {N d : Nat}  (hN : 102 ≤ N) (hd : 4 ≤ d)  {m : jm} {P : Int × jm → Prop} {Q : px_Q} (h : jo (jf_18 m) P) (hQ : ∀ p : Int × jm, jb p.1 → P p → Q (.inl (some (jv p.1))) (jmem N p.2)) : px_C X d 18 [.ref 15, .ref 1] (jmem N m) Q := by
  unfold jf_18 at h
  have hu : ju px_m18 (0, 0) := ju_0
  refine jr_in (M := px_m18) (lev := 3) (L := [some (.ref 15), some (.ref 1)]) hd rfl jbd_18 (jl rfl) rfl (fun d hd Q' hQ' => ?_)
  refine jr_al_n (pc' := 1) rfl rfl rfl (jr_gr (pc' := 4) (r := 23) rfl rfl jlk_1_33 (.inl rfl) rfl hN jd_15 rfl rfl rfl (jr_al_n (pc' := 5) rfl rfl rfl (jr_gi (pc' := 8) rfl rfl jlk_1_55 (.inl rfl) rfl hN jd_15 rfl rfl (jr_al_n (pc' := 9) rfl rfl rfl (jr_ic (pc' := 10) rfl rfl ?_)))))
  refine jr_al_n (pc' := 11) rfl rfl rfl (jr_gi (pc' := 14) rfl rfl jlk_1_45 (.inl rfl) rfl hN jd_15 rfl rfl (jr_ic (pc' := 15) rfl rfl (jr_sub (pc' := 16) rfl rfl ?_)))
  refine jr_cv_i (pc' := 19) [_, _] rfl rfl jlk_1_108 jq_121 jbd_121 (jl rfl) rfl (jl rfl) hu rfl (jk rfl hN) (jd_1.trans jo_121.symm) (fun Q' hq => jc_121 hN (Nat.le_trans (jl rfl) hd) jgc_0 jg_w (jo_b h) hq) (fun p1 hp1 h => ?_)
  refine jr_ist (pc' := 20) rfl rfl (jl rfl) hN jd_23 jn_23 jg_a h (fun hc h => ?_)
  refine jr_le h (fun m2 h => ?_)
  refine jr_al_n (pc' := 21) rfl rfl rfl (jr_gr (pc' := 24) (r := 23) rfl rfl jlk_1_33 (.inl rfl) rfl hN jd_15 rfl rfl rfl (jr_al_n (pc' := 25) rfl rfl rfl (jr_gi (pc' := 28) rfl rfl jlk_1_55 (.inl rfl) rfl hN jd_15 rfl rfl ?_)))
  refine jr_ia (pc' := 29) rfl rfl (jl rfl) hN jd_23 jn_23 jg_a h (fun hc h => ?_)
  refine jr_ic (pc' := 30) rfl rfl ?_
  refine jr_cne (pa := 33) (pb := 35) rfl rfl rfl jg_a jgc_m1 h (fun hc h => ?_) (fun hc h => ?_)
  · refine jr_ic (pc' := 34) rfl rfl ?_
    exact jr_retb rfl hu rfl jb_0 (hQ' _ _ (hQ ((0 : Int), m2) jb_0 h))
  · refine jr_al_n (pc' := 36) rfl rfl rfl (jr_gr (pc' := 39) (r := 24) rfl rfl jlk_1_36 (.inl rfl) rfl hN jd_15 rfl rfl rfl (jr_al_n (pc' := 40) rfl rfl rfl (jr_gi (pc' := 43) rfl rfl jlk_1_55 (.inl rfl) rfl hN jd_15 rfl rfl (jr_al_n (pc' := 44) rfl rfl rfl (jr_ic (pc' := 45) rfl rfl ?_)))))
    refine jr_al_n (pc' := 46) rfl rfl rfl (jr_gi (pc' := 49) rfl rfl jlk_1_45 (.inl rfl) rfl hN jd_15 rfl rfl (jr_ic (pc' := 50) rfl rfl (jr_sub (pc' := 51) rfl rfl ?_)))
    refine jr_cv_i (pc' := 54) [_, _] rfl rfl jlk_1_108 jq_121 jbd_121 (jl rfl) rfl (jl rfl) hu rfl (jk rfl hN) (jd_1.trans jo_121.symm) (fun Q' hq => jc_121 hN (Nat.le_trans (jl rfl) hd) jgc_0 jg_w (jo_b h) hq) (fun p3 hp3 h => ?_)
    refine jr_ist (pc' := 55) rfl rfl (jl rfl) hN jd_24 jn_24 jg_a h (fun hc h => ?_)
    refine jr_le h (fun m4 h => ?_)
    refine jr_al_n (pc' := 56) rfl rfl rfl (jr_gr (pc' := 59) (r := 24) rfl rfl jlk_1_36 (.inl rfl) rfl hN jd_15 rfl rfl rfl (jr_al_n (pc' := 60) rfl rfl rfl (jr_gi (pc' := 63) rfl rfl jlk_1_55 (.inl rfl) rfl hN jd_15 rfl rfl ?_)))
    refine jr_ia (pc' := 64) rfl rfl (jl rfl) hN jd_24 jn_24 jg_a h (fun hc h => ?_)
    refine jr_ic (pc' := 65) rfl rfl ?_
    refine jr_cne (pa := 68) (pb := 70) rfl rfl rfl jg_a jgc_m1 h (fun hc h => ?_) (fun hc h => ?_)
    · refine jr_ic (pc' := 69) rfl rfl ?_
      exact jr_retb rfl hu rfl jb_0 (hQ' _ _ (hQ ((0 : Int), m4) jb_0 h))
    · refine jr_al_n (pc' := 71) rfl rfl rfl (jr_gr (pc' := 74) (r := 25) rfl rfl jlk_1_39 (.inl rfl) rfl hN jd_15 rfl rfl rfl (jr_al_n (pc' := 75) rfl rfl rfl (jr_gi (pc' := 78) rfl rfl jlk_1_55 (.inl rfl) rfl hN jd_15 rfl rfl (jr_al_n (pc' := 79) rfl rfl rfl (jr_ic (pc' := 80) rfl rfl ?_)))))
      refine jr_ic (pc' := 81) rfl rfl ?_
      refine jr_cv_i (pc' := 84) [_, _] rfl rfl jlk_1_108 jq_121 jbd_121 (jl rfl) rfl (jl rfl) hu rfl (jk rfl hN) (jd_1.trans jo_121.symm) (fun Q' hq => jc_121 hN (Nat.le_trans (jl rfl) hd) jgc_0 jgc_5 (jo_b h) hq) (fun p5 hp5 h => ?_)
      refine jr_ist (pc' := 85) rfl rfl (jl rfl) hN jd_25 jn_25 jg_a h (fun hc h => ?_)
      refine jr_le h (fun m6 h => ?_)
      refine jr_al_n (pc' := 86) rfl rfl rfl (jr_gr (pc' := 89) (r := 25) rfl rfl jlk_1_39 (.inl rfl) rfl hN jd_15 rfl rfl rfl (jr_al_n (pc' := 90) rfl rfl rfl (jr_gi (pc' := 93) rfl rfl jlk_1_55 (.inl rfl) rfl hN jd_15 rfl rfl ?_)))
      refine jr_ia (pc' := 94) rfl rfl (jl rfl) hN jd_25 jn_25 jg_a h (fun hc h => ?_)
      refine jr_ic (pc' := 95) rfl rfl ?_
      refine jr_cne (pa := 98) (pb := 100) rfl rfl rfl jg_a jgc_m1 h (fun hc h => ?_) (fun hc h => ?_)
      · refine jr_ic (pc' := 99) rfl rfl ?_
        exact jr_retb rfl hu rfl jb_0 (hQ' _ _ (hQ ((0 : Int), m6) jb_0 h))
      · refine jr_al_n (pc' := 101) rfl rfl rfl (jr_gr (pc' := 104) (r := 26) rfl rfl jlk_1_42 (.inl rfl) rfl hN jd_15 rfl rfl rfl (jr_al_n (pc' := 105) rfl rfl rfl (jr_gi (pc' := 108) rfl rfl jlk_1_55 (.inl rfl) rfl hN jd_15 rfl rfl (jr_al_n (pc' := 109) rfl rfl rfl (jr_ic (pc' := 110) rfl rfl ?_)))))
        refine jr_bi (pc' := 112) rfl rfl rfl ?_
        refine jr_cv_i (pc' := 115) [_, _] rfl rfl jlk_1_108 jq_121 jbd_121 (jl rfl) rfl (jl rfl) hu rfl (jk rfl hN) (jd_1.trans jo_121.symm) (fun Q' hq => jc_121 hN (Nat.le_trans (jl rfl) hd) jgc_1 jgc_9 (jo_b h) hq) (fun p7 hp7 h => ?_)
        refine jr_ist (pc' := 116) rfl rfl (jl rfl) hN jd_26 jn_26 jg_a h (fun hc h => ?_)
        refine jr_le h (fun m8 h => ?_)
        refine jr_al_n (pc' := 117) rfl rfl rfl (jr_gr (pc' := 120) (r := 26) rfl rfl jlk_1_42 (.inl rfl) rfl hN jd_15 rfl rfl rfl (jr_al_n (pc' := 121) rfl rfl rfl (jr_gi (pc' := 124) rfl rfl jlk_1_55 (.inl rfl) rfl hN jd_15 rfl rfl ?_)))
        refine jr_ia (pc' := 125) rfl rfl (jl rfl) hN jd_26 jn_26 jg_a h (fun hc h => ?_)
        refine jr_ic (pc' := 126) rfl rfl ?_
        refine jr_cne (pa := 129) (pb := 131) rfl rfl rfl jg_a jgc_m1 h (fun hc h => ?_) (fun hc h => ?_)
        · refine jr_ic (pc' := 130) rfl rfl ?_
          exact jr_retb rfl hu rfl jb_0 (hQ' _ _ (hQ ((0 : Int), m8) jb_0 h))
        · refine jr_al_n (pc' := 132) rfl rfl rfl (jr_dup (pc' := 133) rfl rfl rfl (jr_gi (pc' := 136) rfl rfl jlk_1_55 (.inl rfl) rfl hN jd_15 rfl rfl (jr_ic (pc' := 137) rfl rfl (jr_add (pc' := 138) rfl rfl (jr_pi (pc' := 141) rfl rfl jlk_1_55 (.inl rfl) rfl hN jd_15 rfl rfl ?_)))))
          refine jr_le h (fun m9 h => ?_)
          refine jr_ic (pc' := 142) rfl rfl ?_
          exact jr_retb rfl hu rfl jb_1 (hQ' _ _ (hQ ((1 : Int), m9) jb_1 h))

set_option maxRecDepth 20000 in
set_option maxHeartbeats 1000000 in
theorem jc_13 {X : Nat × (Nat → Int32)} {N d : Nat} {x1 : Int} (hN : 102 ≤ N) (hd : 5 ≤ d) (hx1 : jg x1) {m : jm} {P : Int × jm → Prop} {Q : px_Q} (h : jo (jf_13 x1 m) P) (hQ : ∀ p : Int × jm, jb p.1 → P p → Q (.inl (some (jv p.1))) (jmem N p.2)) : px_C X d 13 [.ref 15, .ref 1, jv x1] (jmem N m) Q := by
  unfold jf_13 at h
  have hu : ju px_m13 (0, 0) := ju_0
  refine jr_in (M := px_m13) (lev := 4) (L := [some (.ref 15), some (.ref 1), some (jv x1)]) hd rfl jbd_13 (jl rfl) rfl (fun d hd Q' hQ' => ?_)
  refine jr_il_n (pc' := 1) rfl rfl rfl ?_
  refine jo_i h (fun hc h => ?_) (fun hc0 h => ?_)
  · refine jr_tsc (pc' := 28) (0) rfl hx1 hc (by decide) rfl rfl (jr_al_n (pc' := 29) rfl rfl rfl (jr_al_n (pc' := 30) rfl rfl rfl ?_))
    refine jr_cv_i (pc' := 33) [] rfl rfl jlk_1_95 jq_14 jbd_14 (jl rfl) rfl (jl rfl) hu rfl (jk rfl hN) (jd_15.trans jo_14.symm) (fun Q' hq => jc_14 hN (Nat.le_trans (jl rfl) hd)  (jo_b h) hq) (fun p4 hp4 h => ?_)
    exact jr_retb rfl hu rfl hp4 (hQ' _ _ (hQ (p4.1, p4.2) hp4 h))
  · refine jo_i h (fun hc h => ?_) (fun hc1 h => ?_)
    · refine jr_tsc (pc' := 34) (1) rfl hx1 hc (by decide) rfl rfl (jr_al_n (pc' := 35) rfl rfl rfl (jr_al_n (pc' := 36) rfl rfl rfl ?_))
      refine jr_cv_i (pc' := 39) [] rfl rfl jlk_1_99 jq_15 jbd_15 (jl rfl) rfl (jl rfl) hu rfl (jk rfl hN) (jd_15.trans jo_15.symm) (fun Q' hq => jc_15 hN (Nat.le_trans (jl rfl) hd)  (jo_b h) hq) (fun p3 hp3 h => ?_)
      exact jr_retb rfl hu rfl hp3 (hQ' _ _ (hQ (p3.1, p3.2) hp3 h))
    · refine jo_i h (fun hc h => ?_) (fun hc2 h => ?_)
      · refine jr_tsc (pc' := 40) (2) rfl hx1 hc (by decide) rfl rfl (jr_al_n (pc' := 41) rfl rfl rfl (jr_al_n (pc' := 42) rfl rfl rfl ?_))
        refine jr_cv_i (pc' := 45) [] rfl rfl jlk_1_102 jq_17 jbd_17 (jl rfl) rfl (jl rfl) hu rfl (jk rfl hN) (jd_15.trans jo_17.symm) (fun Q' hq => jc_17 hN (Nat.le_trans (jl rfl) hd)  (jo_b h) hq) (fun p2 hp2 h => ?_)
        exact jr_retb rfl hu rfl hp2 (hQ' _ _ (hQ (p2.1, p2.2) hp2 h))
      · refine jr_tsd (pc' := 46) rfl hx1 (by omega) rfl (jr_al_n (pc' := 47) rfl rfl rfl (jr_al_n (pc' := 48) rfl rfl rfl ?_))
        refine jr_cv_i (pc' := 51) [] rfl rfl jlk_1_105 jq_18 jbd_18 (jl rfl) rfl (jl rfl) hu rfl (jk rfl hN) (jd_15.trans jo_18.symm) (fun Q' hq => jc_18 hN (Nat.le_trans (jl rfl) hd)  (jo_b h) hq) (fun p1 hp1 h => ?_)
        exact jr_retb rfl hu rfl hp1 (hQ' _ _ (hQ (p1.1, p1.2) hp1 h))

set_option maxRecDepth 20000 in
set_option maxHeartbeats 1000000 in
theorem jc_11 {X : Nat × (Nat → Int32)} {N d : Nat}  (hN : 102 ≤ N) (hd : 6 ≤ d)  {m : jm} {P : Int × jm → Prop} {Q : px_Q} (h : jo (jf_11 m) P) (hQ : ∀ p : Int × jm, jb p.1 → P p → Q (.inl (some (jv p.1))) (jmem N p.2)) : px_C X d 11 [.ref 15, .ref 1] (jmem N m) Q := by
  unfold jf_11 at h
  have hu : ju px_m11 (0, 0) := ju_0
  refine jr_in (M := px_m11) (lev := 5) (L := [some (.ref 15), some (.ref 1), none, none]) hd rfl jbd_11 (jl rfl) rfl (fun d hd Q' hQ' => ?_)
  refine jr_al_n (pc' := 1) rfl rfl rfl (jr_ic (pc' := 2) rfl rfl (jr_pi (pc' := 5) rfl rfl jlk_1_45 (.inl rfl) rfl hN jd_15 rfl rfl ?_))
  refine jr_le h (fun m1 h => ?_)
  refine jr_al_n (pc' := 6) rfl rfl rfl (jr_ic (pc' := 7) rfl rfl (jr_pi (pc' := 10) rfl rfl jlk_1_49 (.inl rfl) rfl hN jd_15 rfl rfl ?_))
  refine jr_le h (fun m2 h => ?_)
  refine jr_al_n (pc' := 11) rfl rfl rfl (jr_ic (pc' := 12) rfl rfl (jr_pi (pc' := 15) rfl rfl jlk_1_52 (.inl rfl) rfl hN jd_15 rfl rfl ?_))
  refine jr_le h (fun m3 h => ?_)
  refine jr_al_n (pc' := 16) rfl rfl rfl (jr_ic (pc' := 17) rfl rfl (jr_pi (pc' := 20) rfl rfl jlk_1_55 (.inl rfl) rfl hN jd_15 rfl rfl ?_))
  refine jr_le h (fun m4 h => ?_)
  refine jr_ic (pc' := 21) rfl rfl (jr_is_n (pc' := 22) (L' := [_, _, _, _]) rfl rfl (jl rfl) rfl rfl ?_)
  refine jr_lp (fun s5 => jg s5.1) (fun s5 => ∀ o6, jn o6 → jp X (px_C X d) px_m11 Q' N 22 [some (.ref 15), some (.ref 1), some (jv s5.1), o6] [] s5.2 (0, 0)) h jgc_0 (fun s5 hs5 R8 k7 h o6 ho6 => ?_) _ jn_n
  refine jr_il_n (pc' := 23) rfl rfl rfl (jr_bi (pc' := 25) rfl rfl rfl ?_)
  refine jr_cgt (pa := 102) (pb := 28) rfl rfl rfl hs5 jgc_60 h (fun hc h => ?_) (fun hc h => ?_)
  · refine jr_ic (pc' := 103) rfl rfl ?_
    exact jr_retb rfl hu rfl jb_0 (hQ' _ _ (hQ ((0 : Int), s5.2) jb_0 h))
  · refine jr_al_n (pc' := 29) rfl rfl rfl ?_
    refine jr_cv_i (pc' := 32) [] rfl rfl jlk_1_64 jq_116 jbd_116 (jl rfl) rfl (jl rfl) hu rfl (jk rfl hN) (jd_1.trans jo_116.symm) (fun Q' hq => jc_116 hN (Nat.le_trans (jl rfl) hd)  (jo_b h) hq) (fun p9 hp9 h => ?_)
    refine jr_ic (pc' := 33) rfl rfl ?_
    refine jr_cne (pa := 36) (pb := 38) rfl rfl rfl hp9 jgc_m1 h (fun hc h => ?_) (fun hc h => ?_)
    · refine jr_ic (pc' := 37) rfl rfl ?_
      exact jr_retb rfl hu rfl jb_1 (hQ' _ _ (hQ ((1 : Int), p9.2) jb_1 h))
    · refine jr_al_n (pc' := 39) rfl rfl rfl (jr_lds (pc' := 41) rfl rfl jlk_1_70 ?_)
      refine jr_cv_i (pc' := 44) [] rfl rfl jlk_1_72 jq_117 jbd_117 (jl rfl) rfl (jl rfl) hu rfl (jk rfl hN) (jd_1.trans jo_117.symm) (fun Q' hq => jc_117 hN (Nat.le_trans (jl rfl) hd) (jl rfl) (jo_b h) hq) (fun p10 hp10 h => ?_)
      refine jr_is_n (pc' := 45) (L' := [_, _, _, _]) rfl rfl (jl rfl) rfl rfl (jr_il_n (pc' := 46) rfl rfl rfl (jr_ic (pc' := 47) rfl rfl ?_))
      refine jr_cne (pa := 50) (pb := 52) rfl rfl rfl hp10 jgc_m1 h (fun hc h => ?_) (fun hc h => ?_)
      · refine jr_ic (pc' := 51) rfl rfl ?_
        exact jr_retb rfl hu rfl jb_0 (hQ' _ _ (hQ ((0 : Int), p10.2) jb_0 h))
      · refine jr_il_n (pc' := 53) rfl rfl rfl (jr_bi (pc' := 55) rfl rfl rfl ?_)
        refine jr_ceq (pa := 66) (pb := 58) rfl rfl rfl hs5 jgc_60 h (fun hc h => ?_) (fun hc h => ?_)
        · refine jr_al_n (pc' := 67) rfl rfl rfl (jr_ic (pc' := 68) rfl rfl (jr_al_n (pc' := 69) rfl rfl rfl (jr_gi (pc' := 72) rfl rfl jlk_1_80 (.inr rfl) rfl hN jd_1 rfl rfl ?_)))
          refine jr_cv_i (pc' := 75) [] rfl rfl jlk_1_83 jq_120 jbd_120 (jl rfl) rfl (jl rfl) hu rfl (jk rfl hN) (jd_1.trans jo_120.symm) (fun Q' hq => jc_120 hN (Nat.le_trans (jl rfl) hd) jgc_3 jg_a (jo_b h) hq) (fun p11 hp11 h => ?_)
          exact jr_retb rfl hu rfl hp11 (hQ' _ _ (hQ (p11.1, p11.2) hp11 h))
        · refine jr_al_n (pc' := 59) rfl rfl rfl (jr_il_n (pc' := 60) rfl rfl rfl ?_)
          refine jr_cv_p (pc' := 63) [] rfl rfl jlk_1_76 jq_12 jbd_12 (jl rfl) rfl (jl rfl) hu rfl (jk rfl hN) (jd_15.trans jo_12.symm) (fun Q' hq => jc_12 hN (Nat.le_trans (jl rfl) hd) hp10 (jo_b h) hq) (fun p12 hp12 h => ?_)
          refine jr_zeq (pa := 76) (pb := 66) rfl rfl rfl (jg_b hp12) h (fun hc h => ?_) (fun hc h => ?_)
          · refine jr_al_n (pc' := 77) rfl rfl rfl (jr_al_n (pc' := 78) rfl rfl rfl (jr_il_n (pc' := 79) rfl rfl rfl ?_))
            refine jr_cv_i (pc' := 82) [] rfl rfl jlk_1_87 jq_13 jbd_13 (jl rfl) rfl (jl rfl) hu rfl (jk rfl hN) (jd_15.trans jo_13.symm) (fun Q' hq => jc_13 hN (Nat.le_trans (jl rfl) hd) hp10 (jo_b h) hq) (fun p13 hp13 h => ?_)
            refine jr_zeq (pa := 94) (pb := 85) rfl rfl rfl (jg_b hp13) h (fun hc h => ?_) (fun hc h => ?_)
            · refine jr_ic (pc' := 95) rfl rfl ?_
              exact jr_retb rfl hu rfl jb_0 (hQ' _ _ (hQ ((0 : Int), p13.2) jb_0 h))
            · refine jr_al_n (pc' := 86) rfl rfl rfl (jr_bi (pc' := 88) rfl rfl rfl ?_)
              refine jr_cv_i (pc' := 91) [] rfl rfl jlk_1_91 jq_123 jbd_123 (jl rfl) rfl (jl rfl) hu rfl (jk rfl hN) (jd_1.trans jo_123.symm) (fun Q' hq => jc_123 hN (Nat.le_trans (jl rfl) hd) jgc_59 (jo_b h) hq) (fun p14 hp14 h => ?_)
              refine jr_zne (pa := 94) (pb := 96) rfl rfl rfl (jg_b hp14) h (fun hc h => ?_) (fun hc h => ?_)
              · refine jr_ic (pc' := 95) rfl rfl ?_
                exact jr_retb rfl hu rfl jb_0 (hQ' _ _ (hQ ((0 : Int), p14.2) jb_0 h))
              · refine jr_inc (pc' := 99) (L' := [_, _, _, _]) rfl rfl rfl (jl rfl) rfl rfl (jr_goto (pc' := 22) rfl rfl ?_)
                exact k7 (jw (s5.1 + 1), p14.2) jg_w h _ jn_i
          · refine jr_al_n (pc' := 67) rfl rfl rfl (jr_ic (pc' := 68) rfl rfl (jr_al_n (pc' := 69) rfl rfl rfl (jr_gi (pc' := 72) rfl rfl jlk_1_80 (.inr rfl) rfl hN jd_1 rfl rfl ?_)))
            refine jr_cv_i (pc' := 75) [] rfl rfl jlk_1_83 jq_120 jbd_120 (jl rfl) rfl (jl rfl) hu rfl (jk rfl hN) (jd_1.trans jo_120.symm) (fun Q' hq => jc_120 hN (Nat.le_trans (jl rfl) hd) jgc_3 jg_a (jo_b h) hq) (fun p15 hp15 h => ?_)
            exact jr_retb rfl hu rfl hp15 (hQ' _ _ (hQ (p15.1, p15.2) hp15 h))

set_option maxRecDepth 20000 in
set_option maxHeartbeats 1000000 in
theorem jc_19 {X : Nat × (Nat → Int32)} {N d : Nat}  (hN : 102 ≤ N) (hd : 1 ≤ d)  {m : jm} {P : jm → Prop} {Q : px_Q} (h : jo (jf_19 m) P) (hQ : ∀ p : jm, True → P p → Q (.inl (none)) (jmem N p)) : px_C X d 19 [.ref 3, .ref 15] (jmem N m) Q := by
  unfold jf_19 at h
  have hu : ju px_m19 (0, 0) := ju_0
  refine jr_in (M := px_m19) (lev := 0) (L := [some (.ref 3), some (.ref 15)]) hd rfl jbd_19 (jl rfl) rfl (fun d hd Q' hQ' => ?_)
  refine jr_al_n (pc' := 1) rfl rfl rfl (jr_al_n (pc' := 2) rfl rfl rfl (jr_gi (pc' := 5) rfl rfl jlk_1_45 (.inl rfl) rfl hN jd_15 rfl rfl (jr_pi (pc' := 8) rfl rfl jlk_1_45 (.inl rfl) rfl hN jd_3 rfl rfl ?_)))
  refine jr_le h (fun m1 h => ?_)
  refine jr_al_n (pc' := 9) rfl rfl rfl (jr_al_n (pc' := 10) rfl rfl rfl (jr_gi (pc' := 13) rfl rfl jlk_1_49 (.inl rfl) rfl hN jd_15 rfl rfl (jr_pi (pc' := 16) rfl rfl jlk_1_49 (.inl rfl) rfl hN jd_3 rfl rfl ?_)))
  refine jr_le h (fun m2 h => ?_)
  refine jr_al_n (pc' := 17) rfl rfl rfl (jr_al_n (pc' := 18) rfl rfl rfl (jr_gi (pc' := 21) rfl rfl jlk_1_52 (.inl rfl) rfl hN jd_15 rfl rfl (jr_pi (pc' := 24) rfl rfl jlk_1_52 (.inl rfl) rfl hN jd_3 rfl rfl ?_)))
  refine jr_le h (fun m3 h => ?_)
  refine jr_al_n (pc' := 25) rfl rfl rfl (jr_al_n (pc' := 26) rfl rfl rfl (jr_gi (pc' := 29) rfl rfl jlk_1_55 (.inl rfl) rfl hN jd_15 rfl rfl (jr_pi (pc' := 32) rfl rfl jlk_1_55 (.inl rfl) rfl hN jd_3 rfl rfl ?_)))
  refine jr_le h (fun m4 h => ?_)
  refine jr_al_n (pc' := 33) rfl rfl rfl (jr_gr (pc' := 36) (r := 16) rfl rfl jlk_1_9 (.inl rfl) rfl hN jd_15 rfl rfl rfl (jr_ic (pc' := 37) rfl rfl (jr_al_n (pc' := 38) rfl rfl rfl (jr_gr (pc' := 41) (r := 4) rfl rfl jlk_1_9 (.inl rfl) rfl hN jd_3 rfl rfl rfl (jr_ic (pc' := 42) rfl rfl ?_)))))
  refine jr_bi (pc' := 44) rfl rfl rfl ?_
  refine jr_cp (pc' := 47) rfl rfl jlk_1_58 (jl rfl) (jl rfl) hN jd_16 jd_4 jn_16 jn_4 (jl rfl) jgc_0 jgc_0 jgc_8 h (fun h => ?_)
  refine jr_le h (fun m5 h => ?_)
  refine jr_al_n (pc' := 48) rfl rfl rfl (jr_gr (pc' := 51) (r := 17) rfl rfl jlk_1_15 (.inl rfl) rfl hN jd_15 rfl rfl rfl (jr_ic (pc' := 52) rfl rfl (jr_al_n (pc' := 53) rfl rfl rfl (jr_gr (pc' := 56) (r := 5) rfl rfl jlk_1_15 (.inl rfl) rfl hN jd_3 rfl rfl rfl (jr_ic (pc' := 57) rfl rfl ?_)))))
  refine jr_bi (pc' := 59) rfl rfl rfl ?_
  refine jr_cp (pc' := 62) rfl rfl jlk_1_58 (jl rfl) (jl rfl) hN jd_17 jd_5 jn_17 jn_5 (jl rfl) jgc_0 jgc_0 jgc_12 h (fun h => ?_)
  refine jr_le h (fun m6 h => ?_)
  refine jr_al_n (pc' := 63) rfl rfl rfl (jr_gr (pc' := 66) (r := 18) rfl rfl jlk_1_18 (.inl rfl) rfl hN jd_15 rfl rfl rfl (jr_ic (pc' := 67) rfl rfl (jr_al_n (pc' := 68) rfl rfl rfl (jr_gr (pc' := 71) (r := 6) rfl rfl jlk_1_18 (.inl rfl) rfl hN jd_3 rfl rfl rfl (jr_ic (pc' := 72) rfl rfl ?_)))))
  refine jr_bi (pc' := 74) rfl rfl rfl ?_
  refine jr_cp (pc' := 77) rfl rfl jlk_1_58 (jl rfl) (jl rfl) hN jd_18 jd_6 jn_18 jn_6 (jl rfl) jgc_0 jgc_0 jgc_12 h (fun h => ?_)
  refine jr_le h (fun m7 h => ?_)
  refine jr_al_n (pc' := 78) rfl rfl rfl (jr_gr (pc' := 81) (r := 19) rfl rfl jlk_1_21 (.inl rfl) rfl hN jd_15 rfl rfl rfl (jr_ic (pc' := 82) rfl rfl (jr_al_n (pc' := 83) rfl rfl rfl (jr_gr (pc' := 86) (r := 7) rfl rfl jlk_1_21 (.inl rfl) rfl hN jd_3 rfl rfl rfl (jr_ic (pc' := 87) rfl rfl ?_)))))
  refine jr_bi (pc' := 89) rfl rfl rfl ?_
  refine jr_cp (pc' := 92) rfl rfl jlk_1_58 (jl rfl) (jl rfl) hN jd_19 jd_7 jn_19 jn_7 (jl rfl) jgc_0 jgc_0 jgc_12 h (fun h => ?_)
  refine jr_le h (fun m8 h => ?_)
  refine jr_al_n (pc' := 93) rfl rfl rfl (jr_gr (pc' := 96) (r := 20) rfl rfl jlk_1_24 (.inl rfl) rfl hN jd_15 rfl rfl rfl (jr_ic (pc' := 97) rfl rfl (jr_al_n (pc' := 98) rfl rfl rfl (jr_gr (pc' := 101) (r := 8) rfl rfl jlk_1_24 (.inl rfl) rfl hN jd_3 rfl rfl rfl (jr_ic (pc' := 102) rfl rfl ?_)))))
  refine jr_bi (pc' := 104) rfl rfl rfl ?_
  refine jr_cp (pc' := 107) rfl rfl jlk_1_58 (jl rfl) (jl rfl) hN jd_20 jd_8 jn_20 jn_8 (jl rfl) jgc_0 jgc_0 jgc_6 h (fun h => ?_)
  refine jr_le h (fun m9 h => ?_)
  refine jr_al_n (pc' := 108) rfl rfl rfl (jr_gr (pc' := 111) (r := 21) rfl rfl jlk_1_27 (.inl rfl) rfl hN jd_15 rfl rfl rfl (jr_ic (pc' := 112) rfl rfl (jr_al_n (pc' := 113) rfl rfl rfl (jr_gr (pc' := 116) (r := 9) rfl rfl jlk_1_27 (.inl rfl) rfl hN jd_3 rfl rfl rfl (jr_ic (pc' := 117) rfl rfl ?_)))))
  refine jr_bi (pc' := 119) rfl rfl rfl ?_
  refine jr_cp (pc' := 122) rfl rfl jlk_1_58 (jl rfl) (jl rfl) hN jd_21 jd_9 jn_21 jn_9 (jl rfl) jgc_0 jgc_0 jgc_6 h (fun h => ?_)
  refine jr_le h (fun m10 h => ?_)
  refine jr_al_n (pc' := 123) rfl rfl rfl (jr_gr (pc' := 126) (r := 22) rfl rfl jlk_1_30 (.inl rfl) rfl hN jd_15 rfl rfl rfl (jr_ic (pc' := 127) rfl rfl (jr_al_n (pc' := 128) rfl rfl rfl (jr_gr (pc' := 131) (r := 10) rfl rfl jlk_1_30 (.inl rfl) rfl hN jd_3 rfl rfl rfl (jr_ic (pc' := 132) rfl rfl ?_)))))
  refine jr_bi (pc' := 134) rfl rfl rfl ?_
  refine jr_cp (pc' := 137) rfl rfl jlk_1_58 (jl rfl) (jl rfl) hN jd_22 jd_10 jn_22 jn_10 (jl rfl) jgc_0 jgc_0 jgc_6 h (fun h => ?_)
  refine jr_le h (fun m11 h => ?_)
  refine jr_al_n (pc' := 138) rfl rfl rfl (jr_gr (pc' := 141) (r := 23) rfl rfl jlk_1_33 (.inl rfl) rfl hN jd_15 rfl rfl rfl (jr_ic (pc' := 142) rfl rfl (jr_al_n (pc' := 143) rfl rfl rfl (jr_gr (pc' := 146) (r := 11) rfl rfl jlk_1_33 (.inl rfl) rfl hN jd_3 rfl rfl rfl (jr_ic (pc' := 147) rfl rfl ?_)))))
  refine jr_bi (pc' := 149) rfl rfl rfl ?_
  refine jr_cp (pc' := 152) rfl rfl jlk_1_58 (jl rfl) (jl rfl) hN jd_23 jd_11 jn_23 jn_11 (jl rfl) jgc_0 jgc_0 jgc_8 h (fun h => ?_)
  refine jr_le h (fun m12 h => ?_)
  refine jr_al_n (pc' := 153) rfl rfl rfl (jr_gr (pc' := 156) (r := 24) rfl rfl jlk_1_36 (.inl rfl) rfl hN jd_15 rfl rfl rfl (jr_ic (pc' := 157) rfl rfl (jr_al_n (pc' := 158) rfl rfl rfl (jr_gr (pc' := 161) (r := 12) rfl rfl jlk_1_36 (.inl rfl) rfl hN jd_3 rfl rfl rfl (jr_ic (pc' := 162) rfl rfl ?_)))))
  refine jr_bi (pc' := 164) rfl rfl rfl ?_
  refine jr_cp (pc' := 167) rfl rfl jlk_1_58 (jl rfl) (jl rfl) hN jd_24 jd_12 jn_24 jn_12 (jl rfl) jgc_0 jgc_0 jgc_8 h (fun h => ?_)
  refine jr_le h (fun m13 h => ?_)
  refine jr_al_n (pc' := 168) rfl rfl rfl (jr_gr (pc' := 171) (r := 25) rfl rfl jlk_1_39 (.inl rfl) rfl hN jd_15 rfl rfl rfl (jr_ic (pc' := 172) rfl rfl (jr_al_n (pc' := 173) rfl rfl rfl (jr_gr (pc' := 176) (r := 13) rfl rfl jlk_1_39 (.inl rfl) rfl hN jd_3 rfl rfl rfl (jr_ic (pc' := 177) rfl rfl ?_)))))
  refine jr_bi (pc' := 179) rfl rfl rfl ?_
  refine jr_cp (pc' := 182) rfl rfl jlk_1_58 (jl rfl) (jl rfl) hN jd_25 jd_13 jn_25 jn_13 (jl rfl) jgc_0 jgc_0 jgc_8 h (fun h => ?_)
  refine jr_le h (fun m14 h => ?_)
  refine jr_al_n (pc' := 183) rfl rfl rfl (jr_gr (pc' := 186) (r := 26) rfl rfl jlk_1_42 (.inl rfl) rfl hN jd_15 rfl rfl rfl (jr_ic (pc' := 187) rfl rfl (jr_al_n (pc' := 188) rfl rfl rfl (jr_gr (pc' := 191) (r := 14) rfl rfl jlk_1_42 (.inl rfl) rfl hN jd_3 rfl rfl rfl (jr_ic (pc' := 192) rfl rfl ?_)))))
  refine jr_bi (pc' := 194) rfl rfl rfl ?_
  refine jr_cp (pc' := 197) rfl rfl jlk_1_58 (jl rfl) (jl rfl) hN jd_26 jd_14 jn_26 jn_14 (jl rfl) jgc_0 jgc_0 jgc_8 h (fun h => ?_)
  refine jr_le h (fun m15 h => ?_)
  exact jr_rv rfl hu rfl (hQ' _ _ (hQ m15 trivial h))

set_option maxRecDepth 20000 in
set_option maxHeartbeats 1000000 in
theorem jc_20 {X : Nat × (Nat → Int32)} {N d : Nat} {x0 : Int} (hN : 102 ≤ N) (hd : 1 ≤ d) (hx0 : jg x0) {m : jm} {P : Int → Prop} {Q : px_Q} (h : jo (jf_20 x0 m) P) (hQ : ∀ p : Int, jg p → P p → Q (.inl (some (jv p))) (jmem N m)) : px_C X d 20 [.ref 3, jv x0] (jmem N m) Q := by
  unfold jf_20 at h
  have hu : ju px_m20 (0, 0) := ju_0
  refine jr_in (M := px_m20) (lev := 0) (L := [some (.ref 3), some (jv x0), none, none]) hd rfl jbd_20 (jl rfl) rfl (fun d hd Q' hQ' => ?_)
  refine jr_ic (pc' := 1) rfl rfl (jr_is_n (pc' := 2) (L' := [_, _, _, _]) rfl rfl (jl rfl) rfl rfl (jr_ic (pc' := 3) rfl rfl (jr_is_n (pc' := 4) (L' := [_, _, _, _]) rfl rfl (jl rfl) rfl rfl ?_)))
  refine jr_reg (fun t4 => jg t4) (fun t4 => ∀ o5, jn o5 → jp X (px_C X d) px_m20 Q' N 44 [some (.ref 3), some (jv x0), some (jv t4), o5] [] m (0, 0)) h (fun t4 ht4 h o5 ho5 => ?_) (fun R7 k6 h => ?_)
  · refine jr_il_n (pc' := 45) rfl rfl rfl ?_
    exact jr_ret rfl hu rfl (hQ' _ _ (hQ t4 ht4 h))
  · refine jr_lp (fun s1 => jg s1.1 ∧ jg s1.2) (fun s1 => jp X (px_C X d) px_m20 Q' N 4 [some (.ref 3), some (jv x0), some (jv s1.1), some (jv s1.2)] [] m (0, 0)) h ⟨jgc_0, jgc_0⟩ (fun s1 hs1 R3 k2 h => ?_)
    refine jr_il_n (pc' := 5) rfl rfl rfl (jr_al_n (pc' := 6) rfl rfl rfl (jr_gi (pc' := 9) rfl rfl jlk_1_49 (.inl rfl) rfl hN jd_3 rfl rfl ?_))
    refine jr_cge (pa := 12) (pb := 44) rfl rfl rfl hs1.2 jg_a h (fun hc h => ?_) (fun hc h => ?_)
    · refine jr_al_n (pc' := 13) rfl rfl rfl (jr_gr (pc' := 16) (r := 5) rfl rfl jlk_1_15 (.inl rfl) rfl hN jd_3 rfl rfl rfl (jr_il_n (pc' := 17) rfl rfl rfl ?_))
      refine jr_ia (pc' := 18) rfl rfl (jl rfl) hN jd_5 jn_5 hs1.2 h (fun hc h => ?_)
      refine jr_il_n (pc' := 19) rfl rfl rfl ?_
      refine jr_reg (fun t8 => jg t8) (fun t8 => jp X (px_C X d) px_m20 Q' N 38 [some (.ref 3), some (jv x0), some (jv t8), some (jv s1.2)] [] m (0, 0)) h (fun t8 ht8 h => ?_) (fun R20 k9 h => ?_)
      · refine jr_inc (pc' := 41) (L' := [_, _, _, _]) rfl rfl rfl (jl rfl) rfl rfl (jr_goto (pc' := 4) rfl rfl ?_)
        exact k2 (t8, jw (s1.2 + 1)) ⟨ht8, jg_w⟩ h
      · refine jr_ceq (pa := 32) (pb := 22) rfl rfl rfl jg_a hx0 h (fun hc h => ?_) (fun hc h => ?_)
        · refine jr_il_n (pc' := 33) rfl rfl rfl (jr_ic (pc' := 34) rfl rfl (jr_il_n (pc' := 35) rfl rfl rfl (jr_shl (pc' := 36) rfl rfl (jr_or (pc' := 37) rfl rfl (jr_is_n (pc' := 38) (L' := [_, _, _, _]) rfl rfl (jl rfl) rfl rfl ?_)))))
          exact k9 (jbor s1.1 (jshl (1 : Int) s1.2)) jg_bor h
        · refine jr_al_n (pc' := 23) rfl rfl rfl (jr_gr (pc' := 26) (r := 6) rfl rfl jlk_1_18 (.inl rfl) rfl hN jd_3 rfl rfl rfl (jr_il_n (pc' := 27) rfl rfl rfl ?_))
          refine jr_ia (pc' := 28) rfl rfl (jl rfl) hN jd_6 jn_6 hs1.2 h (fun hc h => ?_)
          refine jr_il_n (pc' := 29) rfl rfl rfl ?_
          refine jr_cne (pa := 32) (pb := 38) rfl rfl rfl jg_a hx0 h (fun hc h => ?_) (fun hc h => ?_)
          · refine jr_il_n (pc' := 33) rfl rfl rfl (jr_ic (pc' := 34) rfl rfl (jr_il_n (pc' := 35) rfl rfl rfl (jr_shl (pc' := 36) rfl rfl (jr_or (pc' := 37) rfl rfl (jr_is_n (pc' := 38) (L' := [_, _, _, _]) rfl rfl (jl rfl) rfl rfl ?_)))))
            exact k9 (jbor s1.1 (jshl (1 : Int) s1.2)) jg_bor h
          · exact k9 (s1.1) hs1.1 h
    · exact k6 (s1.1) hs1.1 h _ jn_i

set_option maxRecDepth 20000 in
set_option maxHeartbeats 1000000 in
theorem jc_21 {X : Nat × (Nat → Int32)} {N d : Nat} {x0 : Int} {x1 : Int} {x2 : Int} (hN : 102 ≤ N) (hd : 1 ≤ d) (hx0 : jg x0) (hx1 : jg x1) (hx2 : jg x2) {m : jm} {P : Int → Prop} {Q : px_Q} (h : jo (jf_21 x0 x1 x2 m) P) (hQ : ∀ p : Int, jg p → P p → Q (.inl (some (jv p))) (jmem N m)) : px_C X d 21 [.ref 3, jv x0, jv x1, jv x2] (jmem N m) Q := by
  unfold jf_21 at h
  have hu : ju px_m21 (0, 0) := ju_0
  refine jr_in (M := px_m21) (lev := 0) (L := [some (.ref 3), some (jv x0), some (jv x1), some (jv x2), none, none, none, none, none, none]) hd rfl jbd_21 (jl rfl) rfl (fun d hd Q' hQ' => ?_)
  refine jr_ic (pc' := 1) rfl rfl (jr_is (pc' := 3) (L' := [_, _, _, _, _, _, _, _, _, _]) rfl rfl (jl rfl) rfl rfl (jr_ic (pc' := 4) rfl rfl (jr_is (pc' := 6) (L' := [_, _, _, _, _, _, _, _, _, _]) rfl rfl (jl rfl) rfl rfl ?_)))
  refine jr_reg (fun t4 => jg t4) (fun t4 => ∀ o5, jn o5 → jp X (px_C X d) px_m21 Q' N 40 [some (.ref 3), some (jv x0), some (jv x1), some (jv x2), some (jv t4), o5, none, none, none, none] [] m (0, 0)) h (fun t4 ht4 h o5 ho5 => ?_) (fun R7 k6 h => ?_)
  · refine jr_il_n (pc' := 41) rfl rfl rfl (jr_il_n (pc' := 42) rfl rfl rfl (jr_shr (pc' := 43) rfl rfl (jr_ic (pc' := 44) rfl rfl (jr_and (pc' := 45) rfl rfl ?_))))
    refine jr_zeq (pa := 53) (pb := 48) rfl rfl rfl jg_band h (fun hc h => ?_) (fun hc h => ?_)
    · refine jr_ic (pc' := 54) rfl rfl ?_
      exact jr_ret rfl hu rfl (hQ' _ _ (hQ (0 : Int) jgc_0 h))
    · refine jr_il (pc' := 50) rfl rfl rfl ?_
      refine jr_zgt (pa := 55) (pb := 53) rfl rfl rfl ht4 h (fun hc h => ?_) (fun hc h => ?_)
      · refine jr_il_n (pc' := 56) rfl rfl rfl (jr_is (pc' := 58) (L' := [_, _, _, _, _, _, _, _, _, _]) rfl rfl (jl rfl) rfl rfl (jr_ic (pc' := 59) rfl rfl (jr_is (pc' := 61) (L' := [_, _, _, _, _, _, _, _, _, _]) rfl rfl (jl rfl) rfl rfl (jr_il_n (pc' := 62) rfl rfl rfl (jr_al_n (pc' := 63) rfl rfl rfl ?_)))))
        refine jr_gr (pc' := 66) (r := 14) rfl rfl jlk_1_42 (.inl rfl) rfl hN jd_3 rfl rfl rfl (jr_il_n (pc' := 67) rfl rfl rfl ?_)
        refine jr_ia (pc' := 68) rfl rfl (jl rfl) hN jd_14 jn_14 hx0 h (fun hc h => ?_)
        refine jr_mul (pc' := 69) rfl rfl (jr_il (pc' := 71) rfl rfl rfl ?_)
        refine jo_w0 h (fun hc h => jr_rem (pc' := 72) rfl rfl ht4 hc ?_)
        refine jr_is (pc' := 74) (L' := [_, _, _, _, _, _, _, _, _, _]) rfl rfl (jl rfl) rfl rfl (jr_ic (pc' := 75) rfl rfl (jr_is (pc' := 77) (L' := [_, _, _, _, _, _, _, _, _, _]) rfl rfl (jl rfl) rfl rfl ?_))
        refine jr_reg (fun t22 => jg t22.1 ∧ jg t22.2) (fun t22 => ∀ o23, jn o23 → ∀ o24, jn o24 → jp X (px_C X d) px_m21 Q' N 163 [some (.ref 3), some (jv x0), some (jv x1), some (jv x2), some (jv t4), some (jv t22.1), some (jv t22.2), some (jv (jrem (jw (x2 * (ja m 14 x0.toNat))) t4)), o23, o24] [] m (0, 0)) h (fun t22 ht22 h o23 ho23 o24 ho24 => ?_) (fun R26 k25 h => ?_)
        · refine jr_il_n (pc' := 164) rfl rfl rfl (jr_al_n (pc' := 165) rfl rfl rfl (jr_gr (pc' := 168) (r := 14) rfl rfl jlk_1_42 (.inl rfl) rfl hN jd_3 rfl rfl rfl (jr_il_n (pc' := 169) rfl rfl rfl ?_)))
          refine jr_ia (pc' := 170) rfl rfl (jl rfl) hN jd_14 jn_14 hx0 h (fun hc h => ?_)
          refine jr_mul (pc' := 171) rfl rfl (jr_il (pc' := 173) rfl rfl rfl ?_)
          refine jo_w0 h (fun hc h => jr_div (pc' := 174) rfl rfl ht4 hc ?_)
          refine jr_il (pc' := 176) rfl rfl rfl (jr_il (pc' := 178) rfl rfl rfl ?_)
          refine jr_reg (fun t64 => jb t64) (fun t64 => jp X (px_C X d) px_m21 Q' N 186 [some (.ref 3), some (jv x0), some (jv x1), some (jv x2), some (jv t4), some (jv t22.1), some (jv t22.2), some (jv (jrem (jw (x2 * (ja m 14 x0.toNat))) t4)), o23, o24] [(jv t64), (jv (jdiv (jw (x2 * (ja m 14 x0.toNat))) t4))] m (0, 0)) h (fun t64 ht64 h => ?_) (fun R76 k65 h => ?_)
          · refine jr_add (pc' := 187) rfl rfl ?_
            exact jr_ret rfl hu rfl (hQ' _ _ (hQ (jw ((jdiv (jw (x2 * (ja m 14 x0.toNat))) t4) + t64)) jg_w h))
          · refine jr_cge (pa := 181) (pb := 185) rfl rfl rfl ht22.2 ht22.1 h (fun hc h => ?_) (fun hc h => ?_)
            · refine jr_ic (pc' := 182) rfl rfl (jr_goto (pc' := 186) rfl rfl ?_)
              exact k65 ((1 : Int)) jb_1 h
            · refine jr_ic (pc' := 186) rfl rfl ?_
              exact k65 ((0 : Int)) jb_0 h
        · refine jr_lp (fun s18 => jg s18.1 ∧ jg s18.2.1 ∧ jg s18.2.2) (fun s18 => ∀ o19, jn o19 → jp X (px_C X d) px_m21 Q' N 77 [some (.ref 3), some (jv x0), some (jv x1), some (jv x2), some (jv t4), some (jv s18.1), some (jv s18.2.1), some (jv (jrem (jw (x2 * (ja m 14 x0.toNat))) t4)), some (jv s18.2.2), o19] [] m (0, 0)) h ⟨hx2, jgc_0, jgc_0⟩ (fun s18 hs18 R21 k20 h o19 ho19 => ?_) _ jn_n
          refine jr_il (pc' := 79) rfl rfl rfl (jr_al_n (pc' := 80) rfl rfl rfl (jr_gi (pc' := 83) rfl rfl jlk_1_55 (.inl rfl) rfl hN jd_3 rfl rfl ?_))
          refine jr_cge (pa := 86) (pb := 163) rfl rfl rfl hs18.2.2 jg_a h (fun hc h => ?_) (fun hc h => ?_)
          · refine jr_il_n (pc' := 87) rfl rfl rfl (jr_il (pc' := 89) rfl rfl rfl (jr_shr (pc' := 90) rfl rfl (jr_ic (pc' := 91) rfl rfl (jr_and (pc' := 92) rfl rfl (jr_ic (pc' := 93) rfl rfl ?_)))))
            refine jr_reg (fun t27 => jg t27.1 ∧ jg t27.2) (fun t27 => ∀ o28, jn o28 → jp X (px_C X d) px_m21 Q' N 157 [some (.ref 3), some (jv x0), some (jv x1), some (jv x2), some (jv t4), some (jv t27.1), some (jv t27.2), some (jv (jrem (jw (x2 * (ja m 14 x0.toNat))) t4)), some (jv s18.2.2), o28] [] m (0, 0)) h (fun t27 ht27 h o28 ho28 => ?_) (fun R53 k29 h => ?_)
            · refine jr_inc (pc' := 160) (L' := [_, _, _, _, _, _, _, _, _, _]) rfl rfl rfl (jl rfl) rfl rfl (jr_goto (pc' := 77) rfl rfl ?_)
              exact k20 (t27.1, t27.2, jw (s18.2.2 + 1)) ⟨ht27.1, ht27.2, jg_w⟩ h _ ho28
            · refine jr_cne (pa := 96) (pb := 157) rfl rfl rfl jg_band jgc_1 h (fun hc h => ?_) (fun hc h => ?_)
              · refine jr_il (pc' := 98) rfl rfl rfl (jr_il_n (pc' := 99) rfl rfl rfl (jr_al_n (pc' := 100) rfl rfl rfl (jr_gr (pc' := 103) (r := 14) rfl rfl jlk_1_42 (.inl rfl) rfl hN jd_3 rfl rfl rfl (jr_il (pc' := 105) rfl rfl rfl ?_))))
                refine jr_ia (pc' := 106) rfl rfl (jl rfl) hN jd_14 jn_14 hs18.2.2 h (fun hc h => ?_)
                refine jr_mul (pc' := 107) rfl rfl (jr_il (pc' := 109) rfl rfl rfl ?_)
                refine jo_w0 h (fun hc h => jr_div (pc' := 110) rfl rfl ht4 hc ?_)
                refine jr_sub (pc' := 111) rfl rfl (jr_is (pc' := 113) (L' := [_, _, _, _, _, _, _, _, _, _]) rfl rfl (jl rfl) rfl rfl (jr_il_n (pc' := 114) rfl rfl rfl (jr_al_n (pc' := 115) rfl rfl rfl (jr_gr (pc' := 118) (r := 14) rfl rfl jlk_1_42 (.inl rfl) rfl hN jd_3 rfl rfl rfl (jr_il (pc' := 120) rfl rfl rfl ?_)))))
                refine jr_ia (pc' := 121) rfl rfl (jl rfl) hN jd_14 jn_14 hs18.2.2 h (fun hc h => ?_)
                refine jr_mul (pc' := 122) rfl rfl (jr_il (pc' := 124) rfl rfl rfl ?_)
                refine jo_w0 h (fun hc h => jr_rem (pc' := 125) rfl rfl ht4 hc ?_)
                refine jr_is (pc' := 127) (L' := [_, _, _, _, _, _, _, _, _, _]) rfl rfl (jl rfl) rfl rfl (jr_il (pc' := 129) rfl rfl rfl (jr_il (pc' := 131) rfl rfl rfl (jr_il (pc' := 133) rfl rfl rfl ?_)))
                refine jr_reg (fun t30 => jb t30) (fun t30 => jp X (px_C X d) px_m21 Q' N 154 [some (.ref 3), some (jv x0), some (jv x1), some (jv x2), some (jv t4), some (jv (jw (s18.1 - (jdiv (jw (x2 * (ja m 14 s18.2.2.toNat))) t4)))), some (jv s18.2.1), some (jv (jrem (jw (x2 * (ja m 14 x0.toNat))) t4)), some (jv s18.2.2), some (jv (jrem (jw (x2 * (ja m 14 s18.2.2.toNat))) t4))] [(jv t30), (jv s18.2.1)] m (0, 0)) h (fun t30 ht30 h => ?_) (fun R42 k31 h => ?_)
                · refine jr_add (pc' := 155) rfl rfl (jr_is (pc' := 157) (L' := [_, _, _, _, _, _, _, _, _, _]) rfl rfl (jl rfl) rfl rfl ?_)
                  exact k29 (jw (s18.1 - (jdiv (jw (x2 * (ja m 14 s18.2.2.toNat))) t4)), jw (s18.2.1 + t30)) ⟨jg_w, jg_w⟩ h _ jn_i
                · refine jr_cgt (pa := 149) (pb := 136) rfl rfl rfl jg_rem jg_rem h (fun hc h => ?_) (fun hc h => ?_)
                  · refine jr_ic (pc' := 150) rfl rfl (jr_goto (pc' := 154) rfl rfl ?_)
                    exact k31 ((1 : Int)) jb_1 h
                  · refine jr_il (pc' := 138) rfl rfl rfl (jr_il (pc' := 140) rfl rfl rfl ?_)
                    refine jr_cne (pa := 143) (pb := 153) rfl rfl rfl jg_rem jg_rem h (fun hc h => ?_) (fun hc h => ?_)
                    · refine jr_il (pc' := 145) rfl rfl rfl (jr_il_n (pc' := 146) rfl rfl rfl ?_)
                      refine jr_cge (pa := 149) (pb := 153) rfl rfl rfl hs18.2.2 hx0 h (fun hc h => ?_) (fun hc h => ?_)
                      · refine jr_ic (pc' := 150) rfl rfl (jr_goto (pc' := 154) rfl rfl ?_)
                        exact k31 ((1 : Int)) jb_1 h
                      · refine jr_ic (pc' := 154) rfl rfl ?_
                        exact k31 ((0 : Int)) jb_0 h
                    · refine jr_ic (pc' := 154) rfl rfl ?_
                      exact k31 ((0 : Int)) jb_0 h
              · exact k29 (s18.1, s18.2.1) ⟨hs18.1, hs18.2.1⟩ h _ ho19
          · exact k25 (s18.1, s18.2.1) ⟨hs18.1, hs18.2.1⟩ h _ jn_i _ ho19
      · refine jr_ic (pc' := 54) rfl rfl ?_
        exact jr_ret rfl hu rfl (hQ' _ _ (hQ (0 : Int) jgc_0 h))
  · refine jr_lp (fun s1 => jg s1.1 ∧ jg s1.2) (fun s1 => jp X (px_C X d) px_m21 Q' N 6 [some (.ref 3), some (jv x0), some (jv x1), some (jv x2), some (jv s1.1), some (jv s1.2), none, none, none, none] [] m (0, 0)) h ⟨jgc_0, jgc_0⟩ (fun s1 hs1 R3 k2 h => ?_)
    refine jr_il (pc' := 8) rfl rfl rfl (jr_al_n (pc' := 9) rfl rfl rfl (jr_gi (pc' := 12) rfl rfl jlk_1_55 (.inl rfl) rfl hN jd_3 rfl rfl ?_))
    refine jr_cge (pa := 15) (pb := 40) rfl rfl rfl hs1.2 jg_a h (fun hc h => ?_) (fun hc h => ?_)
    · refine jr_il (pc' := 17) rfl rfl rfl (jr_il_n (pc' := 18) rfl rfl rfl (jr_il (pc' := 20) rfl rfl rfl (jr_shr (pc' := 21) rfl rfl (jr_ic (pc' := 22) rfl rfl (jr_and (pc' := 23) rfl rfl ?_)))))
      refine jr_al_n (pc' := 24) rfl rfl rfl (jr_gr (pc' := 27) (r := 14) rfl rfl jlk_1_42 (.inl rfl) rfl hN jd_3 rfl rfl rfl (jr_il (pc' := 29) rfl rfl rfl ?_))
      refine jr_ia (pc' := 30) rfl rfl (jl rfl) hN jd_14 jn_14 hs1.2 h (fun hc h => ?_)
      refine jr_mul (pc' := 31) rfl rfl (jr_add (pc' := 32) rfl rfl (jr_is (pc' := 34) (L' := [_, _, _, _, _, _, _, _, _, _]) rfl rfl (jl rfl) rfl rfl (jr_inc (pc' := 37) (L' := [_, _, _, _, _, _, _, _, _, _]) rfl rfl rfl (jl rfl) rfl rfl (jr_goto (pc' := 6) rfl rfl ?_))))
      exact k2 (jw (s1.1 + (jw ((jband (jshr x1 s1.2) (1 : Int)) * (ja m 14 s1.2.toNat)))), jw (s1.2 + 1)) ⟨jg_w, jg_w⟩ h
    · exact k6 (s1.1) hs1.1 h _ jn_i

set_option maxRecDepth 20000 in
set_option maxHeartbeats 1000000 in
theorem jc_25 {X : Nat × (Nat → Int32)} {N d : Nat}  (hN : 102 ≤ N) (hd : 1 ≤ d)  {m : jm} {P : jm → Prop} {Q : px_Q} (h : jo (jf_25 m) P) (hQ : ∀ p : jm, True → P p → Q (.inl (none)) (jmem N p)) : px_C X d 25 [.ref 27] (jmem N m) Q := by
  unfold jf_25 at h
  have hu : ju px_m25 (0, 0) := ju_0
  refine jr_in (M := px_m25) (lev := 0) (L := [some (.ref 27)]) hd rfl jbd_25 (jl rfl) rfl (fun d hd Q' hQ' => ?_)
  refine jr_gs (pc' := 3) rfl rfl jlk_2_15 (jr_ic (pc' := 4) rfl rfl (jr_al_n (pc' := 5) rfl rfl rfl (jr_gr (pc' := 8) (r := 28) rfl rfl jlk_2_9 (.inl rfl) rfl hN jd_27 rfl rfl rfl (jr_ic (pc' := 9) rfl rfl (jr_gs (pc' := 12) rfl rfl jlk_2_15 ?_)))))
  refine jr_lenW (pc' := 13) rfl rfl ?_
  refine jr_cpW (pc' := 16) rfl rfl jlk_2_25 (jl rfl) hN jd_28 jn_28 (jl rfl) jgc_0 jgc_0 jgc_7 h (fun h => ?_)
  refine jr_le h (fun m1 h => ?_)
  refine jr_al_n (pc' := 17) rfl rfl rfl (jr_gs (pc' := 20) rfl rfl jlk_2_15 (jr_lenW (pc' := 21) rfl rfl (jr_pi (pc' := 24) rfl rfl jlk_2_18 (.inl rfl) rfl hN jd_27 rfl rfl ?_)))
  refine jr_le h (fun m2 h => ?_)
  exact jr_rv rfl hu rfl (hQ' _ _ (hQ m2 trivial h))

set_option maxRecDepth 20000 in
set_option maxHeartbeats 1000000 in
theorem jc_30 {X : Nat × (Nat → Int32)} {N d : Nat} {x0 : Int} (hN : 102 ≤ N) (hd : 1 ≤ d) (hx0 : jg x0) {m : jm} {P : jm → Prop} {Q : px_Q} (h : jo (jf_30 x0 m) P) (hQ : ∀ p : jm, True → P p → Q (.inl (none)) (jmem N p)) : px_C X d 30 [.ref 30, jv x0] (jmem N m) Q := by
  unfold jf_30 at h
  have hu : ju px_m30 (0, 0) := ju_0
  refine jr_in (M := px_m30) (lev := 0) (L := [some (.ref 30), some (jv x0)]) hd rfl jbd_30 (jl rfl) rfl (fun d hd Q' hQ' => ?_)
  refine jr_al_n (pc' := 1) rfl rfl rfl (jr_gi (pc' := 4) rfl rfl jlk_2_18 (.inl rfl) rfl hN jd_30 rfl rfl (jr_al_n (pc' := 5) rfl rfl rfl (jr_gr (pc' := 8) (r := 31) rfl rfl jlk_2_9 (.inl rfl) rfl hN jd_30 rfl rfl rfl (jr_len (pc' := 9) (b := 150) rfl rfl (jl rfl) hN jd_31 jn_31 ?_))))
  refine jr_reg (fun t1 => True) (fun t1 => jp X (px_C X d) px_m30 Q' N 32 [some (.ref 30), some (jv x0)] [] t1 (0, 0)) h (fun t1 ht1 h => ?_) (fun R15 k2 h => ?_)
  · exact jr_rv rfl hu rfl (hQ' _ _ (hQ t1 trivial h))
  · refine jr_cge (pa := 12) (pb := 32) rfl rfl rfl jg_a jgc_150 h (fun hc h => ?_) (fun hc h => ?_)
    · refine jr_al_n (pc' := 13) rfl rfl rfl (jr_gr (pc' := 16) (r := 31) rfl rfl jlk_2_9 (.inl rfl) rfl hN jd_30 rfl rfl rfl (jr_al_n (pc' := 17) rfl rfl rfl (jr_gi (pc' := 20) rfl rfl jlk_2_18 (.inl rfl) rfl hN jd_30 rfl rfl (jr_il_n (pc' := 21) rfl rfl rfl ?_))))
      refine jr_ist (pc' := 22) rfl rfl (jl rfl) hN jd_31 jn_31 jg_a h (fun hc h => ?_)
      refine jr_le h (fun m3 h => ?_)
      refine jr_al_n (pc' := 23) rfl rfl rfl (jr_dup (pc' := 24) rfl rfl rfl (jr_gi (pc' := 27) rfl rfl jlk_2_18 (.inl rfl) rfl hN jd_30 rfl rfl (jr_ic (pc' := 28) rfl rfl (jr_add (pc' := 29) rfl rfl (jr_pi (pc' := 32) rfl rfl jlk_2_18 (.inl rfl) rfl hN jd_30 rfl rfl ?_)))))
      refine jr_le h (fun m4 h => ?_)
      exact k2 (m4) trivial h
    · exact k2 (m) trivial h

set_option maxRecDepth 20000 in
set_option maxHeartbeats 1000000 in
theorem jc_31 {X : Nat × (Nat → Int32)} {N d n : Nat} {rec : Nat → Int → Int → jm → Option (Int × jm)} (hrec_27 : ∀ d, 3 + n ≤ d → ∀ {x1 : Int} {m : jm} {P : Int × jm → Prop} {Q : px_Q}, jg x1 → jo (rec 0 x1 0 m) P → (∀ p : Int × jm, jb p.1 → P p → Q (.inl (some (jv p.1))) (jmem N p.2)) → px_C X d 27 [.ref 30, .ref 1, jv x1] (jmem N m) Q) {x1 : Int} (hN : 102 ≤ N) (hd : 3 + n + 1 ≤ d) (hx1 : jg x1) {m : jm} {P : Int × jm → Prop} {Q : px_Q} (h : jo (jf_31 rec x1 m) P) (hQ : ∀ p : Int × jm, jb p.1 → P p → Q (.inl (some (jv p.1))) (jmem N p.2)) : px_C X d 31 [.ref 30, .ref 1, jv x1] (jmem N m) Q := by
  unfold jf_31 at h
  have hu : ju px_m31 (0, 0) := ju_0
  refine jr_in (M := px_m31) (lev := 3 + n) (L := [some (.ref 30), some (.ref 1), some (jv x1)]) hd rfl jbd_31 (jl rfl) rfl (fun d hd Q' hQ' => ?_)
  refine jr_il_n (pc' := 1) rfl rfl rfl (jr_bi (pc' := 3) rfl rfl rfl ?_)
  refine jr_clt (pa := 16) (pb := 6) rfl rfl rfl hx1 jgc_6 h (fun hc h => ?_) (fun hc h => ?_)
  · refine jr_al_n (pc' := 17) rfl rfl rfl (jr_bi (pc' := 19) rfl rfl rfl ?_)
    refine jr_cv_i (pc' := 22) [] rfl rfl jlk_2_82 jq_123 jbd_123 (jl rfl) rfl (jl rfl) hu rfl (jk rfl hN) (jd_1.trans jo_123.symm) (fun Q' hq => jc_123 hN (Nat.le_trans (jl rfl) (Nat.le_trans (Nat.le_add_right 3 n) hd)) jgc_40 (jo_b h) hq) (fun p1 hp1 h => ?_)
    refine jr_reg (fun t2 => jb t2.1) (fun t2 => jp X (px_C X d) px_m31 Q' N 50 [some (.ref 30), some (.ref 1), some (jv x1)] [(jv t2.1)] t2.2 (0, 0)) h (fun t2 ht2 h => ?_) (fun R16 k3 h => ?_)
    · exact jr_retb rfl hu rfl ht2 (hQ' _ _ (hQ (t2.1, t2.2) ht2 h))
    · refine jr_zeq (pa := 49) (pb := 25) rfl rfl rfl (jg_b hp1) h (fun hc h => ?_) (fun hc h => ?_)
      · refine jr_ic (pc' := 50) rfl rfl ?_
        exact k3 ((0 : Int), p1.2) jb_0 h
      · refine jr_al_n (pc' := 26) rfl rfl rfl (jr_al_n (pc' := 27) rfl rfl rfl (jr_il_n (pc' := 28) rfl rfl rfl (jr_ic (pc' := 29) rfl rfl (jr_add (pc' := 30) rfl rfl ?_))))
        refine jr_cv_i (pc' := 33) [] rfl rfl jlk_2_31 jq_27 jbd_27 (jl rfl) rfl (jl rfl) hu rfl (jk rfl hN) (jd_30.trans jo_27.symm) (fun Q' hq => hrec_27 d hd jg_w (jo_b h) hq) (fun p4 hp4 h => ?_)
        refine jr_zeq (pa := 49) (pb := 36) rfl rfl rfl (jg_b hp4) h (fun hc h => ?_) (fun hc h => ?_)
        · refine jr_ic (pc' := 50) rfl rfl ?_
          exact k3 ((0 : Int), p4.2) jb_0 h
        · refine jr_al_n (pc' := 37) rfl rfl rfl (jr_bi (pc' := 39) rfl rfl rfl ?_)
          refine jr_cv_i (pc' := 42) [] rfl rfl jlk_2_82 jq_123 jbd_123 (jl rfl) rfl (jl rfl) hu rfl (jk rfl hN) (jd_1.trans jo_123.symm) (fun Q' hq => jc_123 hN (Nat.le_trans (jl rfl) (Nat.le_trans (Nat.le_add_right 3 n) hd)) jgc_41 (jo_b h) hq) (fun p5 hp5 h => ?_)
          refine jr_zeq (pa := 49) (pb := 45) rfl rfl rfl (jg_b hp5) h (fun hc h => ?_) (fun hc h => ?_)
          · refine jr_ic (pc' := 50) rfl rfl ?_
            exact k3 ((0 : Int), p5.2) jb_0 h
          · refine jr_ic (pc' := 46) rfl rfl (jr_goto (pc' := 50) rfl rfl ?_)
            exact k3 ((1 : Int), p5.2) jb_1 h
  · refine jr_al_n (pc' := 7) rfl rfl rfl (jr_ic (pc' := 8) rfl rfl (jr_al_n (pc' := 9) rfl rfl rfl (jr_gi (pc' := 12) rfl rfl jlk_2_41 (.inr rfl) rfl hN jd_1 rfl rfl ?_)))
    refine jr_cv_i (pc' := 15) [] rfl rfl jlk_2_44 jq_120 jbd_120 (jl rfl) rfl (jl rfl) hu rfl (jk rfl hN) (jd_1.trans jo_120.symm) (fun Q' hq => jc_120 hN (Nat.le_trans (jl rfl) (Nat.le_trans (Nat.le_add_right 3 n) hd)) jgc_3 jg_a (jo_b h) hq) (fun p17 hp17 h => ?_)
    exact jr_retb rfl hu rfl hp17 (hQ' _ _ (hQ (p17.1, p17.2) hp17 h))

set_option maxRecDepth 20000 in
set_option maxHeartbeats 1000000 in
theorem jc_32 {X : Nat × (Nat → Int32)} {N d n : Nat} {rec : Nat → Int → Int → jm → Option (Int × jm)} (hrec_27 : ∀ d, 3 + n ≤ d → ∀ {x1 : Int} {m : jm} {P : Int × jm → Prop} {Q : px_Q}, jg x1 → jo (rec 0 x1 0 m) P → (∀ p : Int × jm, jb p.1 → P p → Q (.inl (some (jv p.1))) (jmem N p.2)) → px_C X d 27 [.ref 30, .ref 1, jv x1] (jmem N m) Q) {x1 : Int} {x2 : Int} (hN : 102 ≤ N) (hd : 3 + n + 1 ≤ d) (hx1 : jg x1) (hx2 : jg x2) {m : jm} {P : Int × jm → Prop} {Q : px_Q} (h : jo (jf_32 rec x1 x2 m) P) (hQ : ∀ p : Int × jm, jb p.1 → P p → Q (.inl (some (jv p.1))) (jmem N p.2)) : px_C X d 32 [.ref 30, .ref 1, jv x1, jv x2] (jmem N m) Q := by
  unfold jf_32 at h
  have hu : ju px_m32 (0, 0) := ju_0
  refine jr_in (M := px_m32) (lev := 3 + n) (L := [some (.ref 30), some (.ref 1), some (jv x1), some (jv x2)]) hd rfl jbd_32 (jl rfl) rfl (fun d hd Q' hQ' => ?_)
  refine jr_il_n (pc' := 1) rfl rfl rfl (jr_bi (pc' := 3) rfl rfl rfl ?_)
  refine jr_clt (pa := 16) (pb := 6) rfl rfl rfl hx1 jgc_6 h (fun hc h => ?_) (fun hc h => ?_)
  · refine jr_al_n (pc' := 17) rfl rfl rfl (jr_bi (pc' := 19) rfl rfl rfl ?_)
    refine jr_cv_i (pc' := 22) [] rfl rfl jlk_2_82 jq_123 jbd_123 (jl rfl) rfl (jl rfl) hu rfl (jk rfl hN) (jd_1.trans jo_123.symm) (fun Q' hq => jc_123 hN (Nat.le_trans (jl rfl) (Nat.le_trans (Nat.le_add_right 3 n) hd)) jgc_91 (jo_b h) hq) (fun p1 hp1 h => ?_)
    refine jr_zeq (pa := 45) (pb := 25) rfl rfl rfl (jg_b hp1) h (fun hc h => ?_) (fun hc h => ?_)
    · refine jr_ic (pc' := 46) rfl rfl ?_
      exact jr_retb rfl hu rfl jb_0 (hQ' _ _ (hQ ((0 : Int), p1.2) jb_0 h))
    · refine jr_al_n (pc' := 26) rfl rfl rfl (jr_al_n (pc' := 27) rfl rfl rfl (jr_il_n (pc' := 28) rfl rfl rfl (jr_ic (pc' := 29) rfl rfl (jr_add (pc' := 30) rfl rfl ?_))))
      refine jr_cv_i (pc' := 33) [] rfl rfl jlk_2_31 jq_27 jbd_27 (jl rfl) rfl (jl rfl) hu rfl (jk rfl hN) (jd_30.trans jo_27.symm) (fun Q' hq => hrec_27 d hd jg_w (jo_b h) hq) (fun p2 hp2 h => ?_)
      refine jr_zeq (pa := 45) (pb := 36) rfl rfl rfl (jg_b hp2) h (fun hc h => ?_) (fun hc h => ?_)
      · refine jr_ic (pc' := 46) rfl rfl ?_
        exact jr_retb rfl hu rfl jb_0 (hQ' _ _ (hQ ((0 : Int), p2.2) jb_0 h))
      · refine jr_al_n (pc' := 37) rfl rfl rfl (jr_bi (pc' := 39) rfl rfl rfl ?_)
        refine jr_cv_i (pc' := 42) [] rfl rfl jlk_2_82 jq_123 jbd_123 (jl rfl) rfl (jl rfl) hu rfl (jk rfl hN) (jd_1.trans jo_123.symm) (fun Q' hq => jc_123 hN (Nat.le_trans (jl rfl) (Nat.le_trans (Nat.le_add_right 3 n) hd)) jgc_44 (jo_b h) hq) (fun p3 hp3 h => ?_)
        refine jr_zne (pa := 45) (pb := 47) rfl rfl rfl (jg_b hp3) h (fun hc h => ?_) (fun hc h => ?_)
        · refine jr_ic (pc' := 46) rfl rfl ?_
          exact jr_retb rfl hu rfl jb_0 (hQ' _ _ (hQ ((0 : Int), p3.2) jb_0 h))
        · refine jr_al_n (pc' := 48) rfl rfl rfl (jr_al_n (pc' := 49) rfl rfl rfl (jr_il_n (pc' := 50) rfl rfl rfl (jr_ic (pc' := 51) rfl rfl (jr_add (pc' := 52) rfl rfl ?_))))
          refine jr_cv_i (pc' := 55) [] rfl rfl jlk_2_31 jq_27 jbd_27 (jl rfl) rfl (jl rfl) hu rfl (jk rfl hN) (jd_30.trans jo_27.symm) (fun Q' hq => hrec_27 d hd jg_w (jo_b h) hq) (fun p4 hp4 h => ?_)
          refine jr_zeq (pa := 67) (pb := 58) rfl rfl rfl (jg_b hp4) h (fun hc h => ?_) (fun hc h => ?_)
          · refine jr_ic (pc' := 68) rfl rfl ?_
            exact jr_retb rfl hu rfl jb_0 (hQ' _ _ (hQ ((0 : Int), p4.2) jb_0 h))
          · refine jr_al_n (pc' := 59) rfl rfl rfl (jr_bi (pc' := 61) rfl rfl rfl ?_)
            refine jr_cv_i (pc' := 64) [] rfl rfl jlk_2_82 jq_123 jbd_123 (jl rfl) rfl (jl rfl) hu rfl (jk rfl hN) (jd_1.trans jo_123.symm) (fun Q' hq => jc_123 hN (Nat.le_trans (jl rfl) (Nat.le_trans (Nat.le_add_right 3 n) hd)) jgc_93 (jo_b h) hq) (fun p5 hp5 h => ?_)
            refine jr_zne (pa := 67) (pb := 69) rfl rfl rfl (jg_b hp5) h (fun hc h => ?_) (fun hc h => ?_)
            · refine jr_ic (pc' := 68) rfl rfl ?_
              exact jr_retb rfl hu rfl jb_0 (hQ' _ _ (hQ ((0 : Int), p5.2) jb_0 h))
            · refine jr_al_n (pc' := 70) rfl rfl rfl (jr_il_n (pc' := 71) rfl rfl rfl ?_)
              refine jr_cv_v (pc' := 74) [] rfl rfl jlk_2_54 jq_30 jbd_30 (jl rfl) rfl (jl rfl) hu rfl (jk rfl hN) (jd_30.trans jo_30.symm) (fun Q' hq => jc_30 hN (Nat.le_trans (jl rfl) (Nat.le_trans (Nat.le_add_right 3 n) hd)) hx2 (jo_b h) hq) (fun p6 hp6 h => ?_)
              refine jr_ic (pc' := 75) rfl rfl ?_
              exact jr_retb rfl hu rfl jb_1 (hQ' _ _ (hQ ((1 : Int), p6) jb_1 h))
  · refine jr_al_n (pc' := 7) rfl rfl rfl (jr_ic (pc' := 8) rfl rfl (jr_al_n (pc' := 9) rfl rfl rfl (jr_gi (pc' := 12) rfl rfl jlk_2_86 (.inr rfl) rfl hN jd_1 rfl rfl ?_)))
    refine jr_cv_i (pc' := 15) [] rfl rfl jlk_2_44 jq_120 jbd_120 (jl rfl) rfl (jl rfl) hu rfl (jk rfl hN) (jd_1.trans jo_120.symm) (fun Q' hq => jc_120 hN (Nat.le_trans (jl rfl) (Nat.le_trans (Nat.le_add_right 3 n) hd)) jgc_3 jg_a (jo_b h) hq) (fun p7 hp7 h => ?_)
    exact jr_retb rfl hu rfl hp7 (hQ' _ _ (hQ (p7.1, p7.2) hp7 h))

set_option maxRecDepth 20000 in
set_option maxHeartbeats 1000000 in
theorem jc_29 {X : Nat × (Nat → Int32)} {N d n : Nat} {rec : Nat → Int → Int → jm → Option (Int × jm)} (hrec_31 : ∀ d, 3 + n ≤ d → ∀ {x1 : Int} {m : jm} {P : Int × jm → Prop} {Q : px_Q}, jg x1 → jo (rec 3 x1 0 m) P → (∀ p : Int × jm, jb p.1 → P p → Q (.inl (some (jv p.1))) (jmem N p.2)) → px_C X d 31 [.ref 30, .ref 1, jv x1] (jmem N m) Q) (hrec_32 : ∀ d, 3 + n ≤ d → ∀ {x1 : Int} {x2 : Int} {m : jm} {P : Int × jm → Prop} {Q : px_Q}, jg x1 → jg x2 → jo (rec 4 x1 x2 m) P → (∀ p : Int × jm, jb p.1 → P p → Q (.inl (some (jv p.1))) (jmem N p.2)) → px_C X d 32 [.ref 30, .ref 1, jv x1, jv x2] (jmem N m) Q) {x1 : Int} (hN : 102 ≤ N) (hd : 3 + n + 1 ≤ d) (hx1 : jg x1) {m : jm} {P : Int × jm → Prop} {Q : px_Q} (h : jo (jf_29 rec x1 m) P) (hQ : ∀ p : Int × jm, jb p.1 → P p → Q (.inl (some (jv p.1))) (jmem N p.2)) : px_C X d 29 [.ref 30, .ref 1, jv x1] (jmem N m) Q := by
  unfold jf_29 at h
  have hu : ju px_m29 (0, 0) := ju_0
  refine jr_in (M := px_m29) (lev := 3 + n) (L := [some (.ref 30), some (.ref 1), some (jv x1), none]) hd rfl jbd_29 (jl rfl) rfl (fun d hd Q' hQ' => ?_)
  refine jr_al_n (pc' := 1) rfl rfl rfl ?_
  refine jr_cv_i (pc' := 4) [] rfl rfl jlk_2_61 jq_122 jbd_122 (jl rfl) rfl (jl rfl) hu rfl (jk rfl hN) (jd_1.trans jo_122.symm) (fun Q' hq => jc_122 hN (Nat.le_trans (jl rfl) (Nat.le_trans (Nat.le_add_right 3 n) hd))  (jo_b h) hq) (fun p1 hp1 h => ?_)
  refine jr_zeq (pa := 32) (pb := 7) rfl rfl rfl (jg_b hp1) h (fun hc h => ?_) (fun hc h => ?_)
  · refine jr_al_n (pc' := 33) rfl rfl rfl ?_
    refine jr_cv_i (pc' := 36) [] rfl rfl jlk_2_35 jq_116 jbd_116 (jl rfl) rfl (jl rfl) hu rfl (jk rfl hN) (jd_1.trans jo_116.symm) (fun Q' hq => jc_116 hN (Nat.le_trans (jl rfl) (Nat.le_trans (Nat.le_add_right 3 n) hd))  (jo_b h) hq) (fun p2 hp2 h => ?_)
    refine jr_bi (pc' := 38) rfl rfl rfl ?_
    refine jr_cne (pa := 41) (pb := 48) rfl rfl rfl hp2 jgc_40 h (fun hc h => ?_) (fun hc h => ?_)
    · refine jr_al_n (pc' := 42) rfl rfl rfl (jr_al_n (pc' := 43) rfl rfl rfl (jr_il_n (pc' := 44) rfl rfl rfl ?_))
      refine jr_cv_i (pc' := 47) [] rfl rfl jlk_2_69 jq_31 jbd_31 (jl rfl) rfl (jl rfl) hu rfl (jk rfl hN) (jd_30.trans jo_31.symm) (fun Q' hq => hrec_31 d hd hx1 (jo_b h) hq) (fun p3 hp3 h => ?_)
      exact jr_retb rfl hu rfl hp3 (hQ' _ _ (hQ (p3.1, p3.2) hp3 h))
    · refine jr_al_n (pc' := 49) rfl rfl rfl (jr_lds (pc' := 51) rfl rfl jlk_2_72 ?_)
      refine jr_cv_i (pc' := 54) [] rfl rfl jlk_2_74 jq_117 jbd_117 (jl rfl) rfl (jl rfl) hu rfl (jk rfl hN) (jd_1.trans jo_117.symm) (fun Q' hq => jc_117 hN (Nat.le_trans (jl rfl) (Nat.le_trans (Nat.le_add_right 3 n) hd)) (jl rfl) (jo_b h) hq) (fun p4 hp4 h => ?_)
      refine jr_is_n (pc' := 55) (L' := [_, _, _, _]) rfl rfl (jl rfl) rfl rfl (jr_il_n (pc' := 56) rfl rfl rfl (jr_ic (pc' := 57) rfl rfl ?_))
      refine jr_cne (pa := 60) (pb := 62) rfl rfl rfl hp4 jgc_m1 h (fun hc h => ?_) (fun hc h => ?_)
      · refine jr_ic (pc' := 61) rfl rfl ?_
        exact jr_retb rfl hu rfl jb_0 (hQ' _ _ (hQ ((0 : Int), p4.2) jb_0 h))
      · refine jr_il_n (pc' := 63) rfl rfl rfl (jr_bi (pc' := 65) rfl rfl rfl ?_)
        refine jr_cge (pa := 68) (pb := 79) rfl rfl rfl hp4 jgc_9 h (fun hc h => ?_) (fun hc h => ?_)
        · refine jr_al_n (pc' := 69) rfl rfl rfl (jr_si (pc' := 72) rfl rfl rfl (jr_il_n (pc' := 73) rfl rfl rfl (jr_add (pc' := 74) rfl rfl ?_)))
          refine jr_cv_v (pc' := 77) [] rfl rfl jlk_2_54 jq_30 jbd_30 (jl rfl) rfl (jl rfl) hu rfl (jk rfl hN) (jd_30.trans jo_30.symm) (fun Q' hq => jc_30 hN (Nat.le_trans (jl rfl) (Nat.le_trans (Nat.le_add_right 3 n) hd)) jg_w (jo_b h) hq) (fun p5 hp5 h => ?_)
          refine jr_ic (pc' := 78) rfl rfl ?_
          exact jr_retb rfl hu rfl jb_1 (hQ' _ _ (hQ ((1 : Int), p5) jb_1 h))
        · refine jr_al_n (pc' := 80) rfl rfl rfl (jr_al_n (pc' := 81) rfl rfl rfl (jr_il_n (pc' := 82) rfl rfl rfl (jr_il_n (pc' := 83) rfl rfl rfl (jr_bi (pc' := 85) rfl rfl rfl ?_))))
          refine jr_reg (fun t6 => jg t6) (fun t6 => jp X (px_C X d) px_m29 Q' N 97 [some (.ref 30), some (.ref 1), some (jv x1), some (jv p4.1)] [(jv t6), (jv x1), (.ref 1), (.ref 30)] p4.2 (0, 0)) h (fun t6 ht6 h => ?_) (fun R19 k7 h => ?_)
          · refine jr_cv_i (pc' := 100) [] rfl rfl jlk_2_78 jq_32 jbd_32 (jl rfl) rfl (jl rfl) hu rfl (jk rfl hN) (jd_30.trans jo_32.symm) (fun Q' hq => hrec_32 d hd hx1 ht6 (jo_b h) hq) (fun p18 hp18 h => ?_)
            exact jr_retb rfl hu rfl hp18 (hQ' _ _ (hQ (p18.1, p18.2) hp18 h))
          · refine jr_cne (pa := 88) (pb := 94) rfl rfl rfl hp4 jgc_9 h (fun hc h => ?_) (fun hc h => ?_)
            · refine jr_si (pc' := 91) rfl rfl rfl (jr_goto (pc' := 97) rfl rfl ?_)
              exact k7 ((2004 : Int)) jgc_2004 h
            · refine jr_si (pc' := 97) rfl rfl rfl ?_
              exact k7 ((2005 : Int)) jgc_2005 h
  · refine jr_al_n (pc' := 8) rfl rfl rfl (jr_ic (pc' := 9) rfl rfl (jr_si (pc' := 12) rfl rfl rfl ?_))
    refine jr_cv_i (pc' := 15) [] rfl rfl jlk_2_65 jq_121 jbd_121 (jl rfl) rfl (jl rfl) hu rfl (jk rfl hN) (jd_1.trans jo_121.symm) (fun Q' hq => jc_121 hN (Nat.le_trans (jl rfl) (Nat.le_trans (Nat.le_add_right 3 n) hd)) jgc_0 jgc_999 (jo_b h) hq) (fun p20 hp20 h => ?_)
    refine jr_is_n (pc' := 16) (L' := [_, _, _, _]) rfl rfl (jl rfl) rfl rfl (jr_al_n (pc' := 17) rfl rfl rfl (jr_il_n (pc' := 18) rfl rfl rfl ?_))
    refine jr_cv_v (pc' := 21) [] rfl rfl jlk_2_54 jq_30 jbd_30 (jl rfl) rfl (jl rfl) hu rfl (jk rfl hN) (jd_30.trans jo_30.symm) (fun Q' hq => jc_30 hN (Nat.le_trans (jl rfl) (Nat.le_trans (Nat.le_add_right 3 n) hd)) hp20 (jo_b h) hq) (fun p21 hp21 h => ?_)
    refine jr_il_n (pc' := 22) rfl rfl rfl (jr_ic (pc' := 23) rfl rfl ?_)
    refine jr_reg (fun t22 => jb t22) (fun t22 => jp X (px_C X d) px_m29 Q' N 31 [some (.ref 30), some (.ref 1), some (jv x1), some (jv p20.1)] [(jv t22)] p21 (0, 0)) h (fun t22 ht22 h => ?_) (fun R34 k23 h => ?_)
    · exact jr_retb rfl hu rfl ht22 (hQ' _ _ (hQ (t22, p21) ht22 h))
    · refine jr_ceq (pa := 30) (pb := 26) rfl rfl rfl hp20 jgc_m1 h (fun hc h => ?_) (fun hc h => ?_)
      · refine jr_ic (pc' := 31) rfl rfl ?_
        exact k23 ((0 : Int)) jb_0 h
      · refine jr_ic (pc' := 27) rfl rfl (jr_goto (pc' := 31) rfl rfl ?_)
        exact k23 ((1 : Int)) jb_1 h

set_option maxRecDepth 20000 in
set_option maxHeartbeats 1000000 in
theorem jc_28 {X : Nat × (Nat → Int32)} {N d n : Nat} {rec : Nat → Int → Int → jm → Option (Int × jm)} (hrec_29 : ∀ d, 3 + n ≤ d → ∀ {x1 : Int} {m : jm} {P : Int × jm → Prop} {Q : px_Q}, jg x1 → jo (rec 2 x1 0 m) P → (∀ p : Int × jm, jb p.1 → P p → Q (.inl (some (jv p.1))) (jmem N p.2)) → px_C X d 29 [.ref 30, .ref 1, jv x1] (jmem N m) Q) {x1 : Int} (hN : 102 ≤ N) (hd : 3 + n + 1 ≤ d) (hx1 : jg x1) {m : jm} {P : Int × jm → Prop} {Q : px_Q} (h : jo (jf_28 rec x1 m) P) (hQ : ∀ p : Int × jm, jb p.1 → P p → Q (.inl (some (jv p.1))) (jmem N p.2)) : px_C X d 28 [.ref 30, .ref 1, jv x1] (jmem N m) Q := by
  unfold jf_28 at h
  have hu : ju px_m28 (0, 0) := ju_0
  refine jr_in (M := px_m28) (lev := 3 + n) (L := [some (.ref 30), some (.ref 1), some (jv x1), none, none]) hd rfl jbd_28 (jl rfl) rfl (fun d hd Q' hQ' => ?_)
  refine jr_al_n (pc' := 1) rfl rfl rfl (jr_al_n (pc' := 2) rfl rfl rfl (jr_il_n (pc' := 3) rfl rfl rfl ?_))
  refine jr_cv_i (pc' := 6) [] rfl rfl jlk_2_58 jq_29 jbd_29 (jl rfl) rfl (jl rfl) hu rfl (jk rfl hN) (jd_30.trans jo_29.symm) (fun Q' hq => hrec_29 d hd hx1 (jo_b h) hq) (fun p1 hp1 h => ?_)
  refine jr_zne (pa := 9) (pb := 11) rfl rfl rfl (jg_b hp1) h (fun hc h => ?_) (fun hc h => ?_)
  · refine jr_ic (pc' := 10) rfl rfl ?_
    exact jr_retb rfl hu rfl jb_0 (hQ' _ _ (hQ ((0 : Int), p1.2) jb_0 h))
  · refine jr_ic (pc' := 12) rfl rfl (jr_is_n (pc' := 13) (L' := [_, _, _, _, _]) rfl rfl (jl rfl) rfl rfl ?_)
    refine jr_lp (fun s2 => jg s2.1) (fun s2 => ∀ o3, jn o3 → jp X (px_C X d) px_m28 Q' N 13 [some (.ref 30), some (.ref 1), some (jv x1), some (jv s2.1), o3] [] s2.2 (0, 0)) h jgc_0 (fun s2 hs2 R5 k4 h o3 ho3 => ?_) _ jn_n
    refine jr_il_n (pc' := 14) rfl rfl rfl (jr_si (pc' := 17) rfl rfl rfl ?_)
    refine jr_cge (pa := 20) (pb := 83) rfl rfl rfl hs2 jgc_150 h (fun hc h => ?_) (fun hc h => ?_)
    · refine jr_al_n (pc' := 21) rfl rfl rfl ?_
      refine jr_cv_i (pc' := 24) [] rfl rfl jlk_2_35 jq_116 jbd_116 (jl rfl) rfl (jl rfl) hu rfl (jk rfl hN) (jd_1.trans jo_116.symm) (fun Q' hq => jc_116 hN (Nat.le_trans (jl rfl) (Nat.le_trans (Nat.le_add_right 3 n) hd))  (jo_b h) hq) (fun p6 hp6 h => ?_)
      refine jr_is (pc' := 26) (L' := [_, _, _, _, _]) rfl rfl (jl rfl) rfl rfl (jr_il (pc' := 28) rfl rfl rfl (jr_bi (pc' := 30) rfl rfl rfl ?_))
      refine jr_ceq (pa := 42) (pb := 33) rfl rfl rfl hp6 jgc_42 h (fun hc h => ?_) (fun hc h => ?_)
      · refine jr_al_n (pc' := 43) rfl rfl rfl ?_
        refine jr_cv_v (pc' := 46) [] rfl rfl jlk_2_51 jq_124 jbd_124 (jl rfl) rfl (jl rfl) hu rfl (jk rfl hN) (jd_1.trans jo_124.symm) (fun Q' hq => jc_124 hN (Nat.le_trans (jl rfl) (Nat.le_trans (Nat.le_add_right 3 n) hd))  (jo_b h) hq) (fun p7 hp7 h => ?_)
        refine jr_al_n (pc' := 47) rfl rfl rfl (jr_al_n (pc' := 48) rfl rfl rfl (jr_il_n (pc' := 49) rfl rfl rfl ?_))
        refine jr_cv_i (pc' := 52) [] rfl rfl jlk_2_58 jq_29 jbd_29 (jl rfl) rfl (jl rfl) hu rfl (jk rfl hN) (jd_30.trans jo_29.symm) (fun Q' hq => hrec_29 d hd hx1 (jo_b h) hq) (fun p8 hp8 h => ?_)
        refine jr_zne (pa := 55) (pb := 57) rfl rfl rfl (jg_b hp8) h (fun hc h => ?_) (fun hc h => ?_)
        · refine jr_ic (pc' := 56) rfl rfl ?_
          exact jr_retb rfl hu rfl jb_0 (hQ' _ _ (hQ ((0 : Int), p8.2) jb_0 h))
        · refine jr_al_n (pc' := 58) rfl rfl rfl (jr_il (pc' := 60) rfl rfl rfl (jr_bi (pc' := 62) rfl rfl rfl ?_))
          refine jr_reg (fun t9 => jg t9) (fun t9 => jp X (px_C X d) px_m28 Q' N 74 [some (.ref 30), some (.ref 1), some (jv x1), some (jv s2.1), some (jv p6.1)] [(jv t9), (.ref 30)] p8.2 (0, 0)) h (fun t9 ht9 h => ?_) (fun R22 k10 h => ?_)
          · refine jr_cv_v (pc' := 77) [] rfl rfl jlk_2_54 jq_30 jbd_30 (jl rfl) rfl (jl rfl) hu rfl (jk rfl hN) (jd_30.trans jo_30.symm) (fun Q' hq => jc_30 hN (Nat.le_trans (jl rfl) (Nat.le_trans (Nat.le_add_right 3 n) hd)) ht9 (jo_b h) hq) (fun p21 hp21 h => ?_)
            refine jr_inc (pc' := 80) (L' := [_, _, _, _, _]) rfl rfl rfl (jl rfl) rfl rfl (jr_goto (pc' := 13) rfl rfl ?_)
            exact k4 (jw (s2.1 + 1), p21) jg_w h _ jn_i
          · refine jr_cne (pa := 65) (pb := 71) rfl rfl rfl hp6 jgc_42 h (fun hc h => ?_) (fun hc h => ?_)
            · refine jr_si (pc' := 68) rfl rfl rfl (jr_goto (pc' := 74) rfl rfl ?_)
              exact k10 ((2002 : Int)) jgc_2002 h
            · refine jr_si (pc' := 74) rfl rfl rfl ?_
              exact k10 ((2003 : Int)) jgc_2003 h
      · refine jr_il (pc' := 35) rfl rfl rfl (jr_bi (pc' := 37) rfl rfl rfl ?_)
        refine jr_ceq (pa := 42) (pb := 40) rfl rfl rfl hp6 jgc_47 h (fun hc h => ?_) (fun hc h => ?_)
        · refine jr_al_n (pc' := 43) rfl rfl rfl ?_
          refine jr_cv_v (pc' := 46) [] rfl rfl jlk_2_51 jq_124 jbd_124 (jl rfl) rfl (jl rfl) hu rfl (jk rfl hN) (jd_1.trans jo_124.symm) (fun Q' hq => jc_124 hN (Nat.le_trans (jl rfl) (Nat.le_trans (Nat.le_add_right 3 n) hd))  (jo_b h) hq) (fun p23 hp23 h => ?_)
          refine jr_al_n (pc' := 47) rfl rfl rfl (jr_al_n (pc' := 48) rfl rfl rfl (jr_il_n (pc' := 49) rfl rfl rfl ?_))
          refine jr_cv_i (pc' := 52) [] rfl rfl jlk_2_58 jq_29 jbd_29 (jl rfl) rfl (jl rfl) hu rfl (jk rfl hN) (jd_30.trans jo_29.symm) (fun Q' hq => hrec_29 d hd hx1 (jo_b h) hq) (fun p24 hp24 h => ?_)
          refine jr_zne (pa := 55) (pb := 57) rfl rfl rfl (jg_b hp24) h (fun hc h => ?_) (fun hc h => ?_)
          · refine jr_ic (pc' := 56) rfl rfl ?_
            exact jr_retb rfl hu rfl jb_0 (hQ' _ _ (hQ ((0 : Int), p24.2) jb_0 h))
          · refine jr_al_n (pc' := 58) rfl rfl rfl (jr_il (pc' := 60) rfl rfl rfl (jr_bi (pc' := 62) rfl rfl rfl ?_))
            refine jr_reg (fun t25 => jg t25) (fun t25 => jp X (px_C X d) px_m28 Q' N 74 [some (.ref 30), some (.ref 1), some (jv x1), some (jv s2.1), some (jv p6.1)] [(jv t25), (.ref 30)] p24.2 (0, 0)) h (fun t25 ht25 h => ?_) (fun R38 k26 h => ?_)
            · refine jr_cv_v (pc' := 77) [] rfl rfl jlk_2_54 jq_30 jbd_30 (jl rfl) rfl (jl rfl) hu rfl (jk rfl hN) (jd_30.trans jo_30.symm) (fun Q' hq => jc_30 hN (Nat.le_trans (jl rfl) (Nat.le_trans (Nat.le_add_right 3 n) hd)) ht25 (jo_b h) hq) (fun p37 hp37 h => ?_)
              refine jr_inc (pc' := 80) (L' := [_, _, _, _, _]) rfl rfl rfl (jl rfl) rfl rfl (jr_goto (pc' := 13) rfl rfl ?_)
              exact k4 (jw (s2.1 + 1), p37) jg_w h _ jn_i
            · refine jr_cne (pa := 65) (pb := 71) rfl rfl rfl hp6 jgc_42 h (fun hc h => ?_) (fun hc h => ?_)
              · refine jr_si (pc' := 68) rfl rfl rfl (jr_goto (pc' := 74) rfl rfl ?_)
                exact k26 ((2002 : Int)) jgc_2002 h
              · refine jr_si (pc' := 74) rfl rfl rfl ?_
                exact k26 ((2003 : Int)) jgc_2003 h
        · refine jr_ic (pc' := 41) rfl rfl ?_
          exact jr_retb rfl hu rfl jb_1 (hQ' _ _ (hQ ((1 : Int), p6.2) jb_1 h))
    · refine jr_ic (pc' := 84) rfl rfl ?_
      exact jr_retb rfl hu rfl jb_1 (hQ' _ _ (hQ ((1 : Int), s2.2) jb_1 h))

