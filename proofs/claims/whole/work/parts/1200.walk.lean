/-! the pure machine follows the functions, 1 (written by wip/whole/gen/walk.py) -/
set_option maxRecDepth 20000 in
set_option maxHeartbeats 1000000 in
theorem jc_334 {X : Nat × (Nat → Int32)} {N d : Nat} {a0 : Nat} {x1 : Int} (hN : 102 ≤ N) (hd : 1 ≤ d) (ha0 : a0 < 102 ∧ px_kd a0 = 20) (hx1 : jg x1) {m : jm} {P : jm → Prop} {Q : px_Q} (h : jo (jf_334 a0 x1 m) P) (hQ : ∀ p : jm, True → P p → Q (.inl (none)) (jmem N p)) : px_C X d 334 [.ref a0, jv x1] (jmem N m) Q := by
  unfold jf_334 at h
  have hu : ju px_m334 (0, 0) := ju_0
  refine jr_in (M := px_m334) (lev := 0) (L := [some (.ref a0), some (jv x1), none, none]) hd rfl jbd_334 (jl rfl) rfl (fun d hd Q' hQ' => ?_)
  refine jr_ic (pc' := 1) rfl rfl (jr_is_n (pc' := 2) (L' := [_, _, _, _]) rfl rfl (jl rfl) rfl rfl (jr_al_n (pc' := 3) rfl rfl rfl (jr_len (pc' := 4) rfl rfl ha0.1 hN ha0.2 rfl (jr_is_n (pc' := 5) (L' := [_, _, _, _]) rfl rfl (jl rfl) rfl rfl ?_))))
  refine jr_reg (fun t4 => True) (fun t4 => ∀ o5, jn o5 → jp X (px_C X d) px_m334 Q' N 20 [some (.ref a0), some (jv x1), o5, some (jv (px_ln a0 : Int))] [] t4 (0, 0)) h (fun t4 ht4 h o5 ho5 => ?_) (fun R7 k6 h => ?_)
  · exact jr_rv rfl hu rfl (hQ' _ _ (hQ t4 trivial h))
  · refine jr_lp (fun s1 => jg s1.1) (fun s1 => jp X (px_C X d) px_m334 Q' N 5 [some (.ref a0), some (jv x1), some (jv s1.1), some (jv (px_ln a0 : Int))] [] s1.2 (0, 0)) h jgc_0 (fun s1 hs1 R3 k2 h => ?_)
    refine jr_il_n (pc' := 6) rfl rfl rfl (jr_il_n (pc' := 7) rfl rfl rfl ?_)
    refine jr_cge (pa := 10) (pb := 20) rfl rfl rfl hs1 (jg_ln ha0.1) h (fun hc h => ?_) (fun hc h => ?_)
    · refine jr_al_n (pc' := 11) rfl rfl rfl (jr_il_n (pc' := 12) rfl rfl rfl (jr_il_n (pc' := 13) rfl rfl rfl ?_))
      refine jr_ist (pc' := 14) rfl rfl ha0.1 hN ha0.2 rfl hs1 h (fun hc h => ?_)
      refine jr_le h (fun m8 h => ?_)
      refine jr_inc (pc' := 17) (L' := [_, _, _, _]) rfl rfl rfl (jl rfl) rfl rfl (jr_goto (pc' := 5) rfl rfl ?_)
      exact k2 (jw (s1.1 + 1), m8) jg_w h
    · exact k6 (s1.2) trivial h _ jn_i

set_option maxRecDepth 20000 in
set_option maxHeartbeats 1000000 in
theorem jc_1 {X : Nat × (Nat → Int32)} {N d : Nat} {q : Nat} (hN : 102 ≤ N) (hd : 2 ≤ d) (hq : q = 0 ∨ q = 4) {m : jm} {P : jm → Prop} {Q : px_Q} (h : jo (jf_1 q m) P) (hQ : ∀ p : jm, True → P p → Q (.inl (none)) (jmem N p)) : px_C X d 1 [.ref (33 + q)] (jmem N m) Q := by
  unfold jf_1 at h
  rcases hq with rfl | rfl
  · have hu : ju px_m1 (0, 0) := ju_0
    try dsimp only [Nat.reduceAdd] at h
    refine jr_in (M := px_m1) (lev := 1) (L := [some (.ref 33)]) hd rfl jbd_1 (jl rfl) rfl (fun d hd Q' hQ' => ?_)
    refine jr_al_n (pc' := 1) rfl rfl rfl (jr_gr (pc' := 4) (r := 34) rfl rfl jlk_0_9 (.inl rfl) rfl hN jd_33 rfl rfl rfl (jr_ic (pc' := 5) rfl rfl ?_))
    refine jr_cs_v (pc' := 8) [] rfl rfl jlk_0_22 jq_334 jbd_334 (jl rfl) rfl (jl rfl) hu (fun Q' hq => jc_334 hN (Nat.le_trans (jl rfl) hd) ⟨jl rfl, jd_34⟩ jgc_m1 (jo_b h) hq) (fun p1 hp1 h => ?_)
    refine jr_al_n (pc' := 9) rfl rfl rfl (jr_ic (pc' := 10) rfl rfl (jr_pi (pc' := 13) rfl rfl jlk_0_28 (.inl rfl) rfl hN jd_33 rfl rfl ?_))
    refine jr_le h (fun m2 h => ?_)
    exact jr_rv rfl hu rfl (hQ' _ _ (hQ m2 trivial h))
  · have hu : ju px_m1 (0, 0) := ju_0
    try dsimp only [Nat.reduceAdd] at h
    refine jr_in (M := px_m1) (lev := 1) (L := [some (.ref 37)]) hd rfl jbd_1 (jl rfl) rfl (fun d hd Q' hQ' => ?_)
    refine jr_al_n (pc' := 1) rfl rfl rfl (jr_gr (pc' := 4) (r := 38) rfl rfl jlk_0_9 (.inl rfl) rfl hN jd_37 rfl rfl rfl (jr_ic (pc' := 5) rfl rfl ?_))
    refine jr_cs_v (pc' := 8) [] rfl rfl jlk_0_22 jq_334 jbd_334 (jl rfl) rfl (jl rfl) hu (fun Q' hq => jc_334 hN (Nat.le_trans (jl rfl) hd) ⟨jl rfl, jd_38⟩ jgc_m1 (jo_b h) hq) (fun p1 hp1 h => ?_)
    refine jr_al_n (pc' := 9) rfl rfl rfl (jr_ic (pc' := 10) rfl rfl (jr_pi (pc' := 13) rfl rfl jlk_0_28 (.inl rfl) rfl hN jd_37 rfl rfl ?_))
    refine jr_le h (fun m2 h => ?_)
    exact jr_rv rfl hu rfl (hQ' _ _ (hQ m2 trivial h))

set_option maxRecDepth 20000 in
set_option maxHeartbeats 1000000 in
theorem jc_116 {X : Nat × (Nat → Int32)} {N d : Nat}  (hN : 102 ≤ N) (hd : 1 ≤ d)  {m : jm} {P : Int × jm → Prop} {Q : px_Q} (h : jo (jf_116 m) P) (hQ : ∀ p : Int × jm, jg p.1 → P p → Q (.inl (some (jv p.1))) (jmem N p.2)) : px_C X d 116 [.ref 1] (jmem N m) Q := by
  unfold jf_116 at h
  have hu : ju px_m116 (0, 0) := ju_0
  refine jr_in (M := px_m116) (lev := 0) (L := [some (.ref 1)]) hd rfl jbd_116 (jl rfl) rfl (fun d hd Q' hQ' => ?_)
  refine jr_reg (fun t4 => True) (fun t4 => jp X (px_C X d) px_m116 Q' N 38 [some (.ref 1)] [] t4 (0, 0)) h (fun t4 ht4 h => ?_) (fun R6 k5 h => ?_)
  · refine jr_al_n (pc' := 39) rfl rfl rfl (jr_gi (pc' := 42) rfl rfl jlk_9_31 (.inl rfl) rfl hN jd_1 rfl rfl (jr_al_n (pc' := 43) rfl rfl rfl (jr_gi (pc' := 46) rfl rfl jlk_9_28 (.inl rfl) rfl hN jd_1 rfl rfl ?_)))
    refine jr_reg (fun t18 => jg t18) (fun t18 => jp X (px_C X d) px_m116 Q' N 62 [some (.ref 1)] [(jv t18)] t4 (0, 0)) h (fun t18 ht18 h => ?_) (fun R30 k19 h => ?_)
    · exact jr_ret rfl hu rfl (hQ' _ _ (hQ (t18, t4) ht18 h))
    · refine jr_cge (pa := 49) (pb := 61) rfl rfl rfl jg_a jg_a h (fun hc h => ?_) (fun hc h => ?_)
      · refine jr_al_n (pc' := 50) rfl rfl rfl (jr_gr (pc' := 53) (r := 2) rfl rfl jlk_9_9 (.inl rfl) rfl hN jd_1 rfl rfl rfl (jr_al_n (pc' := 54) rfl rfl rfl (jr_gi (pc' := 57) rfl rfl jlk_9_31 (.inl rfl) rfl hN jd_1 rfl rfl ?_)))
        refine jr_ia (pc' := 58) rfl rfl (jl rfl) hN jd_2 jn_2 jg_a h (fun hc h => ?_)
        refine jr_goto (pc' := 62) rfl rfl ?_
        exact k19 (ja t4 2 (ja t4 1 3).toNat) jg_a h
      · refine jr_ic (pc' := 62) rfl rfl ?_
        exact k19 ((-1 : Int)) jgc_m1 h
  · refine jr_lp (fun s1 => True) (fun s1 => jp X (px_C X d) px_m116 Q' N 0 [some (.ref 1)] [] s1 (0, 0)) h trivial (fun s1 hs1 R3 k2 h => ?_)
    refine jr_al_n (pc' := 1) rfl rfl rfl (jr_gi (pc' := 4) rfl rfl jlk_9_31 (.inl rfl) rfl hN jd_1 rfl rfl (jr_al_n (pc' := 5) rfl rfl rfl (jr_gi (pc' := 8) rfl rfl jlk_9_28 (.inl rfl) rfl hN jd_1 rfl rfl ?_)))
    refine jr_cge (pa := 11) (pb := 38) rfl rfl rfl jg_a jg_a h (fun hc h => ?_) (fun hc h => ?_)
    · refine jr_al_n (pc' := 12) rfl rfl rfl (jr_gr (pc' := 15) (r := 2) rfl rfl jlk_9_9 (.inl rfl) rfl hN jd_1 rfl rfl rfl (jr_al_n (pc' := 16) rfl rfl rfl (jr_gi (pc' := 19) rfl rfl jlk_9_31 (.inl rfl) rfl hN jd_1 rfl rfl ?_)))
      refine jr_ia (pc' := 20) rfl rfl (jl rfl) hN jd_2 jn_2 jg_a h (fun hc h => ?_)
      refine jr_bi (pc' := 22) rfl rfl rfl ?_
      refine jr_cne (pa := 25) (pb := 38) rfl rfl rfl jg_a jgc_32 h (fun hc h => ?_) (fun hc h => ?_)
      · refine jr_al_n (pc' := 26) rfl rfl rfl (jr_dup (pc' := 27) rfl rfl rfl (jr_gi (pc' := 30) rfl rfl jlk_9_31 (.inl rfl) rfl hN jd_1 rfl rfl (jr_ic (pc' := 31) rfl rfl (jr_add (pc' := 32) rfl rfl (jr_pi (pc' := 35) rfl rfl jlk_9_31 (.inl rfl) rfl hN jd_1 rfl rfl ?_)))))
        refine jr_le h (fun m7 h => ?_)
        refine jr_goto (pc' := 0) rfl rfl ?_
        exact k2 (m7) trivial h
      · exact k5 (s1) trivial h
    · exact k5 (s1) trivial h

set_option maxRecDepth 20000 in
set_option maxHeartbeats 1000000 in
theorem jc_122 {X : Nat × (Nat → Int32)} {N d : Nat}  (hN : 102 ≤ N) (hd : 2 ≤ d)  {m : jm} {P : Int × jm → Prop} {Q : px_Q} (h : jo (jf_122 m) P) (hQ : ∀ p : Int × jm, jb p.1 → P p → Q (.inl (some (jv p.1))) (jmem N p.2)) : px_C X d 122 [.ref 1] (jmem N m) Q := by
  unfold jf_122 at h
  have hu : ju px_m122 (0, 0) := ju_0
  refine jr_in (M := px_m122) (lev := 1) (L := [some (.ref 1), none]) hd rfl jbd_122 (jl rfl) rfl (fun d hd Q' hQ' => ?_)
  refine jr_al_n (pc' := 1) rfl rfl rfl ?_
  refine jr_cv_i (pc' := 4) [] rfl rfl jlk_9_40 jq_116 jbd_116 (jl rfl) rfl (jl rfl) hu rfl (jk rfl hN) (jd_1.trans jo_116.symm) (fun Q' hq => jc_116 hN (Nat.le_trans (jl rfl) hd)  (jo_b h) hq) (fun p1 hp1 h => ?_)
  refine jr_is_n (pc' := 5) (L' := [_, _]) rfl rfl (jl rfl) rfl rfl (jr_il_n (pc' := 6) rfl rfl rfl (jr_bi (pc' := 8) rfl rfl rfl ?_))
  refine jr_reg (fun t2 => jb t2) (fun t2 => jp X (px_C X d) px_m122 Q' N 22 [some (.ref 1), some (jv p1.1)] [(jv t2)] p1.2 (0, 0)) h (fun t2 ht2 h => ?_) (fun R14 k3 h => ?_)
  · exact jr_retb rfl hu rfl ht2 (hQ' _ _ (hQ (t2, p1.2) ht2 h))
  · refine jr_clt (pa := 21) (pb := 11) rfl rfl rfl hp1 jgc_48 h (fun hc h => ?_) (fun hc h => ?_)
    · refine jr_ic (pc' := 22) rfl rfl ?_
      exact k3 ((0 : Int)) jb_0 h
    · refine jr_il_n (pc' := 12) rfl rfl rfl (jr_bi (pc' := 14) rfl rfl rfl ?_)
      refine jr_cgt (pa := 21) (pb := 17) rfl rfl rfl hp1 jgc_57 h (fun hc h => ?_) (fun hc h => ?_)
      · refine jr_ic (pc' := 22) rfl rfl ?_
        exact k3 ((0 : Int)) jb_0 h
      · refine jr_ic (pc' := 18) rfl rfl (jr_goto (pc' := 22) rfl rfl ?_)
        exact k3 ((1 : Int)) jb_1 h

set_option maxRecDepth 20000 in
set_option maxHeartbeats 1000000 in
theorem jc_120 {X : Nat × (Nat → Int32)} {N d : Nat} {x0 : Int} {x1 : Int} (hN : 102 ≤ N) (hd : 1 ≤ d) (hx0 : jg x0) (hx1 : jg x1) {m : jm} {P : Int × jm → Prop} {Q : px_Q} (h : jo (jf_120 x0 x1 m) P) (hQ : ∀ p : Int × jm, jb p.1 → P p → Q (.inl (some (jv p.1))) (jmem N p.2)) : px_C X d 120 [.ref 1, jv x0, jv x1] (jmem N m) Q := by
  unfold jf_120 at h
  have hu : ju px_m120 (0, 0) := ju_0
  refine jr_in (M := px_m120) (lev := 0) (L := [some (.ref 1), some (jv x0), some (jv x1)]) hd rfl jbd_120 (jl rfl) rfl (fun d hd Q' hQ' => ?_)
  refine jr_al_n (pc' := 1) rfl rfl rfl (jr_il_n (pc' := 2) rfl rfl rfl (jr_pi (pc' := 5) rfl rfl jlk_9_37 (.inl rfl) rfl hN jd_1 rfl rfl ?_))
  refine jr_le h (fun m1 h => ?_)
  refine jr_al_n (pc' := 6) rfl rfl rfl (jr_il_n (pc' := 7) rfl rfl rfl (jr_pi (pc' := 10) rfl rfl jlk_9_15 (.inl rfl) rfl hN jd_1 rfl rfl ?_))
  refine jr_le h (fun m2 h => ?_)
  refine jr_ic (pc' := 11) rfl rfl ?_
  exact jr_retb rfl hu rfl jb_0 (hQ' _ _ (hQ ((0 : Int), m2) jb_0 h))

set_option maxRecDepth 20000 in
set_option maxHeartbeats 1000000 in
theorem jc_153 {X : Nat × (Nat → Int32)} {N d : Nat} {x0 : Int} {x1 : Int} {x2 : Int} (hN : 102 ≤ N) (hd : 1 ≤ d) (hx0 : jg x0) (hx1 : jg x1) (hx2 : jg x2) {m : jm} {P : Int → Prop} {Q : px_Q} (h : jo (jf_153 x0 x1 x2 m) P) (hQ : ∀ p : Int, jb p → P p → Q (.inl (some (jv p))) (jmem N m)) : px_C X d 153 [jv x0, jv x1, jv x2] (jmem N m) Q := by
  unfold jf_153 at h
  have hu : ju px_m153 (0, 0) := ju_0
  refine jr_in (M := px_m153) (lev := 0) (L := [some (jv x0), some (jv x1), some (jv x2)]) hd rfl jbd_153 (jl rfl) rfl (fun d hd Q' hQ' => ?_)
  refine jr_il_n (pc' := 1) rfl rfl rfl (jr_il_n (pc' := 2) rfl rfl rfl ?_)
  refine jr_reg (fun t1 => jb t1) (fun t1 => jp X (px_C X d) px_m153 Q' N 15 [some (jv x0), some (jv x1), some (jv x2)] [(jv t1)] m (0, 0)) h (fun t1 ht1 h => ?_) (fun R13 k2 h => ?_)
  · exact jr_retb rfl hu rfl ht1 (hQ' _ _ (hQ t1 ht1 h))
  · refine jr_clt (pa := 14) (pb := 5) rfl rfl rfl hx0 hx1 h (fun hc h => ?_) (fun hc h => ?_)
    · refine jr_ic (pc' := 15) rfl rfl ?_
      exact k2 ((0 : Int)) jb_0 h
    · refine jr_il_n (pc' := 6) rfl rfl rfl (jr_il_n (pc' := 7) rfl rfl rfl ?_)
      refine jr_cgt (pa := 14) (pb := 10) rfl rfl rfl hx0 hx2 h (fun hc h => ?_) (fun hc h => ?_)
      · refine jr_ic (pc' := 15) rfl rfl ?_
        exact k2 ((0 : Int)) jb_0 h
      · refine jr_ic (pc' := 11) rfl rfl (jr_goto (pc' := 15) rfl rfl ?_)
        exact k2 ((1 : Int)) jb_1 h

set_option maxRecDepth 20000 in
set_option maxHeartbeats 1000000 in
theorem jc_121 {X : Nat × (Nat → Int32)} {N d : Nat} {x0 : Int} {x1 : Int} (hN : 102 ≤ N) (hd : 3 ≤ d) (hx0 : jg x0) (hx1 : jg x1) {m : jm} {P : Int × jm → Prop} {Q : px_Q} (h : jo (jf_121 x0 x1 m) P) (hQ : ∀ p : Int × jm, jg p.1 → P p → Q (.inl (some (jv p.1))) (jmem N p.2)) : px_C X d 121 [.ref 1, jv x0, jv x1] (jmem N m) Q := by
  unfold jf_121 at h
  have hu : ju px_m121 (0, 0) := ju_0
  refine jr_in (M := px_m121) (lev := 2) (L := [some (.ref 1), some (jv x0), some (jv x1), none]) hd rfl jbd_121 (jl rfl) rfl (fun d hd Q' hQ' => ?_)
  refine jr_al_n (pc' := 1) rfl rfl rfl ?_
  refine jr_cv_i (pc' := 4) [] rfl rfl jlk_9_51 jq_122 jbd_122 (jl rfl) rfl (jl rfl) hu rfl (jk rfl hN) (jd_1.trans jo_122.symm) (fun Q' hq => jc_122 hN (Nat.le_trans (jl rfl) hd)  (jo_b h) hq) (fun p1 hp1 h => ?_)
  refine jr_zne (pa := 7) (pb := 19) rfl rfl rfl (jg_b hp1) h (fun hc h => ?_) (fun hc h => ?_)
  · refine jr_al_n (pc' := 8) rfl rfl rfl (jr_ic (pc' := 9) rfl rfl (jr_al_n (pc' := 10) rfl rfl rfl (jr_gi (pc' := 13) rfl rfl jlk_9_31 (.inl rfl) rfl hN jd_1 rfl rfl ?_)))
    refine jr_cv_i (pc' := 16) [] rfl rfl jlk_9_44 jq_120 jbd_120 (jl rfl) rfl (jl rfl) hu rfl (jk rfl hN) (jd_1.trans jo_120.symm) (fun Q' hq => jc_120 hN (Nat.le_trans (jl rfl) hd) jgc_1 jg_a (jo_b h) hq) (fun p2 hp2 h => ?_)
    refine jr_pop (pc' := 17) rfl rfl rfl (jr_ic (pc' := 18) rfl rfl ?_)
    exact jr_ret rfl hu rfl (hQ' _ _ (hQ ((-1 : Int), p2.2) jgc_m1 h))
  · refine jr_al_n (pc' := 20) rfl rfl rfl (jr_al_n (pc' := 21) rfl rfl rfl (jr_gi (pc' := 24) rfl rfl jlk_9_31 (.inl rfl) rfl hN jd_1 rfl rfl (jr_pi (pc' := 27) rfl rfl jlk_9_34 (.inl rfl) rfl hN jd_1 rfl rfl ?_)))
    refine jr_le h (fun m3 h => ?_)
    refine jr_ic (pc' := 28) rfl rfl (jr_is_n (pc' := 29) (L' := [_, _, _, _]) rfl rfl (jl rfl) rfl rfl ?_)
    refine jr_reg (fun t7 => jg t7.1) (fun t7 => jp X (px_C X d) px_m121 Q' N 104 [some (.ref 1), some (jv x0), some (jv x1), some (jv t7.1)] [] t7.2 (0, 0)) h (fun t7 ht7 h => ?_) (fun R9 k8 h => ?_)
    · refine jr_il_n (pc' := 105) rfl rfl rfl (jr_il_n (pc' := 106) rfl rfl rfl (jr_il_n (pc' := 107) rfl rfl rfl ?_))
      refine jr_cn_p (pc' := 110) [] rfl rfl jlk_9_56 jq_153 jbd_153 (jl rfl) rfl (jl rfl) hu (fun Q' hq => jc_153 hN (Nat.le_trans (jl rfl) hd) ht7 hx0 hx1 (jo_b h) hq) (fun p21 hp21 h => ?_)
      refine jr_zne (pa := 113) (pb := 125) rfl rfl rfl (jg_b hp21) h (fun hc h => ?_) (fun hc h => ?_)
      · refine jr_al_n (pc' := 114) rfl rfl rfl (jr_ic (pc' := 115) rfl rfl (jr_al_n (pc' := 116) rfl rfl rfl (jr_gi (pc' := 119) rfl rfl jlk_9_34 (.inl rfl) rfl hN jd_1 rfl rfl ?_)))
        refine jr_cv_i (pc' := 122) [] rfl rfl jlk_9_44 jq_120 jbd_120 (jl rfl) rfl (jl rfl) hu rfl (jk rfl hN) (jd_1.trans jo_120.symm) (fun Q' hq => jc_120 hN (Nat.le_trans (jl rfl) hd) jgc_2 jg_a (jo_b h) hq) (fun p22 hp22 h => ?_)
        refine jr_pop (pc' := 123) rfl rfl rfl (jr_ic (pc' := 124) rfl rfl ?_)
        exact jr_ret rfl hu rfl (hQ' _ _ (hQ ((-1 : Int), p22.2) jgc_m1 h))
      · refine jr_il_n (pc' := 126) rfl rfl rfl ?_
        exact jr_ret rfl hu rfl (hQ' _ _ (hQ (t7.1, t7.2) ht7 h))
    · refine jr_lp (fun s4 => jg s4.1) (fun s4 => jp X (px_C X d) px_m121 Q' N 29 [some (.ref 1), some (jv x0), some (jv x1), some (jv s4.1)] [] s4.2 (0, 0)) h jgc_0 (fun s4 hs4 R6 k5 h => ?_)
      refine jr_al_n (pc' := 30) rfl rfl rfl (jr_gi (pc' := 33) rfl rfl jlk_9_31 (.inl rfl) rfl hN jd_1 rfl rfl (jr_al_n (pc' := 34) rfl rfl rfl (jr_gi (pc' := 37) rfl rfl jlk_9_28 (.inl rfl) rfl hN jd_1 rfl rfl ?_)))
      refine jr_cge (pa := 40) (pb := 104) rfl rfl rfl jg_a jg_a h (fun hc h => ?_) (fun hc h => ?_)
      · refine jr_al_n (pc' := 41) rfl rfl rfl (jr_gr (pc' := 44) (r := 2) rfl rfl jlk_9_9 (.inl rfl) rfl hN jd_1 rfl rfl rfl (jr_al_n (pc' := 45) rfl rfl rfl (jr_gi (pc' := 48) rfl rfl jlk_9_31 (.inl rfl) rfl hN jd_1 rfl rfl ?_)))
        refine jr_ia (pc' := 49) rfl rfl (jl rfl) hN jd_2 jn_2 jg_a h (fun hc h => ?_)
        refine jr_bi (pc' := 51) rfl rfl rfl ?_
        refine jr_clt (pa := 104) (pb := 54) rfl rfl rfl jg_a jgc_48 h (fun hc h => ?_) (fun hc h => ?_)
        · exact k8 (s4.1, s4.2) hs4 h
        · refine jr_al_n (pc' := 55) rfl rfl rfl (jr_gr (pc' := 58) (r := 2) rfl rfl jlk_9_9 (.inl rfl) rfl hN jd_1 rfl rfl rfl (jr_al_n (pc' := 59) rfl rfl rfl (jr_gi (pc' := 62) rfl rfl jlk_9_31 (.inl rfl) rfl hN jd_1 rfl rfl ?_)))
          refine jr_ia (pc' := 63) rfl rfl (jl rfl) hN jd_2 jn_2 jg_a h (fun hc h => ?_)
          refine jr_bi (pc' := 65) rfl rfl rfl ?_
          refine jr_cgt (pa := 104) (pb := 68) rfl rfl rfl jg_a jgc_57 h (fun hc h => ?_) (fun hc h => ?_)
          · exact k8 (s4.1, s4.2) hs4 h
          · refine jr_ld (pc' := 70) (x := 100000) rfl rfl jlk_9_55 rfl (jr_il_n (pc' := 71) rfl rfl rfl (jr_bi (pc' := 73) rfl rfl rfl (jr_mul (pc' := 74) rfl rfl (jr_al_n (pc' := 75) rfl rfl rfl (jr_gr (pc' := 78) (r := 2) rfl rfl jlk_9_9 (.inl rfl) rfl hN jd_1 rfl rfl rfl ?_)))))
            refine jr_al_n (pc' := 79) rfl rfl rfl (jr_gi (pc' := 82) rfl rfl jlk_9_31 (.inl rfl) rfl hN jd_1 rfl rfl ?_)
            refine jr_ia (pc' := 83) rfl rfl (jl rfl) hN jd_2 jn_2 jg_a h (fun hc h => ?_)
            refine jr_add (pc' := 84) rfl rfl (jr_bi (pc' := 86) rfl rfl rfl (jr_sub (pc' := 87) rfl rfl (jr_min (pc' := 90) rfl rfl jlk_9_22 (jl rfl) hu jgc_100000 jg_w (jr_is_n (pc' := 91) (L' := [_, _, _, _]) rfl rfl (jl rfl) rfl rfl (jr_al_n (pc' := 92) rfl rfl rfl ?_)))))
            refine jr_dup (pc' := 93) rfl rfl rfl (jr_gi (pc' := 96) rfl rfl jlk_9_31 (.inl rfl) rfl hN jd_1 rfl rfl (jr_ic (pc' := 97) rfl rfl (jr_add (pc' := 98) rfl rfl (jr_pi (pc' := 101) rfl rfl jlk_9_31 (.inl rfl) rfl hN jd_1 rfl rfl ?_))))
            refine jr_le h (fun m10 h => ?_)
            refine jr_goto (pc' := 29) rfl rfl ?_
            exact k5 (jmin (100000 : Int) (jw ((jw ((jw (s4.1 * (10 : Int))) + (ja s4.2 2 (ja s4.2 1 3).toNat))) - (48 : Int))), m10) (jg_min jgc_100000 jg_w) h
      · exact k8 (s4.1, s4.2) hs4 h

set_option maxRecDepth 20000 in
set_option maxHeartbeats 1000000 in
theorem jc_124 {X : Nat × (Nat → Int32)} {N d : Nat}  (hN : 102 ≤ N) (hd : 1 ≤ d)  {m : jm} {P : jm → Prop} {Q : px_Q} (h : jo (jf_124 m) P) (hQ : ∀ p : jm, True → P p → Q (.inl (none)) (jmem N p)) : px_C X d 124 [.ref 1] (jmem N m) Q := by
  unfold jf_124 at h
  have hu : ju px_m124 (0, 0) := ju_0
  refine jr_in (M := px_m124) (lev := 0) (L := [some (.ref 1)]) hd rfl jbd_124 (jl rfl) rfl (fun d hd Q' hQ' => ?_)
  refine jr_al_n (pc' := 1) rfl rfl rfl (jr_gi (pc' := 4) rfl rfl jlk_9_31 (.inl rfl) rfl hN jd_1 rfl rfl (jr_al_n (pc' := 5) rfl rfl rfl (jr_gi (pc' := 8) rfl rfl jlk_9_28 (.inl rfl) rfl hN jd_1 rfl rfl ?_)))
  refine jr_reg (fun t1 => True) (fun t1 => jp X (px_C X d) px_m124 Q' N 21 [some (.ref 1)] [] t1 (0, 0)) h (fun t1 ht1 h => ?_) (fun R14 k2 h => ?_)
  · exact jr_rv rfl hu rfl (hQ' _ _ (hQ t1 trivial h))
  · refine jr_cge (pa := 11) (pb := 21) rfl rfl rfl jg_a jg_a h (fun hc h => ?_) (fun hc h => ?_)
    · refine jr_al_n (pc' := 12) rfl rfl rfl (jr_dup (pc' := 13) rfl rfl rfl (jr_gi (pc' := 16) rfl rfl jlk_9_31 (.inl rfl) rfl hN jd_1 rfl rfl (jr_ic (pc' := 17) rfl rfl (jr_add (pc' := 18) rfl rfl (jr_pi (pc' := 21) rfl rfl jlk_9_31 (.inl rfl) rfl hN jd_1 rfl rfl ?_)))))
      refine jr_le h (fun m3 h => ?_)
      exact k2 (m3) trivial h
    · exact k2 (m) trivial h

set_option maxRecDepth 20000 in
set_option maxHeartbeats 1000000 in
theorem jc_123 {X : Nat × (Nat → Int32)} {N d : Nat} {x0 : Int} (hN : 102 ≤ N) (hd : 2 ≤ d) (hx0 : jg x0) {m : jm} {P : Int × jm → Prop} {Q : px_Q} (h : jo (jf_123 x0 m) P) (hQ : ∀ p : Int × jm, jb p.1 → P p → Q (.inl (some (jv p.1))) (jmem N p.2)) : px_C X d 123 [.ref 1, jv x0] (jmem N m) Q := by
  unfold jf_123 at h
  have hu : ju px_m123 (0, 0) := ju_0
  refine jr_in (M := px_m123) (lev := 1) (L := [some (.ref 1), some (jv x0)]) hd rfl jbd_123 (jl rfl) rfl (fun d hd Q' hQ' => ?_)
  refine jr_al_n (pc' := 1) rfl rfl rfl ?_
  refine jr_cv_i (pc' := 4) [] rfl rfl jlk_9_40 jq_116 jbd_116 (jl rfl) rfl (jl rfl) hu rfl (jk rfl hN) (jd_1.trans jo_116.symm) (fun Q' hq => jc_116 hN (Nat.le_trans (jl rfl) hd)  (jo_b h) hq) (fun p1 hp1 h => ?_)
  refine jr_il_n (pc' := 5) rfl rfl rfl ?_
  refine jr_ceq (pa := 18) (pb := 8) rfl rfl rfl hp1 hx0 h (fun hc h => ?_) (fun hc h => ?_)
  · refine jr_al_n (pc' := 19) rfl rfl rfl ?_
    refine jr_cv_v (pc' := 22) [] rfl rfl jlk_9_48 jq_124 jbd_124 (jl rfl) rfl (jl rfl) hu rfl (jk rfl hN) (jd_1.trans jo_124.symm) (fun Q' hq => jc_124 hN (Nat.le_trans (jl rfl) hd)  (jo_b h) hq) (fun p2 hp2 h => ?_)
    refine jr_ic (pc' := 23) rfl rfl ?_
    exact jr_retb rfl hu rfl jb_1 (hQ' _ _ (hQ ((1 : Int), p2) jb_1 h))
  · refine jr_al_n (pc' := 9) rfl rfl rfl (jr_ic (pc' := 10) rfl rfl (jr_al_n (pc' := 11) rfl rfl rfl (jr_gi (pc' := 14) rfl rfl jlk_9_31 (.inl rfl) rfl hN jd_1 rfl rfl ?_)))
    refine jr_cv_i (pc' := 17) [] rfl rfl jlk_9_44 jq_120 jbd_120 (jl rfl) rfl (jl rfl) hu rfl (jk rfl hN) (jd_1.trans jo_120.symm) (fun Q' hq => jc_120 hN (Nat.le_trans (jl rfl) hd) jgc_1 jg_a (jo_b h) hq) (fun p3 hp3 h => ?_)
    exact jr_retb rfl hu rfl hp3 (hQ' _ _ (hQ (p3.1, p3.2) hp3 h))

set_option maxRecDepth 20000 in
set_option maxHeartbeats 1000000 in
theorem jc_2 {X : Nat × (Nat → Int32)} {N d : Nat} {x1 : Int} (hN : 102 ≤ N) (hd : 4 ≤ d) (hx1 : jg x1) {m : jm} {P : Int × jm → Prop} {Q : px_Q} (h : jo (jf_2 x1 m) P) (hQ : ∀ p : Int × jm, jb p.1 → P p → Q (.inl (some (jv p.1))) (jmem N p.2)) : px_C X d 2 [.ref 37, .ref 1, jv x1] (jmem N m) Q := by
  unfold jf_2 at h
  have hu : ju px_m2 (0, 0) := ju_0
  refine jr_in (M := px_m2) (lev := 3) (L := [some (.ref 37), some (.ref 1), some (jv x1), none, none, none]) hd rfl jbd_2 (jl rfl) rfl (fun d hd Q' hQ' => ?_)
  refine jr_al_n (pc' := 1) rfl rfl rfl ?_
  refine jr_cv_v (pc' := 4) [] rfl rfl jlk_0_38 jq_1 jbd_1 (jl rfl) rfl (jl rfl) hu rfl (jk rfl hN) (jd_37.trans jo_1.symm) (fun Q' hq => jc_1 hN (Nat.le_trans (jl rfl) hd) (.inr rfl) (jo_b h) hq) (fun p1 hp1 h => ?_)
  refine jr_ic (pc' := 5) rfl rfl (jr_is_n (pc' := 6) (L' := [_, _, _, _, _, _]) rfl rfl (jl rfl) rfl rfl ?_)
  refine jr_lp (fun s2 => jg s2.1) (fun s2 => ∀ o3, jn o3 → ∀ o4, jn o4 → jp X (px_C X d) px_m2 Q' N 6 [some (.ref 37), some (.ref 1), some (jv x1), some (jv s2.1), o3, o4] [] s2.2 (0, 0)) h jgc_0 (fun s2 hs2 R6 k5 h o3 ho3 o4 ho4 => ?_) _ jn_n _ jn_n
  refine jr_il_n (pc' := 7) rfl rfl rfl (jr_bi (pc' := 9) rfl rfl rfl ?_)
  refine jr_cgt (pa := 128) (pb := 12) rfl rfl rfl hs2 jgc_12 h (fun hc h => ?_) (fun hc h => ?_)
  · refine jr_ic (pc' := 129) rfl rfl ?_
    exact jr_retb rfl hu rfl jb_0 (hQ' _ _ (hQ ((0 : Int), s2.2) jb_0 h))
  · refine jr_al_n (pc' := 13) rfl rfl rfl ?_
    refine jr_cv_i (pc' := 16) [] rfl rfl jlk_0_41 jq_116 jbd_116 (jl rfl) rfl (jl rfl) hu rfl (jk rfl hN) (jd_1.trans jo_116.symm) (fun Q' hq => jc_116 hN (Nat.le_trans (jl rfl) hd)  (jo_b h) hq) (fun p7 hp7 h => ?_)
    refine jr_ic (pc' := 17) rfl rfl ?_
    refine jr_cne (pa := 20) (pb := 22) rfl rfl rfl hp7 jgc_m1 h (fun hc h => ?_) (fun hc h => ?_)
    · refine jr_ic (pc' := 21) rfl rfl ?_
      exact jr_retb rfl hu rfl jb_1 (hQ' _ _ (hQ ((1 : Int), p7.2) jb_1 h))
    · refine jr_al_n (pc' := 23) rfl rfl rfl (jr_ic (pc' := 24) rfl rfl (jr_il_n (pc' := 25) rfl rfl rfl (jr_ic (pc' := 26) rfl rfl (jr_sub (pc' := 27) rfl rfl ?_))))
      refine jr_cv_i (pc' := 30) [] rfl rfl jlk_0_47 jq_121 jbd_121 (jl rfl) rfl (jl rfl) hu rfl (jk rfl hN) (jd_1.trans jo_121.symm) (fun Q' hq => jc_121 hN (Nat.le_trans (jl rfl) hd) jgc_0 jg_w (jo_b h) hq) (fun p8 hp8 h => ?_)
      refine jr_is (pc' := 32) (L' := [_, _, _, _, _, _]) rfl rfl (jl rfl) rfl rfl (jr_il (pc' := 34) rfl rfl rfl (jr_ic (pc' := 35) rfl rfl ?_))
      refine jr_cne (pa := 38) (pb := 40) rfl rfl rfl hp8 jgc_m1 h (fun hc h => ?_) (fun hc h => ?_)
      · refine jr_ic (pc' := 39) rfl rfl ?_
        exact jr_retb rfl hu rfl jb_0 (hQ' _ _ (hQ ((0 : Int), p8.2) jb_0 h))
      · refine jr_al_n (pc' := 41) rfl rfl rfl (jr_gr (pc' := 44) (r := 38) rfl rfl jlk_0_9 (.inl rfl) rfl hN jd_37 rfl rfl rfl (jr_il (pc' := 46) rfl rfl rfl ?_))
        refine jr_ia (pc' := 47) rfl rfl (jl rfl) hN jd_38 jn_38 hp8 h (fun hc h => ?_)
        refine jr_ic (pc' := 48) rfl rfl ?_
        refine jr_ceq (pa := 61) (pb := 51) rfl rfl rfl jg_a jgc_m1 h (fun hc h => ?_) (fun hc h => ?_)
        · refine jr_il_n (pc' := 62) rfl rfl rfl (jr_bi (pc' := 64) rfl rfl rfl ?_)
          refine jr_cne (pa := 67) (pb := 77) rfl rfl rfl hs2 jgc_12 h (fun hc h => ?_) (fun hc h => ?_)
          · refine jr_al_n (pc' := 68) rfl rfl rfl (jr_ic (pc' := 69) rfl rfl (jr_al_n (pc' := 70) rfl rfl rfl (jr_gi (pc' := 73) rfl rfl jlk_0_51 (.inr rfl) rfl hN jd_1 rfl rfl ?_)))
            refine jr_cv_i (pc' := 76) [] rfl rfl jlk_0_54 jq_120 jbd_120 (jl rfl) rfl (jl rfl) hu rfl (jk rfl hN) (jd_1.trans jo_120.symm) (fun Q' hq => jc_120 hN (Nat.le_trans (jl rfl) hd) jgc_3 jg_a (jo_b h) hq) (fun p9 hp9 h => ?_)
            exact jr_retb rfl hu rfl hp9 (hQ' _ _ (hQ (p9.1, p9.2) hp9 h))
          · refine jr_al_n (pc' := 78) rfl rfl rfl (jr_ic (pc' := 79) rfl rfl (jr_bi (pc' := 81) rfl rfl rfl ?_))
            refine jr_cv_i (pc' := 84) [] rfl rfl jlk_0_47 jq_121 jbd_121 (jl rfl) rfl (jl rfl) hu rfl (jk rfl hN) (jd_1.trans jo_121.symm) (fun Q' hq => jc_121 hN (Nat.le_trans (jl rfl) hd) jgc_0 jgc_99 (jo_b h) hq) (fun p10 hp10 h => ?_)
            refine jr_is (pc' := 86) (L' := [_, _, _, _, _, _]) rfl rfl (jl rfl) rfl rfl (jr_il (pc' := 88) rfl rfl rfl (jr_ic (pc' := 89) rfl rfl ?_))
            refine jr_ceq (pa := 101) (pb := 92) rfl rfl rfl hp10 jgc_m1 h (fun hc h => ?_) (fun hc h => ?_)
            · refine jr_ic (pc' := 102) rfl rfl ?_
              exact jr_retb rfl hu rfl jb_0 (hQ' _ _ (hQ ((0 : Int), p10.2) jb_0 h))
            · refine jr_al_n (pc' := 93) rfl rfl rfl (jr_bi (pc' := 95) rfl rfl rfl ?_)
              refine jr_cv_i (pc' := 98) [] rfl rfl jlk_0_58 jq_123 jbd_123 (jl rfl) rfl (jl rfl) hu rfl (jk rfl hN) (jd_1.trans jo_123.symm) (fun Q' hq => jc_123 hN (Nat.le_trans (jl rfl) hd) jgc_59 (jo_b h) hq) (fun p11 hp11 h => ?_)
              refine jr_zne (pa := 101) (pb := 103) rfl rfl rfl (jg_b hp11) h (fun hc h => ?_) (fun hc h => ?_)
              · refine jr_ic (pc' := 102) rfl rfl ?_
                exact jr_retb rfl hu rfl jb_0 (hQ' _ _ (hQ ((0 : Int), p11.2) jb_0 h))
              · refine jr_al_n (pc' := 104) rfl rfl rfl (jr_gr (pc' := 107) (r := 38) rfl rfl jlk_0_9 (.inl rfl) rfl hN jd_37 rfl rfl rfl (jr_il (pc' := 109) rfl rfl rfl (jr_il (pc' := 111) rfl rfl rfl ?_)))
                refine jr_ist (pc' := 112) rfl rfl (jl rfl) hN jd_38 jn_38 hp8 h (fun hc h => ?_)
                refine jr_le h (fun m12 h => ?_)
                refine jr_al_n (pc' := 113) rfl rfl rfl (jr_dup (pc' := 114) rfl rfl rfl (jr_gi (pc' := 117) rfl rfl jlk_0_28 (.inl rfl) rfl hN jd_37 rfl rfl (jr_ic (pc' := 118) rfl rfl (jr_add (pc' := 119) rfl rfl (jr_pi (pc' := 122) rfl rfl jlk_0_28 (.inl rfl) rfl hN jd_37 rfl rfl ?_)))))
                refine jr_le h (fun m13 h => ?_)
                refine jr_inc (pc' := 125) (L' := [_, _, _, _, _, _]) rfl rfl rfl (jl rfl) rfl rfl (jr_goto (pc' := 6) rfl rfl ?_)
                exact k5 (jw (s2.1 + 1), m13) jg_w h _ jn_i _ jn_i
        · refine jr_al_n (pc' := 52) rfl rfl rfl (jr_ic (pc' := 53) rfl rfl (jr_al_n (pc' := 54) rfl rfl rfl (jr_gi (pc' := 57) rfl rfl jlk_0_51 (.inr rfl) rfl hN jd_1 rfl rfl ?_)))
          refine jr_cv_i (pc' := 60) [] rfl rfl jlk_0_54 jq_120 jbd_120 (jl rfl) rfl (jl rfl) hu rfl (jk rfl hN) (jd_1.trans jo_120.symm) (fun Q' hq => jc_120 hN (Nat.le_trans (jl rfl) hd) jgc_2 jg_a (jo_b h) hq) (fun p14 hp14 h => ?_)
          exact jr_retb rfl hu rfl hp14 (hQ' _ _ (hQ (p14.1, p14.2) hp14 h))

set_option maxRecDepth 20000 in
set_option maxHeartbeats 1000000 in
theorem jc_3 {X : Nat × (Nat → Int32)} {N d : Nat}  (hN : 102 ≤ N) (hd : 1 ≤ d)  {m : jm} {P : jm → Prop} {Q : px_Q} (h : jo (jf_3 m) P) (hQ : ∀ p : jm, True → P p → Q (.inl (none)) (jmem N p)) : px_C X d 3 [.ref 33, .ref 37] (jmem N m) Q := by
  unfold jf_3 at h
  have hu : ju px_m3 (0, 0) := ju_0
  refine jr_in (M := px_m3) (lev := 0) (L := [some (.ref 33), some (.ref 37)]) hd rfl jbd_3 (jl rfl) rfl (fun d hd Q' hQ' => ?_)
  refine jr_al_n (pc' := 1) rfl rfl rfl (jr_gr (pc' := 4) (r := 38) rfl rfl jlk_0_9 (.inl rfl) rfl hN jd_37 rfl rfl rfl (jr_ic (pc' := 5) rfl rfl (jr_al_n (pc' := 6) rfl rfl rfl (jr_gr (pc' := 9) (r := 34) rfl rfl jlk_0_9 (.inl rfl) rfl hN jd_33 rfl rfl rfl (jr_ic (pc' := 10) rfl rfl ?_)))))
  refine jr_bi (pc' := 12) rfl rfl rfl ?_
  refine jr_cp (pc' := 15) rfl rfl jlk_0_32 (jl rfl) (jl rfl) hN jd_38 jd_34 jn_38 jn_34 (jl rfl) jgc_0 jgc_0 jgc_12 h (fun h => ?_)
  refine jr_le h (fun m1 h => ?_)
  refine jr_al_n (pc' := 16) rfl rfl rfl (jr_al_n (pc' := 17) rfl rfl rfl (jr_gi (pc' := 20) rfl rfl jlk_0_28 (.inl rfl) rfl hN jd_37 rfl rfl (jr_pi (pc' := 23) rfl rfl jlk_0_28 (.inl rfl) rfl hN jd_33 rfl rfl ?_)))
  refine jr_le h (fun m2 h => ?_)
  exact jr_rv rfl hu rfl (hQ' _ _ (hQ m2 trivial h))

set_option maxRecDepth 20000 in
set_option maxHeartbeats 1000000 in
theorem jc_63 {X : Nat × (Nat → Int32)} {N d : Nat} {q : Nat} (hN : 102 ≤ N) (hd : 1 ≤ d) (hq : q = 0 ∨ q = 17) {m : jm} {P : Int → Prop} {Q : px_Q} (h : jo (jf_63 q m) P) (hQ : ∀ p : Int, jg p → P p → Q (.inl (some (jv p))) (jmem N m)) : px_C X d 63 [.ref (47 + q)] (jmem N m) Q := by
  unfold jf_63 at h
  rcases hq with rfl | rfl
  · have hu : ju px_m63 (0, 0) := ju_0
    try dsimp only [Nat.reduceAdd] at h
    refine jr_in (M := px_m63) (lev := 0) (L := [some (.ref 47)]) hd rfl jbd_63 (jl rfl) rfl (fun d hd Q' hQ' => ?_)
    refine jr_al_n (pc' := 1) rfl rfl rfl (jr_gr (pc' := 4) (r := 48) rfl rfl jlk_6_11 (.inl rfl) rfl hN jd_47 rfl rfl rfl (jr_ic (pc' := 5) rfl rfl ?_))
    refine jr_ia (pc' := 6) rfl rfl (jl rfl) hN jd_48 jn_48 jgc_1 h (fun hc h => ?_)
    exact jr_ret rfl hu rfl (hQ' _ _ (hQ (ja m 48 (1 : Int).toNat) jg_a h))
  · have hu : ju px_m63 (0, 0) := ju_0
    try dsimp only [Nat.reduceAdd] at h
    refine jr_in (M := px_m63) (lev := 0) (L := [some (.ref 64)]) hd rfl jbd_63 (jl rfl) rfl (fun d hd Q' hQ' => ?_)
    refine jr_al_n (pc' := 1) rfl rfl rfl (jr_gr (pc' := 4) (r := 65) rfl rfl jlk_6_11 (.inl rfl) rfl hN jd_64 rfl rfl rfl (jr_ic (pc' := 5) rfl rfl ?_))
    refine jr_ia (pc' := 6) rfl rfl (jl rfl) hN jd_65 jn_65 jgc_1 h (fun hc h => ?_)
    exact jr_ret rfl hu rfl (hQ' _ _ (hQ (ja m 65 (1 : Int).toNat) jg_a h))

set_option maxRecDepth 20000 in
set_option maxHeartbeats 1000000 in
theorem jc_65 {X : Nat × (Nat → Int32)} {N d : Nat} {q : Nat} {x0 : Int} (hN : 102 ≤ N) (hd : 1 ≤ d) (hq : q = 0 ∨ q = 17) (hx0 : jg x0) {m : jm} {P : Int → Prop} {Q : px_Q} (h : jo (jf_65 q x0 m) P) (hQ : ∀ p : Int, jg p → P p → Q (.inl (some (jv p))) (jmem N m)) : px_C X d 65 [.ref (47 + q), jv x0] (jmem N m) Q := by
  unfold jf_65 at h
  rcases hq with rfl | rfl
  · have hu : ju px_m65 (0, 0) := ju_0
    try dsimp only [Nat.reduceAdd] at h
    refine jr_in (M := px_m65) (lev := 0) (L := [some (.ref 47), some (jv x0)]) hd rfl jbd_65 (jl rfl) rfl (fun d hd Q' hQ' => ?_)
    refine jr_al_n (pc' := 1) rfl rfl rfl (jr_gr (pc' := 4) (r := 48) rfl rfl jlk_6_11 (.inl rfl) rfl hN jd_47 rfl rfl rfl (jr_ic (pc' := 5) rfl rfl (jr_il_n (pc' := 6) rfl rfl rfl (jr_add (pc' := 7) rfl rfl ?_))))
    refine jr_ia (pc' := 8) rfl rfl (jl rfl) hN jd_48 jn_48 jg_w h (fun hc h => ?_)
    exact jr_ret rfl hu rfl (hQ' _ _ (hQ (ja m 48 (jw ((2 : Int) + x0)).toNat) jg_a h))
  · have hu : ju px_m65 (0, 0) := ju_0
    try dsimp only [Nat.reduceAdd] at h
    refine jr_in (M := px_m65) (lev := 0) (L := [some (.ref 64), some (jv x0)]) hd rfl jbd_65 (jl rfl) rfl (fun d hd Q' hQ' => ?_)
    refine jr_al_n (pc' := 1) rfl rfl rfl (jr_gr (pc' := 4) (r := 65) rfl rfl jlk_6_11 (.inl rfl) rfl hN jd_64 rfl rfl rfl (jr_ic (pc' := 5) rfl rfl (jr_il_n (pc' := 6) rfl rfl rfl (jr_add (pc' := 7) rfl rfl ?_))))
    refine jr_ia (pc' := 8) rfl rfl (jl rfl) hN jd_65 jn_65 jg_w h (fun hc h => ?_)
    exact jr_ret rfl hu rfl (hQ' _ _ (hQ (ja m 65 (jw ((2 : Int) + x0)).toNat) jg_a h))

set_option maxRecDepth 20000 in
set_option maxHeartbeats 1000000 in
theorem jc_66 {X : Nat × (Nat → Int32)} {N d : Nat} {q : Nat} {x0 : Int} (hN : 102 ≤ N) (hd : 1 ≤ d) (hq : q = 0 ∨ q = 17) (hx0 : jg x0) {m : jm} {P : Int → Prop} {Q : px_Q} (h : jo (jf_66 q x0 m) P) (hQ : ∀ p : Int, jg p → P p → Q (.inl (some (jv p))) (jmem N m)) : px_C X d 66 [.ref (47 + q), jv x0] (jmem N m) Q := by
  unfold jf_66 at h
  rcases hq with rfl | rfl
  · have hu : ju px_m66 (0, 0) := ju_0
    try dsimp only [Nat.reduceAdd] at h
    refine jr_in (M := px_m66) (lev := 0) (L := [some (.ref 47), some (jv x0)]) hd rfl jbd_66 (jl rfl) rfl (fun d hd Q' hQ' => ?_)
    refine jr_al_n (pc' := 1) rfl rfl rfl (jr_gr (pc' := 4) (r := 48) rfl rfl jlk_6_11 (.inl rfl) rfl hN jd_47 rfl rfl rfl (jr_bi (pc' := 6) rfl rfl rfl (jr_il_n (pc' := 7) rfl rfl rfl (jr_add (pc' := 8) rfl rfl ?_))))
    refine jr_ia (pc' := 9) rfl rfl (jl rfl) hN jd_48 jn_48 jg_w h (fun hc h => ?_)
    exact jr_ret rfl hu rfl (hQ' _ _ (hQ (ja m 48 (jw ((14 : Int) + x0)).toNat) jg_a h))
  · have hu : ju px_m66 (0, 0) := ju_0
    try dsimp only [Nat.reduceAdd] at h
    refine jr_in (M := px_m66) (lev := 0) (L := [some (.ref 64), some (jv x0)]) hd rfl jbd_66 (jl rfl) rfl (fun d hd Q' hQ' => ?_)
    refine jr_al_n (pc' := 1) rfl rfl rfl (jr_gr (pc' := 4) (r := 65) rfl rfl jlk_6_11 (.inl rfl) rfl hN jd_64 rfl rfl rfl (jr_bi (pc' := 6) rfl rfl rfl (jr_il_n (pc' := 7) rfl rfl rfl (jr_add (pc' := 8) rfl rfl ?_))))
    refine jr_ia (pc' := 9) rfl rfl (jl rfl) hN jd_65 jn_65 jg_w h (fun hc h => ?_)
    exact jr_ret rfl hu rfl (hQ' _ _ (hQ (ja m 65 (jw ((14 : Int) + x0)).toNat) jg_a h))

set_option maxRecDepth 20000 in
set_option maxHeartbeats 1000000 in
theorem jc_67 {X : Nat × (Nat → Int32)} {N d : Nat} {q : Nat} {x0 : Int} {x1 : Int} {x2 : Int} (hN : 102 ≤ N) (hd : 1 ≤ d) (hq : q = 0 ∨ q = 17) (hx0 : jg x0) (hx1 : jg x1) (hx2 : jg x2) {m : jm} {P : jm → Prop} {Q : px_Q} (h : jo (jf_67 q x0 x1 x2 m) P) (hQ : ∀ p : jm, True → P p → Q (.inl (none)) (jmem N p)) : px_C X d 67 [.ref (47 + q), jv x0, jv x1, jv x2] (jmem N m) Q := by
  unfold jf_67 at h
  rcases hq with rfl | rfl
  · have hu : ju px_m67 (0, 0) := ju_0
    try dsimp only [Nat.reduceAdd] at h
    refine jr_in (M := px_m67) (lev := 0) (L := [some (.ref 47), some (jv x0), some (jv x1), some (jv x2)]) hd rfl jbd_67 (jl rfl) rfl (fun d hd Q' hQ' => ?_)
    refine jr_al_n (pc' := 1) rfl rfl rfl (jr_gr (pc' := 4) (r := 49) rfl rfl jlk_6_17 (.inl rfl) rfl hN jd_47 rfl rfl rfl (jr_ic (pc' := 5) rfl rfl (jr_il_n (pc' := 6) rfl rfl rfl ?_)))
    refine jr_ist (pc' := 7) rfl rfl (jl rfl) hN jd_49 jn_49 jgc_0 h (fun hc h => ?_)
    refine jr_le h (fun m1 h => ?_)
    refine jr_al_n (pc' := 8) rfl rfl rfl (jr_gr (pc' := 11) (r := 49) rfl rfl jlk_6_17 (.inl rfl) rfl hN jd_47 rfl rfl rfl (jr_ic (pc' := 12) rfl rfl (jr_il_n (pc' := 13) rfl rfl rfl ?_)))
    refine jr_ist (pc' := 14) rfl rfl (jl rfl) hN jd_49 jn_49 jgc_1 h (fun hc h => ?_)
    refine jr_le h (fun m2 h => ?_)
    refine jr_al_n (pc' := 15) rfl rfl rfl (jr_gr (pc' := 18) (r := 49) rfl rfl jlk_6_17 (.inl rfl) rfl hN jd_47 rfl rfl rfl (jr_ic (pc' := 19) rfl rfl (jr_il_n (pc' := 20) rfl rfl rfl ?_)))
    refine jr_ist (pc' := 21) rfl rfl (jl rfl) hN jd_49 jn_49 jgc_5 h (fun hc h => ?_)
    refine jr_le h (fun m3 h => ?_)
    exact jr_rv rfl hu rfl (hQ' _ _ (hQ m3 trivial h))
  · have hu : ju px_m67 (0, 0) := ju_0
    try dsimp only [Nat.reduceAdd] at h
    refine jr_in (M := px_m67) (lev := 0) (L := [some (.ref 64), some (jv x0), some (jv x1), some (jv x2)]) hd rfl jbd_67 (jl rfl) rfl (fun d hd Q' hQ' => ?_)
    refine jr_al_n (pc' := 1) rfl rfl rfl (jr_gr (pc' := 4) (r := 66) rfl rfl jlk_6_17 (.inl rfl) rfl hN jd_64 rfl rfl rfl (jr_ic (pc' := 5) rfl rfl (jr_il_n (pc' := 6) rfl rfl rfl ?_)))
    refine jr_ist (pc' := 7) rfl rfl (jl rfl) hN jd_66 jn_66 jgc_0 h (fun hc h => ?_)
    refine jr_le h (fun m1 h => ?_)
    refine jr_al_n (pc' := 8) rfl rfl rfl (jr_gr (pc' := 11) (r := 66) rfl rfl jlk_6_17 (.inl rfl) rfl hN jd_64 rfl rfl rfl (jr_ic (pc' := 12) rfl rfl (jr_il_n (pc' := 13) rfl rfl rfl ?_)))
    refine jr_ist (pc' := 14) rfl rfl (jl rfl) hN jd_66 jn_66 jgc_1 h (fun hc h => ?_)
    refine jr_le h (fun m2 h => ?_)
    refine jr_al_n (pc' := 15) rfl rfl rfl (jr_gr (pc' := 18) (r := 66) rfl rfl jlk_6_17 (.inl rfl) rfl hN jd_64 rfl rfl rfl (jr_ic (pc' := 19) rfl rfl (jr_il_n (pc' := 20) rfl rfl rfl ?_)))
    refine jr_ist (pc' := 21) rfl rfl (jl rfl) hN jd_66 jn_66 jgc_5 h (fun hc h => ?_)
    refine jr_le h (fun m3 h => ?_)
    exact jr_rv rfl hu rfl (hQ' _ _ (hQ m3 trivial h))

set_option maxRecDepth 20000 in
set_option maxHeartbeats 1000000 in
theorem jc_68 {X : Nat × (Nat → Int32)} {N d : Nat} {q : Nat} {x0 : Int} (hN : 102 ≤ N) (hd : 1 ≤ d) (hq : q = 0 ∨ q = 17) (hx0 : jg x0) {m : jm} {P : Int → Prop} {Q : px_Q} (h : jo (jf_68 q x0 m) P) (hQ : ∀ p : Int, jg p → P p → Q (.inl (some (jv p))) (jmem N m)) : px_C X d 68 [.ref (47 + q), jv x0] (jmem N m) Q := by
  unfold jf_68 at h
  rcases hq with rfl | rfl
  · have hu : ju px_m68 (0, 0) := ju_0
    try dsimp only [Nat.reduceAdd] at h
    refine jr_in (M := px_m68) (lev := 0) (L := [some (.ref 47), some (jv x0)]) hd rfl jbd_68 (jl rfl) rfl (fun d hd Q' hQ' => ?_)
    refine jr_al_n (pc' := 1) rfl rfl rfl (jr_gr (pc' := 4) (r := 48) rfl rfl jlk_6_11 (.inl rfl) rfl hN jd_47 rfl rfl rfl (jr_bi (pc' := 6) rfl rfl rfl (jr_il_n (pc' := 7) rfl rfl rfl (jr_add (pc' := 8) rfl rfl ?_))))
    refine jr_ia (pc' := 9) rfl rfl (jl rfl) hN jd_48 jn_48 jg_w h (fun hc h => ?_)
    exact jr_ret rfl hu rfl (hQ' _ _ (hQ (ja m 48 (jw ((32 : Int) + x0)).toNat) jg_a h))
  · have hu : ju px_m68 (0, 0) := ju_0
    try dsimp only [Nat.reduceAdd] at h
    refine jr_in (M := px_m68) (lev := 0) (L := [some (.ref 64), some (jv x0)]) hd rfl jbd_68 (jl rfl) rfl (fun d hd Q' hQ' => ?_)
    refine jr_al_n (pc' := 1) rfl rfl rfl (jr_gr (pc' := 4) (r := 65) rfl rfl jlk_6_11 (.inl rfl) rfl hN jd_64 rfl rfl rfl (jr_bi (pc' := 6) rfl rfl rfl (jr_il_n (pc' := 7) rfl rfl rfl (jr_add (pc' := 8) rfl rfl ?_))))
    refine jr_ia (pc' := 9) rfl rfl (jl rfl) hN jd_65 jn_65 jg_w h (fun hc h => ?_)
    exact jr_ret rfl hu rfl (hQ' _ _ (hQ (ja m 65 (jw ((32 : Int) + x0)).toNat) jg_a h))

set_option maxRecDepth 20000 in
set_option maxHeartbeats 1000000 in
theorem jc_69 {X : Nat × (Nat → Int32)} {N d : Nat} {q : Nat} (hN : 102 ≤ N) (hd : 1 ≤ d) (hq : q = 0 ∨ q = 17) {m : jm} {P : Int → Prop} {Q : px_Q} (h : jo (jf_69 q m) P) (hQ : ∀ p : Int, jg p → P p → Q (.inl (some (jv p))) (jmem N m)) : px_C X d 69 [.ref (47 + q)] (jmem N m) Q := by
  unfold jf_69 at h
  rcases hq with rfl | rfl
  · have hu : ju px_m69 (0, 0) := ju_0
    try dsimp only [Nat.reduceAdd] at h
    refine jr_in (M := px_m69) (lev := 0) (L := [some (.ref 47)]) hd rfl jbd_69 (jl rfl) rfl (fun d hd Q' hQ' => ?_)
    refine jr_al_n (pc' := 1) rfl rfl rfl (jr_gr (pc' := 4) (r := 48) rfl rfl jlk_6_11 (.inl rfl) rfl hN jd_47 rfl rfl rfl (jr_ic (pc' := 5) rfl rfl ?_))
    refine jr_ia (pc' := 6) rfl rfl (jl rfl) hN jd_48 jn_48 jgc_0 h (fun hc h => ?_)
    exact jr_ret rfl hu rfl (hQ' _ _ (hQ (ja m 48 (0 : Int).toNat) jg_a h))
  · have hu : ju px_m69 (0, 0) := ju_0
    try dsimp only [Nat.reduceAdd] at h
    refine jr_in (M := px_m69) (lev := 0) (L := [some (.ref 64)]) hd rfl jbd_69 (jl rfl) rfl (fun d hd Q' hQ' => ?_)
    refine jr_al_n (pc' := 1) rfl rfl rfl (jr_gr (pc' := 4) (r := 65) rfl rfl jlk_6_11 (.inl rfl) rfl hN jd_64 rfl rfl rfl (jr_ic (pc' := 5) rfl rfl ?_))
    refine jr_ia (pc' := 6) rfl rfl (jl rfl) hN jd_65 jn_65 jgc_0 h (fun hc h => ?_)
    exact jr_ret rfl hu rfl (hQ' _ _ (hQ (ja m 65 (0 : Int).toNat) jg_a h))

set_option maxRecDepth 20000 in
set_option maxHeartbeats 1000000 in
theorem jc_70 {X : Nat × (Nat → Int32)} {N d : Nat} {q : Nat} {x0 : Int} {x1 : Int} {x2 : Int} (hN : 102 ≤ N) (hd : 1 ≤ d) (hq : q = 0 ∨ q = 17) (hx0 : jg x0) (hx1 : jg x1) (hx2 : jg x2) {m : jm} {P : jm → Prop} {Q : px_Q} (h : jo (jf_70 q x0 x1 x2 m) P) (hQ : ∀ p : jm, True → P p → Q (.inl (none)) (jmem N p)) : px_C X d 70 [.ref (47 + q), jv x0, jv x1, jv x2] (jmem N m) Q := by
  unfold jf_70 at h
  rcases hq with rfl | rfl
  · have hu : ju px_m70 (0, 0) := ju_0
    try dsimp only [Nat.reduceAdd] at h
    refine jr_in (M := px_m70) (lev := 0) (L := [some (.ref 47), some (jv x0), some (jv x1), some (jv x2)]) hd rfl jbd_70 (jl rfl) rfl (fun d hd Q' hQ' => ?_)
    refine jr_al_n (pc' := 1) rfl rfl rfl (jr_gr (pc' := 4) (r := 49) rfl rfl jlk_6_17 (.inl rfl) rfl hN jd_47 rfl rfl rfl (jr_bi (pc' := 6) rfl rfl rfl (jr_il_n (pc' := 7) rfl rfl rfl ?_)))
    refine jr_ist (pc' := 8) rfl rfl (jl rfl) hN jd_49 jn_49 jgc_6 h (fun hc h => ?_)
    refine jr_le h (fun m1 h => ?_)
    refine jr_al_n (pc' := 9) rfl rfl rfl (jr_gr (pc' := 12) (r := 49) rfl rfl jlk_6_17 (.inl rfl) rfl hN jd_47 rfl rfl rfl (jr_bi (pc' := 14) rfl rfl rfl (jr_il_n (pc' := 15) rfl rfl rfl ?_)))
    refine jr_ist (pc' := 16) rfl rfl (jl rfl) hN jd_49 jn_49 jgc_7 h (fun hc h => ?_)
    refine jr_le h (fun m2 h => ?_)
    refine jr_al_n (pc' := 17) rfl rfl rfl (jr_gr (pc' := 20) (r := 49) rfl rfl jlk_6_17 (.inl rfl) rfl hN jd_47 rfl rfl rfl (jr_bi (pc' := 22) rfl rfl rfl (jr_il_n (pc' := 23) rfl rfl rfl ?_)))
    refine jr_ist (pc' := 24) rfl rfl (jl rfl) hN jd_49 jn_49 jgc_8 h (fun hc h => ?_)
    refine jr_le h (fun m3 h => ?_)
    exact jr_rv rfl hu rfl (hQ' _ _ (hQ m3 trivial h))
  · have hu : ju px_m70 (0, 0) := ju_0
    try dsimp only [Nat.reduceAdd] at h
    refine jr_in (M := px_m70) (lev := 0) (L := [some (.ref 64), some (jv x0), some (jv x1), some (jv x2)]) hd rfl jbd_70 (jl rfl) rfl (fun d hd Q' hQ' => ?_)
    refine jr_al_n (pc' := 1) rfl rfl rfl (jr_gr (pc' := 4) (r := 66) rfl rfl jlk_6_17 (.inl rfl) rfl hN jd_64 rfl rfl rfl (jr_bi (pc' := 6) rfl rfl rfl (jr_il_n (pc' := 7) rfl rfl rfl ?_)))
    refine jr_ist (pc' := 8) rfl rfl (jl rfl) hN jd_66 jn_66 jgc_6 h (fun hc h => ?_)
    refine jr_le h (fun m1 h => ?_)
    refine jr_al_n (pc' := 9) rfl rfl rfl (jr_gr (pc' := 12) (r := 66) rfl rfl jlk_6_17 (.inl rfl) rfl hN jd_64 rfl rfl rfl (jr_bi (pc' := 14) rfl rfl rfl (jr_il_n (pc' := 15) rfl rfl rfl ?_)))
    refine jr_ist (pc' := 16) rfl rfl (jl rfl) hN jd_66 jn_66 jgc_7 h (fun hc h => ?_)
    refine jr_le h (fun m2 h => ?_)
    refine jr_al_n (pc' := 17) rfl rfl rfl (jr_gr (pc' := 20) (r := 66) rfl rfl jlk_6_17 (.inl rfl) rfl hN jd_64 rfl rfl rfl (jr_bi (pc' := 22) rfl rfl rfl (jr_il_n (pc' := 23) rfl rfl rfl ?_)))
    refine jr_ist (pc' := 24) rfl rfl (jl rfl) hN jd_66 jn_66 jgc_8 h (fun hc h => ?_)
    refine jr_le h (fun m3 h => ?_)
    exact jr_rv rfl hu rfl (hQ' _ _ (hQ m3 trivial h))

set_option maxRecDepth 20000 in
set_option maxHeartbeats 1000000 in
theorem jc_64 {X : Nat × (Nat → Int32)} {N d : Nat} {q : Nat} {x0 : Int} {x1 : Int} {x2 : Int} {x3 : Int} (hN : 102 ≤ N) (hd : 2 ≤ d) (hq : q = 0 ∨ q = 17) (hx0 : jg x0) (hx1 : jg x1) (hx2 : jg x2) (hx3 : jg x3) {m : jm} {P : jm → Prop} {Q : px_Q} (h : jo (jf_64 q x0 x1 x2 x3 m) P) (hQ : ∀ p : jm, True → P p → Q (.inl (none)) (jmem N p)) : px_C X d 64 [.ref (47 + q), jv x0, jv x1, jv x2, jv x3] (jmem N m) Q := by
  unfold jf_64 at h
  rcases hq with rfl | rfl
  · have hu : ju px_m64 (0, 0) := ju_0
    try dsimp only [Nat.reduceAdd] at h
    refine jr_in (M := px_m64) (lev := 1) (L := [some (.ref 47), some (jv x0), some (jv x1), some (jv x2), some (jv x3), none]) hd rfl jbd_64 (jl rfl) rfl (fun d hd Q' hQ' => ?_)
    refine jr_al_n (pc' := 1) rfl rfl rfl (jr_gr (pc' := 4) (r := 3) rfl rfl jlk_6_20 (.inl rfl) rfl hN jd_47 rfl rfl rfl (jr_gr (pc' := 7) (r := 4) rfl rfl jlk_6_85 (.inr rfl) rfl hN jd_3 rfl rfl rfl (jr_al_n (pc' := 8) rfl rfl rfl (jr_gr (pc' := 11) (r := 3) rfl rfl jlk_6_20 (.inl rfl) rfl hN jd_47 rfl rfl rfl (jr_gr (pc' := 14) (r := 6) rfl rfl jlk_6_88 (.inr rfl) rfl hN jd_3 rfl rfl rfl ?_)))))
    refine jr_il_n (pc' := 15) rfl rfl rfl ?_
    refine jr_ia (pc' := 16) rfl rfl (jl rfl) hN jd_6 jn_6 hx1 h (fun hc h => ?_)
    refine jr_ia (pc' := 17) rfl rfl (jl rfl) hN jd_4 jn_4 jg_a h (fun hc h => ?_)
    refine jr_al_n (pc' := 18) rfl rfl rfl (jr_gr (pc' := 21) (r := 3) rfl rfl jlk_6_20 (.inl rfl) rfl hN jd_47 rfl rfl rfl (jr_gr (pc' := 24) (r := 4) rfl rfl jlk_6_85 (.inr rfl) rfl hN jd_3 rfl rfl rfl (jr_al_n (pc' := 25) rfl rfl rfl (jr_gr (pc' := 28) (r := 3) rfl rfl jlk_6_20 (.inl rfl) rfl hN jd_47 rfl rfl rfl (jr_gr (pc' := 31) (r := 5) rfl rfl jlk_6_91 (.inr rfl) rfl hN jd_3 rfl rfl rfl ?_)))))
    refine jr_il_n (pc' := 32) rfl rfl rfl ?_
    refine jr_ia (pc' := 33) rfl rfl (jl rfl) hN jd_5 jn_5 hx1 h (fun hc h => ?_)
    refine jr_ia (pc' := 34) rfl rfl (jl rfl) hN jd_4 jn_4 jg_a h (fun hc h => ?_)
    refine jr_sub (pc' := 35) rfl rfl (jr_is (pc' := 37) (L' := [_, _, _, _, _, _]) rfl rfl (jl rfl) rfl rfl (jr_al_n (pc' := 38) rfl rfl rfl (jr_al_n (pc' := 39) rfl rfl rfl (jr_il_n (pc' := 40) rfl rfl rfl ?_))))
    refine jr_cv_p (pc' := 43) [_] rfl rfl jlk_6_94 jq_65 jbd_65 (jl rfl) rfl (jl rfl) hu rfl (jk rfl hN) (jd_47.trans jo_65.symm) (fun Q' hq => jc_65 hN (Nat.le_trans (jl rfl) hd) (.inl rfl) hx1 (jo_b h) hq) (fun p1 hp1 h => ?_)
    refine jr_il_n (pc' := 44) rfl rfl rfl ?_
    refine jr_reg (fun t2 => jg t2) (fun t2 => jp X (px_C X d) px_m64 Q' N 55 [some (.ref 47), some (jv x0), some (jv x1), some (jv x2), some (jv x3), some (jv (jw ((ja m 4 (ja m 6 x1.toNat).toNat) - (ja m 4 (ja m 5 x1.toNat).toNat))))] [(jv t2), (jv p1), (.ref 47)] m (0, 0)) h (fun t2 ht2 h => ?_) (fun R19 k3 h => ?_)
    · refine jr_al_n (pc' := 56) rfl rfl rfl (jr_il_n (pc' := 57) rfl rfl rfl ?_)
      refine jr_cv_p (pc' := 60) [_, _, _] rfl rfl jlk_6_78 jq_66 jbd_66 (jl rfl) rfl (jl rfl) hu rfl (jk rfl hN) (jd_47.trans jo_66.symm) (fun Q' hq => jc_66 hN (Nat.le_trans (jl rfl) hd) (.inl rfl) hx1 (jo_b h) hq) (fun p14 hp14 h => ?_)
      refine jr_cv_v (pc' := 63) [] rfl rfl jlk_6_97 jq_67 jbd_67 (jl rfl) rfl (jl rfl) hu rfl (jk rfl hN) (jd_47.trans jo_67.symm) (fun Q' hq => jc_67 hN (Nat.le_trans (jl rfl) hd) (.inl rfl) hp1 ht2 hp14 (jo_b h) hq) (fun p15 hp15 h => ?_)
      refine jr_al_n (pc' := 64) rfl rfl rfl (jr_il (pc' := 66) rfl rfl rfl (jr_al_n (pc' := 67) rfl rfl rfl (jr_il_n (pc' := 68) rfl rfl rfl ?_)))
      refine jr_cv_p (pc' := 71) [_, _] rfl rfl jlk_6_101 jq_68 jbd_68 (jl rfl) rfl (jl rfl) hu rfl (jk rfl hN) (jd_47.trans jo_68.symm) (fun Q' hq => jc_68 hN (Nat.le_trans (jl rfl) hd) (.inl rfl) hx0 (jo_b h) hq) (fun p16 hp16 h => ?_)
      refine jr_al_n (pc' := 72) rfl rfl rfl ?_
      refine jr_cv_p (pc' := 75) [_, _, _] rfl rfl jlk_6_104 jq_69 jbd_69 (jl rfl) rfl (jl rfl) hu rfl (jk rfl hN) (jd_47.trans jo_69.symm) (fun Q' hq => jc_69 hN (Nat.le_trans (jl rfl) hd) (.inl rfl) (jo_b h) hq) (fun p17 hp17 h => ?_)
      refine jr_cv_v (pc' := 78) [] rfl rfl jlk_6_108 jq_70 jbd_70 (jl rfl) rfl (jl rfl) hu rfl (jk rfl hN) (jd_47.trans jo_70.symm) (fun Q' hq => jc_70 hN (Nat.le_trans (jl rfl) hd) (.inl rfl) hx3 hp16 hp17 (jo_b h) hq) (fun p18 hp18 h => ?_)
      exact jr_rv rfl hu rfl (hQ' _ _ (hQ p18 trivial h))
    · refine jr_zne (pa := 47) (pb := 52) rfl rfl rfl hx2 h (fun hc h => ?_) (fun hc h => ?_)
      · refine jr_il (pc' := 49) rfl rfl rfl (jr_goto (pc' := 55) rfl rfl ?_)
        exact k3 (jw ((ja m 4 (ja m 6 x1.toNat).toNat) - (ja m 4 (ja m 5 x1.toNat).toNat))) jg_w h
      · refine jr_il (pc' := 54) rfl rfl rfl (jr_neg (pc' := 55) rfl rfl ?_)
        exact k3 (jw (-(jw ((ja m 4 (ja m 6 x1.toNat).toNat) - (ja m 4 (ja m 5 x1.toNat).toNat))))) jg_w h
  · have hu : ju px_m64 (0, 0) := ju_0
    try dsimp only [Nat.reduceAdd] at h
    refine jr_in (M := px_m64) (lev := 1) (L := [some (.ref 64), some (jv x0), some (jv x1), some (jv x2), some (jv x3), none]) hd rfl jbd_64 (jl rfl) rfl (fun d hd Q' hQ' => ?_)
    refine jr_al_n (pc' := 1) rfl rfl rfl (jr_gr (pc' := 4) (r := 3) rfl rfl jlk_6_20 (.inl rfl) rfl hN jd_64 rfl rfl rfl (jr_gr (pc' := 7) (r := 4) rfl rfl jlk_6_85 (.inr rfl) rfl hN jd_3 rfl rfl rfl (jr_al_n (pc' := 8) rfl rfl rfl (jr_gr (pc' := 11) (r := 3) rfl rfl jlk_6_20 (.inl rfl) rfl hN jd_64 rfl rfl rfl (jr_gr (pc' := 14) (r := 6) rfl rfl jlk_6_88 (.inr rfl) rfl hN jd_3 rfl rfl rfl ?_)))))
    refine jr_il_n (pc' := 15) rfl rfl rfl ?_
    refine jr_ia (pc' := 16) rfl rfl (jl rfl) hN jd_6 jn_6 hx1 h (fun hc h => ?_)
    refine jr_ia (pc' := 17) rfl rfl (jl rfl) hN jd_4 jn_4 jg_a h (fun hc h => ?_)
    refine jr_al_n (pc' := 18) rfl rfl rfl (jr_gr (pc' := 21) (r := 3) rfl rfl jlk_6_20 (.inl rfl) rfl hN jd_64 rfl rfl rfl (jr_gr (pc' := 24) (r := 4) rfl rfl jlk_6_85 (.inr rfl) rfl hN jd_3 rfl rfl rfl (jr_al_n (pc' := 25) rfl rfl rfl (jr_gr (pc' := 28) (r := 3) rfl rfl jlk_6_20 (.inl rfl) rfl hN jd_64 rfl rfl rfl (jr_gr (pc' := 31) (r := 5) rfl rfl jlk_6_91 (.inr rfl) rfl hN jd_3 rfl rfl rfl ?_)))))
    refine jr_il_n (pc' := 32) rfl rfl rfl ?_
    refine jr_ia (pc' := 33) rfl rfl (jl rfl) hN jd_5 jn_5 hx1 h (fun hc h => ?_)
    refine jr_ia (pc' := 34) rfl rfl (jl rfl) hN jd_4 jn_4 jg_a h (fun hc h => ?_)
    refine jr_sub (pc' := 35) rfl rfl (jr_is (pc' := 37) (L' := [_, _, _, _, _, _]) rfl rfl (jl rfl) rfl rfl (jr_al_n (pc' := 38) rfl rfl rfl (jr_al_n (pc' := 39) rfl rfl rfl (jr_il_n (pc' := 40) rfl rfl rfl ?_))))
    refine jr_cv_p (pc' := 43) [_] rfl rfl jlk_6_94 jq_65 jbd_65 (jl rfl) rfl (jl rfl) hu rfl (jk rfl hN) (jd_64.trans jo_65.symm) (fun Q' hq => jc_65 hN (Nat.le_trans (jl rfl) hd) (.inr rfl) hx1 (jo_b h) hq) (fun p1 hp1 h => ?_)
    refine jr_il_n (pc' := 44) rfl rfl rfl ?_
    refine jr_reg (fun t2 => jg t2) (fun t2 => jp X (px_C X d) px_m64 Q' N 55 [some (.ref 64), some (jv x0), some (jv x1), some (jv x2), some (jv x3), some (jv (jw ((ja m 4 (ja m 6 x1.toNat).toNat) - (ja m 4 (ja m 5 x1.toNat).toNat))))] [(jv t2), (jv p1), (.ref 64)] m (0, 0)) h (fun t2 ht2 h => ?_) (fun R19 k3 h => ?_)
    · refine jr_al_n (pc' := 56) rfl rfl rfl (jr_il_n (pc' := 57) rfl rfl rfl ?_)
      refine jr_cv_p (pc' := 60) [_, _, _] rfl rfl jlk_6_78 jq_66 jbd_66 (jl rfl) rfl (jl rfl) hu rfl (jk rfl hN) (jd_64.trans jo_66.symm) (fun Q' hq => jc_66 hN (Nat.le_trans (jl rfl) hd) (.inr rfl) hx1 (jo_b h) hq) (fun p14 hp14 h => ?_)
      refine jr_cv_v (pc' := 63) [] rfl rfl jlk_6_97 jq_67 jbd_67 (jl rfl) rfl (jl rfl) hu rfl (jk rfl hN) (jd_64.trans jo_67.symm) (fun Q' hq => jc_67 hN (Nat.le_trans (jl rfl) hd) (.inr rfl) hp1 ht2 hp14 (jo_b h) hq) (fun p15 hp15 h => ?_)
      refine jr_al_n (pc' := 64) rfl rfl rfl (jr_il (pc' := 66) rfl rfl rfl (jr_al_n (pc' := 67) rfl rfl rfl (jr_il_n (pc' := 68) rfl rfl rfl ?_)))
      refine jr_cv_p (pc' := 71) [_, _] rfl rfl jlk_6_101 jq_68 jbd_68 (jl rfl) rfl (jl rfl) hu rfl (jk rfl hN) (jd_64.trans jo_68.symm) (fun Q' hq => jc_68 hN (Nat.le_trans (jl rfl) hd) (.inr rfl) hx0 (jo_b h) hq) (fun p16 hp16 h => ?_)
      refine jr_al_n (pc' := 72) rfl rfl rfl ?_
      refine jr_cv_p (pc' := 75) [_, _, _] rfl rfl jlk_6_104 jq_69 jbd_69 (jl rfl) rfl (jl rfl) hu rfl (jk rfl hN) (jd_64.trans jo_69.symm) (fun Q' hq => jc_69 hN (Nat.le_trans (jl rfl) hd) (.inr rfl) (jo_b h) hq) (fun p17 hp17 h => ?_)
      refine jr_cv_v (pc' := 78) [] rfl rfl jlk_6_108 jq_70 jbd_70 (jl rfl) rfl (jl rfl) hu rfl (jk rfl hN) (jd_64.trans jo_70.symm) (fun Q' hq => jc_70 hN (Nat.le_trans (jl rfl) hd) (.inr rfl) hx3 hp16 hp17 (jo_b h) hq) (fun p18 hp18 h => ?_)
      exact jr_rv rfl hu rfl (hQ' _ _ (hQ p18 trivial h))
    · refine jr_zne (pa := 47) (pb := 52) rfl rfl rfl hx2 h (fun hc h => ?_) (fun hc h => ?_)
      · refine jr_il (pc' := 49) rfl rfl rfl (jr_goto (pc' := 55) rfl rfl ?_)
        exact k3 (jw ((ja m 4 (ja m 6 x1.toNat).toNat) - (ja m 4 (ja m 5 x1.toNat).toNat))) jg_w h
      · refine jr_il (pc' := 54) rfl rfl rfl (jr_neg (pc' := 55) rfl rfl ?_)
        exact k3 (jw (-(jw ((ja m 4 (ja m 6 x1.toNat).toNat) - (ja m 4 (ja m 5 x1.toNat).toNat))))) jg_w h

set_option maxRecDepth 20000 in
set_option maxHeartbeats 1000000 in
theorem jc_72 {X : Nat × (Nat → Int32)} {N d : Nat} {q : Nat} {x0 : Int} {x1 : Int} {x2 : Int} (hN : 102 ≤ N) (hd : 1 ≤ d) (hq : q = 0 ∨ q = 17) (hx0 : jg x0) (hx1 : jg x1) (hx2 : jg x2) {m : jm} {P : jm → Prop} {Q : px_Q} (h : jo (jf_72 q x0 x1 x2 m) P) (hQ : ∀ p : jm, True → P p → Q (.inl (none)) (jmem N p)) : px_C X d 72 [.ref (47 + q), jv x0, jv x1, jv x2] (jmem N m) Q := by
  unfold jf_72 at h
  rcases hq with rfl | rfl
  · have hu : ju px_m72 (0, 0) := ju_0
    try dsimp only [Nat.reduceAdd] at h
    refine jr_in (M := px_m72) (lev := 0) (L := [some (.ref 47), some (jv x0), some (jv x1), some (jv x2)]) hd rfl jbd_72 (jl rfl) rfl (fun d hd Q' hQ' => ?_)
    refine jr_al_n (pc' := 1) rfl rfl rfl (jr_gr (pc' := 4) (r := 49) rfl rfl jlk_6_17 (.inl rfl) rfl hN jd_47 rfl rfl rfl (jr_ic (pc' := 5) rfl rfl (jr_il_n (pc' := 6) rfl rfl rfl ?_)))
    refine jr_ist (pc' := 7) rfl rfl (jl rfl) hN jd_49 jn_49 jgc_2 h (fun hc h => ?_)
    refine jr_le h (fun m1 h => ?_)
    refine jr_al_n (pc' := 8) rfl rfl rfl (jr_gr (pc' := 11) (r := 49) rfl rfl jlk_6_17 (.inl rfl) rfl hN jd_47 rfl rfl rfl (jr_ic (pc' := 12) rfl rfl (jr_il_n (pc' := 13) rfl rfl rfl ?_)))
    refine jr_ist (pc' := 14) rfl rfl (jl rfl) hN jd_49 jn_49 jgc_3 h (fun hc h => ?_)
    refine jr_le h (fun m2 h => ?_)
    refine jr_al_n (pc' := 15) rfl rfl rfl (jr_gr (pc' := 18) (r := 49) rfl rfl jlk_6_17 (.inl rfl) rfl hN jd_47 rfl rfl rfl (jr_ic (pc' := 19) rfl rfl (jr_il_n (pc' := 20) rfl rfl rfl ?_)))
    refine jr_ist (pc' := 21) rfl rfl (jl rfl) hN jd_49 jn_49 jgc_4 h (fun hc h => ?_)
    refine jr_le h (fun m3 h => ?_)
    exact jr_rv rfl hu rfl (hQ' _ _ (hQ m3 trivial h))
  · have hu : ju px_m72 (0, 0) := ju_0
    try dsimp only [Nat.reduceAdd] at h
    refine jr_in (M := px_m72) (lev := 0) (L := [some (.ref 64), some (jv x0), some (jv x1), some (jv x2)]) hd rfl jbd_72 (jl rfl) rfl (fun d hd Q' hQ' => ?_)
    refine jr_al_n (pc' := 1) rfl rfl rfl (jr_gr (pc' := 4) (r := 66) rfl rfl jlk_6_17 (.inl rfl) rfl hN jd_64 rfl rfl rfl (jr_ic (pc' := 5) rfl rfl (jr_il_n (pc' := 6) rfl rfl rfl ?_)))
    refine jr_ist (pc' := 7) rfl rfl (jl rfl) hN jd_66 jn_66 jgc_2 h (fun hc h => ?_)
    refine jr_le h (fun m1 h => ?_)
    refine jr_al_n (pc' := 8) rfl rfl rfl (jr_gr (pc' := 11) (r := 66) rfl rfl jlk_6_17 (.inl rfl) rfl hN jd_64 rfl rfl rfl (jr_ic (pc' := 12) rfl rfl (jr_il_n (pc' := 13) rfl rfl rfl ?_)))
    refine jr_ist (pc' := 14) rfl rfl (jl rfl) hN jd_66 jn_66 jgc_3 h (fun hc h => ?_)
    refine jr_le h (fun m2 h => ?_)
    refine jr_al_n (pc' := 15) rfl rfl rfl (jr_gr (pc' := 18) (r := 66) rfl rfl jlk_6_17 (.inl rfl) rfl hN jd_64 rfl rfl rfl (jr_ic (pc' := 19) rfl rfl (jr_il_n (pc' := 20) rfl rfl rfl ?_)))
    refine jr_ist (pc' := 21) rfl rfl (jl rfl) hN jd_66 jn_66 jgc_4 h (fun hc h => ?_)
    refine jr_le h (fun m3 h => ?_)
    exact jr_rv rfl hu rfl (hQ' _ _ (hQ m3 trivial h))

set_option maxRecDepth 20000 in
set_option maxHeartbeats 1000000 in
theorem jc_24 {X : Nat × (Nat → Int32)} {N d : Nat} {x0 : Int} {x1 : Int} {x2 : Int} (hN : 102 ≤ N) (hd : 1 ≤ d) (hx0 : jg x0) (hx1 : jg x1) (hx2 : jg x2) {m : jm} {P : Int → Prop} {Q : px_Q} (h : jo (jf_24 x0 x1 x2 m) P) (hQ : ∀ p : Int, jg p → P p → Q (.inl (some (jv p))) (jmem N m)) : px_C X d 24 [jv x0, jv x1, jv x2] (jmem N m) Q := by
  unfold jf_24 at h
  have hu : ju px_m24 (0, 0) := ju_0
  refine jr_in (M := px_m24) (lev := 0) (L := [some (jv x0), some (jv x1), some (jv x2)]) hd rfl jbd_24 (jl rfl) rfl (fun d hd Q' hQ' => ?_)
  refine jr_il_n (pc' := 1) rfl rfl rfl ?_
  refine jo_i h (fun hc h => ?_) (fun hc0 h => ?_)
  · refine jr_tsc (pc' := 36) (2000) rfl hx0 hc (by decide) rfl rfl (jr_il_n (pc' := 37) rfl rfl rfl (jr_il_n (pc' := 38) rfl rfl rfl (jr_add (pc' := 39) rfl rfl ?_)))
    exact jr_ret rfl hu rfl (hQ' _ _ (hQ (jw (x1 + x2)) jg_w h))
  · refine jo_i h (fun hc h => ?_) (fun hc1 h => ?_)
    · refine jr_tsc (pc' := 40) (2001) rfl hx0 hc (by decide) rfl rfl (jr_il_n (pc' := 41) rfl rfl rfl (jr_il_n (pc' := 42) rfl rfl rfl (jr_sub (pc' := 43) rfl rfl ?_)))
      exact jr_ret rfl hu rfl (hQ' _ _ (hQ (jw (x1 - x2)) jg_w h))
    · refine jo_i h (fun hc h => ?_) (fun hc2 h => ?_)
      · refine jr_tsc (pc' := 44) (2002) rfl hx0 hc (by decide) rfl rfl (jr_il_n (pc' := 45) rfl rfl rfl (jr_il_n (pc' := 46) rfl rfl rfl (jr_mul (pc' := 47) rfl rfl ?_)))
        exact jr_ret rfl hu rfl (hQ' _ _ (hQ (jw (x1 * x2)) jg_w h))
      · refine jo_i h (fun hc h => ?_) (fun hc3 h => ?_)
        · refine jr_tsc (pc' := 48) (2003) rfl hx0 hc (by decide) rfl rfl (jr_il_n (pc' := 49) rfl rfl rfl ?_)
          refine jr_reg (fun t1 => jg t1) (fun t1 => jp X (px_C X d) px_m24 Q' N 59 [some (jv x0), some (jv x1), some (jv x2)] [(jv t1)] m (0, 0)) h (fun t1 ht1 h => ?_) (fun R13 k2 h => ?_)
          · exact jr_ret rfl hu rfl (hQ' _ _ (hQ t1 ht1 h))
          · refine jr_zne (pa := 52) (pb := 56) rfl rfl rfl hx2 h (fun hc h => ?_) (fun hc h => ?_)
            · refine jr_ic (pc' := 53) rfl rfl (jr_goto (pc' := 59) rfl rfl ?_)
              exact k2 ((0 : Int)) jgc_0 h
            · refine jr_il_n (pc' := 57) rfl rfl rfl (jr_il_n (pc' := 58) rfl rfl rfl ?_)
              refine jo_w0 h (fun hc h => jr_div (pc' := 59) rfl rfl hx2 hc ?_)
              exact k2 (jdiv x1 x2) jg_div h
        · refine jo_i h (fun hc h => ?_) (fun hc4 h => ?_)
          · refine jr_tsc (pc' := 60) (2004) rfl hx0 hc (by decide) rfl rfl (jr_il_n (pc' := 61) rfl rfl rfl (jr_il_n (pc' := 62) rfl rfl rfl (jr_min (pc' := 65) rfl rfl jlk_2_93 (jl rfl) hu hx1 hx2 ?_)))
            exact jr_ret rfl hu rfl (hQ' _ _ (hQ (jmin x1 x2) (jg_min hx1 hx2) h))
          · refine jr_tsd (pc' := 66) rfl hx0 (by omega) rfl (jr_il_n (pc' := 67) rfl rfl rfl (jr_il_n (pc' := 68) rfl rfl rfl (jr_max (pc' := 71) rfl rfl jlk_2_98 (jl rfl) hu hx1 hx2 ?_)))
            exact jr_ret rfl hu rfl (hQ' _ _ (hQ (jmax x1 x2) (jg_max hx1 hx2) h))

set_option maxRecDepth 20000 in
set_option maxHeartbeats 1000000 in
theorem jc_23 {X : Nat × (Nat → Int32)} {N d : Nat} {q : Nat} (hN : 102 ≤ N) (hd : 2 ≤ d) (hq : q = 0 ∨ q = 17) {m : jm} {P : Int × jm → Prop} {Q : px_Q} (h : jo (jf_23 q m) P) (hQ : ∀ p : Int × jm, jg p.1 → P p → Q (.inl (some (jv p.1))) (jmem N p.2)) : px_C X d 23 [.ref 27, .ref (49 + q)] (jmem N m) Q := by
  unfold jf_23 at h
  rcases hq with rfl | rfl
  · have hu : ju px_m23 (0, 0) := ju_0
    try dsimp only [Nat.reduceAdd] at h
    refine jr_in (M := px_m23) (lev := 1) (L := [some (.ref 27), some (.ref 49), none, none, none]) hd rfl jbd_23 (jl rfl) rfl (fun d hd Q' hQ' => ?_)
    refine jr_ic (pc' := 1) rfl rfl (jr_is_n (pc' := 2) (L' := [_, _, _, _, _]) rfl rfl (jl rfl) rfl rfl (jr_ic (pc' := 3) rfl rfl (jr_is_n (pc' := 4) (L' := [_, _, _, _, _]) rfl rfl (jl rfl) rfl rfl ?_)))
    refine jr_reg (fun t5 => jg t5.1) (fun t5 => ∀ o6, jn o6 → ∀ o7, jn o7 → jp X (px_C X d) px_m23 Q' N 111 [some (.ref 27), some (.ref 49), some (jv t5.1), o6, o7] [] t5.2 (0, 0)) h (fun t5 ht5 h o6 ho6 o7 ho7 => ?_) (fun R9 k8 h => ?_)
    · refine jr_il_n (pc' := 112) rfl rfl rfl ?_
      refine jr_reg (fun t49 => jg t49) (fun t49 => jp X (px_C X d) px_m23 Q' N 125 [some (.ref 27), some (.ref 49), some (jv t5.1), o6, o7] [(jv t49)] t5.2 (0, 0)) h (fun t49 ht49 h => ?_) (fun R61 k50 h => ?_)
      · refine jr_is_n (pc' := 126) (L' := [_, _, _, _, _]) rfl rfl (jl rfl) rfl rfl (jr_bi (pc' := 128) rfl rfl rfl (jr_bi (pc' := 130) rfl rfl rfl (jr_il_n (pc' := 131) rfl rfl rfl (jr_min (pc' := 134) rfl rfl jlk_2_93 (jl rfl) hu jgc_99 ht49 (jr_max (pc' := 137) rfl rfl jlk_2_98 (jl rfl) hu jgc_m99 (jg_min jgc_99 ht49) ?_)))))
        exact jr_ret rfl hu rfl (hQ' _ _ (hQ (jmax (-99 : Int) (jmin (99 : Int) t49), t5.2) (jg_max jgc_m99 (jg_min jgc_99 ht49)) h))
      · refine jr_zle (pa := 115) (pb := 124) rfl rfl rfl ht5 h (fun hc h => ?_) (fun hc h => ?_)
        · refine jr_al_n (pc' := 116) rfl rfl rfl (jr_gr (pc' := 119) (r := 29) rfl rfl jlk_2_22 (.inl rfl) rfl hN jd_27 rfl rfl rfl (jr_ic (pc' := 120) rfl rfl ?_))
          refine jr_ia (pc' := 121) rfl rfl (jl rfl) hN jd_29 jn_29 jgc_0 h (fun hc h => ?_)
          refine jr_goto (pc' := 125) rfl rfl ?_
          exact k50 (ja t5.2 29 (0 : Int).toNat) jg_a h
        · refine jr_ic (pc' := 125) rfl rfl ?_
          exact k50 ((0 : Int)) jgc_0 h
    · refine jr_lp (fun s1 => jg s1.1 ∧ jg s1.2.1) (fun s1 => ∀ o2, jn o2 → jp X (px_C X d) px_m23 Q' N 4 [some (.ref 27), some (.ref 49), some (jv s1.1), some (jv s1.2.1), o2] [] s1.2.2 (0, 0)) h ⟨jgc_0, jgc_0⟩ (fun s1 hs1 R4 k3 h o2 ho2 => ?_) _ jn_n
      refine jr_il_n (pc' := 5) rfl rfl rfl (jr_al_n (pc' := 6) rfl rfl rfl (jr_gi (pc' := 9) rfl rfl jlk_2_18 (.inl rfl) rfl hN jd_27 rfl rfl ?_))
      refine jr_cge (pa := 12) (pb := 111) rfl rfl rfl hs1.2 jg_a h (fun hc h => ?_) (fun hc h => ?_)
      · refine jr_al_n (pc' := 13) rfl rfl rfl (jr_gr (pc' := 16) (r := 28) rfl rfl jlk_2_9 (.inl rfl) rfl hN jd_27 rfl rfl rfl (jr_il_n (pc' := 17) rfl rfl rfl ?_))
        refine jr_ia (pc' := 18) rfl rfl (jl rfl) hN jd_28 jn_28 hs1.2 h (fun hc h => ?_)
        refine jr_is (pc' := 20) (L' := [_, _, _, _, _]) rfl rfl (jl rfl) rfl rfl (jr_il (pc' := 22) rfl rfl rfl (jr_si (pc' := 25) rfl rfl rfl ?_))
        refine jr_reg (fun t10 => jg t10.1) (fun t10 => jp X (px_C X d) px_m23 Q' N 105 [some (.ref 27), some (.ref 49), some (jv t10.1), some (jv s1.2.1), some (jv (ja s1.2.2 28 s1.2.1.toNat))] [] t10.2 (0, 0)) h (fun t10 ht10 h => ?_) (fun R38 k11 h => ?_)
        · refine jr_inc (pc' := 108) (L' := [_, _, _, _, _]) rfl rfl rfl (jl rfl) rfl rfl (jr_goto (pc' := 4) rfl rfl ?_)
          exact k3 (t10.1, jw (s1.2.1 + 1), t10.2) ⟨ht10, jg_w⟩ h _ jn_i
        · refine jr_clt (pa := 66) (pb := 28) rfl rfl rfl jg_a jgc_2000 h (fun hc h => ?_) (fun hc h => ?_)
          · refine jr_il_n (pc' := 67) rfl rfl rfl (jr_al_n (pc' := 68) rfl rfl rfl (jr_gr (pc' := 71) (r := 29) rfl rfl jlk_2_22 (.inl rfl) rfl hN jd_27 rfl rfl rfl (jr_len (pc' := 72) (b := 21) rfl rfl (jl rfl) hN jd_29 jn_29 ?_)))
            refine jr_cge (pa := 75) (pb := 105) rfl rfl rfl hs1.1 jgc_21 h (fun hc h => ?_) (fun hc h => ?_)
            · refine jr_al_n (pc' := 76) rfl rfl rfl (jr_gr (pc' := 79) (r := 29) rfl rfl jlk_2_22 (.inl rfl) rfl hN jd_27 rfl rfl rfl (jr_il_n (pc' := 80) rfl rfl rfl (jr_il (pc' := 82) rfl rfl rfl (jr_si (pc' := 85) rfl rfl rfl ?_))))
              refine jr_reg (fun t12 => jg t12) (fun t12 => jp X (px_C X d) px_m23 Q' N 101 [some (.ref 27), some (.ref 49), some (jv s1.1), some (jv s1.2.1), some (jv (ja s1.2.2 28 s1.2.1.toNat))] [(jv t12), (jv s1.1), (.ref 29)] s1.2.2 (0, 0)) h (fun t12 ht12 h => ?_) (fun R25 k13 h => ?_)
              · refine jr_ist (pc' := 102) rfl rfl (jl rfl) hN jd_29 jn_29 hs1.1 h (fun hc h => ?_)
                refine jr_le h (fun m24 h => ?_)
                refine jr_inc (pc' := 105) (L' := [_, _, _, _, _]) rfl rfl rfl (jl rfl) rfl rfl ?_
                exact k11 (jw (s1.1 + 1), m24) jg_w h
              · refine jr_cge (pa := 88) (pb := 93) rfl rfl rfl jg_a jgc_1000 h (fun hc h => ?_) (fun hc h => ?_)
                · refine jr_il (pc' := 90) rfl rfl rfl (jr_goto (pc' := 101) rfl rfl ?_)
                  exact k13 (ja s1.2.2 28 s1.2.1.toNat) jg_a h
                · refine jr_al_n (pc' := 94) rfl rfl rfl (jr_il (pc' := 96) rfl rfl rfl (jr_si (pc' := 99) rfl rfl rfl (jr_sub (pc' := 100) rfl rfl ?_)))
                  refine jr_ia (pc' := 101) rfl rfl (jl rfl) hN jd_49 jn_49 jg_w h (fun hc h => ?_)
                  exact k13 (ja s1.2.2 49 (jw ((ja s1.2.2 28 s1.2.1.toNat) - (1000 : Int))).toNat) jg_a h
            · exact k11 (s1.1, s1.2.2) hs1.1 h
          · refine jr_il_n (pc' := 29) rfl rfl rfl (jr_ic (pc' := 30) rfl rfl ?_)
            refine jr_clt (pa := 105) (pb := 33) rfl rfl rfl hs1.1 jgc_2 h (fun hc h => ?_) (fun hc h => ?_)
            · exact k11 (s1.1, s1.2.2) hs1.1 h
            · refine jr_inc (pc' := 36) (L' := [_, _, _, _, _]) rfl rfl rfl (jl rfl) rfl rfl (jr_al_n (pc' := 37) rfl rfl rfl (jr_gr (pc' := 40) (r := 29) rfl rfl jlk_2_22 (.inl rfl) rfl hN jd_27 rfl rfl rfl (jr_il_n (pc' := 41) rfl rfl rfl (jr_ic (pc' := 42) rfl rfl (jr_sub (pc' := 43) rfl rfl ?_)))))
              refine jr_il (pc' := 45) rfl rfl rfl (jr_al_n (pc' := 46) rfl rfl rfl (jr_gr (pc' := 49) (r := 29) rfl rfl jlk_2_22 (.inl rfl) rfl hN jd_27 rfl rfl rfl (jr_il_n (pc' := 50) rfl rfl rfl (jr_ic (pc' := 51) rfl rfl (jr_sub (pc' := 52) rfl rfl ?_)))))
              refine jr_ia (pc' := 53) rfl rfl (jl rfl) hN jd_29 jn_29 jg_w h (fun hc h => ?_)
              refine jr_al_n (pc' := 54) rfl rfl rfl (jr_gr (pc' := 57) (r := 29) rfl rfl jlk_2_22 (.inl rfl) rfl hN jd_27 rfl rfl rfl (jr_il_n (pc' := 58) rfl rfl rfl ?_))
              refine jr_ia (pc' := 59) rfl rfl (jl rfl) hN jd_29 jn_29 jg_w h (fun hc h => ?_)
              refine jr_cs_p (pc' := 62) [_, _] rfl rfl jlk_2_89 jq_24 jbd_24 (jl rfl) rfl (jl rfl) hu (fun Q' hq => jc_24 hN (Nat.le_trans (jl rfl) hd) jg_a jg_a jg_a (jo_b h) hq) (fun p26 hp26 h => ?_)
              refine jr_ist (pc' := 63) rfl rfl (jl rfl) hN jd_29 jn_29 jg_w h (fun hc h => ?_)
              refine jr_le h (fun m27 h => ?_)
              refine jr_goto (pc' := 105) rfl rfl ?_
              exact k11 (jw (s1.1 + (-1)), m27) jg_w h
      · exact k8 (s1.1, s1.2.2) hs1.1 h _ jn_i _ ho2
  · have hu : ju px_m23 (0, 0) := ju_0
    try dsimp only [Nat.reduceAdd] at h
    refine jr_in (M := px_m23) (lev := 1) (L := [some (.ref 27), some (.ref 66), none, none, none]) hd rfl jbd_23 (jl rfl) rfl (fun d hd Q' hQ' => ?_)
    refine jr_ic (pc' := 1) rfl rfl (jr_is_n (pc' := 2) (L' := [_, _, _, _, _]) rfl rfl (jl rfl) rfl rfl (jr_ic (pc' := 3) rfl rfl (jr_is_n (pc' := 4) (L' := [_, _, _, _, _]) rfl rfl (jl rfl) rfl rfl ?_)))
    refine jr_reg (fun t5 => jg t5.1) (fun t5 => ∀ o6, jn o6 → ∀ o7, jn o7 → jp X (px_C X d) px_m23 Q' N 111 [some (.ref 27), some (.ref 66), some (jv t5.1), o6, o7] [] t5.2 (0, 0)) h (fun t5 ht5 h o6 ho6 o7 ho7 => ?_) (fun R9 k8 h => ?_)
    · refine jr_il_n (pc' := 112) rfl rfl rfl ?_
      refine jr_reg (fun t49 => jg t49) (fun t49 => jp X (px_C X d) px_m23 Q' N 125 [some (.ref 27), some (.ref 66), some (jv t5.1), o6, o7] [(jv t49)] t5.2 (0, 0)) h (fun t49 ht49 h => ?_) (fun R61 k50 h => ?_)
      · refine jr_is_n (pc' := 126) (L' := [_, _, _, _, _]) rfl rfl (jl rfl) rfl rfl (jr_bi (pc' := 128) rfl rfl rfl (jr_bi (pc' := 130) rfl rfl rfl (jr_il_n (pc' := 131) rfl rfl rfl (jr_min (pc' := 134) rfl rfl jlk_2_93 (jl rfl) hu jgc_99 ht49 (jr_max (pc' := 137) rfl rfl jlk_2_98 (jl rfl) hu jgc_m99 (jg_min jgc_99 ht49) ?_)))))
        exact jr_ret rfl hu rfl (hQ' _ _ (hQ (jmax (-99 : Int) (jmin (99 : Int) t49), t5.2) (jg_max jgc_m99 (jg_min jgc_99 ht49)) h))
      · refine jr_zle (pa := 115) (pb := 124) rfl rfl rfl ht5 h (fun hc h => ?_) (fun hc h => ?_)
        · refine jr_al_n (pc' := 116) rfl rfl rfl (jr_gr (pc' := 119) (r := 29) rfl rfl jlk_2_22 (.inl rfl) rfl hN jd_27 rfl rfl rfl (jr_ic (pc' := 120) rfl rfl ?_))
          refine jr_ia (pc' := 121) rfl rfl (jl rfl) hN jd_29 jn_29 jgc_0 h (fun hc h => ?_)
          refine jr_goto (pc' := 125) rfl rfl ?_
          exact k50 (ja t5.2 29 (0 : Int).toNat) jg_a h
        · refine jr_ic (pc' := 125) rfl rfl ?_
          exact k50 ((0 : Int)) jgc_0 h
    · refine jr_lp (fun s1 => jg s1.1 ∧ jg s1.2.1) (fun s1 => ∀ o2, jn o2 → jp X (px_C X d) px_m23 Q' N 4 [some (.ref 27), some (.ref 66), some (jv s1.1), some (jv s1.2.1), o2] [] s1.2.2 (0, 0)) h ⟨jgc_0, jgc_0⟩ (fun s1 hs1 R4 k3 h o2 ho2 => ?_) _ jn_n
      refine jr_il_n (pc' := 5) rfl rfl rfl (jr_al_n (pc' := 6) rfl rfl rfl (jr_gi (pc' := 9) rfl rfl jlk_2_18 (.inl rfl) rfl hN jd_27 rfl rfl ?_))
      refine jr_cge (pa := 12) (pb := 111) rfl rfl rfl hs1.2 jg_a h (fun hc h => ?_) (fun hc h => ?_)
      · refine jr_al_n (pc' := 13) rfl rfl rfl (jr_gr (pc' := 16) (r := 28) rfl rfl jlk_2_9 (.inl rfl) rfl hN jd_27 rfl rfl rfl (jr_il_n (pc' := 17) rfl rfl rfl ?_))
        refine jr_ia (pc' := 18) rfl rfl (jl rfl) hN jd_28 jn_28 hs1.2 h (fun hc h => ?_)
        refine jr_is (pc' := 20) (L' := [_, _, _, _, _]) rfl rfl (jl rfl) rfl rfl (jr_il (pc' := 22) rfl rfl rfl (jr_si (pc' := 25) rfl rfl rfl ?_))
        refine jr_reg (fun t10 => jg t10.1) (fun t10 => jp X (px_C X d) px_m23 Q' N 105 [some (.ref 27), some (.ref 66), some (jv t10.1), some (jv s1.2.1), some (jv (ja s1.2.2 28 s1.2.1.toNat))] [] t10.2 (0, 0)) h (fun t10 ht10 h => ?_) (fun R38 k11 h => ?_)
        · refine jr_inc (pc' := 108) (L' := [_, _, _, _, _]) rfl rfl rfl (jl rfl) rfl rfl (jr_goto (pc' := 4) rfl rfl ?_)
          exact k3 (t10.1, jw (s1.2.1 + 1), t10.2) ⟨ht10, jg_w⟩ h _ jn_i
        · refine jr_clt (pa := 66) (pb := 28) rfl rfl rfl jg_a jgc_2000 h (fun hc h => ?_) (fun hc h => ?_)
          · refine jr_il_n (pc' := 67) rfl rfl rfl (jr_al_n (pc' := 68) rfl rfl rfl (jr_gr (pc' := 71) (r := 29) rfl rfl jlk_2_22 (.inl rfl) rfl hN jd_27 rfl rfl rfl (jr_len (pc' := 72) (b := 21) rfl rfl (jl rfl) hN jd_29 jn_29 ?_)))
            refine jr_cge (pa := 75) (pb := 105) rfl rfl rfl hs1.1 jgc_21 h (fun hc h => ?_) (fun hc h => ?_)
            · refine jr_al_n (pc' := 76) rfl rfl rfl (jr_gr (pc' := 79) (r := 29) rfl rfl jlk_2_22 (.inl rfl) rfl hN jd_27 rfl rfl rfl (jr_il_n (pc' := 80) rfl rfl rfl (jr_il (pc' := 82) rfl rfl rfl (jr_si (pc' := 85) rfl rfl rfl ?_))))
              refine jr_reg (fun t12 => jg t12) (fun t12 => jp X (px_C X d) px_m23 Q' N 101 [some (.ref 27), some (.ref 66), some (jv s1.1), some (jv s1.2.1), some (jv (ja s1.2.2 28 s1.2.1.toNat))] [(jv t12), (jv s1.1), (.ref 29)] s1.2.2 (0, 0)) h (fun t12 ht12 h => ?_) (fun R25 k13 h => ?_)
              · refine jr_ist (pc' := 102) rfl rfl (jl rfl) hN jd_29 jn_29 hs1.1 h (fun hc h => ?_)
                refine jr_le h (fun m24 h => ?_)
                refine jr_inc (pc' := 105) (L' := [_, _, _, _, _]) rfl rfl rfl (jl rfl) rfl rfl ?_
                exact k11 (jw (s1.1 + 1), m24) jg_w h
              · refine jr_cge (pa := 88) (pb := 93) rfl rfl rfl jg_a jgc_1000 h (fun hc h => ?_) (fun hc h => ?_)
                · refine jr_il (pc' := 90) rfl rfl rfl (jr_goto (pc' := 101) rfl rfl ?_)
                  exact k13 (ja s1.2.2 28 s1.2.1.toNat) jg_a h
                · refine jr_al_n (pc' := 94) rfl rfl rfl (jr_il (pc' := 96) rfl rfl rfl (jr_si (pc' := 99) rfl rfl rfl (jr_sub (pc' := 100) rfl rfl ?_)))
                  refine jr_ia (pc' := 101) rfl rfl (jl rfl) hN jd_66 jn_66 jg_w h (fun hc h => ?_)
                  exact k13 (ja s1.2.2 66 (jw ((ja s1.2.2 28 s1.2.1.toNat) - (1000 : Int))).toNat) jg_a h
            · exact k11 (s1.1, s1.2.2) hs1.1 h
          · refine jr_il_n (pc' := 29) rfl rfl rfl (jr_ic (pc' := 30) rfl rfl ?_)
            refine jr_clt (pa := 105) (pb := 33) rfl rfl rfl hs1.1 jgc_2 h (fun hc h => ?_) (fun hc h => ?_)
            · exact k11 (s1.1, s1.2.2) hs1.1 h
            · refine jr_inc (pc' := 36) (L' := [_, _, _, _, _]) rfl rfl rfl (jl rfl) rfl rfl (jr_al_n (pc' := 37) rfl rfl rfl (jr_gr (pc' := 40) (r := 29) rfl rfl jlk_2_22 (.inl rfl) rfl hN jd_27 rfl rfl rfl (jr_il_n (pc' := 41) rfl rfl rfl (jr_ic (pc' := 42) rfl rfl (jr_sub (pc' := 43) rfl rfl ?_)))))
              refine jr_il (pc' := 45) rfl rfl rfl (jr_al_n (pc' := 46) rfl rfl rfl (jr_gr (pc' := 49) (r := 29) rfl rfl jlk_2_22 (.inl rfl) rfl hN jd_27 rfl rfl rfl (jr_il_n (pc' := 50) rfl rfl rfl (jr_ic (pc' := 51) rfl rfl (jr_sub (pc' := 52) rfl rfl ?_)))))
              refine jr_ia (pc' := 53) rfl rfl (jl rfl) hN jd_29 jn_29 jg_w h (fun hc h => ?_)
              refine jr_al_n (pc' := 54) rfl rfl rfl (jr_gr (pc' := 57) (r := 29) rfl rfl jlk_2_22 (.inl rfl) rfl hN jd_27 rfl rfl rfl (jr_il_n (pc' := 58) rfl rfl rfl ?_))
              refine jr_ia (pc' := 59) rfl rfl (jl rfl) hN jd_29 jn_29 jg_w h (fun hc h => ?_)
              refine jr_cs_p (pc' := 62) [_, _] rfl rfl jlk_2_89 jq_24 jbd_24 (jl rfl) rfl (jl rfl) hu (fun Q' hq => jc_24 hN (Nat.le_trans (jl rfl) hd) jg_a jg_a jg_a (jo_b h) hq) (fun p26 hp26 h => ?_)
              refine jr_ist (pc' := 63) rfl rfl (jl rfl) hN jd_29 jn_29 jg_w h (fun hc h => ?_)
              refine jr_le h (fun m27 h => ?_)
              refine jr_goto (pc' := 105) rfl rfl ?_
              exact k11 (jw (s1.1 + (-1)), m27) jg_w h
      · exact k8 (s1.1, s1.2.2) hs1.1 h _ jn_i _ ho2

