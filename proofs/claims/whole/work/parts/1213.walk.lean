/-! the pure machine follows the functions, 14 (written by wip/whole/gen/walk.py) -/
set_option maxRecDepth 20000 in
set_option maxHeartbeats 1000000 in
theorem jc_217 {X : Nat × (Nat → Int32)} {N d : Nat} {x0 : Int} (hN : 102 ≤ N) (hd : 2 ≤ d) (hx0 : jg x0) {m : jm} {P : jm → Prop} {Q : px_Q} (h : jo (jf_217 x0 m) P) (hQ : ∀ p : jm, True → P p → Q (.inl (none)) (jmem N p)) : px_C X d 217 [.ref 67, jv x0] (jmem N m) Q := by
  unfold jf_217 at h
  have hu : ju px_m217 (0, 0) := ju_0
  refine jr_in (M := px_m217) (lev := 1) (L := [some (.ref 67), some (jv x0)]) hd rfl jbd_217 (jl rfl) rfl (fun d hd Q' hQ' => ?_)
  refine jr_al_n (pc' := 1) rfl rfl rfl ?_
  refine jr_cv_p (pc' := 4) [] rfl rfl jlk_12_158 jq_196 jbd_196 (jl rfl) rfl (jl rfl) hu rfl (jk rfl hN) (jd_67.trans jo_196.symm) (fun Q' hq => jc_196 hN (Nat.le_trans (jl rfl) hd)  (jo_b h) hq) (fun p1 hp1 h => ?_)
  refine jr_reg (fun t2 => True) (fun t2 => jp X (px_C X d) px_m217 Q' N 25 [some (.ref 67), some (jv x0)] [] t2 (0, 0)) h (fun t2 ht2 h => ?_) (fun R31 k3 h => ?_)
  · refine jr_al_n (pc' := 26) rfl rfl rfl ?_
    refine jr_cv_p (pc' := 29) [] rfl rfl jlk_12_158 jq_196 jbd_196 (jl rfl) rfl (jl rfl) hu rfl (jk rfl hN) (jd_67.trans jo_196.symm) (fun Q' hq => jc_196 hN (Nat.le_trans (jl rfl) hd)  (jo_b h) hq) (fun p15 hp15 h => ?_)
    refine jr_reg (fun t16 => True) (fun t16 => jp X (px_C X d) px_m217 Q' N 42 [some (.ref 67), some (jv x0)] [] t16 (0, 0)) h (fun t16 ht16 h => ?_) (fun R30 k17 h => ?_)
    · refine jr_al_n (pc' := 43) rfl rfl rfl (jr_dup (pc' := 44) rfl rfl rfl (jr_gi (pc' := 47) rfl rfl jlk_12_169 (.inl rfl) rfl hN jd_67 rfl rfl (jr_ic (pc' := 48) rfl rfl (jr_add (pc' := 49) rfl rfl (jr_pi (pc' := 52) rfl rfl jlk_12_169 (.inl rfl) rfl hN jd_67 rfl rfl ?_)))))
      refine jr_le h (fun m29 h => ?_)
      exact jr_rv rfl hu rfl (hQ' _ _ (hQ m29 trivial h))
    · refine jr_zeq (pa := 42) (pb := 32) rfl rfl rfl (jg_b hp15) h (fun hc h => ?_) (fun hc h => ?_)
      · exact k17 (t2) trivial h
      · refine jr_al_n (pc' := 33) rfl rfl rfl (jr_dup (pc' := 34) rfl rfl rfl (jr_gi (pc' := 37) rfl rfl jlk_12_135 (.inl rfl) rfl hN jd_67 rfl rfl (jr_il_n (pc' := 38) rfl rfl rfl (jr_add (pc' := 39) rfl rfl (jr_pi (pc' := 42) rfl rfl jlk_12_135 (.inl rfl) rfl hN jd_67 rfl rfl ?_)))))
        refine jr_le h (fun m18 h => ?_)
        exact k17 (m18) trivial h
  · refine jr_zeq (pa := 25) (pb := 7) rfl rfl rfl (jg_b hp1) h (fun hc h => ?_) (fun hc h => ?_)
    · exact k3 (m) trivial h
    · refine jr_al_n (pc' := 8) rfl rfl rfl (jr_gi (pc' := 11) rfl rfl jlk_12_169 (.inl rfl) rfl hN jd_67 rfl rfl (jr_bi (pc' := 13) rfl rfl rfl ?_))
      refine jr_cne (pa := 16) (pb := 25) rfl rfl rfl jg_a jgc_6 h (fun hc h => ?_) (fun hc h => ?_)
      · refine jr_al_n (pc' := 17) rfl rfl rfl (jr_ic (pc' := 18) rfl rfl (jr_al_n (pc' := 19) rfl rfl rfl (jr_gi (pc' := 22) rfl rfl jlk_12_135 (.inl rfl) rfl hN jd_67 rfl rfl ?_)))
        refine jr_cv_v (pc' := 25) [] rfl rfl jlk_12_165 jq_203 jbd_203 (jl rfl) rfl (jl rfl) hu rfl (jk rfl hN) (jd_67.trans jo_203.symm) (fun Q' hq => jc_203 hN (Nat.le_trans (jl rfl) hd) jgc_3 jg_a (jo_b h) hq) (fun p4 hp4 h => ?_)
        exact k3 (p4) trivial h
      · exact k3 (m) trivial h

set_option maxRecDepth 20000 in
set_option maxHeartbeats 1000000 in
theorem jc_218 {X : Nat × (Nat → Int32)} {N d : Nat} {x0 : Int} {x1 : Int} (hN : 102 ≤ N) (hd : 2 ≤ d) (hx0 : jg x0) (hx1 : jg x1) {m : jm} {P : jm → Prop} {Q : px_Q} (h : jo (jf_218 x0 x1 m) P) (hQ : ∀ p : jm, True → P p → Q (.inl (none)) (jmem N p)) : px_C X d 218 [.ref 67, jv x0, jv x1] (jmem N m) Q := by
  unfold jf_218 at h
  have hu : ju px_m218 (0, 0) := ju_0
  refine jr_in (M := px_m218) (lev := 1) (L := [some (.ref 67), some (jv x0), some (jv x1)]) hd rfl jbd_218 (jl rfl) rfl (fun d hd Q' hQ' => ?_)
  refine jr_al_n (pc' := 1) rfl rfl rfl ?_
  refine jr_cv_p (pc' := 4) [] rfl rfl jlk_12_158 jq_196 jbd_196 (jl rfl) rfl (jl rfl) hu rfl (jk rfl hN) (jd_67.trans jo_196.symm) (fun Q' hq => jc_196 hN (Nat.le_trans (jl rfl) hd)  (jo_b h) hq) (fun p1 hp1 h => ?_)
  refine jr_zne (pa := 7) (pb := 8) rfl rfl rfl (jg_b hp1) h (fun hc h => ?_) (fun hc h => ?_)
  · exact jr_rv rfl hu rfl (hQ' _ _ (hQ m trivial h))
  · refine jr_al_n (pc' := 9) rfl rfl rfl (jr_gr (pc' := 12) (r := 80) rfl rfl jlk_12_53 (.inl rfl) rfl hN jd_67 rfl rfl rfl (jr_al_n (pc' := 13) rfl rfl rfl (jr_gi (pc' := 16) rfl rfl jlk_12_266 (.inl rfl) rfl hN jd_67 rfl rfl (jr_il_n (pc' := 17) rfl rfl rfl ?_))))
    refine jr_ist (pc' := 18) rfl rfl (jl rfl) hN jd_80 jn_80 jg_a h (fun hc h => ?_)
    refine jr_le h (fun m2 h => ?_)
    refine jr_al_n (pc' := 19) rfl rfl rfl (jr_gr (pc' := 22) (r := 81) rfl rfl jlk_12_56 (.inl rfl) rfl hN jd_67 rfl rfl rfl (jr_al_n (pc' := 23) rfl rfl rfl (jr_gi (pc' := 26) rfl rfl jlk_12_266 (.inl rfl) rfl hN jd_67 rfl rfl (jr_il_n (pc' := 27) rfl rfl rfl ?_))))
    refine jr_ist (pc' := 28) rfl rfl (jl rfl) hN jd_81 jn_81 jg_a h (fun hc h => ?_)
    refine jr_le h (fun m3 h => ?_)
    refine jr_al_n (pc' := 29) rfl rfl rfl (jr_dup (pc' := 30) rfl rfl rfl (jr_gi (pc' := 33) rfl rfl jlk_12_266 (.inl rfl) rfl hN jd_67 rfl rfl (jr_ic (pc' := 34) rfl rfl (jr_add (pc' := 35) rfl rfl (jr_pi (pc' := 38) rfl rfl jlk_12_266 (.inl rfl) rfl hN jd_67 rfl rfl ?_)))))
    refine jr_le h (fun m4 h => ?_)
    exact jr_rv rfl hu rfl (hQ' _ _ (hQ m4 trivial h))

set_option maxRecDepth 20000 in
set_option maxHeartbeats 1000000 in
theorem jc_219 {X : Nat × (Nat → Int32)} {N d n : Nat} {rec : Nat → Int → Int → jm → Option (jm)} (hrec_214 : ∀ d, 3 + n ≤ d → ∀ {m : jm} {P : jm → Prop} {Q : px_Q}, jo (rec 0 0 0 m) P → (∀ p : jm, True → P p → Q (.inl (none)) (jmem N p)) → px_C X d 214 [.ref 67] (jmem N m) Q) {x0 : Int} {x1 : Int} (hN : 102 ≤ N) (hd : 3 + n + 1 ≤ d) (hx0 : jg x0) (hx1 : jg x1) {m : jm} {P : jm → Prop} {Q : px_Q} (h : jo (jf_219 rec x0 x1 m) P) (hQ : ∀ p : jm, True → P p → Q (.inl (none)) (jmem N p)) : px_C X d 219 [.ref 67, jv x0, jv x1] (jmem N m) Q := by
  unfold jf_219 at h
  have hu : ju px_m219 (0, 0) := ju_0
  refine jr_in (M := px_m219) (lev := 3 + n) (L := [some (.ref 67), some (jv x0), some (jv x1)]) hd rfl jbd_219 (jl rfl) rfl (fun d hd Q' hQ' => ?_)
  refine jr_al_n (pc' := 1) rfl rfl rfl (jr_il_n (pc' := 2) rfl rfl rfl ?_)
  refine jr_cv_v (pc' := 5) [] rfl rfl jlk_12_278 jq_217 jbd_217 (jl rfl) rfl (jl rfl) hu rfl (jk rfl hN) (jd_67.trans jo_217.symm) (fun Q' hq => jc_217 hN (Nat.le_trans (jl rfl) (Nat.le_trans (Nat.le_add_right 3 n) hd)) hx0 (jo_b h) hq) (fun p1 hp1 h => ?_)
  refine jr_al_n (pc' := 6) rfl rfl rfl (jr_bi (pc' := 8) rfl rfl rfl ?_)
  refine jr_cv_v (pc' := 11) [] rfl rfl jlk_12_259 jq_211 jbd_211 (jl rfl) rfl (jl rfl) hu rfl (jk rfl hN) (jd_67.trans jo_211.symm) (fun Q' hq => jc_211 hN (Nat.le_trans (jl rfl) (Nat.le_trans (Nat.le_add_right 3 n) hd)) jgc_91 (jo_b h) hq) (fun p2 hp2 h => ?_)
  refine jr_al_n (pc' := 12) rfl rfl rfl ?_
  refine jr_cv_v (pc' := 15) [] rfl rfl jlk_12_281 jq_214 jbd_214 (jl rfl) rfl (jl rfl) hu rfl (jk rfl hN) (jd_67.trans jo_214.symm) (fun Q' hq => hrec_214 d hd  (jo_b h) hq) (fun p3 hp3 h => ?_)
  refine jr_al_n (pc' := 16) rfl rfl rfl (jr_bi (pc' := 18) rfl rfl rfl ?_)
  refine jr_cv_v (pc' := 21) [] rfl rfl jlk_12_259 jq_211 jbd_211 (jl rfl) rfl (jl rfl) hu rfl (jk rfl hN) (jd_67.trans jo_211.symm) (fun Q' hq => jc_211 hN (Nat.le_trans (jl rfl) (Nat.le_trans (Nat.le_add_right 3 n) hd)) jgc_44 (jo_b h) hq) (fun p4 hp4 h => ?_)
  refine jr_al_n (pc' := 22) rfl rfl rfl ?_
  refine jr_cv_v (pc' := 25) [] rfl rfl jlk_12_281 jq_214 jbd_214 (jl rfl) rfl (jl rfl) hu rfl (jk rfl hN) (jd_67.trans jo_214.symm) (fun Q' hq => hrec_214 d hd  (jo_b h) hq) (fun p5 hp5 h => ?_)
  refine jr_al_n (pc' := 26) rfl rfl rfl (jr_bi (pc' := 28) rfl rfl rfl ?_)
  refine jr_cv_v (pc' := 31) [] rfl rfl jlk_12_259 jq_211 jbd_211 (jl rfl) rfl (jl rfl) hu rfl (jk rfl hN) (jd_67.trans jo_211.symm) (fun Q' hq => jc_211 hN (Nat.le_trans (jl rfl) (Nat.le_trans (Nat.le_add_right 3 n) hd)) jgc_93 (jo_b h) hq) (fun p6 hp6 h => ?_)
  refine jr_al_n (pc' := 32) rfl rfl rfl (jr_dup (pc' := 33) rfl rfl rfl (jr_gi (pc' := 36) rfl rfl jlk_12_169 (.inl rfl) rfl hN jd_67 rfl rfl (jr_ic (pc' := 37) rfl rfl (jr_sub (pc' := 38) rfl rfl (jr_pi (pc' := 41) rfl rfl jlk_12_169 (.inl rfl) rfl hN jd_67 rfl rfl ?_)))))
  refine jr_le h (fun m7 h => ?_)
  refine jr_al_n (pc' := 42) rfl rfl rfl (jr_il_n (pc' := 43) rfl rfl rfl (jr_ic (pc' := 44) rfl rfl ?_))
  refine jr_cv_v (pc' := 47) [] rfl rfl jlk_12_272 jq_218 jbd_218 (jl rfl) rfl (jl rfl) hu rfl (jk rfl hN) (jd_67.trans jo_218.symm) (fun Q' hq => jc_218 hN (Nat.le_trans (jl rfl) (Nat.le_trans (Nat.le_add_right 3 n) hd)) hx1 jgc_0 (jo_b h) hq) (fun p8 hp8 h => ?_)
  exact jr_rv rfl hu rfl (hQ' _ _ (hQ p8 trivial h))

set_option maxRecDepth 20000 in
set_option maxHeartbeats 1000000 in
theorem jc_221 {X : Nat × (Nat → Int32)} {N d : Nat} {s0 : Nat} (hN : 102 ≤ N) (hd : 2 ≤ d) (hs0 : s0 < 25) {m : jm} {P : Int × jm → Prop} {Q : px_Q} (h : jo (jf_221 s0 m) P) (hQ : ∀ p : Int × jm, jb p.1 → P p → Q (.inl (some (jv p.1))) (jmem N p.2)) : px_C X d 221 [.ref 67, .ref (1000 + s0)] (jmem N m) Q := by
  unfold jf_221 at h
  have hu : ju px_m221 (0, 0) := ju_0
  refine jr_in (M := px_m221) (lev := 1) (L := [some (.ref 67), some (.ref (1000 + s0)), none]) hd rfl jbd_221 (jl rfl) rfl (fun d hd Q' hQ' => ?_)
  refine jr_al_n (pc' := 1) rfl rfl rfl ?_
  refine jr_cv_i (pc' := 4) [] rfl rfl jlk_12_141 jq_198 jbd_198 (jl rfl) rfl (jl rfl) hu rfl (jk rfl hN) (jd_67.trans jo_198.symm) (fun Q' hq => jc_198 hN (Nat.le_trans (jl rfl) hd)  (jo_b h) hq) (fun p1 hp1 h => ?_)
  refine jr_pop (pc' := 5) rfl rfl rfl (jr_ic (pc' := 6) rfl rfl (jr_is_n (pc' := 7) (L' := [_, _, _]) rfl rfl (jl rfl) rfl rfl ?_))
  refine jr_lp (fun s2 => jg s2) (fun s2 => jp X (px_C X d) px_m221 Q' N 7 [some (.ref 67), some (.ref (1000 + s0)), some (jv s2)] [] p1.2 (0, 0)) h jgc_0 (fun s2 hs2 R4 k3 h => ?_)
  refine jr_il_n (pc' := 8) rfl rfl rfl (jr_al_n (pc' := 9) rfl rfl rfl (jr_slen (pc' := 12) rfl rfl jlk_12_149 hs0 (jl rfl) hu ?_))
  refine jr_cge (pa := 15) (pb := 55) rfl rfl rfl hs2 (jg_sl hs0) h (fun hc h => ?_) (fun hc h => ?_)
  · refine jr_al_n (pc' := 16) rfl rfl rfl (jr_gi (pc' := 19) rfl rfl jlk_12_135 (.inl rfl) rfl hN jd_67 rfl rfl (jr_il_n (pc' := 20) rfl rfl rfl (jr_add (pc' := 21) rfl rfl (jr_al_n (pc' := 22) rfl rfl rfl (jr_gi (pc' := 25) rfl rfl jlk_12_138 (.inl rfl) rfl hN jd_67 rfl rfl ?_)))))
    refine jr_cge (pa := 28) (pb := 47) rfl rfl rfl jg_w jg_a h (fun hc h => ?_) (fun hc h => ?_)
    · refine jr_al_n (pc' := 29) rfl rfl rfl (jr_gr (pc' := 32) (r := 69) rfl rfl jlk_12_20 (.inl rfl) rfl hN jd_67 rfl rfl rfl (jr_al_n (pc' := 33) rfl rfl rfl (jr_gi (pc' := 36) rfl rfl jlk_12_135 (.inl rfl) rfl hN jd_67 rfl rfl (jr_il_n (pc' := 37) rfl rfl rfl (jr_add (pc' := 38) rfl rfl ?_)))))
      refine jr_ia (pc' := 39) rfl rfl (jl rfl) hN jd_69 jn_69 jg_w h (fun hc h => ?_)
      refine jr_al_n (pc' := 40) rfl rfl rfl (jr_il_n (pc' := 41) rfl rfl rfl ?_)
      refine jr_schr (pc' := 44) rfl rfl jlk_12_154 hs0 (jl rfl) hu hs2 h (fun hc h => ?_)
      refine jr_ceq (pa := 49) (pb := 47) rfl rfl rfl jg_a (jg_sc hs0) h (fun hc h => ?_) (fun hc h => ?_)
      · refine jr_inc (pc' := 52) (L' := [_, _, _]) rfl rfl rfl (jl rfl) rfl rfl (jr_goto (pc' := 7) rfl rfl ?_)
        exact k3 (jw (s2 + 1)) jg_w h
      · refine jr_ic (pc' := 48) rfl rfl ?_
        exact jr_retb rfl hu rfl jb_0 (hQ' _ _ (hQ ((0 : Int), p1.2) jb_0 h))
    · refine jr_ic (pc' := 48) rfl rfl ?_
      exact jr_retb rfl hu rfl jb_0 (hQ' _ _ (hQ ((0 : Int), p1.2) jb_0 h))
  · refine jr_al_n (pc' := 56) rfl rfl rfl (jr_gi (pc' := 59) rfl rfl jlk_12_135 (.inl rfl) rfl hN jd_67 rfl rfl (jr_al_n (pc' := 60) rfl rfl rfl (jr_slen (pc' := 63) rfl rfl jlk_12_149 hs0 (jl rfl) hu (jr_add (pc' := 64) rfl rfl (jr_al_n (pc' := 65) rfl rfl rfl ?_)))))
    refine jr_gi (pc' := 68) rfl rfl jlk_12_138 (.inl rfl) rfl hN jd_67 rfl rfl ?_
    refine jr_reg (fun t5 => jb t5) (fun t5 => jp X (px_C X d) px_m221 Q' N 96 [some (.ref 67), some (.ref (1000 + s0)), some (jv s2)] [(jv t5)] p1.2 (0, 0)) h (fun t5 ht5 h => ?_) (fun R18 k6 h => ?_)
    · exact jr_retb rfl hu rfl ht5 (hQ' _ _ (hQ (t5, p1.2) ht5 h))
    · refine jr_cge (pa := 71) (pb := 91) rfl rfl rfl jg_w jg_a h (fun hc h => ?_) (fun hc h => ?_)
      · refine jr_al_n (pc' := 72) rfl rfl rfl (jr_gr (pc' := 75) (r := 69) rfl rfl jlk_12_20 (.inl rfl) rfl hN jd_67 rfl rfl rfl (jr_al_n (pc' := 76) rfl rfl rfl (jr_gi (pc' := 79) rfl rfl jlk_12_135 (.inl rfl) rfl hN jd_67 rfl rfl (jr_al_n (pc' := 80) rfl rfl rfl (jr_slen (pc' := 83) rfl rfl jlk_12_149 hs0 (jl rfl) hu ?_)))))
        refine jr_add (pc' := 84) rfl rfl ?_
        refine jr_ia (pc' := 85) rfl rfl (jl rfl) hN jd_69 jn_69 jg_w h (fun hc h => ?_)
        refine jr_cs_p (pc' := 88) [] rfl rfl jlk_12_145 jq_200 jbd_200 (jl rfl) rfl (jl rfl) hu (fun Q' hq => jc_200 hN (Nat.le_trans (jl rfl) hd) jg_a (jo_b h) hq) (fun p7 hp7 h => ?_)
        refine jr_zne (pa := 91) (pb := 95) rfl rfl rfl (jg_b hp7) h (fun hc h => ?_) (fun hc h => ?_)
        · refine jr_ic (pc' := 92) rfl rfl (jr_goto (pc' := 96) rfl rfl ?_)
          exact k6 ((1 : Int)) jb_1 h
        · refine jr_ic (pc' := 96) rfl rfl ?_
          exact k6 ((0 : Int)) jb_0 h
      · refine jr_ic (pc' := 92) rfl rfl (jr_goto (pc' := 96) rfl rfl ?_)
        exact k6 ((1 : Int)) jb_1 h

set_option maxRecDepth 20000 in
set_option maxHeartbeats 1000000 in
theorem jc_220 {X : Nat × (Nat → Int32)} {N d : Nat}  (hN : 102 ≤ N) (hd : 3 ≤ d)  {m : jm} {P : Int × jm → Prop} {Q : px_Q} (h : jo (jf_220 m) P) (hQ : ∀ p : Int × jm, jg p.1 → P p → Q (.inl (some (jv p.1))) (jmem N p.2)) : px_C X d 220 [.ref 67] (jmem N m) Q := by
  unfold jf_220 at h
  have hu : ju px_m220 (0, 0) := ju_0
  refine jr_in (M := px_m220) (lev := 2) (L := [some (.ref 67), none]) hd rfl jbd_220 (jl rfl) rfl (fun d hd Q' hQ' => ?_)
  refine jr_al_n (pc' := 1) rfl rfl rfl (jr_ldws (pc' := 4) rfl rfl jlk_12_284 ?_)
  refine jr_cv_i (pc' := 7) [] rfl rfl jlk_12_285 jq_221 jbd_221 (jl rfl) rfl (jl rfl) hu rfl (jk rfl hN) (jd_67.trans jo_221.symm) (fun Q' hq => jc_221 hN (Nat.le_trans (jl rfl) hd) (jl rfl) (jo_b h) hq) (fun p1 hp1 h => ?_)
  refine jr_zeq (pa := 12) (pb := 10) rfl rfl rfl (jg_b hp1) h (fun hc h => ?_) (fun hc h => ?_)
  · refine jr_al_n (pc' := 13) rfl rfl rfl ?_
    refine jr_cv_i (pc' := 16) [] rfl rfl jlk_12_244 jq_199 jbd_199 (jl rfl) rfl (jl rfl) hu rfl (jk rfl hN) (jd_67.trans jo_199.symm) (fun Q' hq => jc_199 hN (Nat.le_trans (jl rfl) hd)  (jo_b h) hq) (fun p2 hp2 h => ?_)
    refine jr_is_n (pc' := 17) (L' := [_, _]) rfl rfl (jl rfl) rfl rfl (jr_il_n (pc' := 18) rfl rfl rfl (jr_ldws (pc' := 21) rfl rfl jlk_12_289 ?_))
    refine jr_cs_p (pc' := 24) [_] rfl rfl jlk_12_223 jq_202 jbd_202 (jl rfl) rfl (jl rfl) hu (fun Q' hq => jc_202 hN (Nat.le_trans (jl rfl) hd) (jl rfl) (jo_b h) hq) (fun p3 hp3 h => ?_)
    refine jr_reg (fun t4 => jg t4) (fun t4 => jp X (px_C X d) px_m220 Q' N 133 [some (.ref 67), some (jv p2.1)] [(jv t4)] p2.2 (0, 0)) h (fun t4 ht4 h => ?_) (fun R23 k5 h => ?_)
    · exact jr_ret rfl hu rfl (hQ' _ _ (hQ (t4, p2.2) ht4 h))
    · refine jr_cne (pa := 27) (pb := 31) rfl rfl rfl hp2 hp3 h (fun hc h => ?_) (fun hc h => ?_)
      · refine jr_ic (pc' := 28) rfl rfl (jr_goto (pc' := 133) rfl rfl ?_)
        exact k5 ((0 : Int)) jgc_0 h
      · refine jr_il_n (pc' := 32) rfl rfl rfl (jr_ldws (pc' := 35) rfl rfl jlk_12_290 ?_)
        refine jr_cs_p (pc' := 38) [_] rfl rfl jlk_12_223 jq_202 jbd_202 (jl rfl) rfl (jl rfl) hu (fun Q' hq => jc_202 hN (Nat.le_trans (jl rfl) hd) (jl rfl) (jo_b h) hq) (fun p6 hp6 h => ?_)
        refine jr_cne (pa := 41) (pb := 45) rfl rfl rfl hp2 hp6 h (fun hc h => ?_) (fun hc h => ?_)
        · refine jr_ic (pc' := 42) rfl rfl (jr_goto (pc' := 133) rfl rfl ?_)
          exact k5 ((1 : Int)) jgc_1 h
        · refine jr_il_n (pc' := 46) rfl rfl rfl (jr_ldws (pc' := 49) rfl rfl jlk_12_292 ?_)
          refine jr_cs_p (pc' := 52) [_] rfl rfl jlk_12_223 jq_202 jbd_202 (jl rfl) rfl (jl rfl) hu (fun Q' hq => jc_202 hN (Nat.le_trans (jl rfl) hd) (jl rfl) (jo_b h) hq) (fun p7 hp7 h => ?_)
          refine jr_cne (pa := 55) (pb := 59) rfl rfl rfl hp2 hp7 h (fun hc h => ?_) (fun hc h => ?_)
          · refine jr_ic (pc' := 56) rfl rfl (jr_goto (pc' := 133) rfl rfl ?_)
            exact k5 ((2 : Int)) jgc_2 h
          · refine jr_il_n (pc' := 60) rfl rfl rfl (jr_ldws (pc' := 63) rfl rfl jlk_12_294 ?_)
            refine jr_cs_p (pc' := 66) [_] rfl rfl jlk_12_223 jq_202 jbd_202 (jl rfl) rfl (jl rfl) hu (fun Q' hq => jc_202 hN (Nat.le_trans (jl rfl) hd) (jl rfl) (jo_b h) hq) (fun p8 hp8 h => ?_)
            refine jr_cne (pa := 69) (pb := 73) rfl rfl rfl hp2 hp8 h (fun hc h => ?_) (fun hc h => ?_)
            · refine jr_ic (pc' := 70) rfl rfl (jr_goto (pc' := 133) rfl rfl ?_)
              exact k5 ((3 : Int)) jgc_3 h
            · refine jr_il_n (pc' := 74) rfl rfl rfl (jr_ldws (pc' := 77) rfl rfl jlk_12_296 ?_)
              refine jr_cs_p (pc' := 80) [_] rfl rfl jlk_12_223 jq_202 jbd_202 (jl rfl) rfl (jl rfl) hu (fun Q' hq => jc_202 hN (Nat.le_trans (jl rfl) hd) (jl rfl) (jo_b h) hq) (fun p9 hp9 h => ?_)
              refine jr_cne (pa := 83) (pb := 87) rfl rfl rfl hp2 hp9 h (fun hc h => ?_) (fun hc h => ?_)
              · refine jr_ic (pc' := 84) rfl rfl (jr_goto (pc' := 133) rfl rfl ?_)
                exact k5 ((5 : Int)) jgc_5 h
              · refine jr_il_n (pc' := 88) rfl rfl rfl (jr_ldws (pc' := 91) rfl rfl jlk_12_298 ?_)
                refine jr_cs_p (pc' := 94) [_] rfl rfl jlk_12_223 jq_202 jbd_202 (jl rfl) rfl (jl rfl) hu (fun Q' hq => jc_202 hN (Nat.le_trans (jl rfl) hd) (jl rfl) (jo_b h) hq) (fun p10 hp10 h => ?_)
                refine jr_cne (pa := 97) (pb := 102) rfl rfl rfl hp2 hp10 h (fun hc h => ?_) (fun hc h => ?_)
                · refine jr_bi (pc' := 99) rfl rfl rfl (jr_goto (pc' := 133) rfl rfl ?_)
                  exact k5 ((6 : Int)) jgc_6 h
                · refine jr_il_n (pc' := 103) rfl rfl rfl (jr_ldws (pc' := 106) rfl rfl jlk_12_300 ?_)
                  refine jr_cs_p (pc' := 109) [_] rfl rfl jlk_12_223 jq_202 jbd_202 (jl rfl) rfl (jl rfl) hu (fun Q' hq => jc_202 hN (Nat.le_trans (jl rfl) hd) (jl rfl) (jo_b h) hq) (fun p11 hp11 h => ?_)
                  refine jr_cne (pa := 112) (pb := 117) rfl rfl rfl hp2 hp11 h (fun hc h => ?_) (fun hc h => ?_)
                  · refine jr_bi (pc' := 114) rfl rfl rfl (jr_goto (pc' := 133) rfl rfl ?_)
                    exact k5 ((7 : Int)) jgc_7 h
                  · refine jr_il_n (pc' := 118) rfl rfl rfl (jr_ldws (pc' := 121) rfl rfl jlk_12_302 ?_)
                    refine jr_cs_p (pc' := 124) [_] rfl rfl jlk_12_223 jq_202 jbd_202 (jl rfl) rfl (jl rfl) hu (fun Q' hq => jc_202 hN (Nat.le_trans (jl rfl) hd) (jl rfl) (jo_b h) hq) (fun p12 hp12 h => ?_)
                    refine jr_cne (pa := 127) (pb := 132) rfl rfl rfl hp2 hp12 h (fun hc h => ?_) (fun hc h => ?_)
                    · refine jr_bi (pc' := 129) rfl rfl rfl (jr_goto (pc' := 133) rfl rfl ?_)
                      exact k5 ((8 : Int)) jgc_8 h
                    · refine jr_ic (pc' := 133) rfl rfl ?_
                      exact k5 ((-1 : Int)) jgc_m1 h
  · refine jr_ic (pc' := 11) rfl rfl ?_
    exact jr_ret rfl hu rfl (hQ' _ _ (hQ ((4 : Int), p1.2) jgc_4 h))

set_option maxRecDepth 20000 in
set_option maxHeartbeats 1000000 in
theorem jc_216 {X : Nat × (Nat → Int32)} {N d n : Nat} {rec : Nat → Int → Int → jm → Option (jm)} (hrec_214 : ∀ d, 3 + n ≤ d → ∀ {m : jm} {P : jm → Prop} {Q : px_Q}, jo (rec 0 0 0 m) P → (∀ p : jm, True → P p → Q (.inl (none)) (jmem N p)) → px_C X d 214 [.ref 67] (jmem N m) Q) (hrec_219 : ∀ d, 3 + n ≤ d → ∀ {x0 : Int} {x1 : Int} {m : jm} {P : jm → Prop} {Q : px_Q}, jg x0 → jg x1 → jo (rec 3 x0 x1 m) P → (∀ p : jm, True → P p → Q (.inl (none)) (jmem N p)) → px_C X d 219 [.ref 67, jv x0, jv x1] (jmem N m) Q)  (hN : 102 ≤ N) (hd : 3 + n + 1 ≤ d)  {m : jm} {P : jm → Prop} {Q : px_Q} (h : jo (jf_216 rec m) P) (hQ : ∀ p : jm, True → P p → Q (.inl (none)) (jmem N p)) : px_C X d 216 [.ref 67] (jmem N m) Q := by
  unfold jf_216 at h
  have hu : ju px_m216 (0, 0) := ju_0
  refine jr_in (M := px_m216) (lev := 3 + n) (L := [some (.ref 67), none]) hd rfl jbd_216 (jl rfl) rfl (fun d hd Q' hQ' => ?_)
  refine jr_al_n (pc' := 1) rfl rfl rfl ?_
  refine jr_cv_p (pc' := 4) [] rfl rfl jlk_12_158 jq_196 jbd_196 (jl rfl) rfl (jl rfl) hu rfl (jk rfl hN) (jd_67.trans jo_196.symm) (fun Q' hq => jc_196 hN (Nat.le_trans (jl rfl) (Nat.le_trans (Nat.le_add_right 3 n) hd))  (jo_b h) hq) (fun p1 hp1 h => ?_)
  refine jr_zne (pa := 7) (pb := 8) rfl rfl rfl (jg_b hp1) h (fun hc h => ?_) (fun hc h => ?_)
  · exact jr_rv rfl hu rfl (hQ' _ _ (hQ m trivial h))
  · refine jr_al_n (pc' := 9) rfl rfl rfl ?_
    refine jr_cv_i (pc' := 12) [] rfl rfl jlk_12_141 jq_198 jbd_198 (jl rfl) rfl (jl rfl) hu rfl (jk rfl hN) (jd_67.trans jo_198.symm) (fun Q' hq => jc_198 hN (Nat.le_trans (jl rfl) (Nat.le_trans (Nat.le_add_right 3 n) hd))  (jo_b h) hq) (fun p2 hp2 h => ?_)
    refine jr_bi (pc' := 14) rfl rfl rfl ?_
    refine jr_cne (pa := 17) (pb := 45) rfl rfl rfl hp2 jgc_40 h (fun hc h => ?_) (fun hc h => ?_)
    · refine jr_al_n (pc' := 18) rfl rfl rfl (jr_ic (pc' := 19) rfl rfl ?_)
      refine jr_cv_v (pc' := 22) [] rfl rfl jlk_12_278 jq_217 jbd_217 (jl rfl) rfl (jl rfl) hu rfl (jk rfl hN) (jd_67.trans jo_217.symm) (fun Q' hq => jc_217 hN (Nat.le_trans (jl rfl) (Nat.le_trans (Nat.le_add_right 3 n) hd)) jgc_1 (jo_b h) hq) (fun p3 hp3 h => ?_)
      refine jr_al_n (pc' := 23) rfl rfl rfl ?_
      refine jr_cv_v (pc' := 26) [] rfl rfl jlk_12_281 jq_214 jbd_214 (jl rfl) rfl (jl rfl) hu rfl (jk rfl hN) (jd_67.trans jo_214.symm) (fun Q' hq => hrec_214 d hd  (jo_b h) hq) (fun p4 hp4 h => ?_)
      refine jr_al_n (pc' := 27) rfl rfl rfl (jr_bi (pc' := 29) rfl rfl rfl ?_)
      refine jr_cv_v (pc' := 32) [] rfl rfl jlk_12_259 jq_211 jbd_211 (jl rfl) rfl (jl rfl) hu rfl (jk rfl hN) (jd_67.trans jo_211.symm) (fun Q' hq => jc_211 hN (Nat.le_trans (jl rfl) (Nat.le_trans (Nat.le_add_right 3 n) hd)) jgc_41 (jo_b h) hq) (fun p5 hp5 h => ?_)
      refine jr_al_n (pc' := 33) rfl rfl rfl (jr_dup (pc' := 34) rfl rfl rfl (jr_gi (pc' := 37) rfl rfl jlk_12_169 (.inl rfl) rfl hN jd_67 rfl rfl (jr_ic (pc' := 38) rfl rfl (jr_sub (pc' := 39) rfl rfl (jr_pi (pc' := 42) rfl rfl jlk_12_169 (.inl rfl) rfl hN jd_67 rfl rfl ?_)))))
      refine jr_le h (fun m6 h => ?_)
      refine jr_goto (pc' := 154) rfl rfl ?_
      exact jr_rv rfl hu rfl (hQ' _ _ (hQ m6 trivial h))
    · refine jr_al_n (pc' := 46) rfl rfl rfl ?_
      refine jr_cv_i (pc' := 49) [] rfl rfl jlk_12_141 jq_198 jbd_198 (jl rfl) rfl (jl rfl) hu rfl (jk rfl hN) (jd_67.trans jo_198.symm) (fun Q' hq => jc_198 hN (Nat.le_trans (jl rfl) (Nat.le_trans (Nat.le_add_right 3 n) hd))  (jo_b h) hq) (fun p7 hp7 h => ?_)
      refine jr_cs_p (pc' := 52) [] rfl rfl jlk_12_162 jq_208 jbd_208 (jl rfl) rfl (jl rfl) hu (fun Q' hq => jc_208 hN (Nat.le_trans (jl rfl) (Nat.le_trans (Nat.le_add_right 3 n) hd)) hp7 (jo_b h) hq) (fun p8 hp8 h => ?_)
      refine jr_zeq (pa := 71) (pb := 55) rfl rfl rfl (jg_b hp8) h (fun hc h => ?_) (fun hc h => ?_)
      · refine jr_al_n (pc' := 72) rfl rfl rfl ?_
        refine jr_cv_i (pc' := 75) [] rfl rfl jlk_12_244 jq_199 jbd_199 (jl rfl) rfl (jl rfl) hu rfl (jk rfl hN) (jd_67.trans jo_199.symm) (fun Q' hq => jc_199 hN (Nat.le_trans (jl rfl) (Nat.le_trans (Nat.le_add_right 3 n) hd))  (jo_b h) hq) (fun p9 hp9 h => ?_)
        refine jr_ldws (pc' := 78) rfl rfl jlk_12_304 ?_
        refine jr_cs_p (pc' := 81) [_] rfl rfl jlk_12_223 jq_202 jbd_202 (jl rfl) rfl (jl rfl) hu (fun Q' hq => jc_202 hN (Nat.le_trans (jl rfl) (Nat.le_trans (Nat.le_add_right 3 n) hd)) (jl rfl) (jo_b h) hq) (fun p10 hp10 h => ?_)
        refine jr_cne (pa := 84) (pb := 94) rfl rfl rfl hp9 hp10 h (fun hc h => ?_) (fun hc h => ?_)
        · refine jr_al_n (pc' := 85) rfl rfl rfl (jr_ic (pc' := 86) rfl rfl (jr_bi (pc' := 88) rfl rfl rfl ?_))
          refine jr_cv_v (pc' := 91) [] rfl rfl jlk_12_306 jq_219 jbd_219 (jl rfl) rfl (jl rfl) hu rfl (jk rfl hN) (jd_67.trans jo_219.symm) (fun Q' hq => hrec_219 d hd jgc_5 jgc_6 (jo_b h) hq) (fun p11 hp11 h => ?_)
          refine jr_goto (pc' := 154) rfl rfl ?_
          exact jr_rv rfl hu rfl (hQ' _ _ (hQ p11 trivial h))
        · refine jr_al_n (pc' := 95) rfl rfl rfl ?_
          refine jr_cv_i (pc' := 98) [] rfl rfl jlk_12_244 jq_199 jbd_199 (jl rfl) rfl (jl rfl) hu rfl (jk rfl hN) (jd_67.trans jo_199.symm) (fun Q' hq => jc_199 hN (Nat.le_trans (jl rfl) (Nat.le_trans (Nat.le_add_right 3 n) hd))  (jo_b h) hq) (fun p12 hp12 h => ?_)
          refine jr_ldws (pc' := 101) rfl rfl jlk_12_309 ?_
          refine jr_cs_p (pc' := 104) [_] rfl rfl jlk_12_223 jq_202 jbd_202 (jl rfl) rfl (jl rfl) hu (fun Q' hq => jc_202 hN (Nat.le_trans (jl rfl) (Nat.le_trans (Nat.le_add_right 3 n) hd)) (jl rfl) (jo_b h) hq) (fun p13 hp13 h => ?_)
          refine jr_cne (pa := 107) (pb := 117) rfl rfl rfl hp12 hp13 h (fun hc h => ?_) (fun hc h => ?_)
          · refine jr_al_n (pc' := 108) rfl rfl rfl (jr_ic (pc' := 109) rfl rfl (jr_bi (pc' := 111) rfl rfl rfl ?_))
            refine jr_cv_v (pc' := 114) [] rfl rfl jlk_12_306 jq_219 jbd_219 (jl rfl) rfl (jl rfl) hu rfl (jk rfl hN) (jd_67.trans jo_219.symm) (fun Q' hq => hrec_219 d hd jgc_4 jgc_7 (jo_b h) hq) (fun p14 hp14 h => ?_)
            refine jr_goto (pc' := 154) rfl rfl ?_
            exact jr_rv rfl hu rfl (hQ' _ _ (hQ p14 trivial h))
          · refine jr_al_n (pc' := 118) rfl rfl rfl ?_
            refine jr_cv_i (pc' := 121) [] rfl rfl jlk_12_311 jq_220 jbd_220 (jl rfl) rfl (jl rfl) hu rfl (jk rfl hN) (jd_67.trans jo_220.symm) (fun Q' hq => jc_220 hN (Nat.le_trans (jl rfl) (Nat.le_trans (Nat.le_add_right 3 n) hd))  (jo_b h) hq) (fun p15 hp15 h => ?_)
            refine jr_is_n (pc' := 122) (L' := [_, _]) rfl rfl (jl rfl) rfl rfl (jr_il_n (pc' := 123) rfl rfl rfl (jr_ic (pc' := 124) rfl rfl ?_))
            refine jr_reg (fun t16 => True) (fun t16 => jp X (px_C X d) px_m216 Q' N 136 [some (.ref 67), some (jv p15.1)] [] t16 (0, 0)) h (fun t16 ht16 h => ?_) (fun R32 k17 h => ?_)
            · refine jr_al_n (pc' := 137) rfl rfl rfl ?_
              refine jr_cv_p (pc' := 140) [] rfl rfl jlk_12_158 jq_196 jbd_196 (jl rfl) rfl (jl rfl) hu rfl (jk rfl hN) (jd_67.trans jo_196.symm) (fun Q' hq => jc_196 hN (Nat.le_trans (jl rfl) (Nat.le_trans (Nat.le_add_right 3 n) hd))  (jo_b h) hq) (fun p29 hp29 h => ?_)
              refine jr_zne (pa := 143) (pb := 144) rfl rfl rfl (jg_b hp29) h (fun hc h => ?_) (fun hc h => ?_)
              · exact jr_rv rfl hu rfl (hQ' _ _ (hQ t16 trivial h))
              · refine jr_al_n (pc' := 145) rfl rfl rfl ?_
                refine jr_cv_v (pc' := 148) [] rfl rfl jlk_12_253 jq_205 jbd_205 (jl rfl) rfl (jl rfl) hu rfl (jk rfl hN) (jd_67.trans jo_205.symm) (fun Q' hq => jc_205 hN (Nat.le_trans (jl rfl) (Nat.le_trans (Nat.le_add_right 3 n) hd))  (jo_b h) hq) (fun p30 hp30 h => ?_)
                refine jr_al_n (pc' := 149) rfl rfl rfl (jr_ic (pc' := 150) rfl rfl (jr_il_n (pc' := 151) rfl rfl rfl ?_))
                refine jr_cv_v (pc' := 154) [] rfl rfl jlk_12_272 jq_218 jbd_218 (jl rfl) rfl (jl rfl) hu rfl (jk rfl hN) (jd_67.trans jo_218.symm) (fun Q' hq => jc_218 hN (Nat.le_trans (jl rfl) (Nat.le_trans (Nat.le_add_right 3 n) hd)) jgc_1 hp15 (jo_b h) hq) (fun p31 hp31 h => ?_)
                exact jr_rv rfl hu rfl (hQ' _ _ (hQ p31 trivial h))
            · refine jr_cne (pa := 127) (pb := 136) rfl rfl rfl hp15 jgc_m1 h (fun hc h => ?_) (fun hc h => ?_)
              · refine jr_al_n (pc' := 128) rfl rfl rfl (jr_ic (pc' := 129) rfl rfl (jr_al_n (pc' := 130) rfl rfl rfl (jr_gi (pc' := 133) rfl rfl jlk_12_135 (.inl rfl) rfl hN jd_67 rfl rfl ?_)))
                refine jr_cv_v (pc' := 136) [] rfl rfl jlk_12_165 jq_203 jbd_203 (jl rfl) rfl (jl rfl) hu rfl (jk rfl hN) (jd_67.trans jo_203.symm) (fun Q' hq => jc_203 hN (Nat.le_trans (jl rfl) (Nat.le_trans (Nat.le_add_right 3 n) hd)) jgc_1 jg_a (jo_b h) hq) (fun p18 hp18 h => ?_)
                exact k17 (p18) trivial h
              · exact k17 (p15.2) trivial h
      · refine jr_al_n (pc' := 56) rfl rfl rfl (jr_ic (pc' := 57) rfl rfl (jr_al_n (pc' := 58) rfl rfl rfl (jr_ic (pc' := 59) rfl rfl (jr_si (pc' := 62) rfl rfl rfl ?_))))
        refine jr_cv_i (pc' := 65) [_, _] rfl rfl jlk_12_215 jq_207 jbd_207 (jl rfl) rfl (jl rfl) hu rfl (jk rfl hN) (jd_67.trans jo_207.symm) (fun Q' hq => jc_207 hN (Nat.le_trans (jl rfl) (Nat.le_trans (Nat.le_add_right 3 n) hd)) jgc_0 jgc_999 (jo_b h) hq) (fun p33 hp33 h => ?_)
        refine jr_cv_v (pc' := 68) [] rfl rfl jlk_12_272 jq_218 jbd_218 (jl rfl) rfl (jl rfl) hu rfl (jk rfl hN) (jd_67.trans jo_218.symm) (fun Q' hq => jc_218 hN (Nat.le_trans (jl rfl) (Nat.le_trans (Nat.le_add_right 3 n) hd)) jgc_0 hp33 (jo_b h) hq) (fun p34 hp34 h => ?_)
        refine jr_goto (pc' := 154) rfl rfl ?_
        exact jr_rv rfl hu rfl (hQ' _ _ (hQ p34 trivial h))

set_option maxRecDepth 20000 in
set_option maxHeartbeats 1000000 in
theorem jc_215 {X : Nat × (Nat → Int32)} {N d n : Nat} {rec : Nat → Int → Int → jm → Option (jm)} (hrec_216 : ∀ d, 3 + n ≤ d → ∀ {m : jm} {P : jm → Prop} {Q : px_Q}, jo (rec 2 0 0 m) P → (∀ p : jm, True → P p → Q (.inl (none)) (jmem N p)) → px_C X d 216 [.ref 67] (jmem N m) Q)  (hN : 102 ≤ N) (hd : 3 + n + 1 ≤ d)  {m : jm} {P : jm → Prop} {Q : px_Q} (h : jo (jf_215 rec m) P) (hQ : ∀ p : jm, True → P p → Q (.inl (none)) (jmem N p)) : px_C X d 215 [.ref 67] (jmem N m) Q := by
  unfold jf_215 at h
  have hu : ju px_m215 (0, 0) := ju_0
  refine jr_in (M := px_m215) (lev := 3 + n) (L := [some (.ref 67), none]) hd rfl jbd_215 (jl rfl) rfl (fun d hd Q' hQ' => ?_)
  refine jr_al_n (pc' := 1) rfl rfl rfl ?_
  refine jr_cv_v (pc' := 4) [] rfl rfl jlk_12_275 jq_216 jbd_216 (jl rfl) rfl (jl rfl) hu rfl (jk rfl hN) (jd_67.trans jo_216.symm) (fun Q' hq => hrec_216 d hd  (jo_b h) hq) (fun p1 hp1 h => ?_)
  refine jr_reg (fun t6 => True) (fun t6 => ∀ o7, jn o7 → jp X (px_C X d) px_m215 Q' N 67 [some (.ref 67), o7] [] t6 (0, 0)) h (fun t6 ht6 h o7 ho7 => ?_) (fun R9 k8 h => ?_)
  · exact jr_rv rfl hu rfl (hQ' _ _ (hQ t6 trivial h))
  · refine jr_lp (fun s2 => True) (fun s2 => ∀ o3, jn o3 → jp X (px_C X d) px_m215 Q' N 4 [some (.ref 67), o3] [] s2 (0, 0)) h trivial (fun s2 hs2 R5 k4 h o3 ho3 => ?_) _ jn_n
    refine jr_al_n (pc' := 5) rfl rfl rfl ?_
    refine jr_cv_p (pc' := 8) [] rfl rfl jlk_12_158 jq_196 jbd_196 (jl rfl) rfl (jl rfl) hu rfl (jk rfl hN) (jd_67.trans jo_196.symm) (fun Q' hq => jc_196 hN (Nat.le_trans (jl rfl) (Nat.le_trans (Nat.le_add_right 3 n) hd))  (jo_b h) hq) (fun p10 hp10 h => ?_)
    refine jr_zeq (pa := 67) (pb := 11) rfl rfl rfl (jg_b hp10) h (fun hc h => ?_) (fun hc h => ?_)
    · exact k8 (s2) trivial h _ ho3
    · refine jr_al_n (pc' := 12) rfl rfl rfl ?_
      refine jr_cv_i (pc' := 15) [] rfl rfl jlk_12_141 jq_198 jbd_198 (jl rfl) rfl (jl rfl) hu rfl (jk rfl hN) (jd_67.trans jo_198.symm) (fun Q' hq => jc_198 hN (Nat.le_trans (jl rfl) (Nat.le_trans (Nat.le_add_right 3 n) hd))  (jo_b h) hq) (fun p11 hp11 h => ?_)
      refine jr_bi (pc' := 17) rfl rfl rfl ?_
      refine jr_ceq (pa := 29) (pb := 20) rfl rfl rfl hp11 jgc_42 h (fun hc h => ?_) (fun hc h => ?_)
      · refine jr_al_n (pc' := 30) rfl rfl rfl ?_
        refine jr_cv_i (pc' := 33) [] rfl rfl jlk_12_141 jq_198 jbd_198 (jl rfl) rfl (jl rfl) hu rfl (jk rfl hN) (jd_67.trans jo_198.symm) (fun Q' hq => jc_198 hN (Nat.le_trans (jl rfl) (Nat.le_trans (Nat.le_add_right 3 n) hd))  (jo_b h) hq) (fun p12 hp12 h => ?_)
        refine jr_bi (pc' := 35) rfl rfl rfl ?_
        refine jr_reg (fun t13 => jg t13) (fun t13 => jp X (px_C X d) px_m215 Q' N 43 [some (.ref 67), o3] [(jv t13)] p12.2 (0, 0)) h (fun t13 ht13 h => ?_) (fun R28 k14 h => ?_)
        · refine jr_is_n (pc' := 44) (L' := [_, _]) rfl rfl (jl rfl) rfl rfl (jr_al_n (pc' := 45) rfl rfl rfl (jr_dup (pc' := 46) rfl rfl rfl (jr_gi (pc' := 49) rfl rfl jlk_12_135 (.inl rfl) rfl hN jd_67 rfl rfl (jr_ic (pc' := 50) rfl rfl (jr_add (pc' := 51) rfl rfl ?_)))))
          refine jr_pi (pc' := 54) rfl rfl jlk_12_135 (.inl rfl) rfl hN jd_67 rfl rfl ?_
          refine jr_le h (fun m25 h => ?_)
          refine jr_al_n (pc' := 55) rfl rfl rfl ?_
          refine jr_cv_v (pc' := 58) [] rfl rfl jlk_12_275 jq_216 jbd_216 (jl rfl) rfl (jl rfl) hu rfl (jk rfl hN) (jd_67.trans jo_216.symm) (fun Q' hq => hrec_216 d hd  (jo_b h) hq) (fun p26 hp26 h => ?_)
          refine jr_al_n (pc' := 59) rfl rfl rfl (jr_il_n (pc' := 60) rfl rfl rfl (jr_ic (pc' := 61) rfl rfl ?_))
          refine jr_cv_v (pc' := 64) [] rfl rfl jlk_12_272 jq_218 jbd_218 (jl rfl) rfl (jl rfl) hu rfl (jk rfl hN) (jd_67.trans jo_218.symm) (fun Q' hq => jc_218 hN (Nat.le_trans (jl rfl) (Nat.le_trans (Nat.le_add_right 3 n) hd)) ht13 jgc_0 (jo_b h) hq) (fun p27 hp27 h => ?_)
          refine jr_goto (pc' := 4) rfl rfl ?_
          exact k4 (p27) trivial h _ jn_i
        · refine jr_cne (pa := 38) (pb := 42) rfl rfl rfl hp12 jgc_42 h (fun hc h => ?_) (fun hc h => ?_)
          · refine jr_ic (pc' := 39) rfl rfl (jr_goto (pc' := 43) rfl rfl ?_)
            exact k14 ((4 : Int)) jgc_4 h
          · refine jr_ic (pc' := 43) rfl rfl ?_
            exact k14 ((5 : Int)) jgc_5 h
      · refine jr_al_n (pc' := 21) rfl rfl rfl ?_
        refine jr_cv_i (pc' := 24) [] rfl rfl jlk_12_141 jq_198 jbd_198 (jl rfl) rfl (jl rfl) hu rfl (jk rfl hN) (jd_67.trans jo_198.symm) (fun Q' hq => jc_198 hN (Nat.le_trans (jl rfl) (Nat.le_trans (Nat.le_add_right 3 n) hd))  (jo_b h) hq) (fun p29 hp29 h => ?_)
        refine jr_bi (pc' := 26) rfl rfl rfl ?_
        refine jr_cne (pa := 29) (pb := 67) rfl rfl rfl hp29 jgc_47 h (fun hc h => ?_) (fun hc h => ?_)
        · refine jr_al_n (pc' := 30) rfl rfl rfl ?_
          refine jr_cv_i (pc' := 33) [] rfl rfl jlk_12_141 jq_198 jbd_198 (jl rfl) rfl (jl rfl) hu rfl (jk rfl hN) (jd_67.trans jo_198.symm) (fun Q' hq => jc_198 hN (Nat.le_trans (jl rfl) (Nat.le_trans (Nat.le_add_right 3 n) hd))  (jo_b h) hq) (fun p30 hp30 h => ?_)
          refine jr_bi (pc' := 35) rfl rfl rfl ?_
          refine jr_reg (fun t31 => jg t31) (fun t31 => jp X (px_C X d) px_m215 Q' N 43 [some (.ref 67), o3] [(jv t31)] p30.2 (0, 0)) h (fun t31 ht31 h => ?_) (fun R46 k32 h => ?_)
          · refine jr_is_n (pc' := 44) (L' := [_, _]) rfl rfl (jl rfl) rfl rfl (jr_al_n (pc' := 45) rfl rfl rfl (jr_dup (pc' := 46) rfl rfl rfl (jr_gi (pc' := 49) rfl rfl jlk_12_135 (.inl rfl) rfl hN jd_67 rfl rfl (jr_ic (pc' := 50) rfl rfl (jr_add (pc' := 51) rfl rfl ?_)))))
            refine jr_pi (pc' := 54) rfl rfl jlk_12_135 (.inl rfl) rfl hN jd_67 rfl rfl ?_
            refine jr_le h (fun m43 h => ?_)
            refine jr_al_n (pc' := 55) rfl rfl rfl ?_
            refine jr_cv_v (pc' := 58) [] rfl rfl jlk_12_275 jq_216 jbd_216 (jl rfl) rfl (jl rfl) hu rfl (jk rfl hN) (jd_67.trans jo_216.symm) (fun Q' hq => hrec_216 d hd  (jo_b h) hq) (fun p44 hp44 h => ?_)
            refine jr_al_n (pc' := 59) rfl rfl rfl (jr_il_n (pc' := 60) rfl rfl rfl (jr_ic (pc' := 61) rfl rfl ?_))
            refine jr_cv_v (pc' := 64) [] rfl rfl jlk_12_272 jq_218 jbd_218 (jl rfl) rfl (jl rfl) hu rfl (jk rfl hN) (jd_67.trans jo_218.symm) (fun Q' hq => jc_218 hN (Nat.le_trans (jl rfl) (Nat.le_trans (Nat.le_add_right 3 n) hd)) ht31 jgc_0 (jo_b h) hq) (fun p45 hp45 h => ?_)
            refine jr_goto (pc' := 4) rfl rfl ?_
            exact k4 (p45) trivial h _ jn_i
          · refine jr_cne (pa := 38) (pb := 42) rfl rfl rfl hp30 jgc_42 h (fun hc h => ?_) (fun hc h => ?_)
            · refine jr_ic (pc' := 39) rfl rfl (jr_goto (pc' := 43) rfl rfl ?_)
              exact k32 ((4 : Int)) jgc_4 h
            · refine jr_ic (pc' := 43) rfl rfl ?_
              exact k32 ((5 : Int)) jgc_5 h
        · exact k8 (p29.2) trivial h _ ho3

set_option maxRecDepth 20000 in
set_option maxHeartbeats 1000000 in
theorem jc_214 {X : Nat × (Nat → Int32)} {N d n : Nat} {rec : Nat → Int → Int → jm → Option (jm)} (hrec_215 : ∀ d, 3 + n ≤ d → ∀ {m : jm} {P : jm → Prop} {Q : px_Q}, jo (rec 1 0 0 m) P → (∀ p : jm, True → P p → Q (.inl (none)) (jmem N p)) → px_C X d 215 [.ref 67] (jmem N m) Q)  (hN : 102 ≤ N) (hd : 3 + n + 1 ≤ d)  {m : jm} {P : jm → Prop} {Q : px_Q} (h : jo (jf_214 rec m) P) (hQ : ∀ p : jm, True → P p → Q (.inl (none)) (jmem N p)) : px_C X d 214 [.ref 67] (jmem N m) Q := by
  unfold jf_214 at h
  have hu : ju px_m214 (0, 0) := ju_0
  refine jr_in (M := px_m214) (lev := 3 + n) (L := [some (.ref 67), none]) hd rfl jbd_214 (jl rfl) rfl (fun d hd Q' hQ' => ?_)
  refine jr_al_n (pc' := 1) rfl rfl rfl ?_
  refine jr_cv_v (pc' := 4) [] rfl rfl jlk_12_269 jq_215 jbd_215 (jl rfl) rfl (jl rfl) hu rfl (jk rfl hN) (jd_67.trans jo_215.symm) (fun Q' hq => hrec_215 d hd  (jo_b h) hq) (fun p1 hp1 h => ?_)
  refine jr_reg (fun t6 => True) (fun t6 => ∀ o7, jn o7 → jp X (px_C X d) px_m214 Q' N 67 [some (.ref 67), o7] [] t6 (0, 0)) h (fun t6 ht6 h o7 ho7 => ?_) (fun R9 k8 h => ?_)
  · exact jr_rv rfl hu rfl (hQ' _ _ (hQ t6 trivial h))
  · refine jr_lp (fun s2 => True) (fun s2 => ∀ o3, jn o3 → jp X (px_C X d) px_m214 Q' N 4 [some (.ref 67), o3] [] s2 (0, 0)) h trivial (fun s2 hs2 R5 k4 h o3 ho3 => ?_) _ jn_n
    refine jr_al_n (pc' := 5) rfl rfl rfl ?_
    refine jr_cv_p (pc' := 8) [] rfl rfl jlk_12_158 jq_196 jbd_196 (jl rfl) rfl (jl rfl) hu rfl (jk rfl hN) (jd_67.trans jo_196.symm) (fun Q' hq => jc_196 hN (Nat.le_trans (jl rfl) (Nat.le_trans (Nat.le_add_right 3 n) hd))  (jo_b h) hq) (fun p10 hp10 h => ?_)
    refine jr_zeq (pa := 67) (pb := 11) rfl rfl rfl (jg_b hp10) h (fun hc h => ?_) (fun hc h => ?_)
    · exact k8 (s2) trivial h _ ho3
    · refine jr_al_n (pc' := 12) rfl rfl rfl ?_
      refine jr_cv_i (pc' := 15) [] rfl rfl jlk_12_141 jq_198 jbd_198 (jl rfl) rfl (jl rfl) hu rfl (jk rfl hN) (jd_67.trans jo_198.symm) (fun Q' hq => jc_198 hN (Nat.le_trans (jl rfl) (Nat.le_trans (Nat.le_add_right 3 n) hd))  (jo_b h) hq) (fun p11 hp11 h => ?_)
      refine jr_bi (pc' := 17) rfl rfl rfl ?_
      refine jr_ceq (pa := 29) (pb := 20) rfl rfl rfl hp11 jgc_43 h (fun hc h => ?_) (fun hc h => ?_)
      · refine jr_al_n (pc' := 30) rfl rfl rfl ?_
        refine jr_cv_i (pc' := 33) [] rfl rfl jlk_12_141 jq_198 jbd_198 (jl rfl) rfl (jl rfl) hu rfl (jk rfl hN) (jd_67.trans jo_198.symm) (fun Q' hq => jc_198 hN (Nat.le_trans (jl rfl) (Nat.le_trans (Nat.le_add_right 3 n) hd))  (jo_b h) hq) (fun p12 hp12 h => ?_)
        refine jr_bi (pc' := 35) rfl rfl rfl ?_
        refine jr_reg (fun t13 => jg t13) (fun t13 => jp X (px_C X d) px_m214 Q' N 43 [some (.ref 67), o3] [(jv t13)] p12.2 (0, 0)) h (fun t13 ht13 h => ?_) (fun R28 k14 h => ?_)
        · refine jr_is_n (pc' := 44) (L' := [_, _]) rfl rfl (jl rfl) rfl rfl (jr_al_n (pc' := 45) rfl rfl rfl (jr_dup (pc' := 46) rfl rfl rfl (jr_gi (pc' := 49) rfl rfl jlk_12_135 (.inl rfl) rfl hN jd_67 rfl rfl (jr_ic (pc' := 50) rfl rfl (jr_add (pc' := 51) rfl rfl ?_)))))
          refine jr_pi (pc' := 54) rfl rfl jlk_12_135 (.inl rfl) rfl hN jd_67 rfl rfl ?_
          refine jr_le h (fun m25 h => ?_)
          refine jr_al_n (pc' := 55) rfl rfl rfl ?_
          refine jr_cv_v (pc' := 58) [] rfl rfl jlk_12_269 jq_215 jbd_215 (jl rfl) rfl (jl rfl) hu rfl (jk rfl hN) (jd_67.trans jo_215.symm) (fun Q' hq => hrec_215 d hd  (jo_b h) hq) (fun p26 hp26 h => ?_)
          refine jr_al_n (pc' := 59) rfl rfl rfl (jr_il_n (pc' := 60) rfl rfl rfl (jr_ic (pc' := 61) rfl rfl ?_))
          refine jr_cv_v (pc' := 64) [] rfl rfl jlk_12_272 jq_218 jbd_218 (jl rfl) rfl (jl rfl) hu rfl (jk rfl hN) (jd_67.trans jo_218.symm) (fun Q' hq => jc_218 hN (Nat.le_trans (jl rfl) (Nat.le_trans (Nat.le_add_right 3 n) hd)) ht13 jgc_0 (jo_b h) hq) (fun p27 hp27 h => ?_)
          refine jr_goto (pc' := 4) rfl rfl ?_
          exact k4 (p27) trivial h _ jn_i
        · refine jr_cne (pa := 38) (pb := 42) rfl rfl rfl hp12 jgc_43 h (fun hc h => ?_) (fun hc h => ?_)
          · refine jr_ic (pc' := 39) rfl rfl (jr_goto (pc' := 43) rfl rfl ?_)
            exact k14 ((2 : Int)) jgc_2 h
          · refine jr_ic (pc' := 43) rfl rfl ?_
            exact k14 ((3 : Int)) jgc_3 h
      · refine jr_al_n (pc' := 21) rfl rfl rfl ?_
        refine jr_cv_i (pc' := 24) [] rfl rfl jlk_12_141 jq_198 jbd_198 (jl rfl) rfl (jl rfl) hu rfl (jk rfl hN) (jd_67.trans jo_198.symm) (fun Q' hq => jc_198 hN (Nat.le_trans (jl rfl) (Nat.le_trans (Nat.le_add_right 3 n) hd))  (jo_b h) hq) (fun p29 hp29 h => ?_)
        refine jr_bi (pc' := 26) rfl rfl rfl ?_
        refine jr_cne (pa := 29) (pb := 67) rfl rfl rfl hp29 jgc_45 h (fun hc h => ?_) (fun hc h => ?_)
        · refine jr_al_n (pc' := 30) rfl rfl rfl ?_
          refine jr_cv_i (pc' := 33) [] rfl rfl jlk_12_141 jq_198 jbd_198 (jl rfl) rfl (jl rfl) hu rfl (jk rfl hN) (jd_67.trans jo_198.symm) (fun Q' hq => jc_198 hN (Nat.le_trans (jl rfl) (Nat.le_trans (Nat.le_add_right 3 n) hd))  (jo_b h) hq) (fun p30 hp30 h => ?_)
          refine jr_bi (pc' := 35) rfl rfl rfl ?_
          refine jr_reg (fun t31 => jg t31) (fun t31 => jp X (px_C X d) px_m214 Q' N 43 [some (.ref 67), o3] [(jv t31)] p30.2 (0, 0)) h (fun t31 ht31 h => ?_) (fun R46 k32 h => ?_)
          · refine jr_is_n (pc' := 44) (L' := [_, _]) rfl rfl (jl rfl) rfl rfl (jr_al_n (pc' := 45) rfl rfl rfl (jr_dup (pc' := 46) rfl rfl rfl (jr_gi (pc' := 49) rfl rfl jlk_12_135 (.inl rfl) rfl hN jd_67 rfl rfl (jr_ic (pc' := 50) rfl rfl (jr_add (pc' := 51) rfl rfl ?_)))))
            refine jr_pi (pc' := 54) rfl rfl jlk_12_135 (.inl rfl) rfl hN jd_67 rfl rfl ?_
            refine jr_le h (fun m43 h => ?_)
            refine jr_al_n (pc' := 55) rfl rfl rfl ?_
            refine jr_cv_v (pc' := 58) [] rfl rfl jlk_12_269 jq_215 jbd_215 (jl rfl) rfl (jl rfl) hu rfl (jk rfl hN) (jd_67.trans jo_215.symm) (fun Q' hq => hrec_215 d hd  (jo_b h) hq) (fun p44 hp44 h => ?_)
            refine jr_al_n (pc' := 59) rfl rfl rfl (jr_il_n (pc' := 60) rfl rfl rfl (jr_ic (pc' := 61) rfl rfl ?_))
            refine jr_cv_v (pc' := 64) [] rfl rfl jlk_12_272 jq_218 jbd_218 (jl rfl) rfl (jl rfl) hu rfl (jk rfl hN) (jd_67.trans jo_218.symm) (fun Q' hq => jc_218 hN (Nat.le_trans (jl rfl) (Nat.le_trans (Nat.le_add_right 3 n) hd)) ht31 jgc_0 (jo_b h) hq) (fun p45 hp45 h => ?_)
            refine jr_goto (pc' := 4) rfl rfl ?_
            exact k4 (p45) trivial h _ jn_i
          · refine jr_cne (pa := 38) (pb := 42) rfl rfl rfl hp30 jgc_43 h (fun hc h => ?_) (fun hc h => ?_)
            · refine jr_ic (pc' := 39) rfl rfl (jr_goto (pc' := 43) rfl rfl ?_)
              exact k32 ((2 : Int)) jgc_2 h
            · refine jr_ic (pc' := 43) rfl rfl ?_
              exact k32 ((3 : Int)) jgc_3 h
        · exact k8 (p29.2) trivial h _ ho3

theorem jcG_B {X : Nat × (Nat → Int32)} {N : Nat} (hN : 102 ≤ N) : ∀ n d, 3 + n ≤ d → (∀ {m : jm} {P : jm → Prop} {Q : px_Q}, jo (jG_B n 0 0 0 m) P → (∀ p : jm, True → P p → Q (.inl (none)) (jmem N p)) → px_C X d 214 [.ref 67] (jmem N m) Q) ∧ (∀ {m : jm} {P : jm → Prop} {Q : px_Q}, jo (jG_B n 1 0 0 m) P → (∀ p : jm, True → P p → Q (.inl (none)) (jmem N p)) → px_C X d 215 [.ref 67] (jmem N m) Q) ∧ (∀ {m : jm} {P : jm → Prop} {Q : px_Q}, jo (jG_B n 2 0 0 m) P → (∀ p : jm, True → P p → Q (.inl (none)) (jmem N p)) → px_C X d 216 [.ref 67] (jmem N m) Q) ∧ (∀ {x0 : Int} {x1 : Int} {m : jm} {P : jm → Prop} {Q : px_Q}, jg x0 → jg x1 → jo (jG_B n 3 x0 x1 m) P → (∀ p : jm, True → P p → Q (.inl (none)) (jmem N p)) → px_C X d 219 [.ref 67, jv x0, jv x1] (jmem N m) Q)
  | 0, d, hd => ⟨fun h _ => h.elim, fun h _ => h.elim, fun h _ => h.elim, fun _ _ h _ => h.elim⟩
  | n + 1, d, hd => by
    have ih := jcG_B (X := X) (N := N) hN n
    exact ⟨fun h hQ => jc_214 (n := n) (hrec_215 := fun d hd => (ih d hd).2.1) hN hd  h hQ, fun h hQ => jc_215 (n := n) (hrec_216 := fun d hd => (ih d hd).2.2.1) hN hd  h hQ, fun h hQ => jc_216 (n := n) (hrec_214 := fun d hd => (ih d hd).1) (hrec_219 := fun d hd => (ih d hd).2.2.2) hN hd  h hQ, fun h0 h1 h hQ => jc_219 (n := n) (hrec_214 := fun d hd => (ih d hd).1) hN hd h0 h1 h hQ⟩
theorem jcg_214 {X : Nat × (Nat → Int32)} {N d : Nat}  (hN : 102 ≤ N) (hd : 63 ≤ d)  {m : jm} {P : jm → Prop} {Q : px_Q} (h : jo (jG_B 60 0 0 0 m) P) (hQ : (∀ p : jm, True → P p → Q (.inl (none)) (jmem N p))) : px_C X d 214 [.ref 67] (jmem N m) Q := (jcG_B hN 60 d hd).1  h hQ
theorem jcg_215 {X : Nat × (Nat → Int32)} {N d : Nat}  (hN : 102 ≤ N) (hd : 63 ≤ d)  {m : jm} {P : jm → Prop} {Q : px_Q} (h : jo (jG_B 60 1 0 0 m) P) (hQ : (∀ p : jm, True → P p → Q (.inl (none)) (jmem N p))) : px_C X d 215 [.ref 67] (jmem N m) Q := (jcG_B hN 60 d hd).2.1  h hQ
theorem jcg_216 {X : Nat × (Nat → Int32)} {N d : Nat}  (hN : 102 ≤ N) (hd : 63 ≤ d)  {m : jm} {P : jm → Prop} {Q : px_Q} (h : jo (jG_B 60 2 0 0 m) P) (hQ : (∀ p : jm, True → P p → Q (.inl (none)) (jmem N p))) : px_C X d 216 [.ref 67] (jmem N m) Q := (jcG_B hN 60 d hd).2.2.1  h hQ
theorem jcg_219 {X : Nat × (Nat → Int32)} {N d : Nat} {x0 : Int} {x1 : Int} (hN : 102 ≤ N) (hd : 63 ≤ d) (h0 : jg x0) (h1 : jg x1) {m : jm} {P : jm → Prop} {Q : px_Q} (h : jo (jG_B 60 3 x0 x1 m) P) (hQ : (∀ p : jm, True → P p → Q (.inl (none)) (jmem N p))) : px_C X d 219 [.ref 67, jv x0, jv x1] (jmem N m) Q := (jcG_B hN 60 d hd).2.2.2 h0 h1 h hQ

set_option maxRecDepth 20000 in
set_option maxHeartbeats 1000000 in
theorem jc_213 {X : Nat × (Nat → Int32)} {N d : Nat} {x0 : Int} (hN : 102 ≤ N) (hd : 64 ≤ d) (hx0 : jg x0) {m : jm} {P : Int × jm → Prop} {Q : px_Q} (h : jo (jf_213 x0 m) P) (hQ : ∀ p : Int × jm, jg p.1 → P p → Q (.inl (some (jv p.1))) (jmem N p.2)) : px_C X d 213 [.ref 67, jv x0] (jmem N m) Q := by
  unfold jf_213 at h
  have hu : ju px_m213 (0, 0) := ju_0
  refine jr_in (M := px_m213) (lev := 63) (L := [some (.ref 67), some (jv x0), none]) hd rfl jbd_213 (jl rfl) rfl (fun d hd Q' hQ' => ?_)
  refine jr_al_n (pc' := 1) rfl rfl rfl (jr_ic (pc' := 2) rfl rfl (jr_pi (pc' := 5) rfl rfl jlk_12_3 (.inl rfl) rfl hN jd_67 rfl rfl ?_))
  refine jr_le h (fun m1 h => ?_)
  refine jr_al_n (pc' := 6) rfl rfl rfl (jr_il_n (pc' := 7) rfl rfl rfl ?_)
  refine jr_reg (fun t2 => jb t2) (fun t2 => jp X (px_C X d) px_m213 Q' N 30 [some (.ref 67), some (jv x0), none] [(jv t2), (.ref 67)] m1 (0, 0)) h (fun t2 ht2 h => ?_) (fun R38 k3 h => ?_)
  · refine jr_ic (pc' := 31) rfl rfl (jr_ic (pc' := 32) rfl rfl ?_)
    refine jr_cv_i (pc' := 35) [] rfl rfl jlk_12_233 jq_194 jbd_194 (jl rfl) rfl (jl rfl) hu rfl (jk rfl hN) (jd_67.trans jo_194.symm) (fun Q' hq => jc_194 hN (Nat.le_trans (jl rfl) hd) (jg_b ht2) jgc_1 jgc_1 (jo_b h) hq) (fun p14 hp14 h => ?_)
    refine jr_zne (pa := 38) (pb := 40) rfl rfl rfl (jg_b hp14) h (fun hc h => ?_) (fun hc h => ?_)
    · refine jr_ic (pc' := 39) rfl rfl ?_
      exact jr_ret rfl hu rfl (hQ' _ _ (hQ ((0 : Int), p14.2) jgc_0 h))
    · refine jr_al_n (pc' := 41) rfl rfl rfl (jr_il_n (pc' := 42) rfl rfl rfl ?_)
      refine jr_cv_v (pc' := 45) [] rfl rfl jlk_12_237 jq_195 jbd_195 (jl rfl) rfl (jl rfl) hu rfl (jk rfl hN) (jd_67.trans jo_195.symm) (fun Q' hq => jc_195 hN (Nat.le_trans (jl rfl) hd) hx0 (jo_b h) hq) (fun p15 hp15 h => ?_)
      refine jr_al_n (pc' := 46) rfl rfl rfl (jr_ic (pc' := 47) rfl rfl (jr_pi (pc' := 50) rfl rfl jlk_12_266 (.inl rfl) rfl hN jd_67 rfl rfl ?_))
      refine jr_le h (fun m16 h => ?_)
      refine jr_al_n (pc' := 51) rfl rfl rfl ?_
      refine jr_cv_v (pc' := 54) [] rfl rfl jlk_12_281 jq_214 jbd_214 (jl rfl) rfl (jl rfl) hu rfl (jk rfl hN) (jd_67.trans jo_214.symm) (fun Q' hq => jcg_214 hN (Nat.le_trans (jl rfl) hd)  (jo_b h) hq) (fun p17 hp17 h => ?_)
      refine jr_al_n (pc' := 55) rfl rfl rfl ?_
      refine jr_cv_p (pc' := 58) [] rfl rfl jlk_12_158 jq_196 jbd_196 (jl rfl) rfl (jl rfl) hu rfl (jk rfl hN) (jd_67.trans jo_196.symm) (fun Q' hq => jc_196 hN (Nat.le_trans (jl rfl) hd)  (jo_b h) hq) (fun p18 hp18 h => ?_)
      refine jr_reg (fun t19 => True) (fun t19 => jp X (px_C X d) px_m213 Q' N 77 [some (.ref 67), some (jv x0), none] [] t19 (0, 0)) h (fun t19 ht19 h => ?_) (fun R37 k20 h => ?_)
      · refine jr_al_n (pc' := 78) rfl rfl rfl (jr_ic (pc' := 79) rfl rfl ?_)
        refine jr_cv_i (pc' := 82) [] rfl rfl jlk_12_262 jq_212 jbd_212 (jl rfl) rfl (jl rfl) hu rfl (jk rfl hN) (jd_67.trans jo_212.symm) (fun Q' hq => jc_212 hN (Nat.le_trans (jl rfl) hd) jgc_1 (jo_b h) hq) (fun p33 hp33 h => ?_)
        refine jr_is_n (pc' := 83) (L' := [_, _, _]) rfl rfl (jl rfl) rfl rfl (jr_al_n (pc' := 84) rfl rfl rfl (jr_gi (pc' := 87) rfl rfl jlk_12_129 (.inl rfl) rfl hN jd_67 rfl rfl (jr_ic (pc' := 88) rfl rfl ?_)))
        refine jr_ceq (pa := 93) (pb := 91) rfl rfl rfl jg_a jgc_m1 h (fun hc h => ?_) (fun hc h => ?_)
        · refine jr_al_n (pc' := 94) rfl rfl rfl (jr_al_n (pc' := 95) rfl rfl rfl (jr_gi (pc' := 98) rfl rfl jlk_12_266 (.inl rfl) rfl hN jd_67 rfl rfl (jr_pi (pc' := 101) rfl rfl jlk_12_200 (.inl rfl) rfl hN jd_67 rfl rfl ?_)))
          refine jr_le h (fun m34 h => ?_)
          refine jr_al_n (pc' := 102) rfl rfl rfl (jr_al_n (pc' := 103) rfl rfl rfl (jr_gr (pc' := 106) (r := 80) rfl rfl jlk_12_53 (.inl rfl) rfl hN jd_67 rfl rfl rfl (jr_al_n (pc' := 107) rfl rfl rfl (jr_gr (pc' := 110) (r := 82) rfl rfl jlk_12_59 (.inl rfl) rfl hN jd_67 rfl rfl rfl (jr_al_n (pc' := 111) rfl rfl rfl ?_)))))
          refine jr_gi (pc' := 114) rfl rfl jlk_12_266 (.inl rfl) rfl hN jd_67 rfl rfl ?_
          refine jr_cv_v (pc' := 117) [] rfl rfl jlk_12_196 jq_190 jbd_190 (jl rfl) rfl (jl rfl) hu rfl (jk rfl hN) (jd_67.trans jo_190.symm) (fun Q' hq => jc_190 hN (Nat.le_trans (jl rfl) hd) ⟨jl rfl, jd_80⟩ ⟨jl rfl, jd_82⟩ jg_a (jo_b h) hq) (fun p35 hp35 h => ?_)
          refine jr_al_n (pc' := 118) rfl rfl rfl (jr_al_n (pc' := 119) rfl rfl rfl (jr_gr (pc' := 122) (r := 81) rfl rfl jlk_12_56 (.inl rfl) rfl hN jd_67 rfl rfl rfl (jr_al_n (pc' := 123) rfl rfl rfl (jr_gr (pc' := 126) (r := 83) rfl rfl jlk_12_62 (.inl rfl) rfl hN jd_67 rfl rfl rfl (jr_al_n (pc' := 127) rfl rfl rfl ?_)))))
          refine jr_gi (pc' := 130) rfl rfl jlk_12_266 (.inl rfl) rfl hN jd_67 rfl rfl ?_
          refine jr_cv_v (pc' := 133) [] rfl rfl jlk_12_196 jq_190 jbd_190 (jl rfl) rfl (jl rfl) hu rfl (jk rfl hN) (jd_67.trans jo_190.symm) (fun Q' hq => jc_190 hN (Nat.le_trans (jl rfl) hd) ⟨jl rfl, jd_81⟩ ⟨jl rfl, jd_83⟩ jg_a (jo_b h) hq) (fun p36 hp36 h => ?_)
          refine jr_il_n (pc' := 134) rfl rfl rfl ?_
          exact jr_ret rfl hu rfl (hQ' _ _ (hQ (p33.1, p36) hp33 h))
        · refine jr_il_n (pc' := 92) rfl rfl rfl ?_
          exact jr_ret rfl hu rfl (hQ' _ _ (hQ (p33.1, p33.2) hp33 h))
      · refine jr_zeq (pa := 77) (pb := 61) rfl rfl rfl (jg_b hp18) h (fun hc h => ?_) (fun hc h => ?_)
        · exact k20 (p17) trivial h
        · refine jr_al_n (pc' := 62) rfl rfl rfl ?_
          refine jr_cv_i (pc' := 65) [] rfl rfl jlk_12_241 jq_197 jbd_197 (jl rfl) rfl (jl rfl) hu rfl (jk rfl hN) (jd_67.trans jo_197.symm) (fun Q' hq => jc_197 hN (Nat.le_trans (jl rfl) hd)  (jo_b h) hq) (fun p21 hp21 h => ?_)
          refine jr_zeq (pa := 77) (pb := 68) rfl rfl rfl (jg_b hp21) h (fun hc h => ?_) (fun hc h => ?_)
          · exact k20 (p21.2) trivial h
          · refine jr_al_n (pc' := 69) rfl rfl rfl (jr_ic (pc' := 70) rfl rfl (jr_al_n (pc' := 71) rfl rfl rfl (jr_gi (pc' := 74) rfl rfl jlk_12_135 (.inl rfl) rfl hN jd_67 rfl rfl ?_)))
            refine jr_cv_v (pc' := 77) [] rfl rfl jlk_12_165 jq_203 jbd_203 (jl rfl) rfl (jl rfl) hu rfl (jk rfl hN) (jd_67.trans jo_203.symm) (fun Q' hq => jc_203 hN (Nat.le_trans (jl rfl) hd) jgc_1 jg_a (jo_b h) hq) (fun p22 hp22 h => ?_)
            exact k20 (p22) trivial h
  · refine jr_zlt (pa := 29) (pb := 10) rfl rfl rfl hx0 h (fun hc h => ?_) (fun hc h => ?_)
    · refine jr_ic (pc' := 30) rfl rfl ?_
      exact k3 ((0 : Int)) jb_0 h
    · refine jr_il_n (pc' := 11) rfl rfl rfl (jr_al_n (pc' := 12) rfl rfl rfl (jr_gi (pc' := 15) rfl rfl jlk_12_126 (.inl rfl) rfl hN jd_67 rfl rfl ?_))
      refine jr_cgt (pa := 29) (pb := 18) rfl rfl rfl hx0 jg_a h (fun hc h => ?_) (fun hc h => ?_)
      · refine jr_ic (pc' := 30) rfl rfl ?_
        exact k3 ((0 : Int)) jb_0 h
      · refine jr_il_n (pc' := 19) rfl rfl rfl (jr_si (pc' := 22) rfl rfl rfl ?_)
        refine jr_cgt (pa := 29) (pb := 25) rfl rfl rfl hx0 jgc_150 h (fun hc h => ?_) (fun hc h => ?_)
        · refine jr_ic (pc' := 30) rfl rfl ?_
          exact k3 ((0 : Int)) jb_0 h
        · refine jr_ic (pc' := 26) rfl rfl (jr_goto (pc' := 30) rfl rfl ?_)
          exact k3 ((1 : Int)) jb_1 h

set_option maxRecDepth 20000 in
set_option maxHeartbeats 1000000 in
theorem jc_224 {X : Nat × (Nat → Int32)} {N d : Nat} {x0 : Int} {x1 : Int} {x2 : Int} (hN : 102 ≤ N) (hd : 2 ≤ d) (hx0 : jg x0) (hx1 : jg x1) (hx2 : jg x2) {m : jm} {P : jm → Prop} {Q : px_Q} (h : jo (jf_224 x0 x1 x2 m) P) (hQ : ∀ p : jm, True → P p → Q (.inl (none)) (jmem N p)) : px_C X d 224 [.ref 67, jv x0, jv x1, jv x2] (jmem N m) Q := by
  unfold jf_224 at h
  have hu : ju px_m224 (0, 0) := ju_0
  refine jr_in (M := px_m224) (lev := 1) (L := [some (.ref 67), some (jv x0), some (jv x1), some (jv x2)]) hd rfl jbd_224 (jl rfl) rfl (fun d hd Q' hQ' => ?_)
  refine jr_al_n (pc' := 1) rfl rfl rfl ?_
  refine jr_cv_p (pc' := 4) [] rfl rfl jlk_12_158 jq_196 jbd_196 (jl rfl) rfl (jl rfl) hu rfl (jk rfl hN) (jd_67.trans jo_196.symm) (fun Q' hq => jc_196 hN (Nat.le_trans (jl rfl) hd)  (jo_b h) hq) (fun p1 hp1 h => ?_)
  refine jr_zne (pa := 7) (pb := 8) rfl rfl rfl (jg_b hp1) h (fun hc h => ?_) (fun hc h => ?_)
  · exact jr_rv rfl hu rfl (hQ' _ _ (hQ m trivial h))
  · refine jr_al_n (pc' := 9) rfl rfl rfl (jr_gr (pc' := 12) (r := 86) rfl rfl jlk_12_71 (.inl rfl) rfl hN jd_67 rfl rfl rfl (jr_al_n (pc' := 13) rfl rfl rfl (jr_gi (pc' := 16) rfl rfl jlk_12_321 (.inl rfl) rfl hN jd_67 rfl rfl (jr_il_n (pc' := 17) rfl rfl rfl ?_))))
    refine jr_ist (pc' := 18) rfl rfl (jl rfl) hN jd_86 jn_86 jg_a h (fun hc h => ?_)
    refine jr_le h (fun m2 h => ?_)
    refine jr_al_n (pc' := 19) rfl rfl rfl (jr_gr (pc' := 22) (r := 86) rfl rfl jlk_12_71 (.inl rfl) rfl hN jd_67 rfl rfl rfl (jr_al_n (pc' := 23) rfl rfl rfl (jr_gi (pc' := 26) rfl rfl jlk_12_321 (.inl rfl) rfl hN jd_67 rfl rfl (jr_ic (pc' := 27) rfl rfl (jr_add (pc' := 28) rfl rfl ?_)))))
    refine jr_il_n (pc' := 29) rfl rfl rfl ?_
    refine jr_ist (pc' := 30) rfl rfl (jl rfl) hN jd_86 jn_86 jg_w h (fun hc h => ?_)
    refine jr_le h (fun m3 h => ?_)
    refine jr_al_n (pc' := 31) rfl rfl rfl (jr_gr (pc' := 34) (r := 86) rfl rfl jlk_12_71 (.inl rfl) rfl hN jd_67 rfl rfl rfl (jr_al_n (pc' := 35) rfl rfl rfl (jr_gi (pc' := 38) rfl rfl jlk_12_321 (.inl rfl) rfl hN jd_67 rfl rfl (jr_ic (pc' := 39) rfl rfl (jr_add (pc' := 40) rfl rfl ?_)))))
    refine jr_il_n (pc' := 41) rfl rfl rfl ?_
    refine jr_ist (pc' := 42) rfl rfl (jl rfl) hN jd_86 jn_86 jg_w h (fun hc h => ?_)
    refine jr_le h (fun m4 h => ?_)
    refine jr_al_n (pc' := 43) rfl rfl rfl (jr_dup (pc' := 44) rfl rfl rfl (jr_gi (pc' := 47) rfl rfl jlk_12_321 (.inl rfl) rfl hN jd_67 rfl rfl (jr_ic (pc' := 48) rfl rfl (jr_add (pc' := 49) rfl rfl (jr_pi (pc' := 52) rfl rfl jlk_12_321 (.inl rfl) rfl hN jd_67 rfl rfl ?_)))))
    refine jr_le h (fun m5 h => ?_)
    exact jr_rv rfl hu rfl (hQ' _ _ (hQ m5 trivial h))

set_option maxRecDepth 20000 in
set_option maxHeartbeats 1000000 in
theorem jc_225 {X : Nat × (Nat → Int32)} {N d : Nat} {x0 : Int} {x1 : Int} {x2 : Int} (hN : 102 ≤ N) (hd : 3 ≤ d) (hx0 : jg x0) (hx1 : jg x1) (hx2 : jg x2) {m : jm} {P : jm → Prop} {Q : px_Q} (h : jo (jf_225 x0 x1 x2 m) P) (hQ : ∀ p : jm, True → P p → Q (.inl (none)) (jmem N p)) : px_C X d 225 [.ref 67, jv x0, jv x1, jv x2] (jmem N m) Q := by
  unfold jf_225 at h
  have hu : ju px_m225 (0, 0) := ju_0
  refine jr_in (M := px_m225) (lev := 2) (L := [some (.ref 67), some (jv x0), some (jv x1), some (jv x2), none]) hd rfl jbd_225 (jl rfl) rfl (fun d hd Q' hQ' => ?_)
  refine jr_al_n (pc' := 1) rfl rfl rfl (jr_ic (pc' := 2) rfl rfl (jr_il_n (pc' := 3) rfl rfl rfl (jr_ic (pc' := 4) rfl rfl (jr_sub (pc' := 5) rfl rfl ?_))))
  refine jr_cv_i (pc' := 8) [] rfl rfl jlk_12_215 jq_207 jbd_207 (jl rfl) rfl (jl rfl) hu rfl (jk rfl hN) (jd_67.trans jo_207.symm) (fun Q' hq => jc_207 hN (Nat.le_trans (jl rfl) hd) jgc_0 jg_w (jo_b h) hq) (fun p1 hp1 h => ?_)
  refine jr_is (pc' := 10) (L' := [_, _, _, _, _]) rfl rfl (jl rfl) rfl rfl (jr_al_n (pc' := 11) rfl rfl rfl (jr_il_n (pc' := 12) rfl rfl rfl (jr_il (pc' := 14) rfl rfl rfl (jr_al_n (pc' := 15) rfl rfl rfl (jr_ic (pc' := 16) rfl rfl ?_)))))
  refine jr_il_n (pc' := 17) rfl rfl rfl (jr_ic (pc' := 18) rfl rfl (jr_sub (pc' := 19) rfl rfl ?_))
  refine jr_cv_i (pc' := 22) [_, _, _] rfl rfl jlk_12_215 jq_207 jbd_207 (jl rfl) rfl (jl rfl) hu rfl (jk rfl hN) (jd_67.trans jo_207.symm) (fun Q' hq => jc_207 hN (Nat.le_trans (jl rfl) hd) jgc_0 jg_w (jo_b h) hq) (fun p2 hp2 h => ?_)
  refine jr_cv_v (pc' := 25) [] rfl rfl jlk_12_324 jq_224 jbd_224 (jl rfl) rfl (jl rfl) hu rfl (jk rfl hN) (jd_67.trans jo_224.symm) (fun Q' hq => jc_224 hN (Nat.le_trans (jl rfl) hd) hx0 hp1 hp2 (jo_b h) hq) (fun p3 hp3 h => ?_)
  exact jr_rv rfl hu rfl (hQ' _ _ (hQ p3 trivial h))

set_option maxRecDepth 20000 in
set_option maxHeartbeats 1000000 in
theorem jc_223 {X : Nat × (Nat → Int32)} {N d n : Nat} {rec : Nat → Int → Int → jm → Option (jm)} (hrec_223 : ∀ d, 3 + n ≤ d → ∀ {m : jm} {P : jm → Prop} {Q : px_Q}, jo (rec 0 0 0 m) P → (∀ p : jm, True → P p → Q (.inl (none)) (jmem N p)) → px_C X d 223 [.ref 67] (jmem N m) Q)  (hN : 102 ≤ N) (hd : 3 + n + 1 ≤ d)  {m : jm} {P : jm → Prop} {Q : px_Q} (h : jo (jf_223 rec m) P) (hQ : ∀ p : jm, True → P p → Q (.inl (none)) (jmem N p)) : px_C X d 223 [.ref 67] (jmem N m) Q := by
  unfold jf_223 at h
  have hu : ju px_m223 (0, 0) := ju_0
  refine jr_in (M := px_m223) (lev := 3 + n) (L := [some (.ref 67), none, none, none]) hd rfl jbd_223 (jl rfl) rfl (fun d hd Q' hQ' => ?_)
  refine jr_al_n (pc' := 1) rfl rfl rfl ?_
  refine jr_cv_i (pc' := 4) [] rfl rfl jlk_12_244 jq_199 jbd_199 (jl rfl) rfl (jl rfl) hu rfl (jk rfl hN) (jd_67.trans jo_199.symm) (fun Q' hq => jc_199 hN (Nat.le_trans (jl rfl) (Nat.le_trans (Nat.le_add_right 3 n) hd))  (jo_b h) hq) (fun p1 hp1 h => ?_)
  refine jr_is_n (pc' := 5) (L' := [_, _, _, _]) rfl rfl (jl rfl) rfl rfl (jr_il_n (pc' := 6) rfl rfl rfl (jr_ldws (pc' := 9) rfl rfl jlk_12_298 ?_))
  refine jr_cs_p (pc' := 12) [_] rfl rfl jlk_12_223 jq_202 jbd_202 (jl rfl) rfl (jl rfl) hu (fun Q' hq => jc_202 hN (Nat.le_trans (jl rfl) (Nat.le_trans (Nat.le_add_right 3 n) hd)) (jl rfl) (jo_b h) hq) (fun p2 hp2 h => ?_)
  refine jr_reg (fun t3 => True) (fun t3 => ∀ o4, jn o4 → ∀ o5, jn o5 → jp X (px_C X d) px_m223 Q' N 312 [some (.ref 67), some (jv p1.1), o4, o5] [] t3 (0, 0)) h (fun t3 ht3 h o4 ho4 o5 ho5 => ?_) (fun R137 k6 h => ?_)
  · refine jr_al_n (pc' := 313) rfl rfl rfl (jr_bi (pc' := 315) rfl rfl rfl ?_)
    refine jr_cv_v (pc' := 318) [] rfl rfl jlk_12_259 jq_211 jbd_211 (jl rfl) rfl (jl rfl) hu rfl (jk rfl hN) (jd_67.trans jo_211.symm) (fun Q' hq => jc_211 hN (Nat.le_trans (jl rfl) (Nat.le_trans (Nat.le_add_right 3 n) hd)) jgc_59 (jo_b h) hq) (fun p136 hp136 h => ?_)
    exact jr_rv rfl hu rfl (hQ' _ _ (hQ p136 trivial h))
  · refine jr_ceq (pa := 25) (pb := 15) rfl rfl rfl hp1 hp2 h (fun hc h => ?_) (fun hc h => ?_)
    · refine jr_al_n (pc' := 26) rfl rfl rfl ?_
      refine jr_cv_v (pc' := 29) [] rfl rfl jlk_12_253 jq_205 jbd_205 (jl rfl) rfl (jl rfl) hu rfl (jk rfl hN) (jd_67.trans jo_205.symm) (fun Q' hq => jc_205 hN (Nat.le_trans (jl rfl) (Nat.le_trans (Nat.le_add_right 3 n) hd))  (jo_b h) hq) (fun p7 hp7 h => ?_)
      refine jr_al_n (pc' := 30) rfl rfl rfl (jr_il_n (pc' := 31) rfl rfl rfl (jr_ldws (pc' := 34) rfl rfl jlk_12_298 ?_))
      refine jr_cs_p (pc' := 37) [_, _] rfl rfl jlk_12_223 jq_202 jbd_202 (jl rfl) rfl (jl rfl) hu (fun Q' hq => jc_202 hN (Nat.le_trans (jl rfl) (Nat.le_trans (Nat.le_add_right 3 n) hd)) (jl rfl) (jo_b h) hq) (fun p8 hp8 h => ?_)
      refine jr_reg (fun t9 => jg t9) (fun t9 => jp X (px_C X d) px_m223 Q' N 46 [some (.ref 67), some (jv p1.1), none, none] [(jv t9), (.ref 67)] p7 (0, 0)) h (fun t9 ht9 h => ?_) (fun R22 k10 h => ?_)
      · refine jr_ic (pc' := 47) rfl rfl (jr_ic (pc' := 48) rfl rfl ?_)
        refine jr_cv_v (pc' := 51) [] rfl rfl jlk_12_324 jq_224 jbd_224 (jl rfl) rfl (jl rfl) hu rfl (jk rfl hN) (jd_67.trans jo_224.symm) (fun Q' hq => jc_224 hN (Nat.le_trans (jl rfl) (Nat.le_trans (Nat.le_add_right 3 n) hd)) ht9 jgc_0 jgc_0 (jo_b h) hq) (fun p21 hp21 h => ?_)
        refine jr_goto (pc' := 312) rfl rfl ?_
        exact k6 (p21) trivial h _ jn_n _ jn_n
      · refine jr_cne (pa := 40) (pb := 44) rfl rfl rfl hp1 hp8 h (fun hc h => ?_) (fun hc h => ?_)
        · refine jr_ic (pc' := 41) rfl rfl (jr_goto (pc' := 46) rfl rfl ?_)
          exact k10 ((5 : Int)) jgc_5 h
        · refine jr_bi (pc' := 46) rfl rfl rfl ?_
          exact k10 ((6 : Int)) jgc_6 h
    · refine jr_il_n (pc' := 16) rfl rfl rfl (jr_ldws (pc' := 19) rfl rfl jlk_12_328 ?_)
      refine jr_cs_p (pc' := 22) [_] rfl rfl jlk_12_223 jq_202 jbd_202 (jl rfl) rfl (jl rfl) hu (fun Q' hq => jc_202 hN (Nat.le_trans (jl rfl) (Nat.le_trans (Nat.le_add_right 3 n) hd)) (jl rfl) (jo_b h) hq) (fun p23 hp23 h => ?_)
      refine jr_cne (pa := 25) (pb := 54) rfl rfl rfl hp1 hp23 h (fun hc h => ?_) (fun hc h => ?_)
      · refine jr_al_n (pc' := 26) rfl rfl rfl ?_
        refine jr_cv_v (pc' := 29) [] rfl rfl jlk_12_253 jq_205 jbd_205 (jl rfl) rfl (jl rfl) hu rfl (jk rfl hN) (jd_67.trans jo_205.symm) (fun Q' hq => jc_205 hN (Nat.le_trans (jl rfl) (Nat.le_trans (Nat.le_add_right 3 n) hd))  (jo_b h) hq) (fun p24 hp24 h => ?_)
        refine jr_al_n (pc' := 30) rfl rfl rfl (jr_il_n (pc' := 31) rfl rfl rfl (jr_ldws (pc' := 34) rfl rfl jlk_12_298 ?_))
        refine jr_cs_p (pc' := 37) [_, _] rfl rfl jlk_12_223 jq_202 jbd_202 (jl rfl) rfl (jl rfl) hu (fun Q' hq => jc_202 hN (Nat.le_trans (jl rfl) (Nat.le_trans (Nat.le_add_right 3 n) hd)) (jl rfl) (jo_b h) hq) (fun p25 hp25 h => ?_)
        refine jr_reg (fun t26 => jg t26) (fun t26 => jp X (px_C X d) px_m223 Q' N 46 [some (.ref 67), some (jv p1.1), none, none] [(jv t26), (.ref 67)] p24 (0, 0)) h (fun t26 ht26 h => ?_) (fun R39 k27 h => ?_)
        · refine jr_ic (pc' := 47) rfl rfl (jr_ic (pc' := 48) rfl rfl ?_)
          refine jr_cv_v (pc' := 51) [] rfl rfl jlk_12_324 jq_224 jbd_224 (jl rfl) rfl (jl rfl) hu rfl (jk rfl hN) (jd_67.trans jo_224.symm) (fun Q' hq => jc_224 hN (Nat.le_trans (jl rfl) (Nat.le_trans (Nat.le_add_right 3 n) hd)) ht26 jgc_0 jgc_0 (jo_b h) hq) (fun p38 hp38 h => ?_)
          refine jr_goto (pc' := 312) rfl rfl ?_
          exact k6 (p38) trivial h _ jn_n _ jn_n
        · refine jr_cne (pa := 40) (pb := 44) rfl rfl rfl hp1 hp25 h (fun hc h => ?_) (fun hc h => ?_)
          · refine jr_ic (pc' := 41) rfl rfl (jr_goto (pc' := 46) rfl rfl ?_)
            exact k27 ((5 : Int)) jgc_5 h
          · refine jr_bi (pc' := 46) rfl rfl rfl ?_
            exact k27 ((6 : Int)) jgc_6 h
      · refine jr_il_n (pc' := 55) rfl rfl rfl (jr_ldws (pc' := 58) rfl rfl jlk_12_330 ?_)
        refine jr_cs_p (pc' := 61) [_] rfl rfl jlk_12_223 jq_202 jbd_202 (jl rfl) rfl (jl rfl) hu (fun Q' hq => jc_202 hN (Nat.le_trans (jl rfl) (Nat.le_trans (Nat.le_add_right 3 n) hd)) (jl rfl) (jo_b h) hq) (fun p40 hp40 h => ?_)
        refine jr_ceq (pa := 74) (pb := 64) rfl rfl rfl hp1 hp40 h (fun hc h => ?_) (fun hc h => ?_)
        · refine jr_al_n (pc' := 75) rfl rfl rfl ?_
          refine jr_cv_v (pc' := 78) [] rfl rfl jlk_12_253 jq_205 jbd_205 (jl rfl) rfl (jl rfl) hu rfl (jk rfl hN) (jd_67.trans jo_205.symm) (fun Q' hq => jc_205 hN (Nat.le_trans (jl rfl) (Nat.le_trans (Nat.le_add_right 3 n) hd))  (jo_b h) hq) (fun p41 hp41 h => ?_)
          refine jr_al_n (pc' := 79) rfl rfl rfl (jr_il_n (pc' := 80) rfl rfl rfl (jr_ldws (pc' := 83) rfl rfl jlk_12_330 ?_))
          refine jr_cs_p (pc' := 86) [_, _] rfl rfl jlk_12_223 jq_202 jbd_202 (jl rfl) rfl (jl rfl) hu (fun Q' hq => jc_202 hN (Nat.le_trans (jl rfl) (Nat.le_trans (Nat.le_add_right 3 n) hd)) (jl rfl) (jo_b h) hq) (fun p42 hp42 h => ?_)
          refine jr_reg (fun t43 => jb t43) (fun t43 => jp X (px_C X d) px_m223 Q' N 94 [some (.ref 67), some (jv p1.1), none, none] [(jv t43), (.ref 67)] p41 (0, 0)) h (fun t43 ht43 h => ?_) (fun R56 k44 h => ?_)
          · refine jr_al_n (pc' := 95) rfl rfl rfl (jr_gi (pc' := 98) rfl rfl jlk_12_190 (.inl rfl) rfl hN jd_67 rfl rfl (jr_al_n (pc' := 99) rfl rfl rfl (jr_gi (pc' := 102) rfl rfl jlk_12_193 (.inl rfl) rfl hN jd_67 rfl rfl ?_)))
            refine jr_cv_v (pc' := 105) [] rfl rfl jlk_12_334 jq_225 jbd_225 (jl rfl) rfl (jl rfl) hu rfl (jk rfl hN) (jd_67.trans jo_225.symm) (fun Q' hq => jc_225 hN (Nat.le_trans (jl rfl) (Nat.le_trans (Nat.le_add_right 3 n) hd)) (jg_b ht43) jg_a jg_a (jo_b h) hq) (fun p55 hp55 h => ?_)
            refine jr_goto (pc' := 312) rfl rfl ?_
            exact k6 (p55) trivial h _ jn_n _ jn_n
          · refine jr_cne (pa := 89) (pb := 93) rfl rfl rfl hp1 hp42 h (fun hc h => ?_) (fun hc h => ?_)
            · refine jr_ic (pc' := 90) rfl rfl (jr_goto (pc' := 94) rfl rfl ?_)
              exact k44 ((0 : Int)) jb_0 h
            · refine jr_ic (pc' := 94) rfl rfl ?_
              exact k44 ((1 : Int)) jb_1 h
        · refine jr_il_n (pc' := 65) rfl rfl rfl (jr_ldws (pc' := 68) rfl rfl jlk_12_332 ?_)
          refine jr_cs_p (pc' := 71) [_] rfl rfl jlk_12_223 jq_202 jbd_202 (jl rfl) rfl (jl rfl) hu (fun Q' hq => jc_202 hN (Nat.le_trans (jl rfl) (Nat.le_trans (Nat.le_add_right 3 n) hd)) (jl rfl) (jo_b h) hq) (fun p57 hp57 h => ?_)
          refine jr_cne (pa := 74) (pb := 108) rfl rfl rfl hp1 hp57 h (fun hc h => ?_) (fun hc h => ?_)
          · refine jr_al_n (pc' := 75) rfl rfl rfl ?_
            refine jr_cv_v (pc' := 78) [] rfl rfl jlk_12_253 jq_205 jbd_205 (jl rfl) rfl (jl rfl) hu rfl (jk rfl hN) (jd_67.trans jo_205.symm) (fun Q' hq => jc_205 hN (Nat.le_trans (jl rfl) (Nat.le_trans (Nat.le_add_right 3 n) hd))  (jo_b h) hq) (fun p58 hp58 h => ?_)
            refine jr_al_n (pc' := 79) rfl rfl rfl (jr_il_n (pc' := 80) rfl rfl rfl (jr_ldws (pc' := 83) rfl rfl jlk_12_330 ?_))
            refine jr_cs_p (pc' := 86) [_, _] rfl rfl jlk_12_223 jq_202 jbd_202 (jl rfl) rfl (jl rfl) hu (fun Q' hq => jc_202 hN (Nat.le_trans (jl rfl) (Nat.le_trans (Nat.le_add_right 3 n) hd)) (jl rfl) (jo_b h) hq) (fun p59 hp59 h => ?_)
            refine jr_reg (fun t60 => jb t60) (fun t60 => jp X (px_C X d) px_m223 Q' N 94 [some (.ref 67), some (jv p1.1), none, none] [(jv t60), (.ref 67)] p58 (0, 0)) h (fun t60 ht60 h => ?_) (fun R73 k61 h => ?_)
            · refine jr_al_n (pc' := 95) rfl rfl rfl (jr_gi (pc' := 98) rfl rfl jlk_12_190 (.inl rfl) rfl hN jd_67 rfl rfl (jr_al_n (pc' := 99) rfl rfl rfl (jr_gi (pc' := 102) rfl rfl jlk_12_193 (.inl rfl) rfl hN jd_67 rfl rfl ?_)))
              refine jr_cv_v (pc' := 105) [] rfl rfl jlk_12_334 jq_225 jbd_225 (jl rfl) rfl (jl rfl) hu rfl (jk rfl hN) (jd_67.trans jo_225.symm) (fun Q' hq => jc_225 hN (Nat.le_trans (jl rfl) (Nat.le_trans (Nat.le_add_right 3 n) hd)) (jg_b ht60) jg_a jg_a (jo_b h) hq) (fun p72 hp72 h => ?_)
              refine jr_goto (pc' := 312) rfl rfl ?_
              exact k6 (p72) trivial h _ jn_n _ jn_n
            · refine jr_cne (pa := 89) (pb := 93) rfl rfl rfl hp1 hp59 h (fun hc h => ?_) (fun hc h => ?_)
              · refine jr_ic (pc' := 90) rfl rfl (jr_goto (pc' := 94) rfl rfl ?_)
                exact k61 ((0 : Int)) jb_0 h
              · refine jr_ic (pc' := 94) rfl rfl ?_
                exact k61 ((1 : Int)) jb_1 h
          · refine jr_il_n (pc' := 109) rfl rfl rfl (jr_ldws (pc' := 112) rfl rfl jlk_12_337 ?_)
            refine jr_cs_p (pc' := 115) [_] rfl rfl jlk_12_223 jq_202 jbd_202 (jl rfl) rfl (jl rfl) hu (fun Q' hq => jc_202 hN (Nat.le_trans (jl rfl) (Nat.le_trans (Nat.le_add_right 3 n) hd)) (jl rfl) (jo_b h) hq) (fun p74 hp74 h => ?_)
            refine jr_cne (pa := 118) (pb := 138) rfl rfl rfl hp1 hp74 h (fun hc h => ?_) (fun hc h => ?_)
            · refine jr_al_n (pc' := 119) rfl rfl rfl ?_
              refine jr_cv_v (pc' := 122) [] rfl rfl jlk_12_253 jq_205 jbd_205 (jl rfl) rfl (jl rfl) hu rfl (jk rfl hN) (jd_67.trans jo_205.symm) (fun Q' hq => jc_205 hN (Nat.le_trans (jl rfl) (Nat.le_trans (Nat.le_add_right 3 n) hd))  (jo_b h) hq) (fun p75 hp75 h => ?_)
              refine jr_al_n (pc' := 123) rfl rfl rfl (jr_ic (pc' := 124) rfl rfl (jr_al_n (pc' := 125) rfl rfl rfl (jr_gi (pc' := 128) rfl rfl jlk_12_190 (.inl rfl) rfl hN jd_67 rfl rfl (jr_al_n (pc' := 129) rfl rfl rfl (jr_gi (pc' := 132) rfl rfl jlk_12_184 (.inl rfl) rfl hN jd_67 rfl rfl ?_)))))
              refine jr_cv_v (pc' := 135) [] rfl rfl jlk_12_334 jq_225 jbd_225 (jl rfl) rfl (jl rfl) hu rfl (jk rfl hN) (jd_67.trans jo_225.symm) (fun Q' hq => jc_225 hN (Nat.le_trans (jl rfl) (Nat.le_trans (Nat.le_add_right 3 n) hd)) jgc_2 jg_a jg_a (jo_b h) hq) (fun p76 hp76 h => ?_)
              refine jr_goto (pc' := 312) rfl rfl ?_
              exact k6 (p76) trivial h _ jn_n _ jn_n
            · refine jr_il_n (pc' := 139) rfl rfl rfl (jr_ldws (pc' := 142) rfl rfl jlk_12_289 ?_)
              refine jr_cs_p (pc' := 145) [_] rfl rfl jlk_12_223 jq_202 jbd_202 (jl rfl) rfl (jl rfl) hu (fun Q' hq => jc_202 hN (Nat.le_trans (jl rfl) (Nat.le_trans (Nat.le_add_right 3 n) hd)) (jl rfl) (jo_b h) hq) (fun p77 hp77 h => ?_)
              refine jr_cne (pa := 148) (pb := 166) rfl rfl rfl hp1 hp77 h (fun hc h => ?_) (fun hc h => ?_)
              · refine jr_al_n (pc' := 149) rfl rfl rfl ?_
                refine jr_cv_v (pc' := 152) [] rfl rfl jlk_12_253 jq_205 jbd_205 (jl rfl) rfl (jl rfl) hu rfl (jk rfl hN) (jd_67.trans jo_205.symm) (fun Q' hq => jc_205 hN (Nat.le_trans (jl rfl) (Nat.le_trans (Nat.le_add_right 3 n) hd))  (jo_b h) hq) (fun p78 hp78 h => ?_)
                refine jr_al_n (pc' := 153) rfl rfl rfl (jr_ic (pc' := 154) rfl rfl (jr_al_n (pc' := 155) rfl rfl rfl (jr_gi (pc' := 158) rfl rfl jlk_12_187 (.inl rfl) rfl hN jd_67 rfl rfl (jr_bi (pc' := 160) rfl rfl rfl ?_))))
                refine jr_cv_v (pc' := 163) [] rfl rfl jlk_12_334 jq_225 jbd_225 (jl rfl) rfl (jl rfl) hu rfl (jk rfl hN) (jd_67.trans jo_225.symm) (fun Q' hq => jc_225 hN (Nat.le_trans (jl rfl) (Nat.le_trans (Nat.le_add_right 3 n) hd)) jgc_3 jg_a jgc_10 (jo_b h) hq) (fun p79 hp79 h => ?_)
                refine jr_goto (pc' := 312) rfl rfl ?_
                exact k6 (p79) trivial h _ jn_n _ jn_n
              · refine jr_il_n (pc' := 167) rfl rfl rfl (jr_ldws (pc' := 170) rfl rfl jlk_12_300 ?_)
                refine jr_cs_p (pc' := 173) [_] rfl rfl jlk_12_223 jq_202 jbd_202 (jl rfl) rfl (jl rfl) hu (fun Q' hq => jc_202 hN (Nat.le_trans (jl rfl) (Nat.le_trans (Nat.le_add_right 3 n) hd)) (jl rfl) (jo_b h) hq) (fun p80 hp80 h => ?_)
                refine jr_cne (pa := 176) (pb := 200) rfl rfl rfl hp1 hp80 h (fun hc h => ?_) (fun hc h => ?_)
                · refine jr_al_n (pc' := 177) rfl rfl rfl ?_
                  refine jr_cv_v (pc' := 180) [] rfl rfl jlk_12_253 jq_205 jbd_205 (jl rfl) rfl (jl rfl) hu rfl (jk rfl hN) (jd_67.trans jo_205.symm) (fun Q' hq => jc_205 hN (Nat.le_trans (jl rfl) (Nat.le_trans (Nat.le_add_right 3 n) hd))  (jo_b h) hq) (fun p81 hp81 h => ?_)
                  refine jr_al_n (pc' := 181) rfl rfl rfl (jr_ic (pc' := 182) rfl rfl (jr_al_n (pc' := 183) rfl rfl rfl (jr_ic (pc' := 184) rfl rfl (jr_al_n (pc' := 185) rfl rfl rfl (jr_gi (pc' := 188) rfl rfl jlk_12_190 (.inl rfl) rfl hN jd_67 rfl rfl ?_)))))
                  refine jr_ic (pc' := 189) rfl rfl (jr_sub (pc' := 190) rfl rfl ?_)
                  refine jr_cv_i (pc' := 193) [_, _] rfl rfl jlk_12_215 jq_207 jbd_207 (jl rfl) rfl (jl rfl) hu rfl (jk rfl hN) (jd_67.trans jo_207.symm) (fun Q' hq => jc_207 hN (Nat.le_trans (jl rfl) (Nat.le_trans (Nat.le_add_right 3 n) hd)) jgc_0 jg_w (jo_b h) hq) (fun p82 hp82 h => ?_)
                  refine jr_ic (pc' := 194) rfl rfl ?_
                  refine jr_cv_v (pc' := 197) [] rfl rfl jlk_12_324 jq_224 jbd_224 (jl rfl) rfl (jl rfl) hu rfl (jk rfl hN) (jd_67.trans jo_224.symm) (fun Q' hq => jc_224 hN (Nat.le_trans (jl rfl) (Nat.le_trans (Nat.le_add_right 3 n) hd)) jgc_4 hp82 jgc_0 (jo_b h) hq) (fun p83 hp83 h => ?_)
                  refine jr_goto (pc' := 312) rfl rfl ?_
                  exact k6 (p83) trivial h _ jn_n _ jn_n
                · refine jr_il_n (pc' := 201) rfl rfl rfl (jr_ldws (pc' := 204) rfl rfl jlk_12_339 ?_)
                  refine jr_cs_p (pc' := 207) [_] rfl rfl jlk_12_223 jq_202 jbd_202 (jl rfl) rfl (jl rfl) hu (fun Q' hq => jc_202 hN (Nat.le_trans (jl rfl) (Nat.le_trans (Nat.le_add_right 3 n) hd)) (jl rfl) (jo_b h) hq) (fun p84 hp84 h => ?_)
                  refine jr_cne (pa := 210) (pb := 303) rfl rfl rfl hp1 hp84 h (fun hc h => ?_) (fun hc h => ?_)
                  · refine jr_al_n (pc' := 211) rfl rfl rfl (jr_ic (pc' := 212) rfl rfl ?_)
                    refine jr_cv_v (pc' := 215) [] rfl rfl jlk_12_278 jq_217 jbd_217 (jl rfl) rfl (jl rfl) hu rfl (jk rfl hN) (jd_67.trans jo_217.symm) (fun Q' hq => jc_217 hN (Nat.le_trans (jl rfl) (Nat.le_trans (Nat.le_add_right 3 n) hd)) jgc_5 (jo_b h) hq) (fun p85 hp85 h => ?_)
                    refine jr_al_n (pc' := 216) rfl rfl rfl (jr_ic (pc' := 217) rfl rfl (jr_bi (pc' := 219) rfl rfl rfl ?_))
                    refine jr_cv_i (pc' := 222) [] rfl rfl jlk_12_215 jq_207 jbd_207 (jl rfl) rfl (jl rfl) hu rfl (jk rfl hN) (jd_67.trans jo_207.symm) (fun Q' hq => jc_207 hN (Nat.le_trans (jl rfl) (Nat.le_trans (Nat.le_add_right 3 n) hd)) jgc_0 jgc_30 (jo_b h) hq) (fun p86 hp86 h => ?_)
                    refine jr_is_n (pc' := 223) (L' := [_, _, _, _]) rfl rfl (jl rfl) rfl rfl (jr_al_n (pc' := 224) rfl rfl rfl (jr_bi (pc' := 226) rfl rfl rfl ?_))
                    refine jr_cv_v (pc' := 229) [] rfl rfl jlk_12_259 jq_211 jbd_211 (jl rfl) rfl (jl rfl) hu rfl (jk rfl hN) (jd_67.trans jo_211.symm) (fun Q' hq => jc_211 hN (Nat.le_trans (jl rfl) (Nat.le_trans (Nat.le_add_right 3 n) hd)) jgc_91 (jo_b h) hq) (fun p87 hp87 h => ?_)
                    refine jr_al_n (pc' := 230) rfl rfl rfl (jr_gi (pc' := 233) rfl rfl jlk_12_321 (.inl rfl) rfl hN jd_67 rfl rfl (jr_is_n (pc' := 234) (L' := [_, _, _, _]) rfl rfl (jl rfl) rfl rfl (jr_al_n (pc' := 235) rfl rfl rfl (jr_bi (pc' := 237) rfl rfl rfl (jr_il_n (pc' := 238) rfl rfl rfl ?_)))))
                    refine jr_ic (pc' := 239) rfl rfl ?_
                    refine jr_cv_v (pc' := 242) [] rfl rfl jlk_12_324 jq_224 jbd_224 (jl rfl) rfl (jl rfl) hu rfl (jk rfl hN) (jd_67.trans jo_224.symm) (fun Q' hq => jc_224 hN (Nat.le_trans (jl rfl) (Nat.le_trans (Nat.le_add_right 3 n) hd)) jgc_7 hp86 jgc_0 (jo_b h) hq) (fun p88 hp88 h => ?_)
                    refine jr_reg (fun t92 => True) (fun t92 => jp X (px_C X d) px_m223 Q' N 265 [some (.ref 67), some (jv p1.1), some (jv p86.1), some (jv (ja p87 67 38))] [] t92 (0, 0)) h (fun t92 ht92 h => ?_) (fun R94 k93 h => ?_)
                    · refine jr_al_n (pc' := 266) rfl rfl rfl (jr_bi (pc' := 268) rfl rfl rfl ?_)
                      refine jr_cv_v (pc' := 271) [] rfl rfl jlk_12_259 jq_211 jbd_211 (jl rfl) rfl (jl rfl) hu rfl (jk rfl hN) (jd_67.trans jo_211.symm) (fun Q' hq => jc_211 hN (Nat.le_trans (jl rfl) (Nat.le_trans (Nat.le_add_right 3 n) hd)) jgc_93 (jo_b h) hq) (fun p108 hp108 h => ?_)
                      refine jr_al_n (pc' := 272) rfl rfl rfl (jr_dup (pc' := 273) rfl rfl rfl (jr_gi (pc' := 276) rfl rfl jlk_12_169 (.inl rfl) rfl hN jd_67 rfl rfl (jr_ic (pc' := 277) rfl rfl (jr_sub (pc' := 278) rfl rfl (jr_pi (pc' := 281) rfl rfl jlk_12_169 (.inl rfl) rfl hN jd_67 rfl rfl ?_)))))
                      refine jr_le h (fun m109 h => ?_)
                      refine jr_al_n (pc' := 282) rfl rfl rfl ?_
                      refine jr_cv_p (pc' := 285) [] rfl rfl jlk_12_158 jq_196 jbd_196 (jl rfl) rfl (jl rfl) hu rfl (jk rfl hN) (jd_67.trans jo_196.symm) (fun Q' hq => jc_196 hN (Nat.le_trans (jl rfl) (Nat.le_trans (Nat.le_add_right 3 n) hd))  (jo_b h) hq) (fun p110 hp110 h => ?_)
                      refine jr_reg (fun t111 => True) (fun t111 => jp X (px_C X d) px_m223 Q' N 300 [some (.ref 67), some (jv p1.1), some (jv p86.1), some (jv (ja p87 67 38))] [] t111 (0, 0)) h (fun t111 ht111 h => ?_) (fun R124 k112 h => ?_)
                      · refine jr_goto (pc' := 312) rfl rfl ?_
                        exact k6 (t111) trivial h _ jn_i _ jn_i
                      · refine jr_zeq (pa := 300) (pb := 288) rfl rfl rfl (jg_b hp110) h (fun hc h => ?_) (fun hc h => ?_)
                        · exact k112 (m109) trivial h
                        · refine jr_al_n (pc' := 289) rfl rfl rfl (jr_gr (pc' := 292) (r := 86) rfl rfl jlk_12_71 (.inl rfl) rfl hN jd_67 rfl rfl rfl (jr_il_n (pc' := 293) rfl rfl rfl (jr_ic (pc' := 294) rfl rfl (jr_add (pc' := 295) rfl rfl (jr_al_n (pc' := 296) rfl rfl rfl ?_)))))
                          refine jr_gi (pc' := 299) rfl rfl jlk_12_321 (.inl rfl) rfl hN jd_67 rfl rfl ?_
                          refine jr_ist (pc' := 300) rfl rfl (jl rfl) hN jd_86 jn_86 jg_w h (fun hc h => ?_)
                          refine jr_le h (fun m113 h => ?_)
                          exact k112 (m113) trivial h
                    · refine jr_lp (fun s89 => True) (fun s89 => jp X (px_C X d) px_m223 Q' N 242 [some (.ref 67), some (jv p1.1), some (jv p86.1), some (jv (ja p87 67 38))] [] s89 (0, 0)) h trivial (fun s89 hs89 R91 k90 h => ?_)
                      refine jr_al_n (pc' := 243) rfl rfl rfl ?_
                      refine jr_cv_p (pc' := 246) [] rfl rfl jlk_12_158 jq_196 jbd_196 (jl rfl) rfl (jl rfl) hu rfl (jk rfl hN) (jd_67.trans jo_196.symm) (fun Q' hq => jc_196 hN (Nat.le_trans (jl rfl) (Nat.le_trans (Nat.le_add_right 3 n) hd))  (jo_b h) hq) (fun p95 hp95 h => ?_)
                      refine jr_zeq (pa := 265) (pb := 249) rfl rfl rfl (jg_b hp95) h (fun hc h => ?_) (fun hc h => ?_)
                      · exact k93 (s89) trivial h
                      · refine jr_al_n (pc' := 250) rfl rfl rfl ?_
                        refine jr_cv_i (pc' := 253) [] rfl rfl jlk_12_141 jq_198 jbd_198 (jl rfl) rfl (jl rfl) hu rfl (jk rfl hN) (jd_67.trans jo_198.symm) (fun Q' hq => jc_198 hN (Nat.le_trans (jl rfl) (Nat.le_trans (Nat.le_add_right 3 n) hd))  (jo_b h) hq) (fun p96 hp96 h => ?_)
                        refine jr_bi (pc' := 255) rfl rfl rfl ?_
                        refine jr_ceq (pa := 265) (pb := 258) rfl rfl rfl hp96 jgc_93 h (fun hc h => ?_) (fun hc h => ?_)
                        · exact k93 (p96.2) trivial h
                        · refine jr_al_n (pc' := 259) rfl rfl rfl ?_
                          refine jr_cv_v (pc' := 262) [] rfl rfl jlk_12_341 jq_223 jbd_223 (jl rfl) rfl (jl rfl) hu rfl (jk rfl hN) (jd_67.trans jo_223.symm) (fun Q' hq => hrec_223 d hd  (jo_b h) hq) (fun p97 hp97 h => ?_)
                          refine jr_goto (pc' := 242) rfl rfl ?_
                          exact k90 (p97) trivial h
                  · refine jr_al_n (pc' := 304) rfl rfl rfl (jr_ic (pc' := 305) rfl rfl (jr_al_n (pc' := 306) rfl rfl rfl (jr_gi (pc' := 309) rfl rfl jlk_12_135 (.inl rfl) rfl hN jd_67 rfl rfl ?_)))
                    refine jr_cv_v (pc' := 312) [] rfl rfl jlk_12_165 jq_203 jbd_203 (jl rfl) rfl (jl rfl) hu rfl (jk rfl hN) (jd_67.trans jo_203.symm) (fun Q' hq => jc_203 hN (Nat.le_trans (jl rfl) (Nat.le_trans (Nat.le_add_right 3 n) hd)) jgc_1 jg_a (jo_b h) hq) (fun p125 hp125 h => ?_)
                    exact k6 (p125) trivial h _ jn_n _ jn_n

theorem jcG_S {X : Nat × (Nat → Int32)} {N : Nat} (hN : 102 ≤ N) : ∀ n d, 3 + n ≤ d → (∀ {m : jm} {P : jm → Prop} {Q : px_Q}, jo (jG_S n 0 0 0 m) P → (∀ p : jm, True → P p → Q (.inl (none)) (jmem N p)) → px_C X d 223 [.ref 67] (jmem N m) Q)
  | 0, d, hd => fun h _ => h.elim
  | n + 1, d, hd => by
    have ih := jcG_S (X := X) (N := N) hN n
    exact fun h hQ => jc_223 (n := n) (hrec_223 := fun d hd => (ih d hd)) hN hd  h hQ
theorem jcg_223 {X : Nat × (Nat → Int32)} {N d : Nat}  (hN : 102 ≤ N) (hd : 23 ≤ d)  {m : jm} {P : jm → Prop} {Q : px_Q} (h : jo (jG_S 20 0 0 0 m) P) (hQ : (∀ p : jm, True → P p → Q (.inl (none)) (jmem N p))) : px_C X d 223 [.ref 67] (jmem N m) Q := (jcG_S hN 20 d hd)  h hQ

