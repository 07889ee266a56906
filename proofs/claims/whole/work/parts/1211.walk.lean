/-! the pure machine follows the functions, 12 (written by wip/whole/gen/walk.py) -/
set_option maxRecDepth 20000 in
set_option maxHeartbeats 1000000 in
theorem jc_184 {X : Nat × (Nat → Int32)} {N d : Nat} {x0 : Int} {x1 : Int} (hN3 : 103 ≤ N) (hd : 2 ≤ d) (hx0 : jg x0) (hx1 : jg x1) {m : jm} {P : Nat × jm → Prop} {Q : px_Q} (h : jo (jf_184 x0 x1 m) P) (hQ0 : ∀ p : Nat × jm, p.1 = 0 → True → P p → Q (.inl (none)) (jmem N p.2)) (hQ1 : ∀ (p : Nat × jm) e, p.1 = e + 1 → P p → Q (.inr e) (jmem N p.2)) : px_C X d 184 [.ref 0, jv x0, jv x1] (jmem N m) Q := by
  unfold jf_184 at h
  have hN : 102 ≤ N := Nat.le_of_succ_le hN3
  have hu : ju px_m184 (0, 0) := ju_0
  refine jr_inT (M := px_m184) (lev := 1) (L := [some (.ref 0), some (jv x0), some (jv x1)]) hd hN3 rfl (jl rfl) rfl (fun d hd Q' hQ' => ?_)
  refine jr_al_n (pc' := 1) rfl rfl rfl (jr_il_n (pc' := 2) rfl rfl rfl (jr_ic (pc' := 3) rfl rfl (jr_bi (pc' := 5) rfl rfl rfl ?_)))
  refine jr_cs_p (pc' := 8) [_] rfl rfl jlk_11_297 jq_153 jbd_153 (jl rfl) rfl (jl rfl) hu (fun Q' hq => jc_153 hN (Nat.le_trans (jl rfl) hd) hx0 jgc_0 jgc_16 (jo_b h) hq) (fun p1 hp1 h => ?_)
  refine jr_reg (fun t2 => jb t2) (fun t2 => jp X (px_C X d) px_m184 Q' N 26 [some (.ref 0), some (jv x0), some (jv x1)] [(jv t2), (.ref 0)] m (0, 0)) h (fun t2 ht2 h => ?_) (fun R16 k3 h => ?_)
  · refine jr_ct_v (pc' := 29) [] rfl rfl jlk_11_301 jq_154 (u' := (1, 6)) rfl (ju_l rfl rfl) (jl rfl) rfl (jl rfl) rfl (jk rfl hN) (jd_0.trans jo_154.symm) (fun Q' hq0 hq1 => jc_154 hN3 (Nat.le_trans (jl rfl) hd) (jg_b ht2) (jo_b h) hq0 hq1) (fun p15 h0 hp15 h => jo_i h (fun _ h => ?_) (fun hc _ => absurd h0 hc)) (fun p15 e he h => jo_i h (fun hc _ => absurd (he.symm.trans hc) (Nat.succ_ne_zero e)) (fun _ h => jh_0 rfl (ju_l rfl rfl) (hQ' _ _ (hQ1 (_, _) e he h))))
    exact jr_rv rfl (ju_l rfl rfl) rfl (hQ' _ _ (hQ0 (0, p15.2) rfl trivial h))
  · refine jr_zeq (pa := 25) (pb := 11) rfl rfl rfl (jg_b hp1) h (fun hc h => ?_) (fun hc h => ?_)
    · refine jr_ic (pc' := 26) rfl rfl ?_
      exact k3 ((0 : Int)) jb_0 h
    · refine jr_il_n (pc' := 12) rfl rfl rfl (jr_ic (pc' := 13) rfl rfl (jr_bi (pc' := 15) rfl rfl rfl ?_))
      refine jr_cs_p (pc' := 18) [_] rfl rfl jlk_11_297 jq_153 jbd_153 (jl rfl) rfl (jl rfl) hu (fun Q' hq => jc_153 hN (Nat.le_trans (jl rfl) hd) hx1 jgc_1 jgc_96 (jo_b h) hq) (fun p4 hp4 h => ?_)
      refine jr_zeq (pa := 25) (pb := 21) rfl rfl rfl (jg_b hp4) h (fun hc h => ?_) (fun hc h => ?_)
      · refine jr_ic (pc' := 26) rfl rfl ?_
        exact k3 ((0 : Int)) jb_0 h
      · refine jr_ic (pc' := 22) rfl rfl (jr_goto (pc' := 26) rfl rfl ?_)
        exact k3 ((1 : Int)) jb_1 h

set_option maxRecDepth 20000 in
set_option maxHeartbeats 1000000 in
theorem jc_183 {X : Nat × (Nat → Int32)} {N d : Nat} {x0 : Int} {x1 : Int} {x2 : Int} {x3 : Int} (hN3 : 103 ≤ N) (hd : 7 ≤ d) (hx0 : jg x0) (hx1 : jg x1) (hx2 : jg x2) (hx3 : jg x3) {m : jm} {P : Int × Nat × jm → Prop} {Q : px_Q} (h : jo (jf_183 x0 x1 x2 x3 m) P) (hQ0 : ∀ p : Int × Nat × jm, p.2.1 = 0 → jg p.1 → P p → Q (.inl (some (jv p.1))) (jmem N p.2.2)) (hQ1 : ∀ (p : Int × Nat × jm) e, p.2.1 = e + 1 → P p → Q (.inr e) (jmem N p.2.2)) : px_C X d 183 [.ref 0, jv x0, jv x1, jv x2, jv x3] (jmem N m) Q := by
  unfold jf_183 at h
  have hN : 102 ≤ N := Nat.le_of_succ_le hN3
  have hu : ju px_m183 (0, 0) := ju_0
  refine jr_inT (M := px_m183) (lev := 6) (L := [some (.ref 0), some (jv x0), some (jv x1), some (jv x2), some (jv x3)]) hd hN3 rfl (jl rfl) rfl (fun d hd Q' hQ' => ?_)
  refine jr_al_n (pc' := 1) rfl rfl rfl (jr_il_n (pc' := 2) rfl rfl rfl (jr_il_n (pc' := 3) rfl rfl rfl ?_))
  refine jr_ct_v (pc' := 6) [] rfl rfl jlk_11_403 jq_184 (u' := (1, 6)) rfl (ju_l rfl rfl) (jl rfl) rfl (jl rfl) rfl (jk rfl hN) (jd_0.trans jo_184.symm) (fun Q' hq0 hq1 => jc_184 hN3 (Nat.le_trans (jl rfl) hd) hx1 hx2 (jo_b h) hq0 hq1) (fun p1 h0 hp1 h => jo_i h (fun _ h => ?_) (fun hc _ => absurd h0 hc)) (fun p1 e he h => jo_i h (fun hc _ => absurd (he.symm.trans hc) (Nat.succ_ne_zero e)) (fun _ h => jh_0 rfl (ju_l rfl rfl) (hQ' _ _ (hQ1 (_, _, _) e he h))))
  refine jr_al_n (pc' := 7) rfl rfl rfl (jr_il (pc' := 9) rfl rfl rfl (jr_ic (pc' := 10) rfl rfl (jr_ic (pc' := 11) rfl rfl ?_)))
  refine jr_ct_v (pc' := 14) [] rfl rfl jlk_11_187 jq_152 (u' := (2, 12)) rfl (ju_l rfl rfl) (jl rfl) rfl (jl rfl) rfl (jk rfl hN) (jd_0.trans jo_152.symm) (fun Q' hq0 hq1 => jc_152 hN3 (Nat.le_trans (jl rfl) hd) hx3 jgc_0 jgc_3 (jo_b h) hq0 hq1) (fun p2 h0 hp2 h => jo_i h (fun _ h => ?_) (fun hc _ => absurd h0 hc)) (fun p2 e he h => jo_i h (fun hc _ => absurd (he.symm.trans hc) (Nat.succ_ne_zero e)) (fun _ h => jh_0 rfl (ju_l rfl rfl) (hQ' _ _ (hQ1 (_, _, _) e he h))))
  refine jr_al_n (pc' := 15) rfl rfl rfl (jr_gr (pc' := 18) (r := 63) rfl rfl jlk_11_97 (.inl rfl) rfl hN jd_0 rfl rfl rfl (jr_al_n (pc' := 19) rfl rfl rfl (jr_gr (pc' := 22) (r := 47) rfl rfl jlk_11_58 (.inl rfl) rfl hN jd_0 rfl rfl rfl (jr_il_n (pc' := 23) rfl rfl rfl (jr_il_n (pc' := 24) rfl rfl rfl ?_)))))
  refine jr_il_n (pc' := 25) rfl rfl rfl ?_
  refine jr_cv_v (pc' := 28) [] rfl rfl jlk_11_406 jq_109 jbd_109 (jl rfl) rfl (jl rfl) (ju_l rfl rfl) rfl (jk rfl hN) (jd_63.trans jo_109.symm) (fun Q' hq => jc_109 hN (Nat.le_trans (jl rfl) hd) hx0 hx1 hx2 (jo_b h) hq) (fun p3 hp3 h => ?_)
  refine jr_il (pc' := 30) rfl rfl rfl ?_
  refine jo_i h (fun hc h => ?_) (fun hc0 h => ?_)
  · refine jr_tsc (pc' := 56) (0) rfl hx3 hc (by decide) rfl rfl (jr_al_n (pc' := 57) rfl rfl rfl (jr_gr (pc' := 60) (r := 63) rfl rfl jlk_11_97 (.inl rfl) rfl hN jd_0 rfl rfl rfl ?_))
    refine jr_cv_p (pc' := 63) [] rfl rfl jlk_11_409 jq_112 jbd_112 (jl rfl) rfl (jl rfl) (ju_l rfl rfl) rfl (jk rfl hN) (jd_63.trans jo_112.symm) (fun Q' hq => jc_112 hN (Nat.le_trans (jl rfl) hd)  (jo_b h) hq) (fun p4 hp4 h => ?_)
    exact jr_ret rfl (ju_l rfl rfl) rfl (hQ' _ _ (hQ0 (p4, 0, p3) rfl hp4 h))
  · refine jo_i h (fun hc h => ?_) (fun hc1 h => ?_)
    · refine jr_tsc (pc' := 64) (1) rfl hx3 hc (by decide) rfl rfl (jr_al_n (pc' := 65) rfl rfl rfl (jr_gr (pc' := 68) (r := 63) rfl rfl jlk_11_97 (.inl rfl) rfl hN jd_0 rfl rfl rfl (jr_gi (pc' := 71) rfl rfl jlk_11_410 (.inr rfl) rfl hN jd_63 rfl rfl ?_)))
      exact jr_ret rfl (ju_l rfl rfl) rfl (hQ' _ _ (hQ0 (ja p3 63 3, 0, p3) rfl jg_a h))
    · refine jo_i h (fun hc h => ?_) (fun hc2 h => ?_)
      · refine jr_tsc (pc' := 72) (2) rfl hx3 hc (by decide) rfl rfl (jr_al_n (pc' := 73) rfl rfl rfl (jr_gr (pc' := 76) (r := 63) rfl rfl jlk_11_97 (.inl rfl) rfl hN jd_0 rfl rfl rfl (jr_gi (pc' := 79) rfl rfl jlk_11_413 (.inr rfl) rfl hN jd_63 rfl rfl ?_)))
        exact jr_ret rfl (ju_l rfl rfl) rfl (hQ' _ _ (hQ0 (ja p3 63 4, 0, p3) rfl jg_a h))
      · refine jr_tsd (pc' := 80) rfl hx3 (by omega) rfl (jr_al_n (pc' := 81) rfl rfl rfl (jr_gr (pc' := 84) (r := 63) rfl rfl jlk_11_97 (.inl rfl) rfl hN jd_0 rfl rfl rfl (jr_gi (pc' := 87) rfl rfl jlk_11_416 (.inr rfl) rfl hN jd_63 rfl rfl ?_)))
        exact jr_ret rfl (ju_l rfl rfl) rfl (hQ' _ _ (hQ0 (ja p3 63 5, 0, p3) rfl jg_a h))

set_option maxRecDepth 20000 in
set_option maxHeartbeats 1000000 in
theorem jc_185 {X : Nat × (Nat → Int32)} {N d : Nat} {x0 : Int} {x1 : Int} {x2 : Int} {x3 : Int} {x4 : Int} (hN3 : 103 ≤ N) (hd : 7 ≤ d) (hx0 : jg x0) (hx1 : jg x1) (hx2 : jg x2) (hx3 : jg x3) (hx4 : jg x4) {m : jm} {P : Int × Nat × jm → Prop} {Q : px_Q} (h : jo (jf_185 x0 x1 x2 x3 x4 m) P) (hQ0 : ∀ p : Int × Nat × jm, p.2.1 = 0 → jg p.1 → P p → Q (.inl (some (jv p.1))) (jmem N p.2.2)) (hQ1 : ∀ (p : Int × Nat × jm) e, p.2.1 = e + 1 → P p → Q (.inr e) (jmem N p.2.2)) : px_C X d 185 [.ref 0, jv x0, jv x1, jv x2, jv x3, jv x4] (jmem N m) Q := by
  unfold jf_185 at h
  have hN : 102 ≤ N := Nat.le_of_succ_le hN3
  have hu : ju px_m185 (0, 0) := ju_0
  refine jr_inT (M := px_m185) (lev := 6) (L := [some (.ref 0), some (jv x0), some (jv x1), some (jv x2), some (jv x3), some (jv x4), none, none, none, none, none]) hd hN3 rfl (jl rfl) rfl (fun d hd Q' hQ' => ?_)
  refine jr_al_n (pc' := 1) rfl rfl rfl (jr_il_n (pc' := 2) rfl rfl rfl (jr_ic (pc' := 3) rfl rfl (jr_bi (pc' := 5) rfl rfl rfl ?_)))
  refine jr_ct_v (pc' := 8) [] rfl rfl jlk_11_187 jq_152 (u' := (1, 6)) rfl (ju_l rfl rfl) (jl rfl) rfl (jl rfl) rfl (jk rfl hN) (jd_0.trans jo_152.symm) (fun Q' hq0 hq1 => jc_152 hN3 (Nat.le_trans (jl rfl) hd) hx1 jgc_1 jgc_20 (jo_b h) hq0 hq1) (fun p1 h0 hp1 h => jo_i h (fun _ h => ?_) (fun hc _ => absurd h0 hc)) (fun p1 e he h => jo_i h (fun hc _ => absurd (he.symm.trans hc) (Nat.succ_ne_zero e)) (fun _ h => jh_0 rfl (ju_l rfl rfl) (hQ' _ _ (hQ1 (_, _, _) e he h))))
  refine jr_al_n (pc' := 9) rfl rfl rfl (jr_il_n (pc' := 10) rfl rfl rfl (jr_il (pc' := 12) rfl rfl rfl ?_))
  refine jr_ct_v (pc' := 15) [] rfl rfl jlk_11_403 jq_184 (u' := (2, 12)) rfl (ju_l rfl rfl) (jl rfl) rfl (jl rfl) rfl (jk rfl hN) (jd_0.trans jo_184.symm) (fun Q' hq0 hq1 => jc_184 hN3 (Nat.le_trans (jl rfl) hd) hx2 hx3 (jo_b h) hq0 hq1) (fun p2 h0 hp2 h => jo_i h (fun _ h => ?_) (fun hc _ => absurd h0 hc)) (fun p2 e he h => jo_i h (fun hc _ => absurd (he.symm.trans hc) (Nat.succ_ne_zero e)) (fun _ h => jh_0 rfl (ju_l rfl rfl) (hQ' _ _ (hQ1 (_, _, _) e he h))))
  refine jr_al_n (pc' := 16) rfl rfl rfl (jr_il (pc' := 18) rfl rfl rfl (jr_ic (pc' := 19) rfl rfl (jr_ic (pc' := 20) rfl rfl ?_)))
  refine jr_ct_v (pc' := 23) [] rfl rfl jlk_11_187 jq_152 (u' := (3, 18)) rfl (ju_l rfl rfl) (jl rfl) rfl (jl rfl) rfl (jk rfl hN) (jd_0.trans jo_152.symm) (fun Q' hq0 hq1 => jc_152 hN3 (Nat.le_trans (jl rfl) hd) hx4 jgc_0 jgc_2 (jo_b h) hq0 hq1) (fun p3 h0 hp3 h => jo_i h (fun _ h => ?_) (fun hc _ => absurd h0 hc)) (fun p3 e he h => jo_i h (fun hc _ => absurd (he.symm.trans hc) (Nat.succ_ne_zero e)) (fun _ h => jh_0 rfl (ju_l rfl rfl) (hQ' _ _ (hQ1 (_, _, _) e he h))))
  refine jr_bi (pc' := 25) rfl rfl rfl (jr_is (pc' := 27) (L' := [_, _, _, _, _, _, _, _, _, _, _]) rfl rfl (jl rfl) rfl rfl (jr_ic (pc' := 28) rfl rfl (jr_is (pc' := 30) (L' := [_, _, _, _, _, _, _, _, _, _, _]) rfl rfl (jl rfl) rfl rfl (jr_ic (pc' := 31) rfl rfl (jr_is (pc' := 33) (L' := [_, _, _, _, _, _, _, _, _, _, _]) rfl rfl (jl rfl) rfl rfl ?_)))))
  refine jr_ic (pc' := 34) rfl rfl (jr_is (pc' := 36) (L' := [_, _, _, _, _, _, _, _, _, _, _]) rfl rfl (jl rfl) rfl rfl ?_)
  refine jr_reg (fun t8 => jg t8.1 ∧ jg t8.2.1 ∧ jg t8.2.2.1) (fun t8 => ∀ o9, jn o9 → ∀ o10, jn o10 → jp X (px_C X d) px_m185 Q' N 116 [some (.ref 0), some (jv x0), some (jv x1), some (jv x2), some (jv x3), some (jv x4), some (jv t8.1), some (jv t8.2.1), some (jv t8.2.2.1), o9, o10] [] t8.2.2.2 (3, 18)) h (fun t8 ht8 h o9 ho9 o10 ho10 => ?_) (fun R12 k11 h => ?_)
  · refine jr_il (pc' := 118) rfl rfl rfl ?_
    refine jr_zne (pa := 121) (pb := 124) rfl rfl rfl hx4 h (fun hc h => ?_) (fun hc h => ?_)
    · refine jr_il (pc' := 123) rfl rfl rfl ?_
      exact jr_ret rfl (ju_l rfl rfl) rfl (hQ' _ _ (hQ0 (t8.1, 0, t8.2.2.2) rfl ht8.1 h))
    · refine jr_il (pc' := 126) rfl rfl rfl (jr_ic (pc' := 127) rfl rfl ?_)
      refine jr_reg (fun t39 => jg t39) (fun t39 => jp X (px_C X d) px_m185 Q' N 137 [some (.ref 0), some (jv x0), some (jv x1), some (jv x2), some (jv x3), some (jv x4), some (jv t8.1), some (jv t8.2.1), some (jv t8.2.2.1), o9, o10] [(jv t39)] t8.2.2.2 (3, 18)) h (fun t39 ht39 h => ?_) (fun R51 k40 h => ?_)
      · exact jr_ret rfl (ju_l rfl rfl) rfl (hQ' _ _ (hQ0 (t39, 0, t8.2.2.2) rfl ht39 h))
      · refine jr_cne (pa := 130) (pb := 135) rfl rfl rfl hx4 jgc_1 h (fun hc h => ?_) (fun hc h => ?_)
        · refine jr_il (pc' := 132) rfl rfl rfl (jr_goto (pc' := 137) rfl rfl ?_)
          exact k40 (t8.2.1) ht8.2.1 h
        · refine jr_il (pc' := 137) rfl rfl rfl ?_
          exact k40 (t8.2.2.1) ht8.2.2 h
  · refine jr_lp (fun s4 => jg s4.1 ∧ jg s4.2.1 ∧ jg s4.2.2.1 ∧ jg s4.2.2.2.1) (fun s4 => ∀ o5, jn o5 → jp X (px_C X d) px_m185 Q' N 36 [some (.ref 0), some (jv x0), some (jv x1), some (jv x2), some (jv x3), some (jv x4), some (jv s4.1), some (jv s4.2.1), some (jv s4.2.2.1), some (jv s4.2.2.2.1), o5] [] s4.2.2.2.2 (3, 18)) h ⟨jgc_8, jgc_0, jgc_0, jgc_0⟩ (fun s4 hs4 R7 k6 h o5 ho5 => ?_) _ jn_n
    refine jr_il (pc' := 38) rfl rfl rfl (jr_il_n (pc' := 39) rfl rfl rfl ?_)
    refine jr_cge (pa := 42) (pb := 116) rfl rfl rfl hs4.2.2.2 hx1 h (fun hc h => ?_) (fun hc h => ?_)
    · refine jr_al_n (pc' := 43) rfl rfl rfl (jr_gr (pc' := 46) (r := 63) rfl rfl jlk_11_97 (.inl rfl) rfl hN jd_0 rfl rfl rfl (jr_al_n (pc' := 47) rfl rfl rfl (jr_gr (pc' := 50) (r := 47) rfl rfl jlk_11_58 (.inl rfl) rfl hN jd_0 rfl rfl rfl (jr_il_n (pc' := 51) rfl rfl rfl (jr_il (pc' := 53) rfl rfl rfl ?_)))))
      refine jr_add (pc' := 54) rfl rfl (jr_il_n (pc' := 55) rfl rfl rfl (jr_il (pc' := 57) rfl rfl rfl ?_))
      refine jr_cv_v (pc' := 60) [] rfl rfl jlk_11_406 jq_109 jbd_109 (jl rfl) rfl (jl rfl) (ju_l rfl rfl) rfl (jk rfl hN) (jd_63.trans jo_109.symm) (fun Q' hq => jc_109 hN (Nat.le_trans (jl rfl) hd) jg_w hx2 hx3 (jo_b h) hq) (fun p13 hp13 h => ?_)
      refine jr_al_n (pc' := 61) rfl rfl rfl (jr_gr (pc' := 64) (r := 63) rfl rfl jlk_11_97 (.inl rfl) rfl hN jd_0 rfl rfl rfl ?_)
      refine jr_cv_p (pc' := 67) [] rfl rfl jlk_11_409 jq_112 jbd_112 (jl rfl) rfl (jl rfl) (ju_l rfl rfl) rfl (jk rfl hN) (jd_63.trans jo_112.symm) (fun Q' hq => jc_112 hN (Nat.le_trans (jl rfl) hd)  (jo_b h) hq) (fun p14 hp14 h => ?_)
      refine jr_cs_p (pc' := 70) [] rfl rfl jlk_11_419 jq_333 jbd_333 (jl rfl) rfl (jl rfl) (ju_l rfl rfl) (fun Q' hq => jc_333 hN (Nat.le_trans (jl rfl) hd) hp14 (jo_b h) hq) (fun p15 hp15 h => ?_)
      refine jr_is (pc' := 72) (L' := [_, _, _, _, _, _, _, _, _, _, _]) rfl rfl (jl rfl) rfl rfl (jr_il (pc' := 74) rfl rfl rfl (jr_il (pc' := 76) rfl rfl rfl (jr_min (pc' := 79) rfl rfl jlk_11_424 (jl rfl) (ju_l rfl rfl) hs4.1 hp15 (jr_is (pc' := 81) (L' := [_, _, _, _, _, _, _, _, _, _, _]) rfl rfl (jl rfl) rfl rfl (jr_il (pc' := 83) rfl rfl rfl ?_)))))
      refine jr_il (pc' := 85) rfl rfl rfl (jr_max (pc' := 88) rfl rfl jlk_11_429 (jl rfl) (ju_l rfl rfl) hs4.2.1 hp15 (jr_is (pc' := 90) (L' := [_, _, _, _, _, _, _, _, _, _, _]) rfl rfl (jl rfl) rfl rfl (jr_il (pc' := 92) rfl rfl rfl (jr_al_n (pc' := 93) rfl rfl rfl (jr_gr (pc' := 96) (r := 63) rfl rfl jlk_11_97 (.inl rfl) rfl hN jd_0 rfl rfl rfl ?_)))))
      refine jr_gi (pc' := 99) rfl rfl jlk_11_410 (.inr rfl) rfl hN jd_63 rfl rfl ?_
      refine jr_reg (fun t16 => jb t16) (fun t16 => jp X (px_C X d) px_m185 Q' N 107 [some (.ref 0), some (jv x0), some (jv x1), some (jv x2), some (jv x3), some (jv x4), some (jv (jmin s4.1 p15)), some (jv (jmax s4.2.1 p15)), some (jv s4.2.2.1), some (jv s4.2.2.2.1), some (jv p15)] [(jv t16), (jv s4.2.2.1)] p13 (3, 18)) h (fun t16 ht16 h => ?_) (fun R28 k17 h => ?_)
      · refine jr_add (pc' := 108) rfl rfl (jr_is (pc' := 110) (L' := [_, _, _, _, _, _, _, _, _, _, _]) rfl rfl (jl rfl) rfl rfl (jr_inc (pc' := 113) (L' := [_, _, _, _, _, _, _, _, _, _, _]) rfl rfl rfl (jl rfl) rfl rfl (jr_goto (pc' := 36) rfl rfl ?_)))
        exact k6 (jmin s4.1 p15, jmax s4.2.1 p15, jw (s4.2.2.1 + t16), jw (s4.2.2.2.1 + 1), p13) ⟨(jg_min hs4.1 hp15), (jg_max hs4.2.1 hp15), jg_w, jg_w⟩ h _ jn_i
      · refine jr_zne (pa := 102) (pb := 106) rfl rfl rfl jg_a h (fun hc h => ?_) (fun hc h => ?_)
        · refine jr_ic (pc' := 103) rfl rfl (jr_goto (pc' := 107) rfl rfl ?_)
          exact k17 ((1 : Int)) jb_1 h
        · refine jr_ic (pc' := 107) rfl rfl ?_
          exact k17 ((0 : Int)) jb_0 h
    · exact k11 (s4.1, s4.2.1, s4.2.2.1, s4.2.2.2.2) ⟨hs4.1, hs4.2.1, hs4.2.2.1⟩ h _ jn_i _ ho5

set_option maxRecDepth 20000 in
set_option maxHeartbeats 1000000 in
theorem jc_186 {X : Nat × (Nat → Int32)} {N d : Nat}  (hN : 102 ≤ N) (hd : 1 ≤ d)  {m : jm} {P : Int → Prop} {Q : px_Q} (h : jo (jf_186 m) P) (hQ : ∀ p : Int, jg p → P p → Q (.inl (some (jv p))) (jmem N m)) : px_C X d 186 [.ref 67] (jmem N m) Q := by
  unfold jf_186 at h
  have hu : ju px_m186 (0, 0) := ju_0
  refine jr_in (M := px_m186) (lev := 0) (L := [some (.ref 67)]) hd rfl jbd_186 (jl rfl) rfl (fun d hd Q' hQ' => ?_)
  refine jr_al_n (pc' := 1) rfl rfl rfl (jr_gi (pc' := 4) rfl rfl jlk_12_3 (.inl rfl) rfl hN jd_67 rfl rfl ?_)
  exact jr_ret rfl hu rfl (hQ' _ _ (hQ (ja m 67 0) jg_a h))

set_option maxRecDepth 20000 in
set_option maxHeartbeats 1000000 in
theorem jc_188 {X : Nat × (Nat → Int32)} {N d : Nat}  (hN : 102 ≤ N) (hd : 1 ≤ d)  {m : jm} {P : jm → Prop} {Q : px_Q} (h : jo (jf_188 m) P) (hQ : ∀ p : jm, True → P p → Q (.inl (none)) (jmem N p)) : px_C X d 188 [.ref 67] (jmem N m) Q := by
  unfold jf_188 at h
  have hu : ju px_m188 (0, 0) := ju_0
  refine jr_in (M := px_m188) (lev := 0) (L := [some (.ref 67)]) hd rfl jbd_188 (jl rfl) rfl (fun d hd Q' hQ' => ?_)
  refine jr_al_n (pc' := 1) rfl rfl rfl (jr_ic (pc' := 2) rfl rfl (jr_pi (pc' := 5) rfl rfl jlk_12_172 (.inl rfl) rfl hN jd_67 rfl rfl ?_))
  refine jr_le h (fun m1 h => ?_)
  refine jr_al_n (pc' := 6) rfl rfl rfl (jr_ic (pc' := 7) rfl rfl (jr_pi (pc' := 10) rfl rfl jlk_12_175 (.inl rfl) rfl hN jd_67 rfl rfl ?_))
  refine jr_le h (fun m2 h => ?_)
  refine jr_al_n (pc' := 11) rfl rfl rfl (jr_ic (pc' := 12) rfl rfl (jr_pi (pc' := 15) rfl rfl jlk_12_178 (.inl rfl) rfl hN jd_67 rfl rfl ?_))
  refine jr_le h (fun m3 h => ?_)
  refine jr_al_n (pc' := 16) rfl rfl rfl (jr_ic (pc' := 17) rfl rfl (jr_pi (pc' := 20) rfl rfl jlk_12_181 (.inl rfl) rfl hN jd_67 rfl rfl ?_))
  refine jr_le h (fun m4 h => ?_)
  exact jr_rv rfl hu rfl (hQ' _ _ (hQ m4 trivial h))

set_option maxRecDepth 20000 in
set_option maxHeartbeats 1000000 in
theorem jc_190 {X : Nat × (Nat → Int32)} {N d : Nat} {a0 : Nat} {a1 : Nat} {x2 : Int} (hN : 102 ≤ N) (hd : 1 ≤ d) (ha0 : a0 < 102 ∧ px_kd a0 = 20) (ha1 : a1 < 102 ∧ px_kd a1 = 20) (hx2 : jg x2) {m : jm} {P : jm → Prop} {Q : px_Q} (h : jo (jf_190 a0 a1 x2 m) P) (hQ : ∀ p : jm, True → P p → Q (.inl (none)) (jmem N p)) : px_C X d 190 [.ref 67, .ref a0, .ref a1, jv x2] (jmem N m) Q := by
  unfold jf_190 at h
  have hu : ju px_m190 (0, 0) := ju_0
  refine jr_in (M := px_m190) (lev := 0) (L := [some (.ref 67), some (.ref a0), some (.ref a1), some (jv x2), none]) hd rfl jbd_190 (jl rfl) rfl (fun d hd Q' hQ' => ?_)
  refine jr_ic (pc' := 1) rfl rfl (jr_is (pc' := 3) (L' := [_, _, _, _, _]) rfl rfl (jl rfl) rfl rfl ?_)
  refine jr_reg (fun t4 => True) (fun t4 => ∀ o5, jn o5 → jp X (px_C X d) px_m190 Q' N 23 [some (.ref 67), some (.ref a0), some (.ref a1), some (jv x2), o5] [] t4 (0, 0)) h (fun t4 ht4 h o5 ho5 => ?_) (fun R7 k6 h => ?_)
  · exact jr_rv rfl hu rfl (hQ' _ _ (hQ t4 trivial h))
  · refine jr_lp (fun s1 => jg s1.1) (fun s1 => jp X (px_C X d) px_m190 Q' N 3 [some (.ref 67), some (.ref a0), some (.ref a1), some (jv x2), some (jv s1.1)] [] s1.2 (0, 0)) h jgc_0 (fun s1 hs1 R3 k2 h => ?_)
    refine jr_il (pc' := 5) rfl rfl rfl (jr_il_n (pc' := 6) rfl rfl rfl ?_)
    refine jr_cge (pa := 9) (pb := 23) rfl rfl rfl hs1 hx2 h (fun hc h => ?_) (fun hc h => ?_)
    · refine jr_al_n (pc' := 10) rfl rfl rfl (jr_il (pc' := 12) rfl rfl rfl (jr_al_n (pc' := 13) rfl rfl rfl (jr_il (pc' := 15) rfl rfl rfl ?_)))
      refine jr_ia (pc' := 16) rfl rfl ha0.1 hN ha0.2 rfl hs1 h (fun hc h => ?_)
      refine jr_ist (pc' := 17) rfl rfl ha1.1 hN ha1.2 rfl hs1 h (fun hc h => ?_)
      refine jr_le h (fun m8 h => ?_)
      refine jr_inc (pc' := 20) (L' := [_, _, _, _, _]) rfl rfl rfl (jl rfl) rfl rfl (jr_goto (pc' := 3) rfl rfl ?_)
      exact k2 (jw (s1.1 + 1), m8) jg_w h
    · exact k6 (s1.2) trivial h _ jn_i

set_option maxRecDepth 20000 in
set_option maxHeartbeats 1000000 in
theorem jc_189 {X : Nat × (Nat → Int32)} {N d : Nat}  (hN : 102 ≤ N) (hd : 2 ≤ d)  {m : jm} {P : jm → Prop} {Q : px_Q} (h : jo (jf_189 m) P) (hQ : ∀ p : jm, True → P p → Q (.inl (none)) (jmem N p)) : px_C X d 189 [.ref 67] (jmem N m) Q := by
  unfold jf_189 at h
  have hu : ju px_m189 (0, 0) := ju_0
  refine jr_in (M := px_m189) (lev := 1) (L := [some (.ref 67), none]) hd rfl jbd_189 (jl rfl) rfl (fun d hd Q' hQ' => ?_)
  refine jr_al_n (pc' := 1) rfl rfl rfl (jr_al_n (pc' := 2) rfl rfl rfl (jr_gi (pc' := 5) rfl rfl jlk_12_172 (.inl rfl) rfl hN jd_67 rfl rfl (jr_pi (pc' := 8) rfl rfl jlk_12_184 (.inl rfl) rfl hN jd_67 rfl rfl ?_)))
  refine jr_le h (fun m1 h => ?_)
  refine jr_al_n (pc' := 9) rfl rfl rfl (jr_al_n (pc' := 10) rfl rfl rfl (jr_gi (pc' := 13) rfl rfl jlk_12_175 (.inl rfl) rfl hN jd_67 rfl rfl (jr_pi (pc' := 16) rfl rfl jlk_12_187 (.inl rfl) rfl hN jd_67 rfl rfl ?_)))
  refine jr_le h (fun m2 h => ?_)
  refine jr_al_n (pc' := 17) rfl rfl rfl (jr_al_n (pc' := 18) rfl rfl rfl (jr_gi (pc' := 21) rfl rfl jlk_12_178 (.inl rfl) rfl hN jd_67 rfl rfl (jr_pi (pc' := 24) rfl rfl jlk_12_190 (.inl rfl) rfl hN jd_67 rfl rfl ?_)))
  refine jr_le h (fun m3 h => ?_)
  refine jr_al_n (pc' := 25) rfl rfl rfl (jr_al_n (pc' := 26) rfl rfl rfl (jr_gi (pc' := 29) rfl rfl jlk_12_181 (.inl rfl) rfl hN jd_67 rfl rfl (jr_pi (pc' := 32) rfl rfl jlk_12_193 (.inl rfl) rfl hN jd_67 rfl rfl ?_)))
  refine jr_le h (fun m4 h => ?_)
  refine jr_al_n (pc' := 33) rfl rfl rfl (jr_al_n (pc' := 34) rfl rfl rfl (jr_gr (pc' := 37) (r := 70) rfl rfl jlk_12_23 (.inl rfl) rfl hN jd_67 rfl rfl rfl (jr_al_n (pc' := 38) rfl rfl rfl (jr_gr (pc' := 41) (r := 75) rfl rfl jlk_12_38 (.inl rfl) rfl hN jd_67 rfl rfl rfl (jr_bi (pc' := 43) rfl rfl rfl ?_)))))
  refine jr_cv_v (pc' := 46) [] rfl rfl jlk_12_196 jq_190 jbd_190 (jl rfl) rfl (jl rfl) hu rfl (jk rfl hN) (jd_67.trans jo_190.symm) (fun Q' hq => jc_190 hN (Nat.le_trans (jl rfl) hd) ⟨jl rfl, jd_70⟩ ⟨jl rfl, jd_75⟩ jgc_8 (jo_b h) hq) (fun p5 hp5 h => ?_)
  refine jr_al_n (pc' := 47) rfl rfl rfl (jr_al_n (pc' := 48) rfl rfl rfl (jr_gr (pc' := 51) (r := 71) rfl rfl jlk_12_26 (.inl rfl) rfl hN jd_67 rfl rfl rfl (jr_al_n (pc' := 52) rfl rfl rfl (jr_gr (pc' := 55) (r := 76) rfl rfl jlk_12_41 (.inl rfl) rfl hN jd_67 rfl rfl rfl (jr_bi (pc' := 57) rfl rfl rfl ?_)))))
  refine jr_cv_v (pc' := 60) [] rfl rfl jlk_12_196 jq_190 jbd_190 (jl rfl) rfl (jl rfl) hu rfl (jk rfl hN) (jd_67.trans jo_190.symm) (fun Q' hq => jc_190 hN (Nat.le_trans (jl rfl) hd) ⟨jl rfl, jd_71⟩ ⟨jl rfl, jd_76⟩ jgc_24 (jo_b h) hq) (fun p6 hp6 h => ?_)
  refine jr_al_n (pc' := 61) rfl rfl rfl (jr_al_n (pc' := 62) rfl rfl rfl (jr_gr (pc' := 65) (r := 72) rfl rfl jlk_12_29 (.inl rfl) rfl hN jd_67 rfl rfl rfl (jr_al_n (pc' := 66) rfl rfl rfl (jr_gr (pc' := 69) (r := 77) rfl rfl jlk_12_44 (.inl rfl) rfl hN jd_67 rfl rfl rfl (jr_bi (pc' := 71) rfl rfl rfl ?_)))))
  refine jr_cv_v (pc' := 74) [] rfl rfl jlk_12_196 jq_190 jbd_190 (jl rfl) rfl (jl rfl) hu rfl (jk rfl hN) (jd_67.trans jo_190.symm) (fun Q' hq => jc_190 hN (Nat.le_trans (jl rfl) hd) ⟨jl rfl, jd_72⟩ ⟨jl rfl, jd_77⟩ jgc_12 (jo_b h) hq) (fun p7 hp7 h => ?_)
  refine jr_al_n (pc' := 75) rfl rfl rfl (jr_al_n (pc' := 76) rfl rfl rfl (jr_gr (pc' := 79) (r := 73) rfl rfl jlk_12_32 (.inl rfl) rfl hN jd_67 rfl rfl rfl (jr_al_n (pc' := 80) rfl rfl rfl (jr_gr (pc' := 83) (r := 78) rfl rfl jlk_12_47 (.inl rfl) rfl hN jd_67 rfl rfl rfl (jr_bi (pc' := 85) rfl rfl rfl ?_)))))
  refine jr_cv_v (pc' := 88) [] rfl rfl jlk_12_196 jq_190 jbd_190 (jl rfl) rfl (jl rfl) hu rfl (jk rfl hN) (jd_67.trans jo_190.symm) (fun Q' hq => jc_190 hN (Nat.le_trans (jl rfl) hd) ⟨jl rfl, jd_73⟩ ⟨jl rfl, jd_78⟩ jgc_18 (jo_b h) hq) (fun p8 hp8 h => ?_)
  refine jr_al_n (pc' := 89) rfl rfl rfl (jr_al_n (pc' := 90) rfl rfl rfl (jr_gr (pc' := 93) (r := 74) rfl rfl jlk_12_35 (.inl rfl) rfl hN jd_67 rfl rfl rfl (jr_al_n (pc' := 94) rfl rfl rfl (jr_gr (pc' := 97) (r := 79) rfl rfl jlk_12_50 (.inl rfl) rfl hN jd_67 rfl rfl rfl (jr_bi (pc' := 99) rfl rfl rfl ?_)))))
  refine jr_cv_v (pc' := 102) [] rfl rfl jlk_12_196 jq_190 jbd_190 (jl rfl) rfl (jl rfl) hu rfl (jk rfl hN) (jd_67.trans jo_190.symm) (fun Q' hq => jc_190 hN (Nat.le_trans (jl rfl) hd) ⟨jl rfl, jd_74⟩ ⟨jl rfl, jd_79⟩ jgc_32 (jo_b h) hq) (fun p9 hp9 h => ?_)
  refine jr_al_n (pc' := 103) rfl rfl rfl (jr_ic (pc' := 104) rfl rfl (jr_pi (pc' := 107) rfl rfl jlk_12_200 (.inl rfl) rfl hN jd_67 rfl rfl ?_))
  refine jr_le h (fun m10 h => ?_)
  refine jr_al_n (pc' := 108) rfl rfl rfl (jr_ic (pc' := 109) rfl rfl (jr_pi (pc' := 112) rfl rfl jlk_12_203 (.inl rfl) rfl hN jd_67 rfl rfl ?_))
  refine jr_le h (fun m11 h => ?_)
  refine jr_al_n (pc' := 113) rfl rfl rfl (jr_ic (pc' := 114) rfl rfl (jr_pi (pc' := 117) rfl rfl jlk_12_206 (.inl rfl) rfl hN jd_67 rfl rfl ?_))
  refine jr_le h (fun m12 h => ?_)
  refine jr_al_n (pc' := 118) rfl rfl rfl (jr_ic (pc' := 119) rfl rfl (jr_pi (pc' := 122) rfl rfl jlk_12_209 (.inl rfl) rfl hN jd_67 rfl rfl ?_))
  refine jr_le h (fun m13 h => ?_)
  refine jr_al_n (pc' := 123) rfl rfl rfl (jr_ic (pc' := 124) rfl rfl (jr_pi (pc' := 127) rfl rfl jlk_12_212 (.inl rfl) rfl hN jd_67 rfl rfl ?_))
  refine jr_le h (fun m14 h => ?_)
  refine jr_ic (pc' := 128) rfl rfl (jr_is_n (pc' := 129) (L' := [_, _]) rfl rfl (jl rfl) rfl rfl ?_)
  refine jr_reg (fun t18 => True) (fun t18 => ∀ o19, jn o19 → jp X (px_C X d) px_m189 Q' N 148 [some (.ref 67), o19] [] t18 (0, 0)) h (fun t18 ht18 h o19 ho19 => ?_) (fun R21 k20 h => ?_)
  · refine jr_ic (pc' := 149) rfl rfl (jr_is_n (pc' := 150) (L' := [_, _]) rfl rfl (jl rfl) rfl rfl ?_)
    refine jr_reg (fun t36 => True) (fun t36 => ∀ o37, jn o37 → jp X (px_C X d) px_m189 Q' N 169 [some (.ref 67), o37] [] t36 (0, 0)) h (fun t36 ht36 h o37 ho37 => ?_) (fun R39 k38 h => ?_)
    · refine jr_ic (pc' := 170) rfl rfl (jr_is_n (pc' := 171) (L' := [_, _]) rfl rfl (jl rfl) rfl rfl ?_)
      refine jr_reg (fun t54 => True) (fun t54 => ∀ o55, jn o55 → jp X (px_C X d) px_m189 Q' N 199 [some (.ref 67), o55] [] t54 (0, 0)) h (fun t54 ht54 h o55 ho55 => ?_) (fun R57 k56 h => ?_)
      · refine jr_ic (pc' := 200) rfl rfl (jr_is_n (pc' := 201) (L' := [_, _]) rfl rfl (jl rfl) rfl rfl ?_)
        refine jr_reg (fun t72 => True) (fun t72 => ∀ o73, jn o73 → jp X (px_C X d) px_m189 Q' N 232 [some (.ref 67), o73] [] t72 (0, 0)) h (fun t72 ht72 h o73 ho73 => ?_) (fun R75 k74 h => ?_)
        · refine jr_ic (pc' := 233) rfl rfl (jr_is_n (pc' := 234) (L' := [_, _]) rfl rfl (jl rfl) rfl rfl ?_)
          refine jr_reg (fun t90 => True) (fun t90 => ∀ o91, jn o91 → jp X (px_C X d) px_m189 Q' N 285 [some (.ref 67), o91] [] t90 (0, 0)) h (fun t90 ht90 h o91 ho91 => ?_) (fun R93 k92 h => ?_)
          · exact jr_rv rfl hu rfl (hQ' _ _ (hQ t90 trivial h))
          · refine jr_lp (fun s87 => jg s87.1) (fun s87 => jp X (px_C X d) px_m189 Q' N 234 [some (.ref 67), some (jv s87.1)] [] s87.2 (0, 0)) h jgc_0 (fun s87 hs87 R89 k88 h => ?_)
            refine jr_il_n (pc' := 235) rfl rfl rfl (jr_bi (pc' := 237) rfl rfl rfl ?_)
            refine jr_cge (pa := 240) (pb := 285) rfl rfl rfl hs87 jgc_8 h (fun hc h => ?_) (fun hc h => ?_)
            · refine jr_al_n (pc' := 241) rfl rfl rfl (jr_gr (pc' := 244) (r := 88) rfl rfl jlk_12_77 (.inl rfl) rfl hN jd_67 rfl rfl rfl (jr_bi (pc' := 246) rfl rfl rfl (jr_il_n (pc' := 247) rfl rfl rfl (jr_add (pc' := 248) rfl rfl (jr_il_n (pc' := 249) rfl rfl rfl ?_)))))
              refine jr_al_n (pc' := 250) rfl rfl rfl (jr_gi (pc' := 253) rfl rfl jlk_12_193 (.inl rfl) rfl hN jd_67 rfl rfl ?_)
              refine jr_reg (fun t94 => jg t94) (fun t94 => jp X (px_C X d) px_m189 Q' N 268 [some (.ref 67), some (jv s87.1)] [(jv t94), (jv (jw ((42 : Int) + s87.1))), (.ref 88)] s87.2 (0, 0)) h (fun t94 ht94 h => ?_) (fun R108 k95 h => ?_)
              · refine jr_ist (pc' := 269) rfl rfl (jl rfl) hN jd_88 jn_88 jg_w h (fun hc h => ?_)
                refine jr_le h (fun m106 h => ?_)
                refine jr_al_n (pc' := 270) rfl rfl rfl (jr_gr (pc' := 273) (r := 88) rfl rfl jlk_12_77 (.inl rfl) rfl hN jd_67 rfl rfl rfl (jr_bi (pc' := 275) rfl rfl rfl (jr_il_n (pc' := 276) rfl rfl rfl (jr_add (pc' := 277) rfl rfl (jr_ic (pc' := 278) rfl rfl ?_)))))
                refine jr_ist (pc' := 279) rfl rfl (jl rfl) hN jd_88 jn_88 jg_w h (fun hc h => ?_)
                refine jr_le h (fun m107 h => ?_)
                refine jr_inc (pc' := 282) (L' := [_, _]) rfl rfl rfl (jl rfl) rfl rfl (jr_goto (pc' := 234) rfl rfl ?_)
                exact k88 (jw (s87.1 + 1), m107) jg_w h
              · refine jr_cge (pa := 256) (pb := 267) rfl rfl rfl hs87 jg_a h (fun hc h => ?_) (fun hc h => ?_)
                · refine jr_al_n (pc' := 257) rfl rfl rfl (jr_gr (pc' := 260) (r := 79) rfl rfl jlk_12_50 (.inl rfl) rfl hN jd_67 rfl rfl rfl (jr_ic (pc' := 261) rfl rfl (jr_il_n (pc' := 262) rfl rfl rfl (jr_mul (pc' := 263) rfl rfl ?_))))
                  refine jr_ia (pc' := 264) rfl rfl (jl rfl) hN jd_79 jn_79 jg_w h (fun hc h => ?_)
                  refine jr_goto (pc' := 268) rfl rfl ?_
                  exact k95 (ja s87.2 79 (jw ((4 : Int) * s87.1)).toNat) jg_a h
                · refine jr_ic (pc' := 268) rfl rfl ?_
                  exact k95 ((0 : Int)) jgc_0 h
            · exact k92 (s87.2) trivial h _ jn_i
        · refine jr_lp (fun s69 => jg s69.1) (fun s69 => jp X (px_C X d) px_m189 Q' N 201 [some (.ref 67), some (jv s69.1)] [] s69.2 (0, 0)) h jgc_0 (fun s69 hs69 R71 k70 h => ?_)
          refine jr_il_n (pc' := 202) rfl rfl rfl (jr_al_n (pc' := 203) rfl rfl rfl (jr_gi (pc' := 206) rfl rfl jlk_12_190 (.inl rfl) rfl hN jd_67 rfl rfl ?_))
          refine jr_cge (pa := 209) (pb := 232) rfl rfl rfl hs69 jg_a h (fun hc h => ?_) (fun hc h => ?_)
          · refine jr_al_n (pc' := 210) rfl rfl rfl (jr_gr (pc' := 213) (r := 88) rfl rfl jlk_12_77 (.inl rfl) rfl hN jd_67 rfl rfl rfl (jr_bi (pc' := 215) rfl rfl rfl (jr_il_n (pc' := 216) rfl rfl rfl (jr_add (pc' := 217) rfl rfl (jr_al_n (pc' := 218) rfl rfl rfl ?_)))))
            refine jr_gr (pc' := 221) (r := 78) rfl rfl jlk_12_47 (.inl rfl) rfl hN jd_67 rfl rfl rfl (jr_ic (pc' := 222) rfl rfl (jr_il_n (pc' := 223) rfl rfl rfl (jr_mul (pc' := 224) rfl rfl ?_)))
            refine jr_ia (pc' := 225) rfl rfl (jl rfl) hN jd_78 jn_78 jg_w h (fun hc h => ?_)
            refine jr_ist (pc' := 226) rfl rfl (jl rfl) hN jd_88 jn_88 jg_w h (fun hc h => ?_)
            refine jr_le h (fun m76 h => ?_)
            refine jr_inc (pc' := 229) (L' := [_, _]) rfl rfl rfl (jl rfl) rfl rfl (jr_goto (pc' := 201) rfl rfl ?_)
            exact k70 (jw (s69.1 + 1), m76) jg_w h
          · exact k74 (s69.2) trivial h _ jn_i
      · refine jr_lp (fun s51 => jg s51.1) (fun s51 => jp X (px_C X d) px_m189 Q' N 171 [some (.ref 67), some (jv s51.1)] [] s51.2 (0, 0)) h jgc_0 (fun s51 hs51 R53 k52 h => ?_)
        refine jr_il_n (pc' := 172) rfl rfl rfl (jr_al_n (pc' := 173) rfl rfl rfl (jr_gi (pc' := 176) rfl rfl jlk_12_187 (.inl rfl) rfl hN jd_67 rfl rfl ?_))
        refine jr_cge (pa := 179) (pb := 199) rfl rfl rfl hs51 jg_a h (fun hc h => ?_) (fun hc h => ?_)
        · refine jr_al_n (pc' := 180) rfl rfl rfl (jr_gr (pc' := 183) (r := 88) rfl rfl jlk_12_77 (.inl rfl) rfl hN jd_67 rfl rfl rfl (jr_ic (pc' := 184) rfl rfl (jr_il_n (pc' := 185) rfl rfl rfl (jr_add (pc' := 186) rfl rfl (jr_al_n (pc' := 187) rfl rfl rfl ?_)))))
          refine jr_gr (pc' := 190) (r := 77) rfl rfl jlk_12_44 (.inl rfl) rfl hN jd_67 rfl rfl rfl (jr_il_n (pc' := 191) rfl rfl rfl ?_)
          refine jr_ia (pc' := 192) rfl rfl (jl rfl) hN jd_77 jn_77 hs51 h (fun hc h => ?_)
          refine jr_ist (pc' := 193) rfl rfl (jl rfl) hN jd_88 jn_88 jg_w h (fun hc h => ?_)
          refine jr_le h (fun m58 h => ?_)
          refine jr_inc (pc' := 196) (L' := [_, _]) rfl rfl rfl (jl rfl) rfl rfl (jr_goto (pc' := 171) rfl rfl ?_)
          exact k52 (jw (s51.1 + 1), m58) jg_w h
        · exact k56 (s51.2) trivial h _ jn_i
    · refine jr_lp (fun s33 => jg s33.1) (fun s33 => jp X (px_C X d) px_m189 Q' N 150 [some (.ref 67), some (jv s33.1)] [] s33.2 (0, 0)) h jgc_0 (fun s33 hs33 R35 k34 h => ?_)
      refine jr_il_n (pc' := 151) rfl rfl rfl (jr_bi (pc' := 153) rfl rfl rfl ?_)
      refine jr_cge (pa := 156) (pb := 169) rfl rfl rfl hs33 jgc_68 h (fun hc h => ?_) (fun hc h => ?_)
      · refine jr_al_n (pc' := 157) rfl rfl rfl (jr_gr (pc' := 160) (r := 88) rfl rfl jlk_12_77 (.inl rfl) rfl hN jd_67 rfl rfl rfl (jr_il_n (pc' := 161) rfl rfl rfl (jr_ic (pc' := 162) rfl rfl ?_)))
        refine jr_ist (pc' := 163) rfl rfl (jl rfl) hN jd_88 jn_88 hs33 h (fun hc h => ?_)
        refine jr_le h (fun m40 h => ?_)
        refine jr_inc (pc' := 166) (L' := [_, _]) rfl rfl rfl (jl rfl) rfl rfl (jr_goto (pc' := 150) rfl rfl ?_)
        exact k34 (jw (s33.1 + 1), m40) jg_w h
      · exact k38 (s33.2) trivial h _ jn_i
  · refine jr_lp (fun s15 => jg s15.1) (fun s15 => jp X (px_C X d) px_m189 Q' N 129 [some (.ref 67), some (jv s15.1)] [] s15.2 (0, 0)) h jgc_0 (fun s15 hs15 R17 k16 h => ?_)
    refine jr_il_n (pc' := 130) rfl rfl rfl (jr_bi (pc' := 132) rfl rfl rfl ?_)
    refine jr_cge (pa := 135) (pb := 148) rfl rfl rfl hs15 jgc_12 h (fun hc h => ?_) (fun hc h => ?_)
    · refine jr_al_n (pc' := 136) rfl rfl rfl (jr_gr (pc' := 139) (r := 92) rfl rfl jlk_12_89 (.inl rfl) rfl hN jd_67 rfl rfl rfl (jr_il_n (pc' := 140) rfl rfl rfl (jr_ic (pc' := 141) rfl rfl ?_)))
      refine jr_ist (pc' := 142) rfl rfl (jl rfl) hN jd_92 jn_92 hs15 h (fun hc h => ?_)
      refine jr_le h (fun m22 h => ?_)
      refine jr_inc (pc' := 145) (L' := [_, _]) rfl rfl rfl (jl rfl) rfl rfl (jr_goto (pc' := 129) rfl rfl ?_)
      exact k16 (jw (s15.1 + 1), m22) jg_w h
    · exact k20 (s15.2) trivial h _ jn_i

set_option maxRecDepth 20000 in
set_option maxHeartbeats 1000000 in
theorem jc_191 {X : Nat × (Nat → Int32)} {N d : Nat} {x0 : Int} {x1 : Int} {x2 : Int} {x3 : Int} {x4 : Int} (hN : 102 ≤ N) (hd : 1 ≤ d) (hx0 : jg x0) (hx1 : jg x1) (hx2 : jg x2) (hx3 : jg x3) (hx4 : jg x4) {m : jm} {P : Int × jm → Prop} {Q : px_Q} (h : jo (jf_191 x0 x1 x2 x3 x4 m) P) (hQ : ∀ p : Int × jm, jg p.1 → P p → Q (.inl (some (jv p.1))) (jmem N p.2)) : px_C X d 191 [.ref 67, jv x0, jv x1, jv x2, jv x3, jv x4] (jmem N m) Q := by
  unfold jf_191 at h
  have hu : ju px_m191 (0, 0) := ju_0
  refine jr_in (M := px_m191) (lev := 0) (L := [some (.ref 67), some (jv x0), some (jv x1), some (jv x2), some (jv x3), some (jv x4), none, none]) hd rfl jbd_191 (jl rfl) rfl (fun d hd Q' hQ' => ?_)
  refine jr_al_n (pc' := 1) rfl rfl rfl (jr_ic (pc' := 2) rfl rfl (jr_pi (pc' := 5) rfl rfl jlk_12_3 (.inl rfl) rfl hN jd_67 rfl rfl ?_))
  refine jr_le h (fun m1 h => ?_)
  refine jr_al_n (pc' := 6) rfl rfl rfl (jr_gi (pc' := 9) rfl rfl jlk_12_126 (.inl rfl) rfl hN jd_67 rfl rfl (jr_bi (pc' := 11) rfl rfl rfl (jr_add (pc' := 12) rfl rfl (jr_si (pc' := 15) rfl rfl rfl ?_))))
  refine jr_cle (pa := 18) (pb := 20) rfl rfl rfl jg_w jgc_600 h (fun hc h => ?_) (fun hc h => ?_)
  · refine jr_ic (pc' := 19) rfl rfl ?_
    exact jr_ret rfl hu rfl (hQ' _ _ (hQ ((-1 : Int), m1) jgc_m1 h))
  · refine jr_ic (pc' := 21) rfl rfl (jr_is (pc' := 23) (L' := [_, _, _, _, _, _, _, _]) rfl rfl (jl rfl) rfl rfl ?_)
    refine jr_reg (fun t6 => True) (fun t6 => ∀ o7, jn o7 → ∀ o8, jn o8 → jp X (px_C X d) px_m191 Q' N 120 [some (.ref 67), some (jv x0), some (jv x1), some (jv x2), some (jv x3), some (jv x4), o7, o8] [] t6 (0, 0)) h (fun t6 ht6 h o7 ho7 o8 ho8 => ?_) (fun R10 k9 h => ?_)
    · refine jr_al_n (pc' := 121) rfl rfl rfl (jr_gi (pc' := 124) rfl rfl jlk_12_126 (.inl rfl) rfl hN jd_67 rfl rfl ?_)
      exact jr_ret rfl hu rfl (hQ' _ _ (hQ (ja t6 67 2, t6) jg_a h))
    · refine jr_lp (fun s2 => jg s2.1) (fun s2 => ∀ o3, jn o3 → jp X (px_C X d) px_m191 Q' N 23 [some (.ref 67), some (jv x0), some (jv x1), some (jv x2), some (jv x3), some (jv x4), some (jv s2.1), o3] [] s2.2 (0, 0)) h jgc_0 (fun s2 hs2 R5 k4 h o3 ho3 => ?_) _ jn_n
      refine jr_il (pc' := 25) rfl rfl rfl (jr_bi (pc' := 27) rfl rfl rfl ?_)
      refine jr_cge (pa := 30) (pb := 120) rfl rfl rfl hs2 jgc_20 h (fun hc h => ?_) (fun hc h => ?_)
      · refine jr_il (pc' := 32) rfl rfl rfl (jr_ic (pc' := 33) rfl rfl ?_)
        refine jr_reg (fun t11 => jg t11) (fun t11 => jp X (px_C X d) px_m191 Q' N 76 [some (.ref 67), some (jv x0), some (jv x1), some (jv x2), some (jv x3), some (jv x4), some (jv s2.1), o3] [(jv t11)] s2.2 (0, 0)) h (fun t11 ht11 h => ?_) (fun R25 k12 h => ?_)
        · refine jr_is (pc' := 78) (L' := [_, _, _, _, _, _, _, _]) rfl rfl (jl rfl) rfl rfl (jr_al_n (pc' := 79) rfl rfl rfl (jr_gr (pc' := 82) (r := 69) rfl rfl jlk_12_20 (.inl rfl) rfl hN jd_67 rfl rfl rfl (jr_al_n (pc' := 83) rfl rfl rfl (jr_gi (pc' := 86) rfl rfl jlk_12_126 (.inl rfl) rfl hN jd_67 rfl rfl (jr_il (pc' := 88) rfl rfl rfl ?_)))))
          refine jr_bi (pc' := 90) rfl rfl rfl (jr_bi (pc' := 92) rfl rfl rfl (jr_il (pc' := 94) rfl rfl rfl (jr_ic (pc' := 95) rfl rfl (jr_rem (pc' := 96) rfl rfl jgc_4 (by decide) (jr_mul (pc' := 97) rfl rfl ?_)))))
          refine jr_sub (pc' := 98) rfl rfl (jr_shr (pc' := 99) rfl rfl (jr_si (pc' := 102) rfl rfl rfl (jr_and (pc' := 103) rfl rfl ?_)))
          refine jr_ist (pc' := 104) rfl rfl (jl rfl) hN jd_69 jn_69 jg_a h (fun hc h => ?_)
          refine jr_le h (fun m23 h => ?_)
          refine jr_al_n (pc' := 105) rfl rfl rfl (jr_dup (pc' := 106) rfl rfl rfl (jr_gi (pc' := 109) rfl rfl jlk_12_126 (.inl rfl) rfl hN jd_67 rfl rfl (jr_ic (pc' := 110) rfl rfl (jr_add (pc' := 111) rfl rfl (jr_pi (pc' := 114) rfl rfl jlk_12_126 (.inl rfl) rfl hN jd_67 rfl rfl ?_)))))
          refine jr_le h (fun m24 h => ?_)
          refine jr_inc (pc' := 117) (L' := [_, _, _, _, _, _, _, _]) rfl rfl rfl (jl rfl) rfl rfl (jr_goto (pc' := 23) rfl rfl ?_)
          exact k4 (jw (s2.1 + 1), m24) jg_w h _ jn_i
        · refine jr_cge (pa := 36) (pb := 40) rfl rfl rfl hs2 jgc_4 h (fun hc h => ?_) (fun hc h => ?_)
          · refine jr_il_n (pc' := 37) rfl rfl rfl (jr_goto (pc' := 76) rfl rfl ?_)
            exact k12 (x0) hx0 h
          · refine jr_il (pc' := 42) rfl rfl rfl (jr_bi (pc' := 44) rfl rfl rfl ?_)
            refine jr_cge (pa := 47) (pb := 51) rfl rfl rfl hs2 jgc_8 h (fun hc h => ?_) (fun hc h => ?_)
            · refine jr_il_n (pc' := 48) rfl rfl rfl (jr_goto (pc' := 76) rfl rfl ?_)
              exact k12 (x1) hx1 h
            · refine jr_il (pc' := 53) rfl rfl rfl (jr_bi (pc' := 55) rfl rfl rfl ?_)
              refine jr_cge (pa := 58) (pb := 62) rfl rfl rfl hs2 jgc_12 h (fun hc h => ?_) (fun hc h => ?_)
              · refine jr_il_n (pc' := 59) rfl rfl rfl (jr_goto (pc' := 76) rfl rfl ?_)
                exact k12 (x2) hx2 h
              · refine jr_il (pc' := 64) rfl rfl rfl (jr_bi (pc' := 66) rfl rfl rfl ?_)
                refine jr_cge (pa := 69) (pb := 74) rfl rfl rfl hs2 jgc_16 h (fun hc h => ?_) (fun hc h => ?_)
                · refine jr_il (pc' := 71) rfl rfl rfl (jr_goto (pc' := 76) rfl rfl ?_)
                  exact k12 (x3) hx3 h
                · refine jr_il (pc' := 76) rfl rfl rfl ?_
                  exact k12 (x4) hx4 h
      · exact k9 (s2.2) trivial h _ jn_i _ ho3

set_option maxRecDepth 20000 in
set_option maxHeartbeats 1000000 in
theorem jc_192 {X : Nat × (Nat → Int32)} {N d : Nat}  (hN : 102 ≤ N) (hd : 1 ≤ d)  {m : jm} {P : Int × jm → Prop} {Q : px_Q} (h : jo (jf_192 m) P) (hQ : ∀ p : Int × jm, jg p.1 → P p → Q (.inl (some (jv p.1))) (jmem N p.2)) : px_C X d 192 [.ref 67] (jmem N m) Q := by
  unfold jf_192 at h
  have hu : ju px_m192 (0, 0) := ju_0
  refine jr_in (M := px_m192) (lev := 0) (L := [some (.ref 67)]) hd rfl jbd_192 (jl rfl) rfl (fun d hd Q' hQ' => ?_)
  refine jr_al_n (pc' := 1) rfl rfl rfl (jr_ic (pc' := 2) rfl rfl (jr_pi (pc' := 5) rfl rfl jlk_12_3 (.inl rfl) rfl hN jd_67 rfl rfl ?_))
  refine jr_le h (fun m1 h => ?_)
  refine jr_al_n (pc' := 6) rfl rfl rfl (jr_gi (pc' := 9) rfl rfl jlk_12_17 (.inl rfl) rfl hN jd_67 rfl rfl ?_)
  exact jr_ret rfl hu rfl (hQ' _ _ (hQ (ja m1 67 8, m1) jg_a h))

set_option maxRecDepth 20000 in
set_option maxHeartbeats 1000000 in
theorem jc_194 {X : Nat × (Nat → Int32)} {N d : Nat} {x0 : Int} {x1 : Int} {x2 : Int} (hN : 102 ≤ N) (hd : 1 ≤ d) (hx0 : jg x0) (hx1 : jg x1) (hx2 : jg x2) {m : jm} {P : Int × jm → Prop} {Q : px_Q} (h : jo (jf_194 x0 x1 x2 m) P) (hQ : ∀ p : Int × jm, jb p.1 → P p → Q (.inl (some (jv p.1))) (jmem N p.2)) : px_C X d 194 [.ref 67, jv x0, jv x1, jv x2] (jmem N m) Q := by
  unfold jf_194 at h
  have hu : ju px_m194 (0, 0) := ju_0
  refine jr_in (M := px_m194) (lev := 0) (L := [some (.ref 67), some (jv x0), some (jv x1), some (jv x2)]) hd rfl jbd_194 (jl rfl) rfl (fun d hd Q' hQ' => ?_)
  refine jr_il_n (pc' := 1) rfl rfl rfl ?_
  refine jr_reg (fun t1 => True) (fun t1 => jp X (px_C X d) px_m194 Q' N 26 [some (.ref 67), some (jv x0), some (jv x1), some (jv x2)] [] t1 (0, 0)) h (fun t1 ht1 h => ?_) (fun R28 k2 h => ?_)
  · refine jr_al_n (pc' := 27) rfl rfl rfl (jr_gi (pc' := 30) rfl rfl jlk_12_3 (.inl rfl) rfl hN jd_67 rfl rfl ?_)
    refine jr_reg (fun t15 => jb t15) (fun t15 => jp X (px_C X d) px_m194 Q' N 38 [some (.ref 67), some (jv x0), some (jv x1), some (jv x2)] [(jv t15)] t1 (0, 0)) h (fun t15 ht15 h => ?_) (fun R27 k16 h => ?_)
    · exact jr_retb rfl hu rfl ht15 (hQ' _ _ (hQ (t15, t1) ht15 h))
    · refine jr_zne (pa := 33) (pb := 37) rfl rfl rfl jg_a h (fun hc h => ?_) (fun hc h => ?_)
      · refine jr_ic (pc' := 34) rfl rfl (jr_goto (pc' := 38) rfl rfl ?_)
        exact k16 ((1 : Int)) jb_1 h
      · refine jr_ic (pc' := 38) rfl rfl ?_
        exact k16 ((0 : Int)) jb_0 h
  · refine jr_zne (pa := 4) (pb := 26) rfl rfl rfl hx0 h (fun hc h => ?_) (fun hc h => ?_)
    · refine jr_al_n (pc' := 5) rfl rfl rfl (jr_gi (pc' := 8) rfl rfl jlk_12_3 (.inl rfl) rfl hN jd_67 rfl rfl ?_)
      refine jr_zne (pa := 11) (pb := 26) rfl rfl rfl jg_a h (fun hc h => ?_) (fun hc h => ?_)
      · refine jr_al_n (pc' := 12) rfl rfl rfl (jr_il_n (pc' := 13) rfl rfl rfl (jr_pi (pc' := 16) rfl rfl jlk_12_3 (.inl rfl) rfl hN jd_67 rfl rfl ?_))
        refine jr_le h (fun m3 h => ?_)
        refine jr_al_n (pc' := 17) rfl rfl rfl (jr_gr (pc' := 20) (r := 68) rfl rfl jlk_12_7 (.inl rfl) rfl hN jd_67 rfl rfl rfl (jr_il_n (pc' := 21) rfl rfl rfl (jr_dup2 (pc' := 22) rfl rfl rfl rfl ?_)))
        refine jr_ia (pc' := 23) rfl rfl (jl rfl) hN jd_68 jn_68 hx2 h (fun hc h => ?_)
        refine jr_ic (pc' := 24) rfl rfl (jr_add (pc' := 25) rfl rfl ?_)
        refine jr_ist (pc' := 26) rfl rfl (jl rfl) hN jd_68 jn_68 hx2 h (fun hc h => ?_)
        refine jr_le h (fun m4 h => ?_)
        exact k2 (m4) trivial h
      · exact k2 (m) trivial h
    · exact k2 (m) trivial h

set_option maxRecDepth 20000 in
set_option maxHeartbeats 1000000 in
theorem jc_195 {X : Nat × (Nat → Int32)} {N d : Nat} {x0 : Int} (hN : 102 ≤ N) (hd : 1 ≤ d) (hx0 : jg x0) {m : jm} {P : jm → Prop} {Q : px_Q} (h : jo (jf_195 x0 m) P) (hQ : ∀ p : jm, True → P p → Q (.inl (none)) (jmem N p)) : px_C X d 195 [.ref 67, jv x0] (jmem N m) Q := by
  unfold jf_195 at h
  have hu : ju px_m195 (0, 0) := ju_0
  refine jr_in (M := px_m195) (lev := 0) (L := [some (.ref 67), some (jv x0)]) hd rfl jbd_195 (jl rfl) rfl (fun d hd Q' hQ' => ?_)
  refine jr_al_n (pc' := 1) rfl rfl rfl (jr_ic (pc' := 2) rfl rfl (jr_pi (pc' := 5) rfl rfl jlk_12_126 (.inl rfl) rfl hN jd_67 rfl rfl ?_))
  refine jr_le h (fun m1 h => ?_)
  refine jr_al_n (pc' := 6) rfl rfl rfl (jr_ic (pc' := 7) rfl rfl (jr_pi (pc' := 10) rfl rfl jlk_12_17 (.inl rfl) rfl hN jd_67 rfl rfl ?_))
  refine jr_le h (fun m2 h => ?_)
  refine jr_al_n (pc' := 11) rfl rfl rfl (jr_il_n (pc' := 12) rfl rfl rfl (jr_pi (pc' := 15) rfl rfl jlk_12_138 (.inl rfl) rfl hN jd_67 rfl rfl ?_))
  refine jr_le h (fun m3 h => ?_)
  refine jr_al_n (pc' := 16) rfl rfl rfl (jr_ic (pc' := 17) rfl rfl (jr_pi (pc' := 20) rfl rfl jlk_12_135 (.inl rfl) rfl hN jd_67 rfl rfl ?_))
  refine jr_le h (fun m4 h => ?_)
  refine jr_al_n (pc' := 21) rfl rfl rfl (jr_ic (pc' := 22) rfl rfl (jr_pi (pc' := 25) rfl rfl jlk_12_129 (.inl rfl) rfl hN jd_67 rfl rfl ?_))
  refine jr_le h (fun m5 h => ?_)
  refine jr_al_n (pc' := 26) rfl rfl rfl (jr_ic (pc' := 27) rfl rfl (jr_pi (pc' := 30) rfl rfl jlk_12_169 (.inl rfl) rfl hN jd_67 rfl rfl ?_))
  refine jr_le h (fun m6 h => ?_)
  exact jr_rv rfl hu rfl (hQ' _ _ (hQ m6 trivial h))

set_option maxRecDepth 20000 in
set_option maxHeartbeats 1000000 in
theorem jc_196 {X : Nat × (Nat → Int32)} {N d : Nat}  (hN : 102 ≤ N) (hd : 1 ≤ d)  {m : jm} {P : Int → Prop} {Q : px_Q} (h : jo (jf_196 m) P) (hQ : ∀ p : Int, jb p → P p → Q (.inl (some (jv p))) (jmem N m)) : px_C X d 196 [.ref 67] (jmem N m) Q := by
  unfold jf_196 at h
  have hu : ju px_m196 (0, 0) := ju_0
  refine jr_in (M := px_m196) (lev := 0) (L := [some (.ref 67)]) hd rfl jbd_196 (jl rfl) rfl (fun d hd Q' hQ' => ?_)
  refine jr_al_n (pc' := 1) rfl rfl rfl (jr_gi (pc' := 4) rfl rfl jlk_12_129 (.inl rfl) rfl hN jd_67 rfl rfl (jr_ic (pc' := 5) rfl rfl ?_))
  refine jr_reg (fun t1 => jb t1) (fun t1 => jp X (px_C X d) px_m196 Q' N 13 [some (.ref 67)] [(jv t1)] m (0, 0)) h (fun t1 ht1 h => ?_) (fun R13 k2 h => ?_)
  · exact jr_retb rfl hu rfl ht1 (hQ' _ _ (hQ t1 ht1 h))
  · refine jr_cne (pa := 8) (pb := 12) rfl rfl rfl jg_a jgc_m1 h (fun hc h => ?_) (fun hc h => ?_)
    · refine jr_ic (pc' := 9) rfl rfl (jr_goto (pc' := 13) rfl rfl ?_)
      exact k2 ((1 : Int)) jb_1 h
    · refine jr_ic (pc' := 13) rfl rfl ?_
      exact k2 ((0 : Int)) jb_0 h

set_option maxRecDepth 20000 in
set_option maxHeartbeats 1000000 in
theorem jc_198 {X : Nat × (Nat → Int32)} {N d : Nat}  (hN : 102 ≤ N) (hd : 1 ≤ d)  {m : jm} {P : Int × jm → Prop} {Q : px_Q} (h : jo (jf_198 m) P) (hQ : ∀ p : Int × jm, jg p.1 → P p → Q (.inl (some (jv p.1))) (jmem N p.2)) : px_C X d 198 [.ref 67] (jmem N m) Q := by
  unfold jf_198 at h
  have hu : ju px_m198 (0, 0) := ju_0
  refine jr_in (M := px_m198) (lev := 0) (L := [some (.ref 67)]) hd rfl jbd_198 (jl rfl) rfl (fun d hd Q' hQ' => ?_)
  refine jr_reg (fun t4 => True) (fun t4 => jp X (px_C X d) px_m198 Q' N 38 [some (.ref 67)] [] t4 (0, 0)) h (fun t4 ht4 h => ?_) (fun R6 k5 h => ?_)
  · refine jr_al_n (pc' := 39) rfl rfl rfl (jr_gi (pc' := 42) rfl rfl jlk_12_135 (.inl rfl) rfl hN jd_67 rfl rfl (jr_al_n (pc' := 43) rfl rfl rfl (jr_gi (pc' := 46) rfl rfl jlk_12_138 (.inl rfl) rfl hN jd_67 rfl rfl ?_)))
    refine jr_reg (fun t18 => jg t18) (fun t18 => jp X (px_C X d) px_m198 Q' N 62 [some (.ref 67)] [(jv t18)] t4 (0, 0)) h (fun t18 ht18 h => ?_) (fun R30 k19 h => ?_)
    · exact jr_ret rfl hu rfl (hQ' _ _ (hQ (t18, t4) ht18 h))
    · refine jr_cge (pa := 49) (pb := 61) rfl rfl rfl jg_a jg_a h (fun hc h => ?_) (fun hc h => ?_)
      · refine jr_al_n (pc' := 50) rfl rfl rfl (jr_gr (pc' := 53) (r := 69) rfl rfl jlk_12_20 (.inl rfl) rfl hN jd_67 rfl rfl rfl (jr_al_n (pc' := 54) rfl rfl rfl (jr_gi (pc' := 57) rfl rfl jlk_12_135 (.inl rfl) rfl hN jd_67 rfl rfl ?_)))
        refine jr_ia (pc' := 58) rfl rfl (jl rfl) hN jd_69 jn_69 jg_a h (fun hc h => ?_)
        refine jr_goto (pc' := 62) rfl rfl ?_
        exact k19 (ja t4 69 (ja t4 67 4).toNat) jg_a h
      · refine jr_ic (pc' := 62) rfl rfl ?_
        exact k19 ((0 : Int)) jgc_0 h
  · refine jr_lp (fun s1 => True) (fun s1 => jp X (px_C X d) px_m198 Q' N 0 [some (.ref 67)] [] s1 (0, 0)) h trivial (fun s1 hs1 R3 k2 h => ?_)
    refine jr_al_n (pc' := 1) rfl rfl rfl (jr_gi (pc' := 4) rfl rfl jlk_12_135 (.inl rfl) rfl hN jd_67 rfl rfl (jr_al_n (pc' := 5) rfl rfl rfl (jr_gi (pc' := 8) rfl rfl jlk_12_138 (.inl rfl) rfl hN jd_67 rfl rfl ?_)))
    refine jr_cge (pa := 11) (pb := 38) rfl rfl rfl jg_a jg_a h (fun hc h => ?_) (fun hc h => ?_)
    · refine jr_al_n (pc' := 12) rfl rfl rfl (jr_gr (pc' := 15) (r := 69) rfl rfl jlk_12_20 (.inl rfl) rfl hN jd_67 rfl rfl rfl (jr_al_n (pc' := 16) rfl rfl rfl (jr_gi (pc' := 19) rfl rfl jlk_12_135 (.inl rfl) rfl hN jd_67 rfl rfl ?_)))
      refine jr_ia (pc' := 20) rfl rfl (jl rfl) hN jd_69 jn_69 jg_a h (fun hc h => ?_)
      refine jr_bi (pc' := 22) rfl rfl rfl ?_
      refine jr_cne (pa := 25) (pb := 38) rfl rfl rfl jg_a jgc_32 h (fun hc h => ?_) (fun hc h => ?_)
      · refine jr_al_n (pc' := 26) rfl rfl rfl (jr_dup (pc' := 27) rfl rfl rfl (jr_gi (pc' := 30) rfl rfl jlk_12_135 (.inl rfl) rfl hN jd_67 rfl rfl (jr_ic (pc' := 31) rfl rfl (jr_add (pc' := 32) rfl rfl (jr_pi (pc' := 35) rfl rfl jlk_12_135 (.inl rfl) rfl hN jd_67 rfl rfl ?_)))))
        refine jr_le h (fun m7 h => ?_)
        refine jr_goto (pc' := 0) rfl rfl ?_
        exact k2 (m7) trivial h
      · exact k5 (s1) trivial h
    · exact k5 (s1) trivial h

set_option maxRecDepth 20000 in
set_option maxHeartbeats 1000000 in
theorem jc_197 {X : Nat × (Nat → Int32)} {N d : Nat}  (hN : 102 ≤ N) (hd : 2 ≤ d)  {m : jm} {P : Int × jm → Prop} {Q : px_Q} (h : jo (jf_197 m) P) (hQ : ∀ p : Int × jm, jb p.1 → P p → Q (.inl (some (jv p.1))) (jmem N p.2)) : px_C X d 197 [.ref 67] (jmem N m) Q := by
  unfold jf_197 at h
  have hu : ju px_m197 (0, 0) := ju_0
  refine jr_in (M := px_m197) (lev := 1) (L := [some (.ref 67)]) hd rfl jbd_197 (jl rfl) rfl (fun d hd Q' hQ' => ?_)
  refine jr_al_n (pc' := 1) rfl rfl rfl ?_
  refine jr_cv_i (pc' := 4) [] rfl rfl jlk_12_141 jq_198 jbd_198 (jl rfl) rfl (jl rfl) hu rfl (jk rfl hN) (jd_67.trans jo_198.symm) (fun Q' hq => jc_198 hN (Nat.le_trans (jl rfl) hd)  (jo_b h) hq) (fun p1 hp1 h => ?_)
  refine jr_pop (pc' := 5) rfl rfl rfl (jr_al_n (pc' := 6) rfl rfl rfl (jr_gi (pc' := 9) rfl rfl jlk_12_135 (.inl rfl) rfl hN jd_67 rfl rfl (jr_al_n (pc' := 10) rfl rfl rfl (jr_gi (pc' := 13) rfl rfl jlk_12_138 (.inl rfl) rfl hN jd_67 rfl rfl ?_))))
  refine jr_reg (fun t2 => jb t2) (fun t2 => jp X (px_C X d) px_m197 Q' N 21 [some (.ref 67)] [(jv t2)] p1.2 (0, 0)) h (fun t2 ht2 h => ?_) (fun R14 k3 h => ?_)
  · exact jr_retb rfl hu rfl ht2 (hQ' _ _ (hQ (t2, p1.2) ht2 h))
  · refine jr_cge (pa := 16) (pb := 20) rfl rfl rfl jg_a jg_a h (fun hc h => ?_) (fun hc h => ?_)
    · refine jr_ic (pc' := 17) rfl rfl (jr_goto (pc' := 21) rfl rfl ?_)
      exact k3 ((1 : Int)) jb_1 h
    · refine jr_ic (pc' := 21) rfl rfl ?_
      exact k3 ((0 : Int)) jb_0 h

set_option maxRecDepth 20000 in
set_option maxHeartbeats 1000000 in
theorem jc_200 {X : Nat × (Nat → Int32)} {N d : Nat} {x0 : Int} (hN : 102 ≤ N) (hd : 1 ≤ d) (hx0 : jg x0) {m : jm} {P : Int → Prop} {Q : px_Q} (h : jo (jf_200 x0 m) P) (hQ : ∀ p : Int, jb p → P p → Q (.inl (some (jv p))) (jmem N m)) : px_C X d 200 [jv x0] (jmem N m) Q := by
  unfold jf_200 at h
  have hu : ju px_m200 (0, 0) := ju_0
  refine jr_in (M := px_m200) (lev := 0) (L := [some (jv x0)]) hd rfl jbd_200 (jl rfl) rfl (fun d hd Q' hQ' => ?_)
  refine jr_il_n (pc' := 1) rfl rfl rfl (jr_bi (pc' := 3) rfl rfl rfl ?_)
  refine jr_reg (fun t1 => jb t1) (fun t1 => jp X (px_C X d) px_m200 Q' N 17 [some (jv x0)] [(jv t1)] m (0, 0)) h (fun t1 ht1 h => ?_) (fun R13 k2 h => ?_)
  · exact jr_retb rfl hu rfl ht1 (hQ' _ _ (hQ t1 ht1 h))
  · refine jr_clt (pa := 16) (pb := 6) rfl rfl rfl hx0 jgc_97 h (fun hc h => ?_) (fun hc h => ?_)
    · refine jr_ic (pc' := 17) rfl rfl ?_
      exact k2 ((0 : Int)) jb_0 h
    · refine jr_il_n (pc' := 7) rfl rfl rfl (jr_bi (pc' := 9) rfl rfl rfl ?_)
      refine jr_cgt (pa := 16) (pb := 12) rfl rfl rfl hx0 jgc_122 h (fun hc h => ?_) (fun hc h => ?_)
      · refine jr_ic (pc' := 17) rfl rfl ?_
        exact k2 ((0 : Int)) jb_0 h
      · refine jr_ic (pc' := 13) rfl rfl (jr_goto (pc' := 17) rfl rfl ?_)
        exact k2 ((1 : Int)) jb_1 h

set_option maxRecDepth 20000 in
set_option maxHeartbeats 1000000 in
theorem jc_199 {X : Nat × (Nat → Int32)} {N d : Nat}  (hN : 102 ≤ N) (hd : 2 ≤ d)  {m : jm} {P : Int × jm → Prop} {Q : px_Q} (h : jo (jf_199 m) P) (hQ : ∀ p : Int × jm, jg p.1 → P p → Q (.inl (some (jv p.1))) (jmem N p.2)) : px_C X d 199 [.ref 67] (jmem N m) Q := by
  unfold jf_199 at h
  have hu : ju px_m199 (0, 0) := ju_0
  refine jr_in (M := px_m199) (lev := 1) (L := [some (.ref 67), none, none, none]) hd rfl jbd_199 (jl rfl) rfl (fun d hd Q' hQ' => ?_)
  refine jr_al_n (pc' := 1) rfl rfl rfl ?_
  refine jr_cv_i (pc' := 4) [] rfl rfl jlk_12_141 jq_198 jbd_198 (jl rfl) rfl (jl rfl) hu rfl (jk rfl hN) (jd_67.trans jo_198.symm) (fun Q' hq => jc_198 hN (Nat.le_trans (jl rfl) hd)  (jo_b h) hq) (fun p1 hp1 h => ?_)
  refine jr_pop (pc' := 5) rfl rfl rfl (jr_ic (pc' := 6) rfl rfl (jr_is_n (pc' := 7) (L' := [_, _, _, _]) rfl rfl (jl rfl) rfl rfl (jr_ic (pc' := 8) rfl rfl (jr_is_n (pc' := 9) (L' := [_, _, _, _]) rfl rfl (jl rfl) rfl rfl (jr_al_n (pc' := 10) rfl rfl rfl ?_)))))
  refine jr_gi (pc' := 13) rfl rfl jlk_12_135 (.inl rfl) rfl hN jd_67 rfl rfl (jr_is_n (pc' := 14) (L' := [_, _, _, _]) rfl rfl (jl rfl) rfl rfl ?_)
  refine jr_reg (fun t5 => jg t5.1 ∧ jg t5.2) (fun t5 => ∀ o6, jn o6 → jp X (px_C X d) px_m199 Q' N 67 [some (.ref 67), some (jv t5.1), some (jv t5.2), o6] [] p1.2 (0, 0)) h (fun t5 ht5 h o6 ho6 => ?_) (fun R8 k7 h => ?_)
  · refine jr_il_n (pc' := 68) rfl rfl rfl (jr_bi (pc' := 70) rfl rfl rfl ?_)
    refine jr_reg (fun t33 => jg t33) (fun t33 => jp X (px_C X d) px_m199 Q' N 78 [some (.ref 67), some (jv t5.1), some (jv t5.2), o6] [(jv t33)] p1.2 (0, 0)) h (fun t33 ht33 h => ?_) (fun R45 k34 h => ?_)
    · exact jr_ret rfl hu rfl (hQ' _ _ (hQ (t33, p1.2) ht33 h))
    · refine jr_cle (pa := 73) (pb := 77) rfl rfl rfl ht5.2 jgc_6 h (fun hc h => ?_) (fun hc h => ?_)
      · refine jr_ic (pc' := 74) rfl rfl (jr_goto (pc' := 78) rfl rfl ?_)
        exact k34 ((0 : Int)) jgc_0 h
      · refine jr_il_n (pc' := 78) rfl rfl rfl ?_
        exact k34 (t5.1) ht5.1 h
  · refine jr_lp (fun s2 => jg s2.1 ∧ jg s2.2.1 ∧ jg s2.2.2) (fun s2 => jp X (px_C X d) px_m199 Q' N 14 [some (.ref 67), some (jv s2.1), some (jv s2.2.1), some (jv s2.2.2)] [] p1.2 (0, 0)) h ⟨jgc_0, jgc_0, jg_a⟩ (fun s2 hs2 R4 k3 h => ?_)
    refine jr_il_n (pc' := 15) rfl rfl rfl (jr_al_n (pc' := 16) rfl rfl rfl (jr_gi (pc' := 19) rfl rfl jlk_12_138 (.inl rfl) rfl hN jd_67 rfl rfl ?_))
    refine jr_cge (pa := 22) (pb := 67) rfl rfl rfl hs2.2.2 jg_a h (fun hc h => ?_) (fun hc h => ?_)
    · refine jr_al_n (pc' := 23) rfl rfl rfl (jr_gr (pc' := 26) (r := 69) rfl rfl jlk_12_20 (.inl rfl) rfl hN jd_67 rfl rfl rfl (jr_il_n (pc' := 27) rfl rfl rfl ?_))
      refine jr_ia (pc' := 28) rfl rfl (jl rfl) hN jd_69 jn_69 hs2.2.2 h (fun hc h => ?_)
      refine jr_cs_p (pc' := 31) [] rfl rfl jlk_12_145 jq_200 jbd_200 (jl rfl) rfl (jl rfl) hu (fun Q' hq => jc_200 hN (Nat.le_trans (jl rfl) hd) jg_a (jo_b h) hq) (fun p9 hp9 h => ?_)
      refine jr_zeq (pa := 67) (pb := 34) rfl rfl rfl (jg_b hp9) h (fun hc h => ?_) (fun hc h => ?_)
      · exact k7 (s2.1, s2.2.1) ⟨hs2.1, hs2.2.1⟩ h _ jn_i
      · refine jr_il_n (pc' := 35) rfl rfl rfl (jr_bi (pc' := 37) rfl rfl rfl ?_)
        refine jr_reg (fun t10 => jg t10) (fun t10 => jp X (px_C X d) px_m199 Q' N 57 [some (.ref 67), some (jv s2.1), some (jv s2.2.1), some (jv s2.2.2)] [(jv t10)] p1.2 (0, 0)) h (fun t10 ht10 h => ?_) (fun R22 k11 h => ?_)
        · refine jr_is_n (pc' := 58) (L' := [_, _, _, _]) rfl rfl (jl rfl) rfl rfl (jr_inc (pc' := 61) (L' := [_, _, _, _]) rfl rfl rfl (jl rfl) rfl rfl (jr_inc (pc' := 64) (L' := [_, _, _, _]) rfl rfl rfl (jl rfl) rfl rfl (jr_goto (pc' := 14) rfl rfl ?_)))
          exact k3 (t10, jw (s2.2.1 + 1), jw (s2.2.2 + 1)) ⟨ht10, jg_w, jg_w⟩ h
        · refine jr_cge (pa := 40) (pb := 56) rfl rfl rfl hs2.2.1 jgc_6 h (fun hc h => ?_) (fun hc h => ?_)
          · refine jr_il_n (pc' := 41) rfl rfl rfl (jr_ic (pc' := 42) rfl rfl (jr_shl (pc' := 43) rfl rfl (jr_al_n (pc' := 44) rfl rfl rfl (jr_gr (pc' := 47) (r := 69) rfl rfl jlk_12_20 (.inl rfl) rfl hN jd_67 rfl rfl rfl (jr_il_n (pc' := 48) rfl rfl rfl ?_)))))
            refine jr_ia (pc' := 49) rfl rfl (jl rfl) hN jd_69 jn_69 hs2.2.2 h (fun hc h => ?_)
            refine jr_bi (pc' := 51) rfl rfl rfl (jr_sub (pc' := 52) rfl rfl (jr_or (pc' := 53) rfl rfl (jr_goto (pc' := 57) rfl rfl ?_)))
            exact k11 (jbor (jshl s2.1 (5 : Int)) (jw ((ja p1.2 69 s2.2.2.toNat) - (96 : Int)))) jg_bor h
          · refine jr_ic (pc' := 57) rfl rfl ?_
            exact k11 ((0 : Int)) jgc_0 h
    · exact k7 (s2.1, s2.2.1) ⟨hs2.1, hs2.2.1⟩ h _ jn_i

set_option maxRecDepth 20000 in
set_option maxHeartbeats 1000000 in
theorem jc_202 {X : Nat × (Nat → Int32)} {N d : Nat} {s0 : Nat} (hN : 102 ≤ N) (hd : 1 ≤ d) (hs0 : s0 < 25) {m : jm} {P : Int → Prop} {Q : px_Q} (h : jo (jf_202 s0 m) P) (hQ : ∀ p : Int, jg p → P p → Q (.inl (some (jv p))) (jmem N m)) : px_C X d 202 [.ref (1000 + s0)] (jmem N m) Q := by
  unfold jf_202 at h
  have hu : ju px_m202 (0, 0) := ju_0
  refine jr_in (M := px_m202) (lev := 0) (L := [some (.ref (1000 + s0)), none, none]) hd rfl jbd_202 (jl rfl) rfl (fun d hd Q' hQ' => ?_)
  refine jr_ic (pc' := 1) rfl rfl (jr_is_n (pc' := 2) (L' := [_, _, _]) rfl rfl (jl rfl) rfl rfl (jr_ic (pc' := 3) rfl rfl (jr_is_n (pc' := 4) (L' := [_, _, _]) rfl rfl (jl rfl) rfl rfl ?_)))
  refine jr_reg (fun t4 => jg t4) (fun t4 => ∀ o5, jn o5 → jp X (px_C X d) px_m202 Q' N 31 [some (.ref (1000 + s0)), some (jv t4), o5] [] m (0, 0)) h (fun t4 ht4 h o5 ho5 => ?_) (fun R7 k6 h => ?_)
  · refine jr_il_n (pc' := 32) rfl rfl rfl ?_
    exact jr_ret rfl hu rfl (hQ' _ _ (hQ t4 ht4 h))
  · refine jr_lp (fun s1 => jg s1.1 ∧ jg s1.2) (fun s1 => jp X (px_C X d) px_m202 Q' N 4 [some (.ref (1000 + s0)), some (jv s1.1), some (jv s1.2)] [] m (0, 0)) h ⟨jgc_0, jgc_0⟩ (fun s1 hs1 R3 k2 h => ?_)
    refine jr_il_n (pc' := 5) rfl rfl rfl (jr_al_n (pc' := 6) rfl rfl rfl (jr_slen (pc' := 9) rfl rfl jlk_12_149 hs0 (jl rfl) hu ?_))
    refine jr_cge (pa := 12) (pb := 31) rfl rfl rfl hs1.2 (jg_sl hs0) h (fun hc h => ?_) (fun hc h => ?_)
    · refine jr_il_n (pc' := 13) rfl rfl rfl (jr_ic (pc' := 14) rfl rfl (jr_shl (pc' := 15) rfl rfl (jr_al_n (pc' := 16) rfl rfl rfl (jr_il_n (pc' := 17) rfl rfl rfl ?_))))
      refine jr_schr (pc' := 20) rfl rfl jlk_12_154 hs0 (jl rfl) hu hs1.2 h (fun hc h => ?_)
      refine jr_bi (pc' := 22) rfl rfl rfl (jr_sub (pc' := 23) rfl rfl (jr_or (pc' := 24) rfl rfl (jr_is_n (pc' := 25) (L' := [_, _, _]) rfl rfl (jl rfl) rfl rfl (jr_inc (pc' := 28) (L' := [_, _, _]) rfl rfl rfl (jl rfl) rfl rfl (jr_goto (pc' := 4) rfl rfl ?_)))))
      exact k2 (jbor (jshl s1.1 (5 : Int)) (jw ((jsc s0 s1.2) - (96 : Int))), jw (s1.2 + 1)) ⟨jg_bor, jg_w⟩ h
    · exact k6 (s1.1) hs1.1 h _ jn_i

set_option maxRecDepth 20000 in
set_option maxHeartbeats 1000000 in
theorem jc_201 {X : Nat × (Nat → Int32)} {N d : Nat} {x0 : Int} (hN : 102 ≤ N) (hd : 2 ≤ d) (hx0 : jg x0) {m : jm} {P : Int → Prop} {Q : px_Q} (h : jo (jf_201 x0 m) P) (hQ : ∀ p : Int, jb p → P p → Q (.inl (some (jv p))) (jmem N m)) : px_C X d 201 [jv x0] (jmem N m) Q := by
  unfold jf_201 at h
  have hu : ju px_m201 (0, 0) := ju_0
  refine jr_in (M := px_m201) (lev := 1) (L := [some (jv x0)]) hd rfl jbd_201 (jl rfl) rfl (fun d hd Q' hQ' => ?_)
  refine jr_il_n (pc' := 1) rfl rfl rfl (jr_lds (pc' := 3) rfl rfl jlk_12_222 ?_)
  refine jr_cs_p (pc' := 6) [_] rfl rfl jlk_12_223 jq_202 jbd_202 (jl rfl) rfl (jl rfl) hu (fun Q' hq => jc_202 hN (Nat.le_trans (jl rfl) hd) (jl rfl) (jo_b h) hq) (fun p1 hp1 h => ?_)
  refine jr_reg (fun t2 => jb t2) (fun t2 => jp X (px_C X d) px_m201 Q' N 41 [some (jv x0)] [(jv t2)] m (0, 0)) h (fun t2 ht2 h => ?_) (fun R17 k3 h => ?_)
  · exact jr_retb rfl hu rfl ht2 (hQ' _ _ (hQ t2 ht2 h))
  · refine jr_ceq (pa := 36) (pb := 9) rfl rfl rfl hx0 hp1 h (fun hc h => ?_) (fun hc h => ?_)
    · refine jr_ic (pc' := 37) rfl rfl (jr_goto (pc' := 41) rfl rfl ?_)
      exact k3 ((1 : Int)) jb_1 h
    · refine jr_il_n (pc' := 10) rfl rfl rfl (jr_lds (pc' := 12) rfl rfl jlk_12_227 ?_)
      refine jr_cs_p (pc' := 15) [_] rfl rfl jlk_12_223 jq_202 jbd_202 (jl rfl) rfl (jl rfl) hu (fun Q' hq => jc_202 hN (Nat.le_trans (jl rfl) hd) (jl rfl) (jo_b h) hq) (fun p4 hp4 h => ?_)
      refine jr_ceq (pa := 36) (pb := 18) rfl rfl rfl hx0 hp4 h (fun hc h => ?_) (fun hc h => ?_)
      · refine jr_ic (pc' := 37) rfl rfl (jr_goto (pc' := 41) rfl rfl ?_)
        exact k3 ((1 : Int)) jb_1 h
      · refine jr_il_n (pc' := 19) rfl rfl rfl (jr_lds (pc' := 21) rfl rfl jlk_12_228 ?_)
        refine jr_cs_p (pc' := 24) [_] rfl rfl jlk_12_223 jq_202 jbd_202 (jl rfl) rfl (jl rfl) hu (fun Q' hq => jc_202 hN (Nat.le_trans (jl rfl) hd) (jl rfl) (jo_b h) hq) (fun p5 hp5 h => ?_)
        refine jr_ceq (pa := 36) (pb := 27) rfl rfl rfl hx0 hp5 h (fun hc h => ?_) (fun hc h => ?_)
        · refine jr_ic (pc' := 37) rfl rfl (jr_goto (pc' := 41) rfl rfl ?_)
          exact k3 ((1 : Int)) jb_1 h
        · refine jr_il_n (pc' := 28) rfl rfl rfl (jr_lds (pc' := 30) rfl rfl jlk_12_229 ?_)
          refine jr_cs_p (pc' := 33) [_] rfl rfl jlk_12_223 jq_202 jbd_202 (jl rfl) rfl (jl rfl) hu (fun Q' hq => jc_202 hN (Nat.le_trans (jl rfl) hd) (jl rfl) (jo_b h) hq) (fun p6 hp6 h => ?_)
          refine jr_cne (pa := 36) (pb := 40) rfl rfl rfl hx0 hp6 h (fun hc h => ?_) (fun hc h => ?_)
          · refine jr_ic (pc' := 37) rfl rfl (jr_goto (pc' := 41) rfl rfl ?_)
            exact k3 ((1 : Int)) jb_1 h
          · refine jr_ic (pc' := 41) rfl rfl ?_
            exact k3 ((0 : Int)) jb_0 h

