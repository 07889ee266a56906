/-! the pure machine follows the functions, 10 (written by wip/whole/gen/walk.py) -/
set_option maxRecDepth 20000 in
set_option maxHeartbeats 1000000 in
theorem jc_155 {X : Nat × (Nat → Int32)} {N d : Nat} {x0 : Int} (hN3 : 103 ≤ N) (hd : 65 ≤ d) (hx0 : jg x0) {m : jm} {P : Int × Nat × jm → Prop} {Q : px_Q} (h : jo (jf_155 x0 m) P) (hQ0 : ∀ p : Int × Nat × jm, p.2.1 = 0 → jg p.1 → P p → Q (.inl (some (jv p.1))) (jmem N p.2.2)) (hQ1 : ∀ (p : Int × Nat × jm) e, p.2.1 = e + 1 → P p → Q (.inr e) (jmem N p.2.2)) : px_C X d 155 [.ref 0, jv x0] (jmem N m) Q := by
  unfold jf_155 at h
  have hN : 102 ≤ N := Nat.le_of_succ_le hN3
  have hu : ju px_m155 (0, 0) := ju_0
  refine jr_inT (M := px_m155) (lev := 64) (L := [some (.ref 0), some (jv x0)]) hd hN3 rfl (jl rfl) rfl (fun d hd Q' hQ' => ?_)
  refine jr_al_n (pc' := 1) rfl rfl rfl (jr_il_n (pc' := 2) rfl rfl rfl (jr_si (pc' := 5) rfl rfl rfl ?_))
  refine jr_ct_v (pc' := 8) [] rfl rfl jlk_11_109 jq_151 (u' := (1, 6)) rfl (ju_l rfl rfl) (jl rfl) rfl (jl rfl) rfl (jk rfl hN) (jd_0.trans jo_151.symm) (fun Q' hq0 hq1 => jc_151 hN3 (Nat.le_trans (jl rfl) hd) hx0 jgc_150 (jo_b h) hq0 hq1) (fun p1 h0 hp1 h => jo_i h (fun _ h => ?_) (fun hc _ => absurd h0 hc)) (fun p1 e he h => jo_i h (fun hc _ => absurd (he.symm.trans hc) (Nat.succ_ne_zero e)) (fun _ h => jh_0 rfl (ju_l rfl rfl) (hQ' _ _ (hQ1 (_, _, _) e he h))))
  refine jr_al_n (pc' := 9) rfl rfl rfl (jr_gr (pc' := 12) (r := 1) rfl rfl jlk_11_10 (.inl rfl) rfl hN jd_0 rfl rfl rfl (jr_il_n (pc' := 13) rfl rfl rfl ?_))
  refine jr_cv_v (pc' := 16) [] rfl rfl jlk_11_113 jq_115 jbd_115 (jl rfl) rfl (jl rfl) (ju_l rfl rfl) rfl (jk rfl hN) (jd_1.trans jo_115.symm) (fun Q' hq => jc_115 hN (Nat.le_trans (jl rfl) hd) hx0 (jo_b h) hq) (fun p2 hp2 h => ?_)
  refine jr_al_n (pc' := 17) rfl rfl rfl (jr_gr (pc' := 20) (r := 30) rfl rfl jlk_11_33 (.inl rfl) rfl hN jd_0 rfl rfl rfl (jr_al_n (pc' := 21) rfl rfl rfl (jr_gr (pc' := 24) (r := 1) rfl rfl jlk_11_10 (.inl rfl) rfl hN jd_0 rfl rfl rfl ?_)))
  refine jr_cv_i (pc' := 27) [] rfl rfl jlk_11_141 jq_26 jbd_26 (jl rfl) rfl (jl rfl) (ju_l rfl rfl) rfl (jk rfl hN) (jd_30.trans jo_26.symm) (fun Q' hq => jc_26 hN (Nat.le_trans (jl rfl) hd)  (jo_b h) hq) (fun p3 hp3 h => ?_)
  refine jr_zne (pa := 30) (pb := 41) rfl rfl rfl (jg_b hp3) h (fun hc h => ?_) (fun hc h => ?_)
  · refine jr_bi (pc' := 32) rfl rfl rfl (jr_al_n (pc' := 33) rfl rfl rfl (jr_gr (pc' := 36) (r := 1) rfl rfl jlk_11_10 (.inl rfl) rfl hN jd_0 rfl rfl rfl (jr_gi (pc' := 39) rfl rfl jlk_11_120 (.inr rfl) rfl hN jd_1 rfl rfl (jr_add (pc' := 40) rfl rfl ?_))))
    exact jr_ret rfl (ju_l rfl rfl) rfl (hQ' _ _ (hQ0 (jw ((-10 : Int) + (ja p3.2 1 5)), 0, p3.2) rfl jg_w h))
  · refine jr_al_n (pc' := 42) rfl rfl rfl (jr_gr (pc' := 45) (r := 27) rfl rfl jlk_11_29 (.inl rfl) rfl hN jd_0 rfl rfl rfl (jr_al_n (pc' := 46) rfl rfl rfl (jr_gr (pc' := 49) (r := 30) rfl rfl jlk_11_33 (.inl rfl) rfl hN jd_0 rfl rfl rfl ?_)))
    refine jr_cv_v (pc' := 52) [] rfl rfl jlk_11_142 jq_33 jbd_33 (jl rfl) rfl (jl rfl) (ju_l rfl rfl) rfl (jk rfl hN) (jd_27.trans jo_33.symm) (fun Q' hq => jc_33 hN (Nat.le_trans (jl rfl) hd)  (jo_b h) hq) (fun p4 hp4 h => ?_)
    refine jr_ic (pc' := 53) rfl rfl ?_
    exact jr_ret rfl (ju_l rfl rfl) rfl (hQ' _ _ (hQ0 ((1 : Int), 0, p4) rfl jgc_1 h))

set_option maxRecDepth 20000 in
set_option maxHeartbeats 1000000 in
theorem jc_156 {X : Nat × (Nat → Int32)} {N d : Nat} {x0 : Int} (hN3 : 103 ≤ N) (hd : 7 ≤ d) (hx0 : jg x0) {m : jm} {P : Int × Nat × jm → Prop} {Q : px_Q} (h : jo (jf_156 x0 m) P) (hQ0 : ∀ p : Int × Nat × jm, p.2.1 = 0 → jg p.1 → P p → Q (.inl (some (jv p.1))) (jmem N p.2.2)) (hQ1 : ∀ (p : Int × Nat × jm) e, p.2.1 = e + 1 → P p → Q (.inr e) (jmem N p.2.2)) : px_C X d 156 [.ref 0, jv x0] (jmem N m) Q := by
  unfold jf_156 at h
  have hN : 102 ≤ N := Nat.le_of_succ_le hN3
  have hu : ju px_m156 (0, 0) := ju_0
  refine jr_inT (M := px_m156) (lev := 6) (L := [some (.ref 0), some (jv x0)]) hd hN3 rfl (jl rfl) rfl (fun d hd Q' hQ' => ?_)
  refine jr_al_n (pc' := 1) rfl rfl rfl (jr_il_n (pc' := 2) rfl rfl rfl (jr_si (pc' := 5) rfl rfl rfl ?_))
  refine jr_ct_v (pc' := 8) [] rfl rfl jlk_11_109 jq_151 (u' := (1, 6)) rfl (ju_l rfl rfl) (jl rfl) rfl (jl rfl) rfl (jk rfl hN) (jd_0.trans jo_151.symm) (fun Q' hq0 hq1 => jc_151 hN3 (Nat.le_trans (jl rfl) hd) hx0 jgc_150 (jo_b h) hq0 hq1) (fun p1 h0 hp1 h => jo_i h (fun _ h => ?_) (fun hc _ => absurd h0 hc)) (fun p1 e he h => jo_i h (fun hc _ => absurd (he.symm.trans hc) (Nat.succ_ne_zero e)) (fun _ h => jh_0 rfl (ju_l rfl rfl) (hQ' _ _ (hQ1 (_, _, _) e he h))))
  refine jr_al_n (pc' := 9) rfl rfl rfl (jr_gr (pc' := 12) (r := 1) rfl rfl jlk_11_10 (.inl rfl) rfl hN jd_0 rfl rfl rfl (jr_il_n (pc' := 13) rfl rfl rfl ?_))
  refine jr_cv_v (pc' := 16) [] rfl rfl jlk_11_113 jq_115 jbd_115 (jl rfl) rfl (jl rfl) (ju_l rfl rfl) rfl (jk rfl hN) (jd_1.trans jo_115.symm) (fun Q' hq => jc_115 hN (Nat.le_trans (jl rfl) hd) hx0 (jo_b h) hq) (fun p2 hp2 h => ?_)
  refine jr_al_n (pc' := 17) rfl rfl rfl (jr_gr (pc' := 20) (r := 50) rfl rfl jlk_11_65 (.inl rfl) rfl hN jd_0 rfl rfl rfl ?_)
  refine jr_cv_p (pc' := 23) [] rfl rfl jlk_11_145 jq_54 jbd_54 (jl rfl) rfl (jl rfl) (ju_l rfl rfl) rfl (jk rfl hN) (jd_50.trans jo_54.symm) (fun Q' hq => jc_54 hN (Nat.le_trans (jl rfl) hd)  (jo_b h) hq) (fun p3 hp3 h => ?_)
  refine jr_zeq (pa := 29) (pb := 26) rfl rfl rfl (jg_b hp3) h (fun hc h => ?_) (fun hc h => ?_)
  · refine jr_al_n (pc' := 30) rfl rfl rfl (jr_gr (pc' := 33) (r := 41) rfl rfl jlk_11_49 (.inl rfl) rfl hN jd_0 rfl rfl rfl (jr_al_n (pc' := 34) rfl rfl rfl (jr_gr (pc' := 37) (r := 1) rfl rfl jlk_11_10 (.inl rfl) rfl hN jd_0 rfl rfl rfl (jr_al_n (pc' := 38) rfl rfl rfl (jr_gr (pc' := 41) (r := 3) rfl rfl jlk_11_19 (.inl rfl) rfl hN jd_0 rfl rfl rfl ?_)))))
    refine jr_cv_i (pc' := 44) [] rfl rfl jlk_11_149 jq_99 jbd_99 (jl rfl) rfl (jl rfl) (ju_l rfl rfl) rfl (jk rfl hN) (jd_41.trans jo_99.symm) (fun Q' hq => jc_99 hN (Nat.le_trans (jl rfl) hd)  (jo_b h) hq) (fun p4 hp4 h => ?_)
    refine jr_zne (pa := 47) (pb := 58) rfl rfl rfl (jg_b hp4) h (fun hc h => ?_) (fun hc h => ?_)
    · refine jr_bi (pc' := 49) rfl rfl rfl (jr_al_n (pc' := 50) rfl rfl rfl (jr_gr (pc' := 53) (r := 1) rfl rfl jlk_11_10 (.inl rfl) rfl hN jd_0 rfl rfl rfl (jr_gi (pc' := 56) rfl rfl jlk_11_120 (.inr rfl) rfl hN jd_1 rfl rfl (jr_add (pc' := 57) rfl rfl ?_))))
      exact jr_ret rfl (ju_l rfl rfl) rfl (hQ' _ _ (hQ0 (jw ((-10 : Int) + (ja p4.2 1 5)), 0, p4.2) rfl jg_w h))
    · refine jr_al_n (pc' := 59) rfl rfl rfl (jr_gr (pc' := 62) (r := 50) rfl rfl jlk_11_65 (.inl rfl) rfl hN jd_0 rfl rfl rfl (jr_al_n (pc' := 63) rfl rfl rfl (jr_gr (pc' := 66) (r := 47) rfl rfl jlk_11_58 (.inl rfl) rfl hN jd_0 rfl rfl rfl ?_)))
      refine jr_cv_v (pc' := 69) [] rfl rfl jlk_11_152 jq_55 jbd_55 (jl rfl) rfl (jl rfl) (ju_l rfl rfl) rfl (jk rfl hN) (jd_50.trans jo_55.symm) (fun Q' hq => jc_55 hN (Nat.le_trans (jl rfl) hd)  (jo_b h) hq) (fun p5 hp5 h => ?_)
      refine jr_al_n (pc' := 70) rfl rfl rfl (jr_gr (pc' := 73) (r := 41) rfl rfl jlk_11_49 (.inl rfl) rfl hN jd_0 rfl rfl rfl (jr_al_n (pc' := 74) rfl rfl rfl (jr_gr (pc' := 77) (r := 47) rfl rfl jlk_11_58 (.inl rfl) rfl hN jd_0 rfl rfl rfl ?_)))
      refine jr_cv_v (pc' := 80) [] rfl rfl jlk_11_156 jq_105 jbd_105 (jl rfl) rfl (jl rfl) (ju_l rfl rfl) rfl (jk rfl hN) (jd_41.trans jo_105.symm) (fun Q' hq => jc_105 hN (Nat.le_trans (jl rfl) hd)  (jo_b h) hq) (fun p6 hp6 h => ?_)
      refine jr_al_n (pc' := 81) rfl rfl rfl (jr_al_n (pc' := 82) rfl rfl rfl (jr_gr (pc' := 85) (r := 41) rfl rfl jlk_11_49 (.inl rfl) rfl hN jd_0 rfl rfl rfl (jr_gi (pc' := 88) rfl rfl jlk_11_159 (.inr rfl) rfl hN jd_41 rfl rfl (jr_pi (pc' := 91) rfl rfl jlk_11_135 (.inl rfl) rfl hN jd_0 rfl rfl ?_))))
      refine jr_le h (fun m7 h => ?_)
      refine jr_al_n (pc' := 92) rfl rfl rfl (jr_gr (pc' := 95) (r := 41) rfl rfl jlk_11_49 (.inl rfl) rfl hN jd_0 rfl rfl rfl (jr_gi (pc' := 98) rfl rfl jlk_11_162 (.inr rfl) rfl hN jd_41 rfl rfl ?_))
      exact jr_ret rfl (ju_l rfl rfl) rfl (hQ' _ _ (hQ0 (ja m7 41 7, 0, m7) rfl jg_a h))
  · refine jr_bi (pc' := 28) rfl rfl rfl ?_
    exact jr_ret rfl (ju_l rfl rfl) rfl (hQ' _ _ (hQ0 ((-20 : Int), 0, p2) rfl jgc_m20 h))

set_option maxRecDepth 20000 in
set_option maxHeartbeats 1000000 in
theorem jc_157 {X : Nat × (Nat → Int32)} {N d : Nat} {x0 : Int} (hN3 : 103 ≤ N) (hd : 5 ≤ d) (hx0 : jg x0) {m : jm} {P : Int × Nat × jm → Prop} {Q : px_Q} (h : jo (jf_157 x0 m) P) (hQ0 : ∀ p : Int × Nat × jm, p.2.1 = 0 → jg p.1 → P p → Q (.inl (some (jv p.1))) (jmem N p.2.2)) (hQ1 : ∀ (p : Int × Nat × jm) e, p.2.1 = e + 1 → P p → Q (.inr e) (jmem N p.2.2)) : px_C X d 157 [.ref 0, jv x0] (jmem N m) Q := by
  unfold jf_157 at h
  have hN : 102 ≤ N := Nat.le_of_succ_le hN3
  have hu : ju px_m157 (0, 0) := ju_0
  refine jr_inT (M := px_m157) (lev := 4) (L := [some (.ref 0), some (jv x0)]) hd hN3 rfl (jl rfl) rfl (fun d hd Q' hQ' => ?_)
  refine jr_al_n (pc' := 1) rfl rfl rfl (jr_il_n (pc' := 2) rfl rfl rfl (jr_bi (pc' := 4) rfl rfl rfl ?_))
  refine jr_ct_v (pc' := 7) [] rfl rfl jlk_11_109 jq_151 (u' := (1, 6)) rfl (ju_l rfl rfl) (jl rfl) rfl (jl rfl) rfl (jk rfl hN) (jd_0.trans jo_151.symm) (fun Q' hq0 hq1 => jc_151 hN3 (Nat.le_trans (jl rfl) hd) hx0 jgc_100 (jo_b h) hq0 hq1) (fun p1 h0 hp1 h => jo_i h (fun _ h => ?_) (fun hc _ => absurd h0 hc)) (fun p1 e he h => jo_i h (fun hc _ => absurd (he.symm.trans hc) (Nat.succ_ne_zero e)) (fun _ h => jh_0 rfl (ju_l rfl rfl) (hQ' _ _ (hQ1 (_, _, _) e he h))))
  refine jr_al_n (pc' := 8) rfl rfl rfl (jr_gr (pc' := 11) (r := 1) rfl rfl jlk_11_10 (.inl rfl) rfl hN jd_0 rfl rfl rfl (jr_il_n (pc' := 12) rfl rfl rfl ?_))
  refine jr_cv_v (pc' := 15) [] rfl rfl jlk_11_113 jq_115 jbd_115 (jl rfl) rfl (jl rfl) (ju_l rfl rfl) rfl (jk rfl hN) (jd_1.trans jo_115.symm) (fun Q' hq => jc_115 hN (Nat.le_trans (jl rfl) hd) hx0 (jo_b h) hq) (fun p2 hp2 h => ?_)
  refine jr_al_n (pc' := 16) rfl rfl rfl (jr_gr (pc' := 19) (r := 37) rfl rfl jlk_11_43 (.inl rfl) rfl hN jd_0 rfl rfl rfl (jr_al_n (pc' := 20) rfl rfl rfl (jr_gr (pc' := 23) (r := 1) rfl rfl jlk_11_10 (.inl rfl) rfl hN jd_0 rfl rfl rfl (jr_al_n (pc' := 24) rfl rfl rfl (jr_gr (pc' := 27) (r := 3) rfl rfl jlk_11_19 (.inl rfl) rfl hN jd_0 rfl rfl rfl ?_)))))
  refine jr_gi (pc' := 30) rfl rfl jlk_11_165 (.inr rfl) rfl hN jd_3 rfl rfl ?_
  refine jr_cv_i (pc' := 33) [] rfl rfl jlk_11_168 jq_2 jbd_2 (jl rfl) rfl (jl rfl) (ju_l rfl rfl) rfl (jk rfl hN) (jd_37.trans jo_2.symm) (fun Q' hq => jc_2 hN (Nat.le_trans (jl rfl) hd) jg_a (jo_b h) hq) (fun p3 hp3 h => ?_)
  refine jr_zne (pa := 36) (pb := 47) rfl rfl rfl (jg_b hp3) h (fun hc h => ?_) (fun hc h => ?_)
  · refine jr_bi (pc' := 38) rfl rfl rfl (jr_al_n (pc' := 39) rfl rfl rfl (jr_gr (pc' := 42) (r := 1) rfl rfl jlk_11_10 (.inl rfl) rfl hN jd_0 rfl rfl rfl (jr_gi (pc' := 45) rfl rfl jlk_11_120 (.inr rfl) rfl hN jd_1 rfl rfl (jr_add (pc' := 46) rfl rfl ?_))))
    exact jr_ret rfl (ju_l rfl rfl) rfl (hQ' _ _ (hQ0 (jw ((-10 : Int) + (ja p3.2 1 5)), 0, p3.2) rfl jg_w h))
  · refine jr_al_n (pc' := 48) rfl rfl rfl (jr_gr (pc' := 51) (r := 33) rfl rfl jlk_11_39 (.inl rfl) rfl hN jd_0 rfl rfl rfl (jr_al_n (pc' := 52) rfl rfl rfl (jr_gr (pc' := 55) (r := 37) rfl rfl jlk_11_43 (.inl rfl) rfl hN jd_0 rfl rfl rfl ?_)))
    refine jr_cv_v (pc' := 58) [] rfl rfl jlk_11_171 jq_3 jbd_3 (jl rfl) rfl (jl rfl) (ju_l rfl rfl) rfl (jk rfl hN) (jd_33.trans jo_3.symm) (fun Q' hq => jc_3 hN (Nat.le_trans (jl rfl) hd)  (jo_b h) hq) (fun p4 hp4 h => ?_)
    refine jr_al_n (pc' := 59) rfl rfl rfl (jr_gr (pc' := 62) (r := 33) rfl rfl jlk_11_39 (.inl rfl) rfl hN jd_0 rfl rfl rfl (jr_gi (pc' := 65) rfl rfl jlk_11_174 (.inr rfl) rfl hN jd_33 rfl rfl ?_))
    exact jr_ret rfl (ju_l rfl rfl) rfl (hQ' _ _ (hQ0 (ja p4 33 1, 0, p4) rfl jg_a h))

set_option maxRecDepth 20000 in
set_option maxHeartbeats 1000000 in
theorem jc_158 {X : Nat × (Nat → Int32)} {N d : Nat} {x0 : Int} (hN3 : 103 ≤ N) (hd : 4 ≤ d) (hx0 : jg x0) {m : jm} {P : Int × Nat × jm → Prop} {Q : px_Q} (h : jo (jf_158 x0 m) P) (hQ0 : ∀ p : Int × Nat × jm, p.2.1 = 0 → jg p.1 → P p → Q (.inl (some (jv p.1))) (jmem N p.2.2)) (hQ1 : ∀ (p : Int × Nat × jm) e, p.2.1 = e + 1 → P p → Q (.inr e) (jmem N p.2.2)) : px_C X d 158 [.ref 0, jv x0] (jmem N m) Q := by
  unfold jf_158 at h
  have hN : 102 ≤ N := Nat.le_of_succ_le hN3
  have hu : ju px_m158 (0, 0) := ju_0
  refine jr_inT (M := px_m158) (lev := 3) (L := [some (.ref 0), some (jv x0)]) hd hN3 rfl (jl rfl) rfl (fun d hd Q' hQ' => ?_)
  refine jr_al_n (pc' := 1) rfl rfl rfl (jr_il_n (pc' := 2) rfl rfl rfl (jr_ic (pc' := 3) rfl rfl (jr_bi (pc' := 5) rfl rfl rfl ?_)))
  refine jr_ct_v (pc' := 8) [] rfl rfl jlk_11_187 jq_152 (u' := (1, 6)) rfl (ju_l rfl rfl) (jl rfl) rfl (jl rfl) rfl (jk rfl hN) (jd_0.trans jo_152.symm) (fun Q' hq0 hq1 => jc_152 hN3 (Nat.le_trans (jl rfl) hd) hx0 jgc_0 jgc_10 (jo_b h) hq0 hq1) (fun p1 h0 hp1 h => jo_i h (fun _ h => ?_) (fun hc _ => absurd h0 hc)) (fun p1 e he h => jo_i h (fun hc _ => absurd (he.symm.trans hc) (Nat.succ_ne_zero e)) (fun _ h => jh_0 rfl (ju_l rfl rfl) (hQ' _ _ (hQ1 (_, _, _) e he h))))
  refine jr_il_n (pc' := 9) rfl rfl rfl ?_
  refine jo_i h (fun hc h => ?_) (fun hc0 h => ?_)
  · refine jr_tsc (pc' := 64) (0) rfl hx0 hc (by decide) rfl rfl (jr_al_n (pc' := 65) rfl rfl rfl (jr_gr (pc' := 68) (r := 3) rfl rfl jlk_11_19 (.inl rfl) rfl hN jd_0 rfl rfl rfl (jr_gi (pc' := 71) rfl rfl jlk_11_191 (.inr rfl) rfl hN jd_3 rfl rfl ?_)))
    exact jr_ret rfl (ju_l rfl rfl) rfl (hQ' _ _ (hQ0 (ja p1.2 3 0, 0, p1.2) rfl jg_a h))
  · refine jo_i h (fun hc h => ?_) (fun hc1 h => ?_)
    · refine jr_tsc (pc' := 72) (1) rfl hx0 hc (by decide) rfl rfl (jr_al_n (pc' := 73) rfl rfl rfl (jr_gr (pc' := 76) (r := 3) rfl rfl jlk_11_19 (.inl rfl) rfl hN jd_0 rfl rfl rfl (jr_gi (pc' := 79) rfl rfl jlk_11_165 (.inr rfl) rfl hN jd_3 rfl rfl ?_)))
      exact jr_ret rfl (ju_l rfl rfl) rfl (hQ' _ _ (hQ0 (ja p1.2 3 1, 0, p1.2) rfl jg_a h))
    · refine jo_i h (fun hc h => ?_) (fun hc2 h => ?_)
      · refine jr_tsc (pc' := 80) (2) rfl hx0 hc (by decide) rfl rfl (jr_al_n (pc' := 81) rfl rfl rfl (jr_gr (pc' := 84) (r := 3) rfl rfl jlk_11_19 (.inl rfl) rfl hN jd_0 rfl rfl rfl (jr_gi (pc' := 87) rfl rfl jlk_11_194 (.inr rfl) rfl hN jd_3 rfl rfl ?_)))
        exact jr_ret rfl (ju_l rfl rfl) rfl (hQ' _ _ (hQ0 (ja p1.2 3 2, 0, p1.2) rfl jg_a h))
      · refine jo_i h (fun hc h => ?_) (fun hc3 h => ?_)
        · refine jr_tsc (pc' := 88) (3) rfl hx0 hc (by decide) rfl rfl (jr_al_n (pc' := 89) rfl rfl rfl (jr_gr (pc' := 92) (r := 3) rfl rfl jlk_11_19 (.inl rfl) rfl hN jd_0 rfl rfl rfl (jr_gi (pc' := 95) rfl rfl jlk_11_138 (.inr rfl) rfl hN jd_3 rfl rfl ?_)))
          exact jr_ret rfl (ju_l rfl rfl) rfl (hQ' _ _ (hQ0 (ja p1.2 3 3, 0, p1.2) rfl jg_a h))
        · refine jo_i h (fun hc h => ?_) (fun hc4 h => ?_)
          · refine jr_tsc (pc' := 96) (4) rfl hx0 hc (by decide) rfl rfl (jr_al_n (pc' := 97) rfl rfl rfl (jr_gr (pc' := 100) (r := 47) rfl rfl jlk_11_58 (.inl rfl) rfl hN jd_0 rfl rfl rfl ?_))
            refine jr_cv_p (pc' := 103) [] rfl rfl jlk_11_197 jq_69 jbd_69 (jl rfl) rfl (jl rfl) (ju_l rfl rfl) rfl (jk rfl hN) (jd_47.trans jo_69.symm) (fun Q' hq => jc_69 hN (Nat.le_trans (jl rfl) hd) (.inl rfl) (jo_b h) hq) (fun p6 hp6 h => ?_)
            exact jr_ret rfl (ju_l rfl rfl) rfl (hQ' _ _ (hQ0 (p6, 0, p1.2) rfl hp6 h))
          · refine jo_i h (fun hc h => ?_) (fun hc5 h => ?_)
            · refine jr_tsc (pc' := 104) (5) rfl hx0 hc (by decide) rfl rfl (jr_al_n (pc' := 105) rfl rfl rfl (jr_gr (pc' := 108) (r := 47) rfl rfl jlk_11_58 (.inl rfl) rfl hN jd_0 rfl rfl rfl ?_))
              refine jr_cv_p (pc' := 111) [] rfl rfl jlk_11_201 jq_63 jbd_63 (jl rfl) rfl (jl rfl) (ju_l rfl rfl) rfl (jk rfl hN) (jd_47.trans jo_63.symm) (fun Q' hq => jc_63 hN (Nat.le_trans (jl rfl) hd) (.inl rfl) (jo_b h) hq) (fun p5 hp5 h => ?_)
              exact jr_ret rfl (ju_l rfl rfl) rfl (hQ' _ _ (hQ0 (p5, 0, p1.2) rfl hp5 h))
            · refine jo_i h (fun hc h => ?_) (fun hc6 h => ?_)
              · refine jr_tsc (pc' := 112) (6) rfl hx0 hc (by decide) rfl rfl (jr_al_n (pc' := 113) rfl rfl rfl (jr_gr (pc' := 116) (r := 47) rfl rfl jlk_11_58 (.inl rfl) rfl hN jd_0 rfl rfl rfl ?_))
                refine jr_cv_p (pc' := 119) [] rfl rfl jlk_11_204 jq_85 jbd_85 (jl rfl) rfl (jl rfl) (ju_l rfl rfl) rfl (jk rfl hN) (jd_47.trans jo_85.symm) (fun Q' hq => jc_85 hN (Nat.le_trans (jl rfl) hd) (.inl rfl) (jo_b h) hq) (fun p4 hp4 h => ?_)
                exact jr_ret rfl (ju_l rfl rfl) rfl (hQ' _ _ (hQ0 (p4, 0, p1.2) rfl hp4 h))
              · refine jo_i h (fun hc h => ?_) (fun hc7 h => ?_)
                · refine jr_tsc (pc' := 120) (7) rfl hx0 hc (by decide) rfl rfl (jr_al_n (pc' := 121) rfl rfl rfl (jr_gr (pc' := 124) (r := 47) rfl rfl jlk_11_58 (.inl rfl) rfl hN jd_0 rfl rfl rfl ?_))
                  refine jr_cv_p (pc' := 127) [] rfl rfl jlk_11_207 jq_87 jbd_87 (jl rfl) rfl (jl rfl) (ju_l rfl rfl) rfl (jk rfl hN) (jd_47.trans jo_87.symm) (fun Q' hq => jc_87 hN (Nat.le_trans (jl rfl) hd) (.inl rfl) (jo_b h) hq) (fun p3 hp3 h => ?_)
                  exact jr_ret rfl (ju_l rfl rfl) rfl (hQ' _ _ (hQ0 (p3, 0, p1.2) rfl hp3 h))
                · refine jo_i h (fun hc h => ?_) (fun hc8 h => ?_)
                  · refine jr_tsc (pc' := 128) (8) rfl hx0 hc (by decide) rfl rfl (jr_al_n (pc' := 129) rfl rfl rfl (jr_gr (pc' := 132) (r := 33) rfl rfl jlk_11_39 (.inl rfl) rfl hN jd_0 rfl rfl rfl (jr_gi (pc' := 135) rfl rfl jlk_11_174 (.inr rfl) rfl hN jd_33 rfl rfl ?_)))
                    exact jr_ret rfl (ju_l rfl rfl) rfl (hQ' _ _ (hQ0 (ja p1.2 33 1, 0, p1.2) rfl jg_a h))
                  · refine jo_i h (fun hc h => ?_) (fun hc9 h => ?_)
                    · refine jr_tsc (pc' := 136) (9) rfl hx0 hc (by decide) rfl rfl (jr_al_n (pc' := 137) rfl rfl rfl (jr_gi (pc' := 140) rfl rfl jlk_11_135 (.inl rfl) rfl hN jd_0 rfl rfl ?_))
                      exact jr_ret rfl (ju_l rfl rfl) rfl (hQ' _ _ (hQ0 (ja p1.2 0 14, 0, p1.2) rfl jg_a h))
                    · refine jr_tsd (pc' := 141) rfl hx0 (by omega) rfl (jr_al_n (pc' := 142) rfl rfl rfl (jr_gr (pc' := 145) (r := 47) rfl rfl jlk_11_58 (.inl rfl) rfl hN jd_0 rfl rfl rfl ?_))
                      refine jr_cv_p (pc' := 148) [] rfl rfl jlk_11_210 jq_89 jbd_89 (jl rfl) rfl (jl rfl) (ju_l rfl rfl) rfl (jk rfl hN) (jd_47.trans jo_89.symm) (fun Q' hq => jc_89 hN (Nat.le_trans (jl rfl) hd) (.inl rfl) (jo_b h) hq) (fun p2 hp2 h => ?_)
                      exact jr_ret rfl (ju_l rfl rfl) rfl (hQ' _ _ (hQ0 (p2, 0, p1.2) rfl hp2 h))

set_option maxRecDepth 20000 in
set_option maxHeartbeats 1000000 in
theorem jc_160 {X : Nat × (Nat → Int32)} {N d : Nat} {x0 : Int} {x1 : Int} (hN3 : 103 ≤ N) (hd : 2 ≤ d) (hx0 : jg x0) (hx1 : jg x1) {m : jm} {P : Nat × jm → Prop} {Q : px_Q} (h : jo (jf_160 x0 x1 m) P) (hQ0 : ∀ p : Nat × jm, p.1 = 0 → True → P p → Q (.inl (none)) (jmem N p.2)) (hQ1 : ∀ (p : Nat × jm) e, p.1 = e + 1 → P p → Q (.inr e) (jmem N p.2)) : px_C X d 160 [.ref 0, jv x0, jv x1] (jmem N m) Q := by
  unfold jf_160 at h
  have hN : 102 ≤ N := Nat.le_of_succ_le hN3
  have hu : ju px_m160 (0, 0) := ju_0
  refine jr_inT (M := px_m160) (lev := 1) (L := [some (.ref 0), some (jv x0), some (jv x1)]) hd hN3 rfl (jl rfl) rfl (fun d hd Q' hQ' => ?_)
  refine jr_il_n (pc' := 1) rfl rfl rfl (jr_ic (pc' := 2) rfl rfl (jr_il_n (pc' := 3) rfl rfl rfl (jr_ic (pc' := 4) rfl rfl (jr_sub (pc' := 5) rfl rfl ?_))))
  refine jr_cs_p (pc' := 8) [] rfl rfl jlk_11_297 jq_153 jbd_153 (jl rfl) rfl (jl rfl) hu (fun Q' hq => jc_153 hN (Nat.le_trans (jl rfl) hd) hx0 jgc_0 jg_w (jo_b h) hq) (fun p1 hp1 h => ?_)
  refine jr_zne (pa := 11) (pb := 32) rfl rfl rfl (jg_b hp1) h (fun hc h => ?_) (fun hc h => ?_)
  · refine jr_al_n (pc' := 12) rfl rfl rfl (jr_dup (pc' := 13) rfl rfl rfl (jr_gi (pc' := 16) rfl rfl jlk_11_441 (.inl rfl) rfl hN jd_0 rfl rfl (jr_ic (pc' := 17) rfl rfl (jr_add (pc' := 18) rfl rfl (jr_pi (pc' := 21) rfl rfl jlk_11_441 (.inl rfl) rfl hN jd_0 rfl rfl ?_)))))
    refine jr_le h (fun m2 h => ?_)
    exact jr_thr rfl jlk_11_447 rfl (jl rfl) (jl rfl) (jl rfl) (hQ' _ _ (hQ1 (_, _) _ rfl h))
  · exact jr_rv rfl hu rfl (hQ' _ _ (hQ0 (0, m) rfl trivial h))

set_option maxRecDepth 20000 in
set_option maxHeartbeats 1000000 in
theorem jc_159 {X : Nat × (Nat → Int32)} {N d : Nat} {x0 : Int} {x1 : Int} (hN3 : 103 ≤ N) (hd : 3 ≤ d) (hx0 : jg x0) (hx1 : jg x1) {m : jm} {P : Int × Nat × jm → Prop} {Q : px_Q} (h : jo (jf_159 x0 x1 m) P) (hQ0 : ∀ p : Int × Nat × jm, p.2.1 = 0 → jg p.1 → P p → Q (.inl (some (jv p.1))) (jmem N p.2.2)) (hQ1 : ∀ (p : Int × Nat × jm) e, p.2.1 = e + 1 → P p → Q (.inr e) (jmem N p.2.2)) : px_C X d 159 [.ref 0, jv x0, jv x1] (jmem N m) Q := by
  unfold jf_159 at h
  have hN : 102 ≤ N := Nat.le_of_succ_le hN3
  have hu : ju px_m159 (0, 0) := ju_0
  refine jr_inT (M := px_m159) (lev := 2) (L := [some (.ref 0), some (jv x0), some (jv x1)]) hd hN3 rfl (jl rfl) rfl (fun d hd Q' hQ' => ?_)
  refine jr_al_n (pc' := 1) rfl rfl rfl (jr_il_n (pc' := 2) rfl rfl rfl (jr_al_n (pc' := 3) rfl rfl rfl (jr_gr (pc' := 6) (r := 3) rfl rfl jlk_11_19 (.inl rfl) rfl hN jd_0 rfl rfl rfl (jr_gi (pc' := 9) rfl rfl jlk_11_191 (.inr rfl) rfl hN jd_3 rfl rfl ?_))))
  refine jr_ct_v (pc' := 12) [] rfl rfl jlk_11_213 jq_160 (u' := (1, 6)) rfl (ju_l rfl rfl) (jl rfl) rfl (jl rfl) rfl (jk rfl hN) (jd_0.trans jo_160.symm) (fun Q' hq0 hq1 => jc_160 hN3 (Nat.le_trans (jl rfl) hd) hx0 jg_a (jo_b h) hq0 hq1) (fun p1 h0 hp1 h => jo_i h (fun _ h => ?_) (fun hc _ => absurd h0 hc)) (fun p1 e he h => jo_i h (fun hc _ => absurd (he.symm.trans hc) (Nat.succ_ne_zero e)) (fun _ h => jh_0 rfl (ju_l rfl rfl) (hQ' _ _ (hQ1 (_, _, _) e he h))))
  refine jr_al_n (pc' := 13) rfl rfl rfl (jr_il_n (pc' := 14) rfl rfl rfl (jr_ic (pc' := 15) rfl rfl (jr_ic (pc' := 16) rfl rfl ?_)))
  refine jr_ct_v (pc' := 19) [] rfl rfl jlk_11_187 jq_152 (u' := (2, 12)) rfl (ju_l rfl rfl) (jl rfl) rfl (jl rfl) rfl (jk rfl hN) (jd_0.trans jo_152.symm) (fun Q' hq0 hq1 => jc_152 hN3 (Nat.le_trans (jl rfl) hd) hx1 jgc_0 jgc_3 (jo_b h) hq0 hq1) (fun p2 h0 hp2 h => jo_i h (fun _ h => ?_) (fun hc _ => absurd h0 hc)) (fun p2 e he h => jo_i h (fun hc _ => absurd (he.symm.trans hc) (Nat.succ_ne_zero e)) (fun _ h => jh_0 rfl (ju_l rfl rfl) (hQ' _ _ (hQ1 (_, _, _) e he h))))
  refine jr_il_n (pc' := 20) rfl rfl rfl ?_
  refine jo_i h (fun hc h => ?_) (fun hc0 h => ?_)
  · refine jr_tsc (pc' := 48) (0) rfl hx1 hc (by decide) rfl rfl (jr_al_n (pc' := 49) rfl rfl rfl (jr_gr (pc' := 52) (r := 3) rfl rfl jlk_11_19 (.inl rfl) rfl hN jd_0 rfl rfl rfl (jr_gr (pc' := 55) (r := 4) rfl rfl jlk_11_216 (.inr rfl) rfl hN jd_3 rfl rfl rfl (jr_il_n (pc' := 56) rfl rfl rfl ?_))))
    refine jr_ia (pc' := 57) rfl rfl (jl rfl) hN jd_4 jn_4 hx0 h (fun hc h => ?_)
    exact jr_ret rfl (ju_l rfl rfl) rfl (hQ' _ _ (hQ0 (ja p2.2 4 x0.toNat, 0, p2.2) rfl jg_a h))
  · refine jo_i h (fun hc h => ?_) (fun hc1 h => ?_)
    · refine jr_tsc (pc' := 58) (1) rfl hx1 hc (by decide) rfl rfl (jr_al_n (pc' := 59) rfl rfl rfl (jr_gr (pc' := 62) (r := 3) rfl rfl jlk_11_19 (.inl rfl) rfl hN jd_0 rfl rfl rfl (jr_il_n (pc' := 63) rfl rfl rfl ?_)))
      refine jr_cv_p (pc' := 66) [] rfl rfl jlk_11_220 jq_20 jbd_20 (jl rfl) rfl (jl rfl) (ju_l rfl rfl) rfl (jk rfl hN) (jd_3.trans jo_20.symm) (fun Q' hq => jc_20 hN (Nat.le_trans (jl rfl) hd) hx0 (jo_b h) hq) (fun p5 hp5 h => ?_)
      exact jr_ret rfl (ju_l rfl rfl) rfl (hQ' _ _ (hQ0 (p5, 0, p2.2) rfl hp5 h))
    · refine jo_i h (fun hc h => ?_) (fun hc2 h => ?_)
      · refine jr_tsc (pc' := 67) (2) rfl hx1 hc (by decide) rfl rfl (jr_al_n (pc' := 68) rfl rfl rfl (jr_gr (pc' := 71) (r := 47) rfl rfl jlk_11_58 (.inl rfl) rfl hN jd_0 rfl rfl rfl (jr_il_n (pc' := 72) rfl rfl rfl ?_)))
        refine jr_cv_p (pc' := 75) [] rfl rfl jlk_11_224 jq_88 jbd_88 (jl rfl) rfl (jl rfl) (ju_l rfl rfl) rfl (jk rfl hN) (jd_47.trans jo_88.symm) (fun Q' hq => jc_88 hN (Nat.le_trans (jl rfl) hd) (.inl rfl) hx0 (jo_b h) hq) (fun p4 hp4 h => ?_)
        exact jr_ret rfl (ju_l rfl rfl) rfl (hQ' _ _ (hQ0 (p4, 0, p2.2) rfl hp4 h))
      · refine jr_tsd (pc' := 76) rfl hx1 (by omega) rfl (jr_al_n (pc' := 77) rfl rfl rfl (jr_gr (pc' := 80) (r := 47) rfl rfl jlk_11_58 (.inl rfl) rfl hN jd_0 rfl rfl rfl (jr_il_n (pc' := 81) rfl rfl rfl ?_)))
        refine jr_cv_p (pc' := 84) [] rfl rfl jlk_11_227 jq_90 jbd_90 (jl rfl) rfl (jl rfl) (ju_l rfl rfl) rfl (jk rfl hN) (jd_47.trans jo_90.symm) (fun Q' hq => jc_90 hN (Nat.le_trans (jl rfl) hd) (.inl rfl) hx0 (jo_b h) hq) (fun p3 hp3 h => ?_)
        exact jr_ret rfl (ju_l rfl rfl) rfl (hQ' _ _ (hQ0 (p3, 0, p2.2) rfl hp3 h))

set_option maxRecDepth 20000 in
set_option maxHeartbeats 1000000 in
theorem jc_161 {X : Nat × (Nat → Int32)} {N d : Nat} {x0 : Int} {x1 : Int} (hN3 : 103 ≤ N) (hd : 3 ≤ d) (hx0 : jg x0) (hx1 : jg x1) {m : jm} {P : Int × Nat × jm → Prop} {Q : px_Q} (h : jo (jf_161 x0 x1 m) P) (hQ0 : ∀ p : Int × Nat × jm, p.2.1 = 0 → jg p.1 → P p → Q (.inl (some (jv p.1))) (jmem N p.2.2)) (hQ1 : ∀ (p : Int × Nat × jm) e, p.2.1 = e + 1 → P p → Q (.inr e) (jmem N p.2.2)) : px_C X d 161 [.ref 0, jv x0, jv x1] (jmem N m) Q := by
  unfold jf_161 at h
  have hN : 102 ≤ N := Nat.le_of_succ_le hN3
  have hu : ju px_m161 (0, 0) := ju_0
  refine jr_inT (M := px_m161) (lev := 2) (L := [some (.ref 0), some (jv x0), some (jv x1)]) hd hN3 rfl (jl rfl) rfl (fun d hd Q' hQ' => ?_)
  refine jr_al_n (pc' := 1) rfl rfl rfl (jr_il_n (pc' := 2) rfl rfl rfl (jr_al_n (pc' := 3) rfl rfl rfl (jr_gr (pc' := 6) (r := 3) rfl rfl jlk_11_19 (.inl rfl) rfl hN jd_0 rfl rfl rfl (jr_gi (pc' := 9) rfl rfl jlk_11_165 (.inr rfl) rfl hN jd_3 rfl rfl ?_))))
  refine jr_ct_v (pc' := 12) [] rfl rfl jlk_11_213 jq_160 (u' := (1, 6)) rfl (ju_l rfl rfl) (jl rfl) rfl (jl rfl) rfl (jk rfl hN) (jd_0.trans jo_160.symm) (fun Q' hq0 hq1 => jc_160 hN3 (Nat.le_trans (jl rfl) hd) hx0 jg_a (jo_b h) hq0 hq1) (fun p1 h0 hp1 h => jo_i h (fun _ h => ?_) (fun hc _ => absurd h0 hc)) (fun p1 e he h => jo_i h (fun hc _ => absurd (he.symm.trans hc) (Nat.succ_ne_zero e)) (fun _ h => jh_0 rfl (ju_l rfl rfl) (hQ' _ _ (hQ1 (_, _, _) e he h))))
  refine jr_al_n (pc' := 13) rfl rfl rfl (jr_il_n (pc' := 14) rfl rfl rfl (jr_ic (pc' := 15) rfl rfl (jr_ic (pc' := 16) rfl rfl ?_)))
  refine jr_ct_v (pc' := 19) [] rfl rfl jlk_11_187 jq_152 (u' := (2, 12)) rfl (ju_l rfl rfl) (jl rfl) rfl (jl rfl) rfl (jk rfl hN) (jd_0.trans jo_152.symm) (fun Q' hq0 hq1 => jc_152 hN3 (Nat.le_trans (jl rfl) hd) hx1 jgc_0 jgc_3 (jo_b h) hq0 hq1) (fun p2 h0 hp2 h => jo_i h (fun _ h => ?_) (fun hc _ => absurd h0 hc)) (fun p2 e he h => jo_i h (fun hc _ => absurd (he.symm.trans hc) (Nat.succ_ne_zero e)) (fun _ h => jh_0 rfl (ju_l rfl rfl) (hQ' _ _ (hQ1 (_, _, _) e he h))))
  refine jr_il_n (pc' := 20) rfl rfl rfl ?_
  refine jo_i h (fun hc h => ?_) (fun hc0 h => ?_)
  · refine jr_tsc (pc' := 48) (0) rfl hx1 hc (by decide) rfl rfl (jr_al_n (pc' := 49) rfl rfl rfl (jr_gr (pc' := 52) (r := 3) rfl rfl jlk_11_19 (.inl rfl) rfl hN jd_0 rfl rfl rfl (jr_gr (pc' := 55) (r := 5) rfl rfl jlk_11_230 (.inr rfl) rfl hN jd_3 rfl rfl rfl (jr_il_n (pc' := 56) rfl rfl rfl ?_))))
    refine jr_ia (pc' := 57) rfl rfl (jl rfl) hN jd_5 jn_5 hx0 h (fun hc h => ?_)
    exact jr_ret rfl (ju_l rfl rfl) rfl (hQ' _ _ (hQ0 (ja p2.2 5 x0.toNat, 0, p2.2) rfl jg_a h))
  · refine jo_i h (fun hc h => ?_) (fun hc1 h => ?_)
    · refine jr_tsc (pc' := 58) (1) rfl hx1 hc (by decide) rfl rfl (jr_al_n (pc' := 59) rfl rfl rfl (jr_gr (pc' := 62) (r := 3) rfl rfl jlk_11_19 (.inl rfl) rfl hN jd_0 rfl rfl rfl (jr_gr (pc' := 65) (r := 6) rfl rfl jlk_11_233 (.inr rfl) rfl hN jd_3 rfl rfl rfl (jr_il_n (pc' := 66) rfl rfl rfl ?_))))
      refine jr_ia (pc' := 67) rfl rfl (jl rfl) hN jd_6 jn_6 hx0 h (fun hc h => ?_)
      exact jr_ret rfl (ju_l rfl rfl) rfl (hQ' _ _ (hQ0 (ja p2.2 6 x0.toNat, 0, p2.2) rfl jg_a h))
    · refine jo_i h (fun hc h => ?_) (fun hc2 h => ?_)
      · refine jr_tsc (pc' := 68) (2) rfl hx1 hc (by decide) rfl rfl (jr_al_n (pc' := 69) rfl rfl rfl (jr_gr (pc' := 72) (r := 47) rfl rfl jlk_11_58 (.inl rfl) rfl hN jd_0 rfl rfl rfl (jr_il_n (pc' := 73) rfl rfl rfl ?_)))
        refine jr_cv_p (pc' := 76) [] rfl rfl jlk_11_236 jq_65 jbd_65 (jl rfl) rfl (jl rfl) (ju_l rfl rfl) rfl (jk rfl hN) (jd_47.trans jo_65.symm) (fun Q' hq => jc_65 hN (Nat.le_trans (jl rfl) hd) (.inl rfl) hx0 (jo_b h) hq) (fun p4 hp4 h => ?_)
        exact jr_ret rfl (ju_l rfl rfl) rfl (hQ' _ _ (hQ0 (p4, 0, p2.2) rfl hp4 h))
      · refine jr_tsd (pc' := 77) rfl hx1 (by omega) rfl (jr_al_n (pc' := 78) rfl rfl rfl (jr_gr (pc' := 81) (r := 47) rfl rfl jlk_11_58 (.inl rfl) rfl hN jd_0 rfl rfl rfl (jr_il_n (pc' := 82) rfl rfl rfl ?_)))
        refine jr_cv_p (pc' := 85) [] rfl rfl jlk_11_239 jq_66 jbd_66 (jl rfl) rfl (jl rfl) (ju_l rfl rfl) rfl (jk rfl hN) (jd_47.trans jo_66.symm) (fun Q' hq => jc_66 hN (Nat.le_trans (jl rfl) hd) (.inl rfl) hx0 (jo_b h) hq) (fun p3 hp3 h => ?_)
        exact jr_ret rfl (ju_l rfl rfl) rfl (hQ' _ _ (hQ0 (p3, 0, p2.2) rfl hp3 h))

set_option maxRecDepth 20000 in
set_option maxHeartbeats 1000000 in
theorem jc_162 {X : Nat × (Nat → Int32)} {N d : Nat} {x0 : Int} {x1 : Int} (hN3 : 103 ≤ N) (hd : 3 ≤ d) (hx0 : jg x0) (hx1 : jg x1) {m : jm} {P : Int × Nat × jm → Prop} {Q : px_Q} (h : jo (jf_162 x0 x1 m) P) (hQ0 : ∀ p : Int × Nat × jm, p.2.1 = 0 → jg p.1 → P p → Q (.inl (some (jv p.1))) (jmem N p.2.2)) (hQ1 : ∀ (p : Int × Nat × jm) e, p.2.1 = e + 1 → P p → Q (.inr e) (jmem N p.2.2)) : px_C X d 162 [.ref 0, jv x0, jv x1] (jmem N m) Q := by
  unfold jf_162 at h
  have hN : 102 ≤ N := Nat.le_of_succ_le hN3
  have hu : ju px_m162 (0, 0) := ju_0
  refine jr_inT (M := px_m162) (lev := 2) (L := [some (.ref 0), some (jv x0), some (jv x1)]) hd hN3 rfl (jl rfl) rfl (fun d hd Q' hQ' => ?_)
  refine jr_al_n (pc' := 1) rfl rfl rfl (jr_il_n (pc' := 2) rfl rfl rfl (jr_al_n (pc' := 3) rfl rfl rfl (jr_gr (pc' := 6) (r := 3) rfl rfl jlk_11_19 (.inl rfl) rfl hN jd_0 rfl rfl rfl (jr_gi (pc' := 9) rfl rfl jlk_11_194 (.inr rfl) rfl hN jd_3 rfl rfl ?_))))
  refine jr_ct_v (pc' := 12) [] rfl rfl jlk_11_213 jq_160 (u' := (1, 6)) rfl (ju_l rfl rfl) (jl rfl) rfl (jl rfl) rfl (jk rfl hN) (jd_0.trans jo_160.symm) (fun Q' hq0 hq1 => jc_160 hN3 (Nat.le_trans (jl rfl) hd) hx0 jg_a (jo_b h) hq0 hq1) (fun p1 h0 hp1 h => jo_i h (fun _ h => ?_) (fun hc _ => absurd h0 hc)) (fun p1 e he h => jo_i h (fun hc _ => absurd (he.symm.trans hc) (Nat.succ_ne_zero e)) (fun _ h => jh_0 rfl (ju_l rfl rfl) (hQ' _ _ (hQ1 (_, _, _) e he h))))
  refine jr_al_n (pc' := 13) rfl rfl rfl (jr_il_n (pc' := 14) rfl rfl rfl (jr_ic (pc' := 15) rfl rfl (jr_bi (pc' := 17) rfl rfl rfl ?_)))
  refine jr_ct_v (pc' := 20) [] rfl rfl jlk_11_187 jq_152 (u' := (2, 12)) rfl (ju_l rfl rfl) (jl rfl) rfl (jl rfl) rfl (jk rfl hN) (jd_0.trans jo_152.symm) (fun Q' hq0 hq1 => jc_152 hN3 (Nat.le_trans (jl rfl) hd) hx1 jgc_0 jgc_6 (jo_b h) hq0 hq1) (fun p2 h0 hp2 h => jo_i h (fun _ h => ?_) (fun hc _ => absurd h0 hc)) (fun p2 e he h => jo_i h (fun hc _ => absurd (he.symm.trans hc) (Nat.succ_ne_zero e)) (fun _ h => jh_0 rfl (ju_l rfl rfl) (hQ' _ _ (hQ1 (_, _, _) e he h))))
  refine jr_il_n (pc' := 21) rfl rfl rfl ?_
  refine jo_i h (fun hc h => ?_) (fun hc0 h => ?_)
  · refine jr_tsc (pc' := 60) (0) rfl hx1 hc (by decide) rfl rfl (jr_al_n (pc' := 61) rfl rfl rfl (jr_gr (pc' := 64) (r := 47) rfl rfl jlk_11_58 (.inl rfl) rfl hN jd_0 rfl rfl rfl (jr_il_n (pc' := 65) rfl rfl rfl ?_)))
    refine jr_cv_p (pc' := 68) [] rfl rfl jlk_11_242 jq_59 jbd_59 (jl rfl) rfl (jl rfl) (ju_l rfl rfl) rfl (jk rfl hN) (jd_47.trans jo_59.symm) (fun Q' hq => jc_59 hN (Nat.le_trans (jl rfl) hd) (.inl rfl) hx0 (jo_b h) hq) (fun p6 hp6 h => ?_)
    exact jr_ret rfl (ju_l rfl rfl) rfl (hQ' _ _ (hQ0 (p6, 0, p2.2) rfl hp6 h))
  · refine jo_i h (fun hc h => ?_) (fun hc1 h => ?_)
    · refine jr_tsc (pc' := 69) (1) rfl hx1 hc (by decide) rfl rfl (jr_al_n (pc' := 70) rfl rfl rfl (jr_gr (pc' := 73) (r := 3) rfl rfl jlk_11_19 (.inl rfl) rfl hN jd_0 rfl rfl rfl (jr_gr (pc' := 76) (r := 9) rfl rfl jlk_11_245 (.inr rfl) rfl hN jd_3 rfl rfl rfl (jr_il_n (pc' := 77) rfl rfl rfl ?_))))
      refine jr_ia (pc' := 78) rfl rfl (jl rfl) hN jd_9 jn_9 hx0 h (fun hc h => ?_)
      exact jr_ret rfl (ju_l rfl rfl) rfl (hQ' _ _ (hQ0 (ja p2.2 9 x0.toNat, 0, p2.2) rfl jg_a h))
    · refine jo_i h (fun hc h => ?_) (fun hc2 h => ?_)
      · refine jr_tsc (pc' := 79) (2) rfl hx1 hc (by decide) rfl rfl (jr_al_n (pc' := 80) rfl rfl rfl (jr_gr (pc' := 83) (r := 3) rfl rfl jlk_11_19 (.inl rfl) rfl hN jd_0 rfl rfl rfl (jr_gr (pc' := 86) (r := 10) rfl rfl jlk_11_248 (.inr rfl) rfl hN jd_3 rfl rfl rfl (jr_il_n (pc' := 87) rfl rfl rfl ?_))))
        refine jr_ia (pc' := 88) rfl rfl (jl rfl) hN jd_10 jn_10 hx0 h (fun hc h => ?_)
        exact jr_ret rfl (ju_l rfl rfl) rfl (hQ' _ _ (hQ0 (ja p2.2 10 x0.toNat, 0, p2.2) rfl jg_a h))
      · refine jo_i h (fun hc h => ?_) (fun hc3 h => ?_)
        · refine jr_tsc (pc' := 89) (3) rfl hx1 hc (by decide) rfl rfl (jr_al_n (pc' := 90) rfl rfl rfl (jr_gr (pc' := 93) (r := 47) rfl rfl jlk_11_58 (.inl rfl) rfl hN jd_0 rfl rfl rfl (jr_il_n (pc' := 94) rfl rfl rfl ?_)))
          refine jr_cv_p (pc' := 97) [] rfl rfl jlk_11_251 jq_60 jbd_60 (jl rfl) rfl (jl rfl) (ju_l rfl rfl) rfl (jk rfl hN) (jd_47.trans jo_60.symm) (fun Q' hq => jc_60 hN (Nat.le_trans (jl rfl) hd) (.inl rfl) hx0 (jo_b h) hq) (fun p5 hp5 h => ?_)
          exact jr_ret rfl (ju_l rfl rfl) rfl (hQ' _ _ (hQ0 (p5, 0, p2.2) rfl hp5 h))
        · refine jo_i h (fun hc h => ?_) (fun hc4 h => ?_)
          · refine jr_tsc (pc' := 98) (4) rfl hx1 hc (by decide) rfl rfl (jr_al_n (pc' := 99) rfl rfl rfl (jr_gr (pc' := 102) (r := 47) rfl rfl jlk_11_58 (.inl rfl) rfl hN jd_0 rfl rfl rfl (jr_il_n (pc' := 103) rfl rfl rfl ?_)))
            refine jr_cv_p (pc' := 106) [] rfl rfl jlk_11_254 jq_68 jbd_68 (jl rfl) rfl (jl rfl) (ju_l rfl rfl) rfl (jk rfl hN) (jd_47.trans jo_68.symm) (fun Q' hq => jc_68 hN (Nat.le_trans (jl rfl) hd) (.inl rfl) hx0 (jo_b h) hq) (fun p4 hp4 h => ?_)
            exact jr_ret rfl (ju_l rfl rfl) rfl (hQ' _ _ (hQ0 (p4, 0, p2.2) rfl hp4 h))
          · refine jo_i h (fun hc h => ?_) (fun hc5 h => ?_)
            · refine jr_tsc (pc' := 107) (5) rfl hx1 hc (by decide) rfl rfl (jr_al_n (pc' := 108) rfl rfl rfl (jr_gr (pc' := 111) (r := 47) rfl rfl jlk_11_58 (.inl rfl) rfl hN jd_0 rfl rfl rfl (jr_il_n (pc' := 112) rfl rfl rfl ?_)))
              refine jr_cv_p (pc' := 115) [] rfl rfl jlk_11_257 jq_91 jbd_91 (jl rfl) rfl (jl rfl) (ju_l rfl rfl) rfl (jk rfl hN) (jd_47.trans jo_91.symm) (fun Q' hq => jc_91 hN (Nat.le_trans (jl rfl) hd) (.inl rfl) hx0 (jo_b h) hq) (fun p3 hp3 h => ?_)
              exact jr_ret rfl (ju_l rfl rfl) rfl (hQ' _ _ (hQ0 (p3, 0, p2.2) rfl hp3 h))
            · refine jr_tsd (pc' := 116) rfl hx1 (by omega) rfl (jr_al_n (pc' := 117) rfl rfl rfl (jr_gr (pc' := 120) (r := 3) rfl rfl jlk_11_19 (.inl rfl) rfl hN jd_0 rfl rfl rfl (jr_gr (pc' := 123) (r := 8) rfl rfl jlk_11_260 (.inr rfl) rfl hN jd_3 rfl rfl rfl (jr_il_n (pc' := 124) rfl rfl rfl ?_))))
              refine jr_ia (pc' := 125) rfl rfl (jl rfl) hN jd_8 jn_8 hx0 h (fun hc h => ?_)
              exact jr_ret rfl (ju_l rfl rfl) rfl (hQ' _ _ (hQ0 (ja p2.2 8 x0.toNat, 0, p2.2) rfl jg_a h))

set_option maxRecDepth 20000 in
set_option maxHeartbeats 1000000 in
theorem jc_163 {X : Nat × (Nat → Int32)} {N d : Nat} {x0 : Int} {x1 : Int} (hN3 : 103 ≤ N) (hd : 3 ≤ d) (hx0 : jg x0) (hx1 : jg x1) {m : jm} {P : Int × Nat × jm → Prop} {Q : px_Q} (h : jo (jf_163 x0 x1 m) P) (hQ0 : ∀ p : Int × Nat × jm, p.2.1 = 0 → jg p.1 → P p → Q (.inl (some (jv p.1))) (jmem N p.2.2)) (hQ1 : ∀ (p : Int × Nat × jm) e, p.2.1 = e + 1 → P p → Q (.inr e) (jmem N p.2.2)) : px_C X d 163 [.ref 0, jv x0, jv x1] (jmem N m) Q := by
  unfold jf_163 at h
  have hN : 102 ≤ N := Nat.le_of_succ_le hN3
  have hu : ju px_m163 (0, 0) := ju_0
  refine jr_inT (M := px_m163) (lev := 2) (L := [some (.ref 0), some (jv x0), some (jv x1)]) hd hN3 rfl (jl rfl) rfl (fun d hd Q' hQ' => ?_)
  refine jr_al_n (pc' := 1) rfl rfl rfl (jr_il_n (pc' := 2) rfl rfl rfl (jr_al_n (pc' := 3) rfl rfl rfl (jr_gr (pc' := 6) (r := 3) rfl rfl jlk_11_19 (.inl rfl) rfl hN jd_0 rfl rfl rfl (jr_gi (pc' := 9) rfl rfl jlk_11_138 (.inr rfl) rfl hN jd_3 rfl rfl ?_))))
  refine jr_ct_v (pc' := 12) [] rfl rfl jlk_11_213 jq_160 (u' := (1, 6)) rfl (ju_l rfl rfl) (jl rfl) rfl (jl rfl) rfl (jk rfl hN) (jd_0.trans jo_160.symm) (fun Q' hq0 hq1 => jc_160 hN3 (Nat.le_trans (jl rfl) hd) hx0 jg_a (jo_b h) hq0 hq1) (fun p1 h0 hp1 h => jo_i h (fun _ h => ?_) (fun hc _ => absurd h0 hc)) (fun p1 e he h => jo_i h (fun hc _ => absurd (he.symm.trans hc) (Nat.succ_ne_zero e)) (fun _ h => jh_0 rfl (ju_l rfl rfl) (hQ' _ _ (hQ1 (_, _, _) e he h))))
  refine jr_al_n (pc' := 13) rfl rfl rfl (jr_il_n (pc' := 14) rfl rfl rfl (jr_ic (pc' := 15) rfl rfl (jr_bi (pc' := 17) rfl rfl rfl ?_)))
  refine jr_ct_v (pc' := 20) [] rfl rfl jlk_11_187 jq_152 (u' := (2, 12)) rfl (ju_l rfl rfl) (jl rfl) rfl (jl rfl) rfl (jk rfl hN) (jd_0.trans jo_152.symm) (fun Q' hq0 hq1 => jc_152 hN3 (Nat.le_trans (jl rfl) hd) hx1 jgc_0 jgc_6 (jo_b h) hq0 hq1) (fun p2 h0 hp2 h => jo_i h (fun _ h => ?_) (fun hc _ => absurd h0 hc)) (fun p2 e he h => jo_i h (fun hc _ => absurd (he.symm.trans hc) (Nat.succ_ne_zero e)) (fun _ h => jh_0 rfl (ju_l rfl rfl) (hQ' _ _ (hQ1 (_, _, _) e he h))))
  refine jr_il_n (pc' := 21) rfl rfl rfl ?_
  refine jo_i h (fun hc h => ?_) (fun hc0 h => ?_)
  · refine jr_tsc (pc' := 60) (0) rfl hx1 hc (by decide) rfl rfl (jr_al_n (pc' := 61) rfl rfl rfl (jr_gr (pc' := 64) (r := 3) rfl rfl jlk_11_19 (.inl rfl) rfl hN jd_0 rfl rfl rfl (jr_gr (pc' := 67) (r := 11) rfl rfl jlk_11_263 (.inr rfl) rfl hN jd_3 rfl rfl rfl (jr_il_n (pc' := 68) rfl rfl rfl ?_))))
    refine jr_ia (pc' := 69) rfl rfl (jl rfl) hN jd_11 jn_11 hx0 h (fun hc h => ?_)
    exact jr_ret rfl (ju_l rfl rfl) rfl (hQ' _ _ (hQ0 (ja p2.2 11 x0.toNat, 0, p2.2) rfl jg_a h))
  · refine jo_i h (fun hc h => ?_) (fun hc1 h => ?_)
    · refine jr_tsc (pc' := 70) (1) rfl hx1 hc (by decide) rfl rfl (jr_al_n (pc' := 71) rfl rfl rfl (jr_gr (pc' := 74) (r := 3) rfl rfl jlk_11_19 (.inl rfl) rfl hN jd_0 rfl rfl rfl (jr_gr (pc' := 77) (r := 12) rfl rfl jlk_11_266 (.inr rfl) rfl hN jd_3 rfl rfl rfl (jr_il_n (pc' := 78) rfl rfl rfl ?_))))
      refine jr_ia (pc' := 79) rfl rfl (jl rfl) hN jd_12 jn_12 hx0 h (fun hc h => ?_)
      exact jr_ret rfl (ju_l rfl rfl) rfl (hQ' _ _ (hQ0 (ja p2.2 12 x0.toNat, 0, p2.2) rfl jg_a h))
    · refine jo_i h (fun hc h => ?_) (fun hc2 h => ?_)
      · refine jr_tsc (pc' := 80) (2) rfl hx1 hc (by decide) rfl rfl (jr_al_n (pc' := 81) rfl rfl rfl (jr_gr (pc' := 84) (r := 3) rfl rfl jlk_11_19 (.inl rfl) rfl hN jd_0 rfl rfl rfl (jr_gr (pc' := 87) (r := 13) rfl rfl jlk_11_269 (.inr rfl) rfl hN jd_3 rfl rfl rfl (jr_il_n (pc' := 88) rfl rfl rfl ?_))))
        refine jr_ia (pc' := 89) rfl rfl (jl rfl) hN jd_13 jn_13 hx0 h (fun hc h => ?_)
        exact jr_ret rfl (ju_l rfl rfl) rfl (hQ' _ _ (hQ0 (ja p2.2 13 x0.toNat, 0, p2.2) rfl jg_a h))
      · refine jo_i h (fun hc h => ?_) (fun hc3 h => ?_)
        · refine jr_tsc (pc' := 90) (3) rfl hx1 hc (by decide) rfl rfl (jr_al_n (pc' := 91) rfl rfl rfl (jr_gr (pc' := 94) (r := 3) rfl rfl jlk_11_19 (.inl rfl) rfl hN jd_0 rfl rfl rfl (jr_gr (pc' := 97) (r := 14) rfl rfl jlk_11_272 (.inr rfl) rfl hN jd_3 rfl rfl rfl (jr_il_n (pc' := 98) rfl rfl rfl ?_))))
          refine jr_ia (pc' := 99) rfl rfl (jl rfl) hN jd_14 jn_14 hx0 h (fun hc h => ?_)
          exact jr_ret rfl (ju_l rfl rfl) rfl (hQ' _ _ (hQ0 (ja p2.2 14 x0.toNat, 0, p2.2) rfl jg_a h))
        · refine jo_i h (fun hc h => ?_) (fun hc4 h => ?_)
          · refine jr_tsc (pc' := 100) (4) rfl hx1 hc (by decide) rfl rfl (jr_al_n (pc' := 101) rfl rfl rfl (jr_gr (pc' := 104) (r := 47) rfl rfl jlk_11_58 (.inl rfl) rfl hN jd_0 rfl rfl rfl (jr_il_n (pc' := 105) rfl rfl rfl ?_)))
            refine jr_cv_p (pc' := 108) [] rfl rfl jlk_11_275 jq_86 jbd_86 (jl rfl) rfl (jl rfl) (ju_l rfl rfl) rfl (jk rfl hN) (jd_47.trans jo_86.symm) (fun Q' hq => jc_86 hN (Nat.le_trans (jl rfl) hd) (.inl rfl) hx0 (jo_b h) hq) (fun p18 hp18 h => ?_)
            refine jr_reg (fun t19 => jg t19) (fun t19 => jp X (px_C X d) px_m163 Q' N 131 [some (.ref 0), some (jv x0), some (jv x1)] [(jv t19)] p2.2 (2, 12)) h (fun t19 ht19 h => ?_) (fun R32 k20 h => ?_)
            · exact jr_ret rfl (ju_l rfl rfl) rfl (hQ' _ _ (hQ0 (t19, 0, p2.2) rfl ht19 h))
            · refine jr_zeq (pa := 123) (pb := 111) rfl rfl rfl (jg_b hp18) h (fun hc h => ?_) (fun hc h => ?_)
              · refine jr_al_n (pc' := 124) rfl rfl rfl (jr_gr (pc' := 127) (r := 47) rfl rfl jlk_11_58 (.inl rfl) rfl hN jd_0 rfl rfl rfl (jr_il_n (pc' := 128) rfl rfl rfl ?_))
                refine jr_cv_p (pc' := 131) [] rfl rfl jlk_11_279 jq_57 jbd_57 (jl rfl) rfl (jl rfl) (ju_l rfl rfl) rfl (jk rfl hN) (jd_47.trans jo_57.symm) (fun Q' hq => jc_57 hN (Nat.le_trans (jl rfl) hd) (.inl rfl) hx0 (jo_b h) hq) (fun p21 hp21 h => ?_)
                exact k20 (p21) hp21 h
              · refine jr_al_n (pc' := 112) rfl rfl rfl (jr_gr (pc' := 115) (r := 3) rfl rfl jlk_11_19 (.inl rfl) rfl hN jd_0 rfl rfl rfl (jr_gr (pc' := 118) (r := 12) rfl rfl jlk_11_266 (.inr rfl) rfl hN jd_3 rfl rfl rfl (jr_il_n (pc' := 119) rfl rfl rfl ?_)))
                refine jr_ia (pc' := 120) rfl rfl (jl rfl) hN jd_12 jn_12 hx0 h (fun hc h => ?_)
                refine jr_goto (pc' := 131) rfl rfl ?_
                exact k20 (ja p2.2 12 x0.toNat) jg_a h
          · refine jo_i h (fun hc h => ?_) (fun hc5 h => ?_)
            · refine jr_tsc (pc' := 132) (5) rfl hx1 hc (by decide) rfl rfl (jr_al_n (pc' := 133) rfl rfl rfl (jr_gr (pc' := 136) (r := 47) rfl rfl jlk_11_58 (.inl rfl) rfl hN jd_0 rfl rfl rfl (jr_il_n (pc' := 137) rfl rfl rfl ?_)))
              refine jr_cv_p (pc' := 140) [] rfl rfl jlk_11_282 jq_61 jbd_61 (jl rfl) rfl (jl rfl) (ju_l rfl rfl) rfl (jk rfl hN) (jd_47.trans jo_61.symm) (fun Q' hq => jc_61 hN (Nat.le_trans (jl rfl) hd) (.inl rfl) hx0 (jo_b h) hq) (fun p17 hp17 h => ?_)
              exact jr_ret rfl (ju_l rfl rfl) rfl (hQ' _ _ (hQ0 (p17, 0, p2.2) rfl hp17 h))
            · refine jr_tsd (pc' := 141) rfl hx1 (by omega) rfl (jr_al_n (pc' := 142) rfl rfl rfl (jr_gr (pc' := 145) (r := 47) rfl rfl jlk_11_58 (.inl rfl) rfl hN jd_0 rfl rfl rfl (jr_il_n (pc' := 146) rfl rfl rfl ?_)))
              refine jr_cv_p (pc' := 149) [] rfl rfl jlk_11_275 jq_86 jbd_86 (jl rfl) rfl (jl rfl) (ju_l rfl rfl) rfl (jk rfl hN) (jd_47.trans jo_86.symm) (fun Q' hq => jc_86 hN (Nat.le_trans (jl rfl) hd) (.inl rfl) hx0 (jo_b h) hq) (fun p3 hp3 h => ?_)
              refine jr_reg (fun t4 => jb t4) (fun t4 => jp X (px_C X d) px_m163 Q' N 157 [some (.ref 0), some (jv x0), some (jv x1)] [(jv t4)] p2.2 (2, 12)) h (fun t4 ht4 h => ?_) (fun R16 k5 h => ?_)
              · exact jr_ret rfl (ju_l rfl rfl) rfl (hQ' _ _ (hQ0 (t4, 0, p2.2) rfl (jg_b ht4) h))
              · refine jr_zeq (pa := 156) (pb := 152) rfl rfl rfl (jg_b hp3) h (fun hc h => ?_) (fun hc h => ?_)
                · refine jr_ic (pc' := 157) rfl rfl ?_
                  exact k5 ((0 : Int)) jb_0 h
                · refine jr_ic (pc' := 153) rfl rfl (jr_goto (pc' := 157) rfl rfl ?_)
                  exact k5 ((1 : Int)) jb_1 h

set_option maxRecDepth 20000 in
set_option maxHeartbeats 1000000 in
theorem jc_165 {X : Nat × (Nat → Int32)} {N d : Nat} {x0 : Int} {x1 : Int} {x2 : Int} {x3 : Int} (hN3 : 103 ≤ N) (hd : 3 ≤ d) (hx0 : jg x0) (hx1 : jg x1) (hx2 : jg x2) (hx3 : jg x3) {m : jm} {P : Nat × jm → Prop} {Q : px_Q} (h : jo (jf_165 x0 x1 x2 x3 m) P) (hQ0 : ∀ p : Nat × jm, p.1 = 0 → True → P p → Q (.inl (none)) (jmem N p.2)) (hQ1 : ∀ (p : Nat × jm) e, p.1 = e + 1 → P p → Q (.inr e) (jmem N p.2)) : px_C X d 165 [.ref 0, jv x0, jv x1, jv x2, jv x3] (jmem N m) Q := by
  unfold jf_165 at h
  have hN : 102 ≤ N := Nat.le_of_succ_le hN3
  have hu : ju px_m165 (0, 0) := ju_0
  refine jr_inT (M := px_m165) (lev := 2) (L := [some (.ref 0), some (jv x0), some (jv x1), some (jv x2), some (jv x3)]) hd hN3 rfl (jl rfl) rfl (fun d hd Q' hQ' => ?_)
  refine jr_al_n (pc' := 1) rfl rfl rfl (jr_il_n (pc' := 2) rfl rfl rfl (jr_il_n (pc' := 3) rfl rfl rfl ?_))
  refine jr_ct_v (pc' := 6) [] rfl rfl jlk_11_213 jq_160 (u' := (1, 6)) rfl (ju_l rfl rfl) (jl rfl) rfl (jl rfl) rfl (jk rfl hN) (jd_0.trans jo_160.symm) (fun Q' hq0 hq1 => jc_160 hN3 (Nat.le_trans (jl rfl) hd) hx0 hx1 (jo_b h) hq0 hq1) (fun p1 h0 hp1 h => jo_i h (fun _ h => ?_) (fun hc _ => absurd h0 hc)) (fun p1 e he h => jo_i h (fun hc _ => absurd (he.symm.trans hc) (Nat.succ_ne_zero e)) (fun _ h => jh_0 rfl (ju_l rfl rfl) (hQ' _ _ (hQ1 (_, _) e he h))))
  refine jr_al_n (pc' := 7) rfl rfl rfl (jr_il_n (pc' := 8) rfl rfl rfl (jr_il (pc' := 10) rfl rfl rfl ?_))
  refine jr_ct_v (pc' := 13) [] rfl rfl jlk_11_213 jq_160 (u' := (2, 12)) rfl (ju_l rfl rfl) (jl rfl) rfl (jl rfl) rfl (jk rfl hN) (jd_0.trans jo_160.symm) (fun Q' hq0 hq1 => jc_160 hN3 (Nat.le_trans (jl rfl) hd) hx2 hx3 (jo_b h) hq0 hq1) (fun p2 h0 hp2 h => jo_i h (fun _ h => ?_) (fun hc _ => absurd h0 hc)) (fun p2 e he h => jo_i h (fun hc _ => absurd (he.symm.trans hc) (Nat.succ_ne_zero e)) (fun _ h => jh_0 rfl (ju_l rfl rfl) (hQ' _ _ (hQ1 (_, _) e he h))))
  exact jr_rv rfl (ju_l rfl rfl) rfl (hQ' _ _ (hQ0 (0, p2.2) rfl trivial h))

set_option maxRecDepth 20000 in
set_option maxHeartbeats 1000000 in
theorem jc_164 {X : Nat × (Nat → Int32)} {N d : Nat} {x0 : Int} {x1 : Int} (hN3 : 103 ≤ N) (hd : 4 ≤ d) (hx0 : jg x0) (hx1 : jg x1) {m : jm} {P : Int × Nat × jm → Prop} {Q : px_Q} (h : jo (jf_164 x0 x1 m) P) (hQ0 : ∀ p : Int × Nat × jm, p.2.1 = 0 → jg p.1 → P p → Q (.inl (some (jv p.1))) (jmem N p.2.2)) (hQ1 : ∀ (p : Int × Nat × jm) e, p.2.1 = e + 1 → P p → Q (.inr e) (jmem N p.2.2)) : px_C X d 164 [.ref 0, jv x0, jv x1] (jmem N m) Q := by
  unfold jf_164 at h
  have hN : 102 ≤ N := Nat.le_of_succ_le hN3
  have hu : ju px_m164 (0, 0) := ju_0
  refine jr_inT (M := px_m164) (lev := 3) (L := [some (.ref 0), some (jv x0), some (jv x1)]) hd hN3 rfl (jl rfl) rfl (fun d hd Q' hQ' => ?_)
  refine jr_al_n (pc' := 1) rfl rfl rfl (jr_il_n (pc' := 2) rfl rfl rfl (jr_al_n (pc' := 3) rfl rfl rfl (jr_gr (pc' := 6) (r := 3) rfl rfl jlk_11_19 (.inl rfl) rfl hN jd_0 rfl rfl rfl (jr_gi (pc' := 9) rfl rfl jlk_11_191 (.inr rfl) rfl hN jd_3 rfl rfl (jr_il_n (pc' := 10) rfl rfl rfl ?_)))))
  refine jr_al_n (pc' := 11) rfl rfl rfl (jr_gr (pc' := 14) (r := 3) rfl rfl jlk_11_19 (.inl rfl) rfl hN jd_0 rfl rfl rfl (jr_gi (pc' := 17) rfl rfl jlk_11_191 (.inr rfl) rfl hN jd_3 rfl rfl ?_))
  refine jr_ct_v (pc' := 20) [] rfl rfl jlk_11_285 jq_165 (u' := (2, 12)) rfl (ju_l rfl rfl) (jl rfl) rfl (jl rfl) rfl (jk rfl hN) (jd_0.trans jo_165.symm) (fun Q' hq0 hq1 => jc_165 hN3 (Nat.le_trans (jl rfl) hd) hx0 jg_a hx1 jg_a (jo_b h) hq0 hq1) (fun p1 h0 hp1 h => jo_i h (fun _ h => ?_) (fun hc _ => absurd h0 hc)) (fun p1 e he h => jo_i h (fun hc _ => absurd (he.symm.trans hc) (Nat.succ_ne_zero e)) (fun _ h => jh_0 rfl (ju_l rfl rfl) (hQ' _ _ (hQ1 (_, _, _) e he h))))
  refine jr_al_n (pc' := 21) rfl rfl rfl (jr_gr (pc' := 24) (r := 3) rfl rfl jlk_11_19 (.inl rfl) rfl hN jd_0 rfl rfl rfl (jr_il_n (pc' := 25) rfl rfl rfl (jr_il_n (pc' := 26) rfl rfl rfl ?_)))
  refine jr_cv_p (pc' := 29) [] rfl rfl jlk_11_289 jq_16 jbd_16 (jl rfl) rfl (jl rfl) (ju_l rfl rfl) rfl (jk rfl hN) (jd_3.trans jo_16.symm) (fun Q' hq => jc_16 hN (Nat.le_trans (jl rfl) hd) (.inl rfl) hx0 hx1 (jo_b h) hq) (fun p2 hp2 h => ?_)
  exact jr_ret rfl (ju_l rfl rfl) rfl (hQ' _ _ (hQ0 (p2, 0, p1.2) rfl hp2 h))

set_option maxRecDepth 20000 in
set_option maxHeartbeats 1000000 in
theorem jc_166 {X : Nat × (Nat → Int32)} {N d : Nat} {x0 : Int} {x1 : Int} {x2 : Int} (hN3 : 103 ≤ N) (hd : 5 ≤ d) (hx0 : jg x0) (hx1 : jg x1) (hx2 : jg x2) {m : jm} {P : Int × Nat × jm → Prop} {Q : px_Q} (h : jo (jf_166 x0 x1 x2 m) P) (hQ0 : ∀ p : Int × Nat × jm, p.2.1 = 0 → jg p.1 → P p → Q (.inl (some (jv p.1))) (jmem N p.2.2)) (hQ1 : ∀ (p : Int × Nat × jm) e, p.2.1 = e + 1 → P p → Q (.inr e) (jmem N p.2.2)) : px_C X d 166 [.ref 0, jv x0, jv x1, jv x2] (jmem N m) Q := by
  unfold jf_166 at h
  have hN : 102 ≤ N := Nat.le_of_succ_le hN3
  have hu : ju px_m166 (0, 0) := ju_0
  refine jr_inT (M := px_m166) (lev := 4) (L := [some (.ref 0), some (jv x0), some (jv x1), some (jv x2)]) hd hN3 rfl (jl rfl) rfl (fun d hd Q' hQ' => ?_)
  refine jr_al_n (pc' := 1) rfl rfl rfl (jr_il_n (pc' := 2) rfl rfl rfl (jr_al_n (pc' := 3) rfl rfl rfl (jr_gr (pc' := 6) (r := 3) rfl rfl jlk_11_19 (.inl rfl) rfl hN jd_0 rfl rfl rfl (jr_gi (pc' := 9) rfl rfl jlk_11_194 (.inr rfl) rfl hN jd_3 rfl rfl (jr_il_n (pc' := 10) rfl rfl rfl ?_)))))
  refine jr_al_n (pc' := 11) rfl rfl rfl (jr_gr (pc' := 14) (r := 3) rfl rfl jlk_11_19 (.inl rfl) rfl hN jd_0 rfl rfl rfl (jr_gi (pc' := 17) rfl rfl jlk_11_165 (.inr rfl) rfl hN jd_3 rfl rfl ?_))
  refine jr_ct_v (pc' := 20) [] rfl rfl jlk_11_285 jq_165 (u' := (2, 12)) rfl (ju_l rfl rfl) (jl rfl) rfl (jl rfl) rfl (jk rfl hN) (jd_0.trans jo_165.symm) (fun Q' hq0 hq1 => jc_165 hN3 (Nat.le_trans (jl rfl) hd) hx0 jg_a hx1 jg_a (jo_b h) hq0 hq1) (fun p1 h0 hp1 h => jo_i h (fun _ h => ?_) (fun hc _ => absurd h0 hc)) (fun p1 e he h => jo_i h (fun hc _ => absurd (he.symm.trans hc) (Nat.succ_ne_zero e)) (fun _ h => jh_0 rfl (ju_l rfl rfl) (hQ' _ _ (hQ1 (_, _, _) e he h))))
  refine jr_al_n (pc' := 21) rfl rfl rfl (jr_il_n (pc' := 22) rfl rfl rfl (jr_ic (pc' := 23) rfl rfl (jr_ic (pc' := 24) rfl rfl ?_)))
  refine jr_ct_v (pc' := 27) [] rfl rfl jlk_11_187 jq_152 (u' := (3, 18)) rfl (ju_l rfl rfl) (jl rfl) rfl (jl rfl) rfl (jk rfl hN) (jd_0.trans jo_152.symm) (fun Q' hq0 hq1 => jc_152 hN3 (Nat.le_trans (jl rfl) hd) hx2 jgc_0 jgc_1 (jo_b h) hq0 hq1) (fun p2 h0 hp2 h => jo_i h (fun _ h => ?_) (fun hc _ => absurd h0 hc)) (fun p2 e he h => jo_i h (fun hc _ => absurd (he.symm.trans hc) (Nat.succ_ne_zero e)) (fun _ h => jh_0 rfl (ju_l rfl rfl) (hQ' _ _ (hQ1 (_, _, _) e he h))))
  refine jr_al_n (pc' := 28) rfl rfl rfl (jr_gr (pc' := 31) (r := 47) rfl rfl jlk_11_58 (.inl rfl) rfl hN jd_0 rfl rfl rfl (jr_il_n (pc' := 32) rfl rfl rfl (jr_il_n (pc' := 33) rfl rfl rfl (jr_il_n (pc' := 34) rfl rfl rfl ?_))))
  refine jr_cv_i (pc' := 37) [] rfl rfl jlk_11_293 jq_92 jbd_92 (jl rfl) rfl (jl rfl) (ju_l rfl rfl) rfl (jk rfl hN) (jd_47.trans jo_92.symm) (fun Q' hq => jc_92 hN (Nat.le_trans (jl rfl) hd) (.inl rfl) hx0 hx1 hx2 (jo_b h) hq) (fun p3 hp3 h => ?_)
  exact jr_ret rfl (ju_l rfl rfl) rfl (hQ' _ _ (hQ0 (p3.1, 0, p3.2) rfl hp3 h))

set_option maxRecDepth 20000 in
set_option maxHeartbeats 1000000 in
theorem jc_167 {X : Nat × (Nat → Int32)} {N d : Nat} {x0 : Int} {x1 : Int} {x2 : Int} {x3 : Int} {x4 : Int} {x5 : Int} {x6 : Int} {x7 : Int} {x8 : Int} (hN3 : 103 ≤ N) (hd : 4 ≤ d) (hx0 : jg x0) (hx1 : jg x1) (hx2 : jg x2) (hx3 : jg x3) (hx4 : jg x4) (hx5 : jg x5) (hx6 : jg x6) (hx7 : jg x7) (hx8 : jg x8) {m : jm} {P : Int × Nat × jm → Prop} {Q : px_Q} (h : jo (jf_167 x0 x1 x2 x3 x4 x5 x6 x7 x8 m) P) (hQ0 : ∀ p : Int × Nat × jm, p.2.1 = 0 → jg p.1 → P p → Q (.inl (some (jv p.1))) (jmem N p.2.2)) (hQ1 : ∀ (p : Int × Nat × jm) e, p.2.1 = e + 1 → P p → Q (.inr e) (jmem N p.2.2)) : px_C X d 167 [.ref 0, jv x0, jv x1, jv x2, jv x3, jv x4, jv x5, jv x6, jv x7, jv x8] (jmem N m) Q := by
  unfold jf_167 at h
  have hN : 102 ≤ N := Nat.le_of_succ_le hN3
  have hu : ju px_m167 (0, 0) := ju_0
  refine jr_inT (M := px_m167) (lev := 3) (L := [some (.ref 0), some (jv x0), some (jv x1), some (jv x2), some (jv x3), some (jv x4), some (jv x5), some (jv x6), some (jv x7), some (jv x8), none, none, none]) hd hN3 rfl (jl rfl) rfl (fun d hd Q' hQ' => ?_)
  refine jr_il_n (pc' := 1) rfl rfl rfl (jr_ic (pc' := 2) rfl rfl (jr_bi (pc' := 4) rfl rfl rfl ?_))
  refine jr_cs_p (pc' := 7) [] rfl rfl jlk_11_297 jq_153 jbd_153 (jl rfl) rfl (jl rfl) hu (fun Q' hq => jc_153 hN (Nat.le_trans (jl rfl) hd) hx0 jgc_0 jgc_9 (jo_b h) hq) (fun p1 hp1 h => ?_)
  refine jr_reg (fun t2 => jb t2) (fun t2 => jp X (px_C X d) px_m167 Q' N 38 [some (.ref 0), some (jv x0), some (jv x1), some (jv x2), some (jv x3), some (jv x4), some (jv x5), some (jv x6), some (jv x7), some (jv x8), none, none, none] [(jv t2)] m (0, 0)) h (fun t2 ht2 h => ?_) (fun R66 k3 h => ?_)
  · refine jr_is (pc' := 40) (L' := [_, _, _, _, _, _, _, _, _, _, _, _, _]) rfl rfl (jl rfl) rfl rfl (jr_il_n (pc' := 41) rfl rfl rfl (jr_ic (pc' := 42) rfl rfl (jr_bi (pc' := 44) rfl rfl rfl ?_)))
    refine jr_cs_p (pc' := 47) [] rfl rfl jlk_11_297 jq_153 jbd_153 (jl rfl) rfl (jl rfl) hu (fun Q' hq => jc_153 hN (Nat.le_trans (jl rfl) hd) hx2 jgc_0 jgc_18 (jo_b h) hq) (fun p16 hp16 h => ?_)
    refine jr_reg (fun t17 => jb t17) (fun t17 => jp X (px_C X d) px_m167 Q' N 75 [some (.ref 0), some (jv x0), some (jv x1), some (jv x2), some (jv x3), some (jv x4), some (jv x5), some (jv x6), some (jv x7), some (jv x8), some (jv t2), none, none] [(jv t17)] m (0, 0)) h (fun t17 ht17 h => ?_) (fun R65 k18 h => ?_)
    · refine jr_is (pc' := 77) (L' := [_, _, _, _, _, _, _, _, _, _, _, _, _]) rfl rfl (jl rfl) rfl rfl (jr_il (pc' := 79) rfl rfl rfl (jr_ic (pc' := 80) rfl rfl (jr_ic (pc' := 81) rfl rfl ?_)))
      refine jr_cs_p (pc' := 84) [] rfl rfl jlk_11_297 jq_153 jbd_153 (jl rfl) rfl (jl rfl) hu (fun Q' hq => jc_153 hN (Nat.le_trans (jl rfl) hd) hx6 jgc_0 jgc_1 (jo_b h) hq) (fun p31 hp31 h => ?_)
      refine jr_reg (fun t32 => jb t32) (fun t32 => jp X (px_C X d) px_m167 Q' N 115 [some (.ref 0), some (jv x0), some (jv x1), some (jv x2), some (jv x3), some (jv x4), some (jv x5), some (jv x6), some (jv x7), some (jv x8), some (jv t2), some (jv t17), none] [(jv t32)] m (0, 0)) h (fun t32 ht32 h => ?_) (fun R64 k33 h => ?_)
      · refine jr_is (pc' := 117) (L' := [_, _, _, _, _, _, _, _, _, _, _, _, _]) rfl rfl (jl rfl) rfl rfl (jr_al_n (pc' := 118) rfl rfl rfl (jr_il (pc' := 120) rfl rfl rfl ?_))
        refine jr_reg (fun t46 => jb t46) (fun t46 => jp X (px_C X d) px_m167 Q' N 138 [some (.ref 0), some (jv x0), some (jv x1), some (jv x2), some (jv x3), some (jv x4), some (jv x5), some (jv x6), some (jv x7), some (jv x8), some (jv t2), some (jv t17), some (jv t32)] [(jv t46), (.ref 0)] m (0, 0)) h (fun t46 ht46 h => ?_) (fun R63 k47 h => ?_)
        · refine jr_ct_v (pc' := 141) [] rfl rfl jlk_11_301 jq_154 (u' := (1, 6)) rfl (ju_l rfl rfl) (jl rfl) rfl (jl rfl) rfl (jk rfl hN) (jd_0.trans jo_154.symm) (fun Q' hq0 hq1 => jc_154 hN3 (Nat.le_trans (jl rfl) hd) (jg_b ht46) (jo_b h) hq0 hq1) (fun p58 h0 hp58 h => jo_i h (fun _ h => ?_) (fun hc _ => absurd h0 hc)) (fun p58 e he h => jo_i h (fun hc _ => absurd (he.symm.trans hc) (Nat.succ_ne_zero e)) (fun _ h => jh_0 rfl (ju_l rfl rfl) (hQ' _ _ (hQ1 (_, _, _) e he h))))
          refine jr_al_n (pc' := 142) rfl rfl rfl (jr_gr (pc' := 145) (r := 47) rfl rfl jlk_11_58 (.inl rfl) rfl hN jd_0 rfl rfl rfl (jr_il_n (pc' := 146) rfl rfl rfl (jr_il_n (pc' := 147) rfl rfl rfl (jr_il (pc' := 149) rfl rfl rfl ?_))))
          refine jr_cv_v (pc' := 152) [] rfl rfl jlk_11_305 jq_67 jbd_67 (jl rfl) rfl (jl rfl) (ju_l rfl rfl) rfl (jk rfl hN) (jd_47.trans jo_67.symm) (fun Q' hq => jc_67 hN (Nat.le_trans (jl rfl) hd) (.inl rfl) hx0 hx1 hx5 (jo_b h) hq) (fun p59 hp59 h => ?_)
          refine jr_al_n (pc' := 153) rfl rfl rfl (jr_gr (pc' := 156) (r := 47) rfl rfl jlk_11_58 (.inl rfl) rfl hN jd_0 rfl rfl rfl (jr_il_n (pc' := 157) rfl rfl rfl (jr_il (pc' := 159) rfl rfl rfl (jr_il (pc' := 161) rfl rfl rfl ?_))))
          refine jr_cv_v (pc' := 164) [] rfl rfl jlk_11_308 jq_72 jbd_72 (jl rfl) rfl (jl rfl) (ju_l rfl rfl) rfl (jk rfl hN) (jd_47.trans jo_72.symm) (fun Q' hq => jc_72 hN (Nat.le_trans (jl rfl) hd) (.inl rfl) hx2 hx3 hx4 (jo_b h) hq) (fun p60 hp60 h => ?_)
          refine jr_al_n (pc' := 165) rfl rfl rfl (jr_gr (pc' := 168) (r := 47) rfl rfl jlk_11_58 (.inl rfl) rfl hN jd_0 rfl rfl rfl (jr_il (pc' := 170) rfl rfl rfl (jr_il (pc' := 172) rfl rfl rfl (jr_il (pc' := 174) rfl rfl rfl ?_))))
          refine jr_cv_v (pc' := 177) [] rfl rfl jlk_11_311 jq_70 jbd_70 (jl rfl) rfl (jl rfl) (ju_l rfl rfl) rfl (jk rfl hN) (jd_47.trans jo_70.symm) (fun Q' hq => jc_70 hN (Nat.le_trans (jl rfl) hd) (.inl rfl) hx6 hx7 hx8 (jo_b h) hq) (fun p61 hp61 h => ?_)
          refine jr_al_n (pc' := 178) rfl rfl rfl (jr_gr (pc' := 181) (r := 47) rfl rfl jlk_11_58 (.inl rfl) rfl hN jd_0 rfl rfl rfl ?_)
          refine jr_cv_i (pc' := 184) [] rfl rfl jlk_11_314 jq_93 jbd_93 (jl rfl) rfl (jl rfl) (ju_l rfl rfl) rfl (jk rfl hN) (jd_47.trans jo_93.symm) (fun Q' hq => jc_93 hN (Nat.le_trans (jl rfl) hd) (.inl rfl) (jo_b h) hq) (fun p62 hp62 h => ?_)
          exact jr_ret rfl (ju_l rfl rfl) rfl (hQ' _ _ (hQ0 (p62.1, 0, p62.2) rfl hp62 h))
        · refine jr_zeq (pa := 137) (pb := 123) rfl rfl rfl (jg_b ht2) h (fun hc h => ?_) (fun hc h => ?_)
          · refine jr_ic (pc' := 138) rfl rfl ?_
            exact k47 ((0 : Int)) jb_0 h
          · refine jr_il (pc' := 125) rfl rfl rfl ?_
            refine jr_zeq (pa := 137) (pb := 128) rfl rfl rfl (jg_b ht17) h (fun hc h => ?_) (fun hc h => ?_)
            · refine jr_ic (pc' := 138) rfl rfl ?_
              exact k47 ((0 : Int)) jb_0 h
            · refine jr_il (pc' := 130) rfl rfl rfl ?_
              refine jr_zeq (pa := 137) (pb := 133) rfl rfl rfl (jg_b ht32) h (fun hc h => ?_) (fun hc h => ?_)
              · refine jr_ic (pc' := 138) rfl rfl ?_
                exact k47 ((0 : Int)) jb_0 h
              · refine jr_ic (pc' := 134) rfl rfl (jr_goto (pc' := 138) rfl rfl ?_)
                exact k47 ((1 : Int)) jb_1 h
      · refine jr_zeq (pa := 114) (pb := 87) rfl rfl rfl (jg_b hp31) h (fun hc h => ?_) (fun hc h => ?_)
        · refine jr_ic (pc' := 115) rfl rfl ?_
          exact k33 ((0 : Int)) jb_0 h
        · refine jr_il (pc' := 89) rfl rfl rfl (jr_ic (pc' := 90) rfl rfl (jr_bi (pc' := 92) rfl rfl rfl ?_))
          refine jr_cs_p (pc' := 95) [] rfl rfl jlk_11_297 jq_153 jbd_153 (jl rfl) rfl (jl rfl) hu (fun Q' hq => jc_153 hN (Nat.le_trans (jl rfl) hd) hx7 jgc_0 jgc_9 (jo_b h) hq) (fun p34 hp34 h => ?_)
          refine jr_zeq (pa := 114) (pb := 98) rfl rfl rfl (jg_b hp34) h (fun hc h => ?_) (fun hc h => ?_)
          · refine jr_ic (pc' := 115) rfl rfl ?_
            exact k33 ((0 : Int)) jb_0 h
          · refine jr_il (pc' := 100) rfl rfl rfl (jr_ic (pc' := 101) rfl rfl (jr_si (pc' := 104) rfl rfl rfl ?_))
            refine jr_cs_p (pc' := 107) [] rfl rfl jlk_11_297 jq_153 jbd_153 (jl rfl) rfl (jl rfl) hu (fun Q' hq => jc_153 hN (Nat.le_trans (jl rfl) hd) hx8 jgc_0 jgc_700 (jo_b h) hq) (fun p35 hp35 h => ?_)
            refine jr_zeq (pa := 114) (pb := 110) rfl rfl rfl (jg_b hp35) h (fun hc h => ?_) (fun hc h => ?_)
            · refine jr_ic (pc' := 115) rfl rfl ?_
              exact k33 ((0 : Int)) jb_0 h
            · refine jr_ic (pc' := 111) rfl rfl (jr_goto (pc' := 115) rfl rfl ?_)
              exact k33 ((1 : Int)) jb_1 h
    · refine jr_zeq (pa := 74) (pb := 50) rfl rfl rfl (jg_b hp16) h (fun hc h => ?_) (fun hc h => ?_)
      · refine jr_ic (pc' := 75) rfl rfl ?_
        exact k18 ((0 : Int)) jb_0 h
      · refine jr_il (pc' := 52) rfl rfl rfl (jr_ic (pc' := 53) rfl rfl (jr_ic (pc' := 54) rfl rfl ?_))
        refine jr_cs_p (pc' := 57) [] rfl rfl jlk_11_297 jq_153 jbd_153 (jl rfl) rfl (jl rfl) hu (fun Q' hq => jc_153 hN (Nat.le_trans (jl rfl) hd) hx3 jgc_0 jgc_5 (jo_b h) hq) (fun p19 hp19 h => ?_)
        refine jr_zeq (pa := 74) (pb := 60) rfl rfl rfl (jg_b hp19) h (fun hc h => ?_) (fun hc h => ?_)
        · refine jr_ic (pc' := 75) rfl rfl ?_
          exact k18 ((0 : Int)) jb_0 h
        · refine jr_il (pc' := 62) rfl rfl rfl (jr_ic (pc' := 63) rfl rfl (jr_ic (pc' := 64) rfl rfl ?_))
          refine jr_cs_p (pc' := 67) [] rfl rfl jlk_11_297 jq_153 jbd_153 (jl rfl) rfl (jl rfl) hu (fun Q' hq => jc_153 hN (Nat.le_trans (jl rfl) hd) hx4 jgc_0 jgc_2 (jo_b h) hq) (fun p20 hp20 h => ?_)
          refine jr_zeq (pa := 74) (pb := 70) rfl rfl rfl (jg_b hp20) h (fun hc h => ?_) (fun hc h => ?_)
          · refine jr_ic (pc' := 75) rfl rfl ?_
            exact k18 ((0 : Int)) jb_0 h
          · refine jr_ic (pc' := 71) rfl rfl (jr_goto (pc' := 75) rfl rfl ?_)
            exact k18 ((1 : Int)) jb_1 h
  · refine jr_zeq (pa := 37) (pb := 10) rfl rfl rfl (jg_b hp1) h (fun hc h => ?_) (fun hc h => ?_)
    · refine jr_ic (pc' := 38) rfl rfl ?_
      exact k3 ((0 : Int)) jb_0 h
    · refine jr_il_n (pc' := 11) rfl rfl rfl (jr_bi (pc' := 13) rfl rfl rfl (jr_bi (pc' := 15) rfl rfl rfl ?_))
      refine jr_cs_p (pc' := 18) [] rfl rfl jlk_11_297 jq_153 jbd_153 (jl rfl) rfl (jl rfl) hu (fun Q' hq => jc_153 hN (Nat.le_trans (jl rfl) hd) hx1 jgc_m40 jgc_40 (jo_b h) hq) (fun p4 hp4 h => ?_)
      refine jr_zeq (pa := 37) (pb := 21) rfl rfl rfl (jg_b hp4) h (fun hc h => ?_) (fun hc h => ?_)
      · refine jr_ic (pc' := 38) rfl rfl ?_
        exact k3 ((0 : Int)) jb_0 h
      · refine jr_il (pc' := 23) rfl rfl rfl (jr_ic (pc' := 24) rfl rfl (jr_si (pc' := 27) rfl rfl rfl ?_))
        refine jr_cs_p (pc' := 30) [] rfl rfl jlk_11_297 jq_153 jbd_153 (jl rfl) rfl (jl rfl) hu (fun Q' hq => jc_153 hN (Nat.le_trans (jl rfl) hd) hx5 jgc_0 jgc_999 (jo_b h) hq) (fun p5 hp5 h => ?_)
        refine jr_zeq (pa := 37) (pb := 33) rfl rfl rfl (jg_b hp5) h (fun hc h => ?_) (fun hc h => ?_)
        · refine jr_ic (pc' := 38) rfl rfl ?_
          exact k3 ((0 : Int)) jb_0 h
        · refine jr_ic (pc' := 34) rfl rfl (jr_goto (pc' := 38) rfl rfl ?_)
          exact k3 ((1 : Int)) jb_1 h

