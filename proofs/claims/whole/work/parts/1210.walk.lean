/-! the pure machine follows the functions, 11 (written by wip/whole/gen/walk.py) -/
set_option maxRecDepth 20000 in
set_option maxHeartbeats 1000000 in
theorem jc_168 {X : Nat × (Nat → Int32)} {N d : Nat} {x0 : Int} {x1 : Int} {x2 : Int} (hN3 : 103 ≤ N) (hd : 5 ≤ d) (hx0 : jg x0) (hx1 : jg x1) (hx2 : jg x2) {m : jm} {P : Int × Nat × jm → Prop} {Q : px_Q} (h : jo (jf_168 x0 x1 x2 m) P) (hQ0 : ∀ p : Int × Nat × jm, p.2.1 = 0 → jb p.1 → P p → Q (.inl (some (jv p.1))) (jmem N p.2.2)) (hQ1 : ∀ (p : Int × Nat × jm) e, p.2.1 = e + 1 → P p → Q (.inr e) (jmem N p.2.2)) : px_C X d 168 [.ref 0, jv x0, jv x1, jv x2] (jmem N m) Q := by
  unfold jf_168 at h
  have hN : 102 ≤ N := Nat.le_of_succ_le hN3
  have hu : ju px_m168 (0, 0) := ju_0
  refine jr_inT (M := px_m168) (lev := 4) (L := [some (.ref 0), some (jv x0), some (jv x1), some (jv x2)]) hd hN3 rfl (jl rfl) rfl (fun d hd Q' hQ' => ?_)
  refine jr_al_n (pc' := 1) rfl rfl rfl (jr_il_n (pc' := 2) rfl rfl rfl (jr_al_n (pc' := 3) rfl rfl rfl (jr_gr (pc' := 6) (r := 3) rfl rfl jlk_11_19 (.inl rfl) rfl hN jd_0 rfl rfl rfl (jr_gi (pc' := 9) rfl rfl jlk_11_194 (.inr rfl) rfl hN jd_3 rfl rfl (jr_il_n (pc' := 10) rfl rfl rfl ?_)))))
  refine jr_al_n (pc' := 11) rfl rfl rfl (jr_gr (pc' := 14) (r := 3) rfl rfl jlk_11_19 (.inl rfl) rfl hN jd_0 rfl rfl rfl (jr_gi (pc' := 17) rfl rfl jlk_11_165 (.inr rfl) rfl hN jd_3 rfl rfl ?_))
  refine jr_ct_v (pc' := 20) [] rfl rfl jlk_11_285 jq_165 (u' := (2, 12)) rfl (ju_l rfl rfl) (jl rfl) rfl (jl rfl) rfl (jk rfl hN) (jd_0.trans jo_165.symm) (fun Q' hq0 hq1 => jc_165 hN3 (Nat.le_trans (jl rfl) hd) hx0 jg_a hx1 jg_a (jo_b h) hq0 hq1) (fun p1 h0 hp1 h => jo_i h (fun _ h => ?_) (fun hc _ => absurd h0 hc)) (fun p1 e he h => jo_i h (fun hc _ => absurd (he.symm.trans hc) (Nat.succ_ne_zero e)) (fun _ h => jh_0 rfl (ju_l rfl rfl) (hQ' _ _ (hQ1 (_, _, _) e he h))))
  refine jr_al_n (pc' := 21) rfl rfl rfl (jr_il_n (pc' := 22) rfl rfl rfl (jr_ic (pc' := 23) rfl rfl (jr_ic (pc' := 24) rfl rfl ?_)))
  refine jr_ct_v (pc' := 27) [] rfl rfl jlk_11_187 jq_152 (u' := (3, 18)) rfl (ju_l rfl rfl) (jl rfl) rfl (jl rfl) rfl (jk rfl hN) (jd_0.trans jo_152.symm) (fun Q' hq0 hq1 => jc_152 hN3 (Nat.le_trans (jl rfl) hd) hx2 jgc_0 jgc_1 (jo_b h) hq0 hq1) (fun p2 h0 hp2 h => jo_i h (fun _ h => ?_) (fun hc _ => absurd h0 hc)) (fun p2 e he h => jo_i h (fun hc _ => absurd (he.symm.trans hc) (Nat.succ_ne_zero e)) (fun _ h => jh_0 rfl (ju_l rfl rfl) (hQ' _ _ (hQ1 (_, _, _) e he h))))
  refine jr_al_n (pc' := 28) rfl rfl rfl (jr_gr (pc' := 31) (r := 47) rfl rfl jlk_11_58 (.inl rfl) rfl hN jd_0 rfl rfl rfl (jr_il_n (pc' := 32) rfl rfl rfl (jr_al_n (pc' := 33) rfl rfl rfl (jr_gr (pc' := 36) (r := 47) rfl rfl jlk_11_58 (.inl rfl) rfl hN jd_0 rfl rfl rfl (jr_il_n (pc' := 37) rfl rfl rfl ?_)))))
  refine jr_il_n (pc' := 38) rfl rfl rfl (jr_il_n (pc' := 39) rfl rfl rfl ?_)
  refine jr_cv_i (pc' := 42) [_, _] rfl rfl jlk_11_293 jq_92 jbd_92 (jl rfl) rfl (jl rfl) (ju_l rfl rfl) rfl (jk rfl hN) (jd_47.trans jo_92.symm) (fun Q' hq => jc_92 hN (Nat.le_trans (jl rfl) hd) (.inl rfl) hx0 hx1 hx2 (jo_b h) hq) (fun p3 hp3 h => ?_)
  refine jr_cv_p (pc' := 45) [] rfl rfl jlk_11_317 jq_73 jbd_73 (jl rfl) rfl (jl rfl) (ju_l rfl rfl) rfl (jk rfl hN) (jd_47.trans jo_73.symm) (fun Q' hq => jc_73 hN (Nat.le_trans (jl rfl) hd) (.inl rfl) hx0 hp3 (jo_b h) hq) (fun p4 hp4 h => ?_)
  exact jr_retb rfl (ju_l rfl rfl) rfl hp4 (hQ' _ _ (hQ0 (p4, 0, p3.2) rfl hp4 h))

set_option maxRecDepth 20000 in
set_option maxHeartbeats 1000000 in
theorem jc_169 {X : Nat × (Nat → Int32)} {N d : Nat} {x0 : Int} (hN3 : 103 ≤ N) (hd : 7 ≤ d) (hx0 : jg x0) {m : jm} {P : Int × Nat × jm → Prop} {Q : px_Q} (h : jo (jf_169 x0 m) P) (hQ0 : ∀ p : Int × Nat × jm, p.2.1 = 0 → jg p.1 → P p → Q (.inl (some (jv p.1))) (jmem N p.2.2)) (hQ1 : ∀ (p : Int × Nat × jm) e, p.2.1 = e + 1 → P p → Q (.inr e) (jmem N p.2.2)) : px_C X d 169 [.ref 0, jv x0] (jmem N m) Q := by
  unfold jf_169 at h
  have hN : 102 ≤ N := Nat.le_of_succ_le hN3
  have hu : ju px_m169 (0, 0) := ju_0
  refine jr_inT (M := px_m169) (lev := 6) (L := [some (.ref 0), some (jv x0)]) hd hN3 rfl (jl rfl) rfl (fun d hd Q' hQ' => ?_)
  refine jr_al_n (pc' := 1) rfl rfl rfl (jr_il_n (pc' := 2) rfl rfl rfl (jr_al_n (pc' := 3) rfl rfl rfl (jr_gr (pc' := 6) (r := 3) rfl rfl jlk_11_19 (.inl rfl) rfl hN jd_0 rfl rfl rfl (jr_gi (pc' := 9) rfl rfl jlk_11_194 (.inr rfl) rfl hN jd_3 rfl rfl ?_))))
  refine jr_ct_v (pc' := 12) [] rfl rfl jlk_11_213 jq_160 (u' := (1, 6)) rfl (ju_l rfl rfl) (jl rfl) rfl (jl rfl) rfl (jk rfl hN) (jd_0.trans jo_160.symm) (fun Q' hq0 hq1 => jc_160 hN3 (Nat.le_trans (jl rfl) hd) hx0 jg_a (jo_b h) hq0 hq1) (fun p1 h0 hp1 h => jo_i h (fun _ h => ?_) (fun hc _ => absurd h0 hc)) (fun p1 e he h => jo_i h (fun hc _ => absurd (he.symm.trans hc) (Nat.succ_ne_zero e)) (fun _ h => jh_0 rfl (ju_l rfl rfl) (hQ' _ _ (hQ1 (_, _, _) e he h))))
  refine jr_al_n (pc' := 13) rfl rfl rfl (jr_gr (pc' := 16) (r := 56) rfl rfl jlk_11_81 (.inl rfl) rfl hN jd_0 rfl rfl rfl (jr_il_n (pc' := 17) rfl rfl rfl ?_))
  refine jr_cv_i (pc' := 20) [] rfl rfl jlk_11_321 jq_130 jbd_130 (jl rfl) rfl (jl rfl) (ju_l rfl rfl) rfl (jk rfl hN) (jd_56.trans jo_130.symm) (fun Q' hq => jc_130 hN (Nat.le_trans (jl rfl) hd) hx0 (jo_b h) hq) (fun p2 hp2 h => ?_)
  exact jr_ret rfl (ju_l rfl rfl) rfl (hQ' _ _ (hQ0 (p2.1, 0, p2.2) rfl hp2 h))

set_option maxRecDepth 20000 in
set_option maxHeartbeats 1000000 in
theorem jc_170 {X : Nat × (Nat → Int32)} {N d : Nat} {x0 : Int} {x1 : Int} {x2 : Int} (hN3 : 103 ≤ N) (hd : 7 ≤ d) (hx0 : jg x0) (hx1 : jg x1) (hx2 : jg x2) {m : jm} {P : Int × Nat × jm → Prop} {Q : px_Q} (h : jo (jf_170 x0 x1 x2 m) P) (hQ0 : ∀ p : Int × Nat × jm, p.2.1 = 0 → jg p.1 → P p → Q (.inl (some (jv p.1))) (jmem N p.2.2)) (hQ1 : ∀ (p : Int × Nat × jm) e, p.2.1 = e + 1 → P p → Q (.inr e) (jmem N p.2.2)) : px_C X d 170 [.ref 0, jv x0, jv x1, jv x2] (jmem N m) Q := by
  unfold jf_170 at h
  have hN : 102 ≤ N := Nat.le_of_succ_le hN3
  have hu : ju px_m170 (0, 0) := ju_0
  refine jr_inT (M := px_m170) (lev := 6) (L := [some (.ref 0), some (jv x0), some (jv x1), some (jv x2)]) hd hN3 rfl (jl rfl) rfl (fun d hd Q' hQ' => ?_)
  refine jr_al_n (pc' := 1) rfl rfl rfl (jr_il_n (pc' := 2) rfl rfl rfl (jr_al_n (pc' := 3) rfl rfl rfl (jr_gr (pc' := 6) (r := 3) rfl rfl jlk_11_19 (.inl rfl) rfl hN jd_0 rfl rfl rfl (jr_gi (pc' := 9) rfl rfl jlk_11_194 (.inr rfl) rfl hN jd_3 rfl rfl (jr_il_n (pc' := 10) rfl rfl rfl ?_)))))
  refine jr_al_n (pc' := 11) rfl rfl rfl (jr_gr (pc' := 14) (r := 3) rfl rfl jlk_11_19 (.inl rfl) rfl hN jd_0 rfl rfl rfl (jr_gi (pc' := 17) rfl rfl jlk_11_191 (.inr rfl) rfl hN jd_3 rfl rfl ?_))
  refine jr_ct_v (pc' := 20) [] rfl rfl jlk_11_285 jq_165 (u' := (2, 12)) rfl (ju_l rfl rfl) (jl rfl) rfl (jl rfl) rfl (jk rfl hN) (jd_0.trans jo_165.symm) (fun Q' hq0 hq1 => jc_165 hN3 (Nat.le_trans (jl rfl) hd) hx0 jg_a hx1 jg_a (jo_b h) hq0 hq1) (fun p1 h0 hp1 h => jo_i h (fun _ h => ?_) (fun hc _ => absurd h0 hc)) (fun p1 e he h => jo_i h (fun hc _ => absurd (he.symm.trans hc) (Nat.succ_ne_zero e)) (fun _ h => jh_0 rfl (ju_l rfl rfl) (hQ' _ _ (hQ1 (_, _, _) e he h))))
  refine jr_al_n (pc' := 21) rfl rfl rfl (jr_il_n (pc' := 22) rfl rfl rfl (jr_ic (pc' := 23) rfl rfl (jr_ic (pc' := 24) rfl rfl ?_)))
  refine jr_ct_v (pc' := 27) [] rfl rfl jlk_11_187 jq_152 (u' := (3, 18)) rfl (ju_l rfl rfl) (jl rfl) rfl (jl rfl) rfl (jk rfl hN) (jd_0.trans jo_152.symm) (fun Q' hq0 hq1 => jc_152 hN3 (Nat.le_trans (jl rfl) hd) hx2 jgc_0 jgc_1 (jo_b h) hq0 hq1) (fun p2 h0 hp2 h => jo_i h (fun _ h => ?_) (fun hc _ => absurd h0 hc)) (fun p2 e he h => jo_i h (fun hc _ => absurd (he.symm.trans hc) (Nat.succ_ne_zero e)) (fun _ h => jh_0 rfl (ju_l rfl rfl) (hQ' _ _ (hQ1 (_, _, _) e he h))))
  refine jr_il_n (pc' := 28) rfl rfl rfl ?_
  refine jr_reg (fun t3 => jg t3.1) (fun t3 => jp X (px_C X d) px_m170 Q' N 52 [some (.ref 0), some (jv x0), some (jv x1), some (jv x2)] [(jv t3.1)] t3.2 (3, 18)) h (fun t3 ht3 h => ?_) (fun R17 k4 h => ?_)
  · exact jr_ret rfl (ju_l rfl rfl) rfl (hQ' _ _ (hQ0 (t3.1, 0, t3.2) rfl ht3 h))
  · refine jr_zne (pa := 31) (pb := 43) rfl rfl rfl hx2 h (fun hc h => ?_) (fun hc h => ?_)
    · refine jr_al_n (pc' := 32) rfl rfl rfl (jr_gr (pc' := 35) (r := 56) rfl rfl jlk_11_81 (.inl rfl) rfl hN jd_0 rfl rfl rfl (jr_il_n (pc' := 36) rfl rfl rfl (jr_il_n (pc' := 37) rfl rfl rfl ?_)))
      refine jr_cv_i (pc' := 40) [] rfl rfl jlk_11_324 jq_132 jbd_132 (jl rfl) rfl (jl rfl) (ju_l rfl rfl) rfl (jk rfl hN) (jd_56.trans jo_132.symm) (fun Q' hq => jc_132 hN (Nat.le_trans (jl rfl) hd) hx0 hx1 (jo_b h) hq) (fun p5 hp5 h => ?_)
      refine jr_goto (pc' := 52) rfl rfl ?_
      exact k4 (p5.1, p5.2) hp5 h
    · refine jr_al_n (pc' := 44) rfl rfl rfl (jr_gr (pc' := 47) (r := 56) rfl rfl jlk_11_81 (.inl rfl) rfl hN jd_0 rfl rfl rfl (jr_il_n (pc' := 48) rfl rfl rfl (jr_il_n (pc' := 49) rfl rfl rfl ?_)))
      refine jr_cv_i (pc' := 52) [] rfl rfl jlk_11_327 jq_133 jbd_133 (jl rfl) rfl (jl rfl) (ju_l rfl rfl) rfl (jk rfl hN) (jd_56.trans jo_133.symm) (fun Q' hq => jc_133 hN (Nat.le_trans (jl rfl) hd) hx0 hx1 (jo_b h) hq) (fun p6 hp6 h => ?_)
      exact k4 (p6.1, p6.2) hp6 h

set_option maxRecDepth 20000 in
set_option maxHeartbeats 1000000 in
theorem jc_171 {X : Nat × (Nat → Int32)} {N d : Nat} {x0 : Int} {x1 : Int} (hN3 : 103 ≤ N) (hd : 7 ≤ d) (hx0 : jg x0) (hx1 : jg x1) {m : jm} {P : Int × Nat × jm → Prop} {Q : px_Q} (h : jo (jf_171 x0 x1 m) P) (hQ0 : ∀ p : Int × Nat × jm, p.2.1 = 0 → jg p.1 → P p → Q (.inl (some (jv p.1))) (jmem N p.2.2)) (hQ1 : ∀ (p : Int × Nat × jm) e, p.2.1 = e + 1 → P p → Q (.inr e) (jmem N p.2.2)) : px_C X d 171 [.ref 0, jv x0, jv x1] (jmem N m) Q := by
  unfold jf_171 at h
  have hN : 102 ≤ N := Nat.le_of_succ_le hN3
  have hu : ju px_m171 (0, 0) := ju_0
  refine jr_inT (M := px_m171) (lev := 6) (L := [some (.ref 0), some (jv x0), some (jv x1), none]) hd hN3 rfl (jl rfl) rfl (fun d hd Q' hQ' => ?_)
  refine jr_al_n (pc' := 1) rfl rfl rfl (jr_il_n (pc' := 2) rfl rfl rfl (jr_al_n (pc' := 3) rfl rfl rfl (jr_gr (pc' := 6) (r := 3) rfl rfl jlk_11_19 (.inl rfl) rfl hN jd_0 rfl rfl rfl (jr_gi (pc' := 9) rfl rfl jlk_11_138 (.inr rfl) rfl hN jd_3 rfl rfl ?_))))
  refine jr_ct_v (pc' := 12) [] rfl rfl jlk_11_213 jq_160 (u' := (1, 6)) rfl (ju_l rfl rfl) (jl rfl) rfl (jl rfl) rfl (jk rfl hN) (jd_0.trans jo_160.symm) (fun Q' hq0 hq1 => jc_160 hN3 (Nat.le_trans (jl rfl) hd) hx0 jg_a (jo_b h) hq0 hq1) (fun p1 h0 hp1 h => jo_i h (fun _ h => ?_) (fun hc _ => absurd h0 hc)) (fun p1 e he h => jo_i h (fun hc _ => absurd (he.symm.trans hc) (Nat.succ_ne_zero e)) (fun _ h => jh_0 rfl (ju_l rfl rfl) (hQ' _ _ (hQ1 (_, _, _) e he h))))
  refine jr_al_n (pc' := 13) rfl rfl rfl (jr_il_n (pc' := 14) rfl rfl rfl (jr_ic (pc' := 15) rfl rfl (jr_ic (pc' := 16) rfl rfl ?_)))
  refine jr_ct_v (pc' := 19) [] rfl rfl jlk_11_187 jq_152 (u' := (2, 12)) rfl (ju_l rfl rfl) (jl rfl) rfl (jl rfl) rfl (jk rfl hN) (jd_0.trans jo_152.symm) (fun Q' hq0 hq1 => jc_152 hN3 (Nat.le_trans (jl rfl) hd) hx1 jgc_0 jgc_1 (jo_b h) hq0 hq1) (fun p2 h0 hp2 h => jo_i h (fun _ h => ?_) (fun hc _ => absurd h0 hc)) (fun p2 e he h => jo_i h (fun hc _ => absurd (he.symm.trans hc) (Nat.succ_ne_zero e)) (fun _ h => jh_0 rfl (ju_l rfl rfl) (hQ' _ _ (hQ1 (_, _, _) e he h))))
  refine jr_al_n (pc' := 20) rfl rfl rfl (jr_gr (pc' := 23) (r := 56) rfl rfl jlk_11_81 (.inl rfl) rfl hN jd_0 rfl rfl rfl (jr_il_n (pc' := 24) rfl rfl rfl ?_))
  refine jr_cv_i (pc' := 27) [] rfl rfl jlk_11_330 jq_135 jbd_135 (jl rfl) rfl (jl rfl) (ju_l rfl rfl) rfl (jk rfl hN) (jd_56.trans jo_135.symm) (fun Q' hq => jc_135 hN (Nat.le_trans (jl rfl) hd) hx0 (jo_b h) hq) (fun p3 hp3 h => ?_)
  refine jr_is_n (pc' := 28) (L' := [_, _, _, _]) rfl rfl (jl rfl) rfl rfl (jr_il_n (pc' := 29) rfl rfl rfl ?_)
  refine jr_reg (fun t4 => jg t4.1) (fun t4 => jp X (px_C X d) px_m171 Q' N 50 [some (.ref 0), some (jv x0), some (jv x1), some (jv p3.1)] [(jv t4.1)] t4.2 (2, 12)) h (fun t4 ht4 h => ?_) (fun R17 k5 h => ?_)
  · exact jr_ret rfl (ju_l rfl rfl) rfl (hQ' _ _ (hQ0 (t4.1, 0, t4.2) rfl ht4 h))
  · refine jr_zeq (pa := 37) (pb := 32) rfl rfl rfl hx1 h (fun hc h => ?_) (fun hc h => ?_)
    · refine jr_il_n (pc' := 38) rfl rfl rfl (jr_goto (pc' := 50) rfl rfl ?_)
      exact k5 (p3.1, p3.2) hp3 h
    · refine jr_il_n (pc' := 33) rfl rfl rfl (jr_ic (pc' := 34) rfl rfl ?_)
      refine jr_cne (pa := 37) (pb := 41) rfl rfl rfl hp3 jgc_m1 h (fun hc h => ?_) (fun hc h => ?_)
      · refine jr_il_n (pc' := 38) rfl rfl rfl (jr_goto (pc' := 50) rfl rfl ?_)
        exact k5 (p3.1, p3.2) hp3 h
      · refine jr_al_n (pc' := 42) rfl rfl rfl (jr_gr (pc' := 45) (r := 56) rfl rfl jlk_11_81 (.inl rfl) rfl hN jd_0 rfl rfl rfl (jr_il_n (pc' := 46) rfl rfl rfl (jr_il_n (pc' := 47) rfl rfl rfl ?_)))
        refine jr_cv_i (pc' := 50) [] rfl rfl jlk_11_333 jq_126 jbd_126 (jl rfl) rfl (jl rfl) (ju_l rfl rfl) rfl (jk rfl hN) (jd_56.trans jo_126.symm) (fun Q' hq => jc_126 hN (Nat.le_trans (jl rfl) hd) hx0 hp3 (jo_b h) hq) (fun p6 hp6 h => ?_)
        exact k5 (p6.1, p6.2) hp6 h

set_option maxRecDepth 20000 in
set_option maxHeartbeats 1000000 in
theorem jc_172 {X : Nat × (Nat → Int32)} {N d : Nat} {x0 : Int} {x1 : Int} {x2 : Int} (hN3 : 103 ≤ N) (hd : 7 ≤ d) (hx0 : jg x0) (hx1 : jg x1) (hx2 : jg x2) {m : jm} {P : Int × Nat × jm → Prop} {Q : px_Q} (h : jo (jf_172 x0 x1 x2 m) P) (hQ0 : ∀ p : Int × Nat × jm, p.2.1 = 0 → jg p.1 → P p → Q (.inl (some (jv p.1))) (jmem N p.2.2)) (hQ1 : ∀ (p : Int × Nat × jm) e, p.2.1 = e + 1 → P p → Q (.inr e) (jmem N p.2.2)) : px_C X d 172 [.ref 0, jv x0, jv x1, jv x2] (jmem N m) Q := by
  unfold jf_172 at h
  have hN : 102 ≤ N := Nat.le_of_succ_le hN3
  have hu : ju px_m172 (0, 0) := ju_0
  refine jr_inT (M := px_m172) (lev := 6) (L := [some (.ref 0), some (jv x0), some (jv x1), some (jv x2), none]) hd hN3 rfl (jl rfl) rfl (fun d hd Q' hQ' => ?_)
  refine jr_al_n (pc' := 1) rfl rfl rfl (jr_il_n (pc' := 2) rfl rfl rfl (jr_al_n (pc' := 3) rfl rfl rfl (jr_gr (pc' := 6) (r := 3) rfl rfl jlk_11_19 (.inl rfl) rfl hN jd_0 rfl rfl rfl (jr_gi (pc' := 9) rfl rfl jlk_11_194 (.inr rfl) rfl hN jd_3 rfl rfl (jr_il_n (pc' := 10) rfl rfl rfl ?_)))))
  refine jr_al_n (pc' := 11) rfl rfl rfl (jr_gr (pc' := 14) (r := 3) rfl rfl jlk_11_19 (.inl rfl) rfl hN jd_0 rfl rfl rfl (jr_gi (pc' := 17) rfl rfl jlk_11_194 (.inr rfl) rfl hN jd_3 rfl rfl ?_))
  refine jr_ct_v (pc' := 20) [] rfl rfl jlk_11_285 jq_165 (u' := (2, 12)) rfl (ju_l rfl rfl) (jl rfl) rfl (jl rfl) rfl (jk rfl hN) (jd_0.trans jo_165.symm) (fun Q' hq0 hq1 => jc_165 hN3 (Nat.le_trans (jl rfl) hd) hx0 jg_a hx1 jg_a (jo_b h) hq0 hq1) (fun p1 h0 hp1 h => jo_i h (fun _ h => ?_) (fun hc _ => absurd h0 hc)) (fun p1 e he h => jo_i h (fun hc _ => absurd (he.symm.trans hc) (Nat.succ_ne_zero e)) (fun _ h => jh_0 rfl (ju_l rfl rfl) (hQ' _ _ (hQ1 (_, _, _) e he h))))
  refine jr_al_n (pc' := 21) rfl rfl rfl (jr_il_n (pc' := 22) rfl rfl rfl (jr_ic (pc' := 23) rfl rfl (jr_ic (pc' := 24) rfl rfl ?_)))
  refine jr_ct_v (pc' := 27) [] rfl rfl jlk_11_187 jq_152 (u' := (3, 18)) rfl (ju_l rfl rfl) (jl rfl) rfl (jl rfl) rfl (jk rfl hN) (jd_0.trans jo_152.symm) (fun Q' hq0 hq1 => jc_152 hN3 (Nat.le_trans (jl rfl) hd) hx2 jgc_0 jgc_1 (jo_b h) hq0 hq1) (fun p2 h0 hp2 h => jo_i h (fun _ h => ?_) (fun hc _ => absurd h0 hc)) (fun p2 e he h => jo_i h (fun hc _ => absurd (he.symm.trans hc) (Nat.succ_ne_zero e)) (fun _ h => jh_0 rfl (ju_l rfl rfl) (hQ' _ _ (hQ1 (_, _, _) e he h))))
  refine jr_al_n (pc' := 28) rfl rfl rfl (jr_gr (pc' := 31) (r := 56) rfl rfl jlk_11_81 (.inl rfl) rfl hN jd_0 rfl rfl rfl (jr_il_n (pc' := 32) rfl rfl rfl (jr_il_n (pc' := 33) rfl rfl rfl ?_)))
  refine jr_cv_i (pc' := 36) [] rfl rfl jlk_11_336 jq_136 jbd_136 (jl rfl) rfl (jl rfl) (ju_l rfl rfl) rfl (jk rfl hN) (jd_56.trans jo_136.symm) (fun Q' hq => jc_136 hN (Nat.le_trans (jl rfl) hd) hx0 hx1 (jo_b h) hq) (fun p3 hp3 h => ?_)
  refine jr_is (pc' := 38) (L' := [_, _, _, _, _]) rfl rfl (jl rfl) rfl rfl (jr_il_n (pc' := 39) rfl rfl rfl ?_)
  refine jr_reg (fun t4 => jg t4) (fun t4 => jp X (px_C X d) px_m172 Q' N 63 [some (.ref 0), some (jv x0), some (jv x1), some (jv x2), some (jv p3.1)] [(jv t4)] p3.2 (3, 18)) h (fun t4 ht4 h => ?_) (fun R16 k5 h => ?_)
  · exact jr_ret rfl (ju_l rfl rfl) rfl (hQ' _ _ (hQ0 (t4, 0, p3.2) rfl ht4 h))
  · refine jr_zeq (pa := 48) (pb := 42) rfl rfl rfl hx2 h (fun hc h => ?_) (fun hc h => ?_)
    · refine jr_il (pc' := 50) rfl rfl rfl (jr_goto (pc' := 63) rfl rfl ?_)
      exact k5 (p3.1) hp3 h
    · refine jr_il (pc' := 44) rfl rfl rfl (jr_ic (pc' := 45) rfl rfl ?_)
      refine jr_cne (pa := 48) (pb := 53) rfl rfl rfl hp3 jgc_m1 h (fun hc h => ?_) (fun hc h => ?_)
      · refine jr_il (pc' := 50) rfl rfl rfl (jr_goto (pc' := 63) rfl rfl ?_)
        exact k5 (p3.1) hp3 h
      · refine jr_al_n (pc' := 54) rfl rfl rfl (jr_gr (pc' := 57) (r := 56) rfl rfl jlk_11_81 (.inl rfl) rfl hN jd_0 rfl rfl rfl (jr_gr (pc' := 60) (r := 58) rfl rfl jlk_11_339 (.inr rfl) rfl hN jd_56 rfl rfl rfl (jr_il (pc' := 62) rfl rfl rfl ?_)))
        refine jr_ia (pc' := 63) rfl rfl (jl rfl) hN jd_58 jn_58 hp3 h (fun hc h => ?_)
        exact k5 (ja p3.2 58 p3.1.toNat) jg_a h

set_option maxRecDepth 20000 in
set_option maxHeartbeats 1000000 in
theorem jc_173 {X : Nat × (Nat → Int32)} {N d : Nat} {x0 : Int} (hN3 : 103 ≤ N) (hd : 3 ≤ d) (hx0 : jg x0) {m : jm} {P : Int × Nat × jm → Prop} {Q : px_Q} (h : jo (jf_173 x0 m) P) (hQ0 : ∀ p : Int × Nat × jm, p.2.1 = 0 → jg p.1 → P p → Q (.inl (some (jv p.1))) (jmem N p.2.2)) (hQ1 : ∀ (p : Int × Nat × jm) e, p.2.1 = e + 1 → P p → Q (.inr e) (jmem N p.2.2)) : px_C X d 173 [.ref 0, jv x0] (jmem N m) Q := by
  unfold jf_173 at h
  have hN : 102 ≤ N := Nat.le_of_succ_le hN3
  have hu : ju px_m173 (0, 0) := ju_0
  refine jr_inT (M := px_m173) (lev := 2) (L := [some (.ref 0), some (jv x0)]) hd hN3 rfl (jl rfl) rfl (fun d hd Q' hQ' => ?_)
  refine jr_al_n (pc' := 1) rfl rfl rfl (jr_il_n (pc' := 2) rfl rfl rfl (jr_ic (pc' := 3) rfl rfl (jr_ic (pc' := 4) rfl rfl ?_)))
  refine jr_ct_v (pc' := 7) [] rfl rfl jlk_11_187 jq_152 (u' := (1, 6)) rfl (ju_l rfl rfl) (jl rfl) rfl (jl rfl) rfl (jk rfl hN) (jd_0.trans jo_152.symm) (fun Q' hq0 hq1 => jc_152 hN3 (Nat.le_trans (jl rfl) hd) hx0 jgc_0 jgc_1 (jo_b h) hq0 hq1) (fun p1 h0 hp1 h => jo_i h (fun _ h => ?_) (fun hc _ => absurd h0 hc)) (fun p1 e he h => jo_i h (fun hc _ => absurd (he.symm.trans hc) (Nat.succ_ne_zero e)) (fun _ h => jh_0 rfl (ju_l rfl rfl) (hQ' _ _ (hQ1 (_, _, _) e he h))))
  refine jr_il_n (pc' := 8) rfl rfl rfl ?_
  refine jr_reg (fun t2 => jg t2) (fun t2 => jp X (px_C X d) px_m173 Q' N 35 [some (.ref 0), some (jv x0)] [(jv t2)] p1.2 (1, 6)) h (fun t2 ht2 h => ?_) (fun R17 k3 h => ?_)
  · exact jr_ret rfl (ju_l rfl rfl) rfl (hQ' _ _ (hQ0 (t2, 0, p1.2) rfl ht2 h))
  · refine jr_zne (pa := 11) (pb := 28) rfl rfl rfl hx0 h (fun hc h => ?_) (fun hc h => ?_)
    · refine jr_al_n (pc' := 12) rfl rfl rfl (jr_gr (pc' := 15) (r := 55) rfl rfl jlk_11_74 (.inl rfl) rfl hN jd_0 rfl rfl rfl (jr_al_n (pc' := 16) rfl rfl rfl (jr_gr (pc' := 19) (r := 55) rfl rfl jlk_11_74 (.inl rfl) rfl hN jd_0 rfl rfl rfl ?_)))
      refine jr_cv_p (pc' := 22) [_] rfl rfl jlk_11_342 jq_36 jbd_36 (jl rfl) rfl (jl rfl) (ju_l rfl rfl) rfl (jk rfl hN) (jd_55.trans jo_36.symm) (fun Q' hq => jc_36 hN (Nat.le_trans (jl rfl) hd)  (jo_b h) hq) (fun p4 hp4 h => ?_)
      refine jr_cv_p (pc' := 25) [] rfl rfl jlk_11_345 jq_37 jbd_37 (jl rfl) rfl (jl rfl) (ju_l rfl rfl) rfl (jk rfl hN) (jd_55.trans jo_37.symm) (fun Q' hq => jc_37 hN (Nat.le_trans (jl rfl) hd) hp4 (jo_b h) hq) (fun p5 hp5 h => ?_)
      refine jr_goto (pc' := 35) rfl rfl ?_
      exact k3 (p5) hp5 h
    · refine jr_al_n (pc' := 29) rfl rfl rfl (jr_gr (pc' := 32) (r := 55) rfl rfl jlk_11_74 (.inl rfl) rfl hN jd_0 rfl rfl rfl ?_)
      refine jr_cv_p (pc' := 35) [] rfl rfl jlk_11_348 jq_39 jbd_39 (jl rfl) rfl (jl rfl) (ju_l rfl rfl) rfl (jk rfl hN) (jd_55.trans jo_39.symm) (fun Q' hq => jc_39 hN (Nat.le_trans (jl rfl) hd)  (jo_b h) hq) (fun p6 hp6 h => ?_)
      exact k3 (p6) hp6 h

set_option maxRecDepth 20000 in
set_option maxHeartbeats 1000000 in
theorem jc_174 {X : Nat × (Nat → Int32)} {N d : Nat} {x0 : Int} (hN3 : 103 ≤ N) (hd : 3 ≤ d) (hx0 : jg x0) {m : jm} {P : Int × Nat × jm → Prop} {Q : px_Q} (h : jo (jf_174 x0 m) P) (hQ0 : ∀ p : Int × Nat × jm, p.2.1 = 0 → jg p.1 → P p → Q (.inl (some (jv p.1))) (jmem N p.2.2)) (hQ1 : ∀ (p : Int × Nat × jm) e, p.2.1 = e + 1 → P p → Q (.inr e) (jmem N p.2.2)) : px_C X d 174 [.ref 0, jv x0] (jmem N m) Q := by
  unfold jf_174 at h
  have hN : 102 ≤ N := Nat.le_of_succ_le hN3
  have hu : ju px_m174 (0, 0) := ju_0
  refine jr_inT (M := px_m174) (lev := 2) (L := [some (.ref 0), some (jv x0), none]) hd hN3 rfl (jl rfl) rfl (fun d hd Q' hQ' => ?_)
  refine jr_al_n (pc' := 1) rfl rfl rfl (jr_il_n (pc' := 2) rfl rfl rfl (jr_ic (pc' := 3) rfl rfl (jr_ic (pc' := 4) rfl rfl ?_)))
  refine jr_ct_v (pc' := 7) [] rfl rfl jlk_11_187 jq_152 (u' := (1, 6)) rfl (ju_l rfl rfl) (jl rfl) rfl (jl rfl) rfl (jk rfl hN) (jd_0.trans jo_152.symm) (fun Q' hq0 hq1 => jc_152 hN3 (Nat.le_trans (jl rfl) hd) hx0 jgc_0 jgc_1 (jo_b h) hq0 hq1) (fun p1 h0 hp1 h => jo_i h (fun _ h => ?_) (fun hc _ => absurd h0 hc)) (fun p1 e he h => jo_i h (fun hc _ => absurd (he.symm.trans hc) (Nat.succ_ne_zero e)) (fun _ h => jh_0 rfl (ju_l rfl rfl) (hQ' _ _ (hQ1 (_, _, _) e he h))))
  refine jr_al_n (pc' := 8) rfl rfl rfl (jr_gr (pc' := 11) (r := 55) rfl rfl jlk_11_74 (.inl rfl) rfl hN jd_0 rfl rfl rfl ?_)
  refine jr_cv_p (pc' := 14) [] rfl rfl jlk_11_354 jq_40 jbd_40 (jl rfl) rfl (jl rfl) (ju_l rfl rfl) rfl (jk rfl hN) (jd_55.trans jo_40.symm) (fun Q' hq => jc_40 hN (Nat.le_trans (jl rfl) hd)  (jo_b h) hq) (fun p2 hp2 h => ?_)
  refine jr_is_n (pc' := 15) (L' := [_, _, _]) rfl rfl (jl rfl) rfl rfl (jr_il_n (pc' := 16) rfl rfl rfl ?_)
  refine jr_reg (fun t3 => jg t3) (fun t3 => jp X (px_C X d) px_m174 Q' N 31 [some (.ref 0), some (jv x0), some (jv p2)] [(jv t3)] p1.2 (1, 6)) h (fun t3 ht3 h => ?_) (fun R16 k4 h => ?_)
  · exact jr_ret rfl (ju_l rfl rfl) rfl (hQ' _ _ (hQ0 (t3, 0, p1.2) rfl ht3 h))
  · refine jr_zne (pa := 19) (pb := 30) rfl rfl rfl hx0 h (fun hc h => ?_) (fun hc h => ?_)
    · refine jr_al_n (pc' := 20) rfl rfl rfl (jr_gr (pc' := 23) (r := 55) rfl rfl jlk_11_74 (.inl rfl) rfl hN jd_0 rfl rfl rfl (jr_il_n (pc' := 24) rfl rfl rfl ?_))
      refine jr_cv_p (pc' := 27) [] rfl rfl jlk_11_357 jq_41 jbd_41 (jl rfl) rfl (jl rfl) (ju_l rfl rfl) rfl (jk rfl hN) (jd_55.trans jo_41.symm) (fun Q' hq => jc_41 hN (Nat.le_trans (jl rfl) hd) hp2 (jo_b h) hq) (fun p5 hp5 h => ?_)
      refine jr_goto (pc' := 31) rfl rfl ?_
      exact k4 (p5) hp5 h
    · refine jr_il_n (pc' := 31) rfl rfl rfl ?_
      exact k4 (p2) hp2 h

set_option maxRecDepth 20000 in
set_option maxHeartbeats 1000000 in
theorem jc_175 {X : Nat × (Nat → Int32)} {N d : Nat} {x0 : Int} {x1 : Int} (hN3 : 103 ≤ N) (hd : 6 ≤ d) (hx0 : jg x0) (hx1 : jg x1) {m : jm} {P : Int × Nat × jm → Prop} {Q : px_Q} (h : jo (jf_175 x0 x1 m) P) (hQ0 : ∀ p : Int × Nat × jm, p.2.1 = 0 → jg p.1 → P p → Q (.inl (some (jv p.1))) (jmem N p.2.2)) (hQ1 : ∀ (p : Int × Nat × jm) e, p.2.1 = e + 1 → P p → Q (.inr e) (jmem N p.2.2)) : px_C X d 175 [.ref 0, jv x0, jv x1] (jmem N m) Q := by
  unfold jf_175 at h
  have hN : 102 ≤ N := Nat.le_of_succ_le hN3
  have hu : ju px_m175 (0, 0) := ju_0
  refine jr_inT (M := px_m175) (lev := 5) (L := [some (.ref 0), some (jv x0), some (jv x1)]) hd hN3 rfl (jl rfl) rfl (fun d hd Q' hQ' => ?_)
  refine jr_al_n (pc' := 1) rfl rfl rfl (jr_il_n (pc' := 2) rfl rfl rfl (jr_al_n (pc' := 3) rfl rfl rfl (jr_gr (pc' := 6) (r := 3) rfl rfl jlk_11_19 (.inl rfl) rfl hN jd_0 rfl rfl rfl (jr_gi (pc' := 9) rfl rfl jlk_11_194 (.inr rfl) rfl hN jd_3 rfl rfl ?_))))
  refine jr_ct_v (pc' := 12) [] rfl rfl jlk_11_213 jq_160 (u' := (1, 6)) rfl (ju_l rfl rfl) (jl rfl) rfl (jl rfl) rfl (jk rfl hN) (jd_0.trans jo_160.symm) (fun Q' hq0 hq1 => jc_160 hN3 (Nat.le_trans (jl rfl) hd) hx0 jg_a (jo_b h) hq0 hq1) (fun p1 h0 hp1 h => jo_i h (fun _ h => ?_) (fun hc _ => absurd h0 hc)) (fun p1 e he h => jo_i h (fun hc _ => absurd (he.symm.trans hc) (Nat.succ_ne_zero e)) (fun _ h => jh_0 rfl (ju_l rfl rfl) (hQ' _ _ (hQ1 (_, _, _) e he h))))
  refine jr_al_n (pc' := 13) rfl rfl rfl (jr_il_n (pc' := 14) rfl rfl rfl (jr_ic (pc' := 15) rfl rfl (jr_ic (pc' := 16) rfl rfl ?_)))
  refine jr_ct_v (pc' := 19) [] rfl rfl jlk_11_187 jq_152 (u' := (2, 12)) rfl (ju_l rfl rfl) (jl rfl) rfl (jl rfl) rfl (jk rfl hN) (jd_0.trans jo_152.symm) (fun Q' hq0 hq1 => jc_152 hN3 (Nat.le_trans (jl rfl) hd) hx1 jgc_0 jgc_1 (jo_b h) hq0 hq1) (fun p2 h0 hp2 h => jo_i h (fun _ h => ?_) (fun hc _ => absurd h0 hc)) (fun p2 e he h => jo_i h (fun hc _ => absurd (he.symm.trans hc) (Nat.succ_ne_zero e)) (fun _ h => jh_0 rfl (ju_l rfl rfl) (hQ' _ _ (hQ1 (_, _, _) e he h))))
  refine jr_al_n (pc' := 20) rfl rfl rfl (jr_gr (pc' := 23) (r := 33) rfl rfl jlk_11_39 (.inl rfl) rfl hN jd_0 rfl rfl rfl (jr_al_n (pc' := 24) rfl rfl rfl (jr_gr (pc' := 27) (r := 47) rfl rfl jlk_11_58 (.inl rfl) rfl hN jd_0 rfl rfl rfl (jr_il_n (pc' := 28) rfl rfl rfl ?_))))
  refine jr_cv_v (pc' := 31) [] rfl rfl jlk_11_360 jq_4 jbd_4 (jl rfl) rfl (jl rfl) (ju_l rfl rfl) rfl (jk rfl hN) (jd_33.trans jo_4.symm) (fun Q' hq => jc_4 hN (Nat.le_trans (jl rfl) hd) hx0 (jo_b h) hq) (fun p3 hp3 h => ?_)
  refine jr_il_n (pc' := 32) rfl rfl rfl ?_
  refine jr_reg (fun t4 => jg t4) (fun t4 => jp X (px_C X d) px_m175 Q' N 52 [some (.ref 0), some (jv x0), some (jv x1)] [(jv t4)] p3 (2, 12)) h (fun t4 ht4 h => ?_) (fun R17 k5 h => ?_)
  · exact jr_ret rfl (ju_l rfl rfl) rfl (hQ' _ _ (hQ0 (t4, 0, p3) rfl ht4 h))
  · refine jr_zne (pa := 35) (pb := 45) rfl rfl rfl hx1 h (fun hc h => ?_) (fun hc h => ?_)
    · refine jr_al_n (pc' := 36) rfl rfl rfl (jr_gr (pc' := 39) (r := 33) rfl rfl jlk_11_39 (.inl rfl) rfl hN jd_0 rfl rfl rfl (jr_gi (pc' := 42) rfl rfl jlk_11_364 (.inr rfl) rfl hN jd_33 rfl rfl (jr_goto (pc' := 52) rfl rfl ?_)))
      exact k5 (ja p3 33 3) jg_a h
    · refine jr_al_n (pc' := 46) rfl rfl rfl (jr_gr (pc' := 49) (r := 33) rfl rfl jlk_11_39 (.inl rfl) rfl hN jd_0 rfl rfl rfl ?_)
      refine jr_cv_p (pc' := 52) [] rfl rfl jlk_11_367 jq_6 jbd_6 (jl rfl) rfl (jl rfl) (ju_l rfl rfl) rfl (jk rfl hN) (jd_33.trans jo_6.symm) (fun Q' hq => jc_6 hN (Nat.le_trans (jl rfl) hd)  (jo_b h) hq) (fun p6 hp6 h => ?_)
      exact k5 (p6) hp6 h

set_option maxRecDepth 20000 in
set_option maxHeartbeats 1000000 in
theorem jc_176 {X : Nat × (Nat → Int32)} {N d : Nat} {x0 : Int} {x1 : Int} (hN3 : 103 ≤ N) (hd : 7 ≤ d) (hx0 : jg x0) (hx1 : jg x1) {m : jm} {P : Int × Nat × jm → Prop} {Q : px_Q} (h : jo (jf_176 x0 x1 m) P) (hQ0 : ∀ p : Int × Nat × jm, p.2.1 = 0 → jg p.1 → P p → Q (.inl (some (jv p.1))) (jmem N p.2.2)) (hQ1 : ∀ (p : Int × Nat × jm) e, p.2.1 = e + 1 → P p → Q (.inr e) (jmem N p.2.2)) : px_C X d 176 [.ref 0, jv x0, jv x1] (jmem N m) Q := by
  unfold jf_176 at h
  have hN : 102 ≤ N := Nat.le_of_succ_le hN3
  have hu : ju px_m176 (0, 0) := ju_0
  refine jr_inT (M := px_m176) (lev := 6) (L := [some (.ref 0), some (jv x0), some (jv x1), none]) hd hN3 rfl (jl rfl) rfl (fun d hd Q' hQ' => ?_)
  refine jr_al_n (pc' := 1) rfl rfl rfl (jr_il_n (pc' := 2) rfl rfl rfl (jr_al_n (pc' := 3) rfl rfl rfl (jr_gr (pc' := 6) (r := 3) rfl rfl jlk_11_19 (.inl rfl) rfl hN jd_0 rfl rfl rfl (jr_gi (pc' := 9) rfl rfl jlk_11_194 (.inr rfl) rfl hN jd_3 rfl rfl ?_))))
  refine jr_ct_v (pc' := 12) [] rfl rfl jlk_11_213 jq_160 (u' := (1, 6)) rfl (ju_l rfl rfl) (jl rfl) rfl (jl rfl) rfl (jk rfl hN) (jd_0.trans jo_160.symm) (fun Q' hq0 hq1 => jc_160 hN3 (Nat.le_trans (jl rfl) hd) hx0 jg_a (jo_b h) hq0 hq1) (fun p1 h0 hp1 h => jo_i h (fun _ h => ?_) (fun hc _ => absurd h0 hc)) (fun p1 e he h => jo_i h (fun hc _ => absurd (he.symm.trans hc) (Nat.succ_ne_zero e)) (fun _ h => jh_0 rfl (ju_l rfl rfl) (hQ' _ _ (hQ1 (_, _, _) e he h))))
  refine jr_al_n (pc' := 13) rfl rfl rfl (jr_il_n (pc' := 14) rfl rfl rfl (jr_ic (pc' := 15) rfl rfl (jr_ic (pc' := 16) rfl rfl ?_)))
  refine jr_ct_v (pc' := 19) [] rfl rfl jlk_11_187 jq_152 (u' := (2, 12)) rfl (ju_l rfl rfl) (jl rfl) rfl (jl rfl) rfl (jk rfl hN) (jd_0.trans jo_152.symm) (fun Q' hq0 hq1 => jc_152 hN3 (Nat.le_trans (jl rfl) hd) hx1 jgc_0 jgc_1 (jo_b h) hq0 hq1) (fun p2 h0 hp2 h => jo_i h (fun _ h => ?_) (fun hc _ => absurd h0 hc)) (fun p2 e he h => jo_i h (fun hc _ => absurd (he.symm.trans hc) (Nat.succ_ne_zero e)) (fun _ h => jh_0 rfl (ju_l rfl rfl) (hQ' _ _ (hQ1 (_, _, _) e he h))))
  refine jr_al_n (pc' := 20) rfl rfl rfl (jr_gr (pc' := 23) (r := 33) rfl rfl jlk_11_39 (.inl rfl) rfl hN jd_0 rfl rfl rfl (jr_al_n (pc' := 24) rfl rfl rfl (jr_gr (pc' := 27) (r := 47) rfl rfl jlk_11_58 (.inl rfl) rfl hN jd_0 rfl rfl rfl (jr_il_n (pc' := 28) rfl rfl rfl ?_))))
  refine jr_cv_v (pc' := 31) [] rfl rfl jlk_11_360 jq_4 jbd_4 (jl rfl) rfl (jl rfl) (ju_l rfl rfl) rfl (jk rfl hN) (jd_33.trans jo_4.symm) (fun Q' hq => jc_4 hN (Nat.le_trans (jl rfl) hd) hx0 (jo_b h) hq) (fun p3 hp3 h => ?_)
  refine jr_al_n (pc' := 32) rfl rfl rfl (jr_gr (pc' := 35) (r := 33) rfl rfl jlk_11_39 (.inl rfl) rfl hN jd_0 rfl rfl rfl (jr_al_n (pc' := 36) rfl rfl rfl (jr_gr (pc' := 39) (r := 47) rfl rfl jlk_11_58 (.inl rfl) rfl hN jd_0 rfl rfl rfl (jr_il_n (pc' := 40) rfl rfl rfl (jr_al_n (pc' := 41) rfl rfl rfl ?_)))))
  refine jr_gr (pc' := 44) (r := 3) rfl rfl jlk_11_19 (.inl rfl) rfl hN jd_0 rfl rfl rfl (jr_gi (pc' := 47) rfl rfl jlk_11_165 (.inr rfl) rfl hN jd_3 rfl rfl ?_)
  refine jr_cv_i (pc' := 50) [] rfl rfl jlk_11_370 jq_7 jbd_7 (jl rfl) rfl (jl rfl) (ju_l rfl rfl) rfl (jk rfl hN) (jd_33.trans jo_7.symm) (fun Q' hq => jc_7 hN (Nat.le_trans (jl rfl) hd) hx0 jg_a (jo_b h) hq) (fun p4 hp4 h => ?_)
  refine jr_is_n (pc' := 51) (L' := [_, _, _, _]) rfl rfl (jl rfl) rfl rfl (jr_il_n (pc' := 52) rfl rfl rfl ?_)
  refine jr_reg (fun t5 => jg t5.1) (fun t5 => jp X (px_C X d) px_m176 Q' N 77 [some (.ref 0), some (jv x0), some (jv x1), some (jv p4.1)] [(jv t5.1)] t5.2 (2, 12)) h (fun t5 ht5 h => ?_) (fun R18 k6 h => ?_)
  · exact jr_ret rfl (ju_l rfl rfl) rfl (hQ' _ _ (hQ0 (t5.1, 0, t5.2) rfl ht5 h))
  · refine jr_zeq (pa := 60) (pb := 55) rfl rfl rfl hx1 h (fun hc h => ?_) (fun hc h => ?_)
    · refine jr_il_n (pc' := 61) rfl rfl rfl (jr_goto (pc' := 77) rfl rfl ?_)
      exact k6 (p4.1, p4.2) hp4 h
    · refine jr_il_n (pc' := 56) rfl rfl rfl (jr_ic (pc' := 57) rfl rfl ?_)
      refine jr_cne (pa := 60) (pb := 64) rfl rfl rfl hp4 jgc_m1 h (fun hc h => ?_) (fun hc h => ?_)
      · refine jr_il_n (pc' := 61) rfl rfl rfl (jr_goto (pc' := 77) rfl rfl ?_)
        exact k6 (p4.1, p4.2) hp4 h
      · refine jr_al_n (pc' := 65) rfl rfl rfl (jr_gr (pc' := 68) (r := 33) rfl rfl jlk_11_39 (.inl rfl) rfl hN jd_0 rfl rfl rfl (jr_al_n (pc' := 69) rfl rfl rfl (jr_gr (pc' := 72) (r := 47) rfl rfl jlk_11_58 (.inl rfl) rfl hN jd_0 rfl rfl rfl (jr_il_n (pc' := 73) rfl rfl rfl (jr_il_n (pc' := 74) rfl rfl rfl ?_)))))
        refine jr_cv_i (pc' := 77) [] rfl rfl jlk_11_374 jq_8 jbd_8 (jl rfl) rfl (jl rfl) (ju_l rfl rfl) rfl (jk rfl hN) (jd_33.trans jo_8.symm) (fun Q' hq => jc_8 hN (Nat.le_trans (jl rfl) hd) hx0 hp4 (jo_b h) hq) (fun p7 hp7 h => ?_)
        exact k6 (p7.1, p7.2) hp7 h

set_option maxRecDepth 20000 in
set_option maxHeartbeats 1000000 in
theorem jc_177 {X : Nat × (Nat → Int32)} {N d : Nat} {x0 : Int} (hN3 : 103 ≤ N) (hd : 7 ≤ d) (hx0 : jg x0) {m : jm} {P : Int × Nat × jm → Prop} {Q : px_Q} (h : jo (jf_177 x0 m) P) (hQ0 : ∀ p : Int × Nat × jm, p.2.1 = 0 → jg p.1 → P p → Q (.inl (some (jv p.1))) (jmem N p.2.2)) (hQ1 : ∀ (p : Int × Nat × jm) e, p.2.1 = e + 1 → P p → Q (.inr e) (jmem N p.2.2)) : px_C X d 177 [.ref 0, jv x0] (jmem N m) Q := by
  unfold jf_177 at h
  have hN : 102 ≤ N := Nat.le_of_succ_le hN3
  have hu : ju px_m177 (0, 0) := ju_0
  refine jr_inT (M := px_m177) (lev := 6) (L := [some (.ref 0), some (jv x0)]) hd hN3 rfl (jl rfl) rfl (fun d hd Q' hQ' => ?_)
  refine jr_al_n (pc' := 1) rfl rfl rfl (jr_il_n (pc' := 2) rfl rfl rfl (jr_al_n (pc' := 3) rfl rfl rfl (jr_gr (pc' := 6) (r := 3) rfl rfl jlk_11_19 (.inl rfl) rfl hN jd_0 rfl rfl rfl (jr_gi (pc' := 9) rfl rfl jlk_11_138 (.inr rfl) rfl hN jd_3 rfl rfl ?_))))
  refine jr_ct_v (pc' := 12) [] rfl rfl jlk_11_213 jq_160 (u' := (1, 6)) rfl (ju_l rfl rfl) (jl rfl) rfl (jl rfl) rfl (jk rfl hN) (jd_0.trans jo_160.symm) (fun Q' hq0 hq1 => jc_160 hN3 (Nat.le_trans (jl rfl) hd) hx0 jg_a (jo_b h) hq0 hq1) (fun p1 h0 hp1 h => jo_i h (fun _ h => ?_) (fun hc _ => absurd h0 hc)) (fun p1 e he h => jo_i h (fun hc _ => absurd (he.symm.trans hc) (Nat.succ_ne_zero e)) (fun _ h => jh_0 rfl (ju_l rfl rfl) (hQ' _ _ (hQ1 (_, _, _) e he h))))
  refine jr_al_n (pc' := 13) rfl rfl rfl (jr_gr (pc' := 16) (r := 59) rfl rfl jlk_11_90 (.inl rfl) rfl hN jd_0 rfl rfl rfl ?_)
  refine jr_cv_i (pc' := 19) [] rfl rfl jlk_11_377 jq_43 jbd_43 (jl rfl) rfl (jl rfl) (ju_l rfl rfl) rfl (jk rfl hN) (jd_59.trans jo_43.symm) (fun Q' hq => jc_43 hN (Nat.le_trans (jl rfl) hd)  (jo_b h) hq) (fun p2 hp2 h => ?_)
  refine jr_pop (pc' := 20) rfl rfl rfl (jr_al_n (pc' := 21) rfl rfl rfl (jr_gr (pc' := 24) (r := 59) rfl rfl jlk_11_90 (.inl rfl) rfl hN jd_0 rfl rfl rfl (jr_gr (pc' := 27) (r := 62) rfl rfl jlk_11_380 (.inr rfl) rfl hN jd_59 rfl rfl rfl (jr_il_n (pc' := 28) rfl rfl rfl ?_))))
  refine jr_ia (pc' := 29) rfl rfl (jl rfl) hN jd_62 jn_62 hx0 h (fun hc h => ?_)
  exact jr_ret rfl (ju_l rfl rfl) rfl (hQ' _ _ (hQ0 (ja p2.2 62 x0.toNat, 0, p2.2) rfl jg_a h))

set_option maxRecDepth 20000 in
set_option maxHeartbeats 1000000 in
theorem jc_178 {X : Nat × (Nat → Int32)} {N d : Nat} {x0 : Int} {x1 : Int} {x2 : Int} {x3 : Int} (hN3 : 103 ≤ N) (hd : 7 ≤ d) (hx0 : jg x0) (hx1 : jg x1) (hx2 : jg x2) (hx3 : jg x3) {m : jm} {P : Int × Nat × jm → Prop} {Q : px_Q} (h : jo (jf_178 x0 x1 x2 x3 m) P) (hQ0 : ∀ p : Int × Nat × jm, p.2.1 = 0 → jgl p.1 → P p → Q (.inl (some (jvl p.1))) (jmem N p.2.2)) (hQ1 : ∀ (p : Int × Nat × jm) e, p.2.1 = e + 1 → P p → Q (.inr e) (jmem N p.2.2)) : px_C X d 178 [.ref 0, jv x0, jv x1, jv x2, jv x3] (jmem N m) Q := by
  unfold jf_178 at h
  have hN : 102 ≤ N := Nat.le_of_succ_le hN3
  have hu : ju px_m178 (0, 0) := ju_0
  refine jr_inT (M := px_m178) (lev := 6) (L := [some (.ref 0), some (jv x0), some (jv x1), some (jv x2), some (jv x3)]) hd hN3 rfl (jl rfl) rfl (fun d hd Q' hQ' => ?_)
  refine jr_al_n (pc' := 1) rfl rfl rfl (jr_il_n (pc' := 2) rfl rfl rfl (jr_al_n (pc' := 3) rfl rfl rfl (jr_gr (pc' := 6) (r := 3) rfl rfl jlk_11_19 (.inl rfl) rfl hN jd_0 rfl rfl rfl (jr_gi (pc' := 9) rfl rfl jlk_11_194 (.inr rfl) rfl hN jd_3 rfl rfl (jr_il_n (pc' := 10) rfl rfl rfl ?_)))))
  refine jr_al_n (pc' := 11) rfl rfl rfl (jr_gr (pc' := 14) (r := 3) rfl rfl jlk_11_19 (.inl rfl) rfl hN jd_0 rfl rfl rfl (jr_gi (pc' := 17) rfl rfl jlk_11_191 (.inr rfl) rfl hN jd_3 rfl rfl ?_))
  refine jr_ct_v (pc' := 20) [] rfl rfl jlk_11_285 jq_165 (u' := (2, 12)) rfl (ju_l rfl rfl) (jl rfl) rfl (jl rfl) rfl (jk rfl hN) (jd_0.trans jo_165.symm) (fun Q' hq0 hq1 => jc_165 hN3 (Nat.le_trans (jl rfl) hd) hx0 jg_a hx1 jg_a (jo_b h) hq0 hq1) (fun p1 h0 hp1 h => jo_i h (fun _ h => ?_) (fun hc _ => absurd h0 hc)) (fun p1 e he h => jo_i h (fun hc _ => absurd (he.symm.trans hc) (Nat.succ_ne_zero e)) (fun _ h => jh_0 rfl (ju_l rfl rfl) (hQ' _ _ (hQ1 (_, _, _) e he h))))
  refine jr_al_n (pc' := 21) rfl rfl rfl (jr_il_n (pc' := 22) rfl rfl rfl (jr_ic (pc' := 23) rfl rfl (jr_bi (pc' := 25) rfl rfl rfl ?_)))
  refine jr_cs_p (pc' := 28) [_] rfl rfl jlk_11_297 jq_153 jbd_153 (jl rfl) rfl (jl rfl) (ju_l rfl rfl) (fun Q' hq => jc_153 hN (Nat.le_trans (jl rfl) hd) hx2 jgc_0 jgc_16 (jo_b h) hq) (fun p2 hp2 h => ?_)
  refine jr_reg (fun t3 => jb t3) (fun t3 => jp X (px_C X d) px_m178 Q' N 46 [some (.ref 0), some (jv x0), some (jv x1), some (jv x2), some (jv x3)] [(jv t3), (.ref 0)] p1.2 (2, 12)) h (fun t3 ht3 h => ?_) (fun R31 k4 h => ?_)
  · refine jr_ct_v (pc' := 49) [] rfl rfl jlk_11_301 jq_154 (u' := (3, 18)) rfl (ju_l rfl rfl) (jl rfl) rfl (jl rfl) rfl (jk rfl hN) (jd_0.trans jo_154.symm) (fun Q' hq0 hq1 => jc_154 hN3 (Nat.le_trans (jl rfl) hd) (jg_b ht3) (jo_b h) hq0 hq1) (fun p16 h0 hp16 h => jo_i h (fun _ h => ?_) (fun hc _ => absurd h0 hc)) (fun p16 e he h => jo_i h (fun hc _ => absurd (he.symm.trans hc) (Nat.succ_ne_zero e)) (fun _ h => jh_0 rfl (ju_l rfl rfl) (hQ' _ _ (hQ1 (_, _, _) e he h))))
    refine jr_al_n (pc' := 50) rfl rfl rfl (jr_gr (pc' := 53) (r := 56) rfl rfl jlk_11_81 (.inl rfl) rfl hN jd_0 rfl rfl rfl (jr_il_n (pc' := 54) rfl rfl rfl (jr_il_n (pc' := 55) rfl rfl rfl (jr_il_n (pc' := 56) rfl rfl rfl ?_))))
    refine jr_cv_v (pc' := 59) [] rfl rfl jlk_11_383 jq_138 jbd_138 (jl rfl) rfl (jl rfl) (ju_l rfl rfl) rfl (jk rfl hN) (jd_56.trans jo_138.symm) (fun Q' hq => jc_138 hN (Nat.le_trans (jl rfl) hd) hx0 hx1 hx2 (jo_b h) hq) (fun p17 hp17 h => ?_)
    refine jr_il (pc' := 61) rfl rfl rfl ?_
    refine jr_reg (fun t18 => jgl t18) (fun t18 => jp X (px_C X d) px_m178 Q' N 81 [some (.ref 0), some (jv x0), some (jv x1), some (jv x2), some (jv x3)] [(jvl t18)] p17 (3, 18)) h (fun t18 ht18 h => ?_) (fun R30 k19 h => ?_)
    · exact jr_retl rfl (ju_l rfl rfl) rfl (hQ' _ _ (hQ0 (t18, 0, p17) rfl ht18 h))
    · refine jr_zne (pa := 64) (pb := 74) rfl rfl rfl hx3 h (fun hc h => ?_) (fun hc h => ?_)
      · refine jr_al_n (pc' := 65) rfl rfl rfl (jr_gr (pc' := 68) (r := 56) rfl rfl jlk_11_81 (.inl rfl) rfl hN jd_0 rfl rfl rfl (jr_gl (pc' := 71) rfl rfl jlk_11_386 (.inr rfl) rfl hN jd_56 rfl rfl (jr_goto (pc' := 81) rfl rfl ?_)))
        exact k19 (jal p17 56 4) jgl_a h
      · refine jr_al_n (pc' := 75) rfl rfl rfl (jr_gr (pc' := 78) (r := 56) rfl rfl jlk_11_81 (.inl rfl) rfl hN jd_0 rfl rfl rfl (jr_gl (pc' := 81) rfl rfl jlk_11_390 (.inr rfl) rfl hN jd_56 rfl rfl ?_))
        exact k19 (jal p17 56 5) jgl_a h
  · refine jr_zeq (pa := 45) (pb := 31) rfl rfl rfl (jg_b hp2) h (fun hc h => ?_) (fun hc h => ?_)
    · refine jr_ic (pc' := 46) rfl rfl ?_
      exact k4 ((0 : Int)) jb_0 h
    · refine jr_il (pc' := 33) rfl rfl rfl (jr_ic (pc' := 34) rfl rfl (jr_ic (pc' := 35) rfl rfl ?_))
      refine jr_cs_p (pc' := 38) [_] rfl rfl jlk_11_297 jq_153 jbd_153 (jl rfl) rfl (jl rfl) (ju_l rfl rfl) (fun Q' hq => jc_153 hN (Nat.le_trans (jl rfl) hd) hx3 jgc_0 jgc_1 (jo_b h) hq) (fun p5 hp5 h => ?_)
      refine jr_zeq (pa := 45) (pb := 41) rfl rfl rfl (jg_b hp5) h (fun hc h => ?_) (fun hc h => ?_)
      · refine jr_ic (pc' := 46) rfl rfl ?_
        exact k4 ((0 : Int)) jb_0 h
      · refine jr_ic (pc' := 42) rfl rfl (jr_goto (pc' := 46) rfl rfl ?_)
        exact k4 ((1 : Int)) jb_1 h

set_option maxRecDepth 20000 in
set_option maxHeartbeats 1000000 in
theorem jc_180 {X : Nat × (Nat → Int32)} {N d : Nat} {x0 : Int} {x1 : Int} {x2 : Int} {x3 : Int} {x4 : Int} (hN : 102 ≤ N) (hd : 1 ≤ d) (hx0 : jg x0) (hx1 : jg x1) (hx2 : jg x2) (hx3 : jg x3) (hx4 : jg x4) {m : jm} {P : Int → Prop} {Q : px_Q} (h : jo (jf_180 x0 x1 x2 x3 x4 m) P) (hQ : ∀ p : Int, jg p → P p → Q (.inl (some (jv p))) (jmem N m)) : px_C X d 180 [jv x0, jv x1, jv x2, jv x3, jv x4] (jmem N m) Q := by
  unfold jf_180 at h
  have hu : ju px_m180 (0, 0) := ju_0
  refine jr_in (M := px_m180) (lev := 0) (L := [some (jv x0), some (jv x1), some (jv x2), some (jv x3), some (jv x4)]) hd rfl jbd_180 (jl rfl) rfl (fun d hd Q' hQ' => ?_)
  refine jr_il_n (pc' := 1) rfl rfl rfl (jr_ic (pc' := 2) rfl rfl ?_)
  refine jr_cne (pa := 5) (pb := 17) rfl rfl rfl hx0 jgc_1 h (fun hc h => ?_) (fun hc h => ?_)
  · refine jr_il_n (pc' := 6) rfl rfl rfl (jr_ic (pc' := 7) rfl rfl ?_)
    refine jr_reg (fun t1 => jg t1) (fun t1 => jp X (px_C X d) px_m180 Q' N 16 [some (jv x0), some (jv x1), some (jv x2), some (jv x3), some (jv x4)] [(jv t1)] m (0, 0)) h (fun t1 ht1 h => ?_) (fun R13 k2 h => ?_)
    · exact jr_ret rfl hu rfl (hQ' _ _ (hQ t1 ht1 h))
    · refine jr_cne (pa := 10) (pb := 15) rfl rfl rfl hx1 jgc_1 h (fun hc h => ?_) (fun hc h => ?_)
      · refine jr_il_n (pc' := 11) rfl rfl rfl (jr_neg (pc' := 12) rfl rfl (jr_goto (pc' := 16) rfl rfl ?_))
        exact k2 (jw (-x3)) jg_w h
      · refine jr_il_n (pc' := 16) rfl rfl rfl ?_
        exact k2 (x2) hx2 h
  · refine jr_il_n (pc' := 18) rfl rfl rfl (jr_ic (pc' := 19) rfl rfl ?_)
    refine jr_reg (fun t14 => jg t14) (fun t14 => jp X (px_C X d) px_m180 Q' N 29 [some (jv x0), some (jv x1), some (jv x2), some (jv x3), some (jv x4)] [(jv t14)] m (0, 0)) h (fun t14 ht14 h => ?_) (fun R26 k15 h => ?_)
    · exact jr_ret rfl hu rfl (hQ' _ _ (hQ t14 ht14 h))
    · refine jr_cne (pa := 22) (pb := 28) rfl rfl rfl hx1 jgc_1 h (fun hc h => ?_) (fun hc h => ?_)
      · refine jr_il (pc' := 24) rfl rfl rfl (jr_neg (pc' := 25) rfl rfl (jr_goto (pc' := 29) rfl rfl ?_))
        exact k15 (jw (-x4)) jg_w h
      · refine jr_ic (pc' := 29) rfl rfl ?_
        exact k15 ((0 : Int)) jgc_0 h

set_option maxRecDepth 20000 in
set_option maxHeartbeats 1000000 in
theorem jc_179 {X : Nat × (Nat → Int32)} {N d : Nat} {x0 : Int} {x1 : Int} {x2 : Int} {x3 : Int} (hN3 : 103 ≤ N) (hd : 2 ≤ d) (hx0 : jg x0) (hx1 : jg x1) (hx2 : jg x2) (hx3 : jg x3) {m : jm} {P : Int × Nat × jm → Prop} {Q : px_Q} (h : jo (jf_179 x0 x1 x2 x3 m) P) (hQ0 : ∀ p : Int × Nat × jm, p.2.1 = 0 → jg p.1 → P p → Q (.inl (some (jv p.1))) (jmem N p.2.2)) (hQ1 : ∀ (p : Int × Nat × jm) e, p.2.1 = e + 1 → P p → Q (.inr e) (jmem N p.2.2)) : px_C X d 179 [.ref 0, jv x0, jv x1, jv x2, jv x3] (jmem N m) Q := by
  unfold jf_179 at h
  have hN : 102 ≤ N := Nat.le_of_succ_le hN3
  have hu : ju px_m179 (0, 0) := ju_0
  refine jr_inT (M := px_m179) (lev := 1) (L := [some (.ref 0), some (jv x0), some (jv x1), some (jv x2), some (jv x3), none, none, none, none, none, none, none, none]) hd hN3 rfl (jl rfl) rfl (fun d hd Q' hQ' => ?_)
  refine jr_al_n (pc' := 1) rfl rfl rfl (jr_il_n (pc' := 2) rfl rfl rfl (jr_ic (pc' := 3) rfl rfl (jr_bi (pc' := 5) rfl rfl rfl ?_)))
  refine jr_cs_p (pc' := 8) [_] rfl rfl jlk_11_297 jq_153 jbd_153 (jl rfl) rfl (jl rfl) hu (fun Q' hq => jc_153 hN (Nat.le_trans (jl rfl) hd) hx0 jgc_0 jgc_99 (jo_b h) hq) (fun p1 hp1 h => ?_)
  refine jr_reg (fun t2 => jb t2) (fun t2 => jp X (px_C X d) px_m179 Q' N 46 [some (.ref 0), some (jv x0), some (jv x1), some (jv x2), some (jv x3), none, none, none, none, none, none, none, none] [(jv t2), (.ref 0)] m (0, 0)) h (fun t2 ht2 h => ?_) (fun R114 k3 h => ?_)
  · refine jr_ct_v (pc' := 49) [] rfl rfl jlk_11_301 jq_154 (u' := (1, 6)) rfl (ju_l rfl rfl) (jl rfl) rfl (jl rfl) rfl (jk rfl hN) (jd_0.trans jo_154.symm) (fun Q' hq0 hq1 => jc_154 hN3 (Nat.le_trans (jl rfl) hd) (jg_b ht2) (jo_b h) hq0 hq1) (fun p17 h0 hp17 h => jo_i h (fun _ h => ?_) (fun hc _ => absurd h0 hc)) (fun p17 e he h => jo_i h (fun hc _ => absurd (he.symm.trans hc) (Nat.succ_ne_zero e)) (fun _ h => jh_0 rfl (ju_l rfl rfl) (hQ' _ _ (hQ1 (_, _, _) e he h))))
    refine jr_ic (pc' := 50) rfl rfl (jr_is (pc' := 52) (L' := [_, _, _, _, _, _, _, _, _, _, _, _, _]) rfl rfl (jl rfl) rfl rfl (jr_ic (pc' := 53) rfl rfl (jr_is (pc' := 55) (L' := [_, _, _, _, _, _, _, _, _, _, _, _, _]) rfl rfl (jl rfl) rfl rfl (jr_ic (pc' := 56) rfl rfl (jr_is (pc' := 58) (L' := [_, _, _, _, _, _, _, _, _, _, _, _, _]) rfl rfl (jl rfl) rfl rfl ?_)))))
    refine jr_ic (pc' := 59) rfl rfl (jr_is (pc' := 61) (L' := [_, _, _, _, _, _, _, _, _, _, _, _, _]) rfl rfl (jl rfl) rfl rfl ?_)
    refine jr_reg (fun t25 => jg t25.1 ∧ jg t25.2.1 ∧ jg t25.2.2) (fun t25 => ∀ o26, jn o26 → ∀ o27, jn o27 → ∀ o28, jn o28 → ∀ o29, jn o29 → ∀ o30, jn o30 → jp X (px_C X d) px_m179 Q' N 200 [some (.ref 0), some (jv x0), some (jv x1), some (jv x2), some (jv x3), some (jv t25.1), some (jv t25.2.1), some (jv t25.2.2), o26, o27, o28, o29, o30] [] p17.2 (1, 6)) h (fun t25 ht25 h o26 ho26 o27 ho27 o28 ho28 o29 ho29 o30 ho30 => ?_) (fun R32 k31 h => ?_)
    · refine jr_il (pc' := 202) rfl rfl rfl ?_
      refine jr_zne (pa := 205) (pb := 208) rfl rfl rfl hx3 h (fun hc h => ?_) (fun hc h => ?_)
      · refine jr_il (pc' := 207) rfl rfl rfl ?_
        exact jr_ret rfl (ju_l rfl rfl) rfl (hQ' _ _ (hQ0 (t25.1, 0, p17.2) rfl ht25.1 h))
      · refine jr_il (pc' := 210) rfl rfl rfl (jr_ic (pc' := 211) rfl rfl ?_)
        refine jr_reg (fun t101 => jg t101) (fun t101 => jp X (px_C X d) px_m179 Q' N 221 [some (.ref 0), some (jv x0), some (jv x1), some (jv x2), some (jv x3), some (jv t25.1), some (jv t25.2.1), some (jv t25.2.2), o26, o27, o28, o29, o30] [(jv t101)] p17.2 (1, 6)) h (fun t101 ht101 h => ?_) (fun R113 k102 h => ?_)
        · exact jr_ret rfl (ju_l rfl rfl) rfl (hQ' _ _ (hQ0 (t101, 0, p17.2) rfl ht101 h))
        · refine jr_cne (pa := 214) (pb := 219) rfl rfl rfl hx3 jgc_1 h (fun hc h => ?_) (fun hc h => ?_)
          · refine jr_il (pc' := 216) rfl rfl rfl (jr_goto (pc' := 221) rfl rfl ?_)
            exact k102 (t25.2.1) ht25.2.1 h
          · refine jr_il (pc' := 221) rfl rfl rfl ?_
            exact k102 (t25.2.2) ht25.2.2 h
    · refine jr_lp (fun s18 => jg s18.1 ∧ jg s18.2.1 ∧ jg s18.2.2.1 ∧ jg s18.2.2.2) (fun s18 => ∀ o19, jn o19 → ∀ o20, jn o20 → ∀ o21, jn o21 → ∀ o22, jn o22 → jp X (px_C X d) px_m179 Q' N 61 [some (.ref 0), some (jv x0), some (jv x1), some (jv x2), some (jv x3), some (jv s18.1), some (jv s18.2.1), some (jv s18.2.2.1), some (jv s18.2.2.2), o19, o20, o21, o22] [] p17.2 (1, 6)) h ⟨jgc_0, jgc_m1, jgc_0, jgc_0⟩ (fun s18 hs18 R24 k23 h o19 ho19 o20 ho20 o21 ho21 o22 ho22 => ?_) _ jn_n _ jn_n _ jn_n _ jn_n
      refine jr_il (pc' := 63) rfl rfl rfl (jr_ic (pc' := 64) rfl rfl ?_)
      refine jr_cge (pa := 67) (pb := 200) rfl rfl rfl hs18.2.2.2 jgc_4 h (fun hc h => ?_) (fun hc h => ?_)
      · refine jr_il (pc' := 69) rfl rfl rfl (jr_ic (pc' := 70) rfl rfl (jr_div (pc' := 71) rfl rfl jgc_2 (by decide) (jr_is (pc' := 73) (L' := [_, _, _, _, _, _, _, _, _, _, _, _, _]) rfl rfl (jl rfl) rfl rfl (jr_il (pc' := 75) rfl rfl rfl (jr_ic (pc' := 76) rfl rfl ?_)))))
        refine jr_rem (pc' := 77) rfl rfl jgc_2 (by decide) (jr_is (pc' := 79) (L' := [_, _, _, _, _, _, _, _, _, _, _, _, _]) rfl rfl (jl rfl) rfl rfl (jr_il (pc' := 81) rfl rfl rfl (jr_il (pc' := 83) rfl rfl rfl (jr_il_n (pc' := 84) rfl rfl rfl (jr_il_n (pc' := 85) rfl rfl rfl ?_)))))
        refine jr_il_n (pc' := 86) rfl rfl rfl ?_
        refine jr_cs_p (pc' := 89) [] rfl rfl jlk_11_393 jq_180 jbd_180 (jl rfl) rfl (jl rfl) (ju_l rfl rfl) (fun Q' hq => jc_180 hN (Nat.le_trans (jl rfl) hd) jg_div jg_rem hx0 hx1 hx2 (jo_b h) hq) (fun p33 hp33 h => ?_)
        refine jr_ic (pc' := 90) rfl rfl (jr_il (pc' := 92) rfl rfl rfl (jr_sub (pc' := 93) rfl rfl (jr_il (pc' := 95) rfl rfl rfl (jr_il_n (pc' := 96) rfl rfl rfl (jr_il_n (pc' := 97) rfl rfl rfl ?_)))))
        refine jr_il_n (pc' := 98) rfl rfl rfl ?_
        refine jr_cs_p (pc' := 101) [_] rfl rfl jlk_11_393 jq_180 jbd_180 (jl rfl) rfl (jl rfl) (ju_l rfl rfl) (fun Q' hq => jc_180 hN (Nat.le_trans (jl rfl) hd) jg_w jg_rem hx0 hx1 hx2 (jo_b h) hq) (fun p34 hp34 h => ?_)
        refine jr_reg (fun t35 => jb t35) (fun t35 => jp X (px_C X d) px_m179 Q' N 109 [some (.ref 0), some (jv x0), some (jv x1), some (jv x2), some (jv x3), some (jv s18.1), some (jv s18.2.1), some (jv s18.2.2.1), some (jv s18.2.2.2), some (jv (jdiv s18.2.2.2 (2 : Int))), some (jv (jrem s18.2.2.2 (2 : Int))), o21, o22] [(jv t35)] p17.2 (1, 6)) h (fun t35 ht35 h => ?_) (fun R90 k36 h => ?_)
        · refine jr_is (pc' := 111) (L' := [_, _, _, _, _, _, _, _, _, _, _, _, _]) rfl rfl (jl rfl) rfl rfl (jr_il (pc' := 113) rfl rfl rfl (jr_il (pc' := 115) rfl rfl rfl (jr_il_n (pc' := 116) rfl rfl rfl (jr_il_n (pc' := 117) rfl rfl rfl (jr_il_n (pc' := 118) rfl rfl rfl ?_)))))
          refine jr_cs_p (pc' := 121) [] rfl rfl jlk_11_393 jq_180 jbd_180 (jl rfl) rfl (jl rfl) (ju_l rfl rfl) (fun Q' hq => jc_180 hN (Nat.le_trans (jl rfl) hd) jg_rem jg_div hx0 hx1 hx2 (jo_b h) hq) (fun p47 hp47 h => ?_)
          refine jr_ic (pc' := 122) rfl rfl (jr_il (pc' := 124) rfl rfl rfl (jr_sub (pc' := 125) rfl rfl (jr_il (pc' := 127) rfl rfl rfl (jr_il_n (pc' := 128) rfl rfl rfl (jr_il_n (pc' := 129) rfl rfl rfl ?_)))))
          refine jr_il_n (pc' := 130) rfl rfl rfl ?_
          refine jr_cs_p (pc' := 133) [_] rfl rfl jlk_11_393 jq_180 jbd_180 (jl rfl) rfl (jl rfl) (ju_l rfl rfl) (fun Q' hq => jc_180 hN (Nat.le_trans (jl rfl) hd) jg_w jg_div hx0 hx1 hx2 (jo_b h) hq) (fun p48 hp48 h => ?_)
          refine jr_reg (fun t49 => jb t49) (fun t49 => jp X (px_C X d) px_m179 Q' N 141 [some (.ref 0), some (jv x0), some (jv x1), some (jv x2), some (jv x3), some (jv s18.1), some (jv s18.2.1), some (jv s18.2.2.1), some (jv s18.2.2.2), some (jv (jdiv s18.2.2.2 (2 : Int))), some (jv (jrem s18.2.2.2 (2 : Int))), some (jv t35), o22] [(jv t49)] p17.2 (1, 6)) h (fun t49 ht49 h => ?_) (fun R89 k50 h => ?_)
          · refine jr_is (pc' := 143) (L' := [_, _, _, _, _, _, _, _, _, _, _, _, _]) rfl rfl (jl rfl) rfl rfl (jr_il (pc' := 145) rfl rfl rfl ?_)
            refine jr_reg (fun t61 => jg t61.1 ∧ jg t61.2.1 ∧ jg t61.2.2) (fun t61 => jp X (px_C X d) px_m179 Q' N 194 [some (.ref 0), some (jv x0), some (jv x1), some (jv x2), some (jv x3), some (jv t61.1), some (jv t61.2.1), some (jv t61.2.2), some (jv s18.2.2.2), some (jv (jdiv s18.2.2.2 (2 : Int))), some (jv (jrem s18.2.2.2 (2 : Int))), some (jv t35), some (jv t49)] [] p17.2 (1, 6)) h (fun t61 ht61 h => ?_) (fun R88 k62 h => ?_)
            · refine jr_inc (pc' := 197) (L' := [_, _, _, _, _, _, _, _, _, _, _, _, _]) rfl rfl rfl (jl rfl) rfl rfl (jr_goto (pc' := 61) rfl rfl ?_)
              exact k23 (t61.1, t61.2.1, t61.2.2, jw (s18.2.2.2 + 1)) ⟨ht61.1, ht61.2.1, ht61.2.2, jg_w⟩ h _ jn_i _ jn_i _ jn_i _ jn_i
            · refine jr_zeq (pa := 194) (pb := 148) rfl rfl rfl (jg_b ht35) h (fun hc h => ?_) (fun hc h => ?_)
              · exact k62 (s18.1, s18.2.1, s18.2.2.1) ⟨hs18.1, hs18.2.1, hs18.2.2.1⟩ h
              · refine jr_il (pc' := 150) rfl rfl rfl ?_
                refine jr_zeq (pa := 194) (pb := 153) rfl rfl rfl (jg_b ht49) h (fun hc h => ?_) (fun hc h => ?_)
                · exact k62 (s18.1, s18.2.1, s18.2.2.1) ⟨hs18.1, hs18.2.1, hs18.2.2.1⟩ h
                · refine jr_il (pc' := 155) rfl rfl rfl ?_
                  refine jr_reg (fun t63 => jg t63.1 ∧ jg t63.2) (fun t63 => jp X (px_C X d) px_m179 Q' N 191 [some (.ref 0), some (jv x0), some (jv x1), some (jv x2), some (jv x3), some (jv s18.1), some (jv t63.1), some (jv t63.2), some (jv s18.2.2.2), some (jv (jdiv s18.2.2.2 (2 : Int))), some (jv (jrem s18.2.2.2 (2 : Int))), some (jv t35), some (jv t49)] [] p17.2 (1, 6)) h (fun t63 ht63 h => ?_) (fun R77 k64 h => ?_)
                  · refine jr_inc (pc' := 194) (L' := [_, _, _, _, _, _, _, _, _, _, _, _, _]) rfl rfl rfl (jl rfl) rfl rfl ?_
                    exact k62 (jw (s18.1 + 1), t63.1, t63.2) ⟨jg_w, ht63.1, ht63.2⟩ h
                  · refine jr_zne (pa := 158) (pb := 191) rfl rfl rfl hs18.1 h (fun hc h => ?_) (fun hc h => ?_)
                    · refine jr_bi (pc' := 160) rfl rfl rfl (jr_il (pc' := 162) rfl rfl rfl (jr_mul (pc' := 163) rfl rfl (jr_il (pc' := 165) rfl rfl rfl (jr_add (pc' := 166) rfl rfl (jr_is (pc' := 168) (L' := [_, _, _, _, _, _, _, _, _, _, _, _, _]) rfl rfl (jl rfl) rfl rfl ?_)))))
                      refine jr_il (pc' := 170) rfl rfl rfl (jr_il (pc' := 172) rfl rfl rfl (jr_il_n (pc' := 173) rfl rfl rfl (jr_il_n (pc' := 174) rfl rfl rfl (jr_il_n (pc' := 175) rfl rfl rfl ?_))))
                      refine jr_cs_p (pc' := 178) [] rfl rfl jlk_11_393 jq_180 jbd_180 (jl rfl) rfl (jl rfl) (ju_l rfl rfl) (fun Q' hq => jc_180 hN (Nat.le_trans (jl rfl) hd) jg_div jg_rem hx0 hx1 hx2 (jo_b h) hq) (fun p65 hp65 h => ?_)
                      refine jr_il (pc' := 180) rfl rfl rfl (jr_il (pc' := 182) rfl rfl rfl (jr_il_n (pc' := 183) rfl rfl rfl (jr_il_n (pc' := 184) rfl rfl rfl (jr_il_n (pc' := 185) rfl rfl rfl ?_))))
                      refine jr_cs_p (pc' := 188) [_] rfl rfl jlk_11_393 jq_180 jbd_180 (jl rfl) rfl (jl rfl) (ju_l rfl rfl) (fun Q' hq => jc_180 hN (Nat.le_trans (jl rfl) hd) jg_rem jg_div hx0 hx1 hx2 (jo_b h) hq) (fun p66 hp66 h => ?_)
                      refine jr_add (pc' := 189) rfl rfl (jr_is (pc' := 191) (L' := [_, _, _, _, _, _, _, _, _, _, _, _, _]) rfl rfl (jl rfl) rfl rfl ?_)
                      exact k64 (jw ((jw ((10 : Int) * (jdiv s18.2.2.2 (2 : Int)))) + (jrem s18.2.2.2 (2 : Int))), jw (p65 + p66)) ⟨jg_w, jg_w⟩ h
                    · exact k64 (s18.2.1, s18.2.2.1) ⟨hs18.2.1, hs18.2.2.1⟩ h
          · refine jr_clt (pa := 140) (pb := 136) rfl rfl rfl hp47 hp48 h (fun hc h => ?_) (fun hc h => ?_)
            · refine jr_ic (pc' := 141) rfl rfl ?_
              exact k50 ((0 : Int)) jb_0 h
            · refine jr_ic (pc' := 137) rfl rfl (jr_goto (pc' := 141) rfl rfl ?_)
              exact k50 ((1 : Int)) jb_1 h
        · refine jr_clt (pa := 108) (pb := 104) rfl rfl rfl hp33 hp34 h (fun hc h => ?_) (fun hc h => ?_)
          · refine jr_ic (pc' := 109) rfl rfl ?_
            exact k36 ((0 : Int)) jb_0 h
          · refine jr_ic (pc' := 105) rfl rfl (jr_goto (pc' := 109) rfl rfl ?_)
            exact k36 ((1 : Int)) jb_1 h
      · exact k31 (s18.1, s18.2.1, s18.2.2.1) ⟨hs18.1, hs18.2.1, hs18.2.2.1⟩ h _ jn_i _ ho19 _ ho20 _ ho21 _ ho22
  · refine jr_zeq (pa := 45) (pb := 11) rfl rfl rfl (jg_b hp1) h (fun hc h => ?_) (fun hc h => ?_)
    · refine jr_ic (pc' := 46) rfl rfl ?_
      exact k3 ((0 : Int)) jb_0 h
    · refine jr_il_n (pc' := 12) rfl rfl rfl (jr_ic (pc' := 13) rfl rfl (jr_bi (pc' := 15) rfl rfl rfl ?_))
      refine jr_cs_p (pc' := 18) [_] rfl rfl jlk_11_297 jq_153 jbd_153 (jl rfl) rfl (jl rfl) hu (fun Q' hq => jc_153 hN (Nat.le_trans (jl rfl) hd) hx1 jgc_0 jgc_99 (jo_b h) hq) (fun p4 hp4 h => ?_)
      refine jr_zeq (pa := 45) (pb := 21) rfl rfl rfl (jg_b hp4) h (fun hc h => ?_) (fun hc h => ?_)
      · refine jr_ic (pc' := 46) rfl rfl ?_
        exact k3 ((0 : Int)) jb_0 h
      · refine jr_il_n (pc' := 22) rfl rfl rfl (jr_ic (pc' := 23) rfl rfl (jr_bi (pc' := 25) rfl rfl rfl ?_))
        refine jr_cs_p (pc' := 28) [_] rfl rfl jlk_11_297 jq_153 jbd_153 (jl rfl) rfl (jl rfl) hu (fun Q' hq => jc_153 hN (Nat.le_trans (jl rfl) hd) hx2 jgc_0 jgc_99 (jo_b h) hq) (fun p5 hp5 h => ?_)
        refine jr_zeq (pa := 45) (pb := 31) rfl rfl rfl (jg_b hp5) h (fun hc h => ?_) (fun hc h => ?_)
        · refine jr_ic (pc' := 46) rfl rfl ?_
          exact k3 ((0 : Int)) jb_0 h
        · refine jr_il (pc' := 33) rfl rfl rfl (jr_ic (pc' := 34) rfl rfl (jr_ic (pc' := 35) rfl rfl ?_))
          refine jr_cs_p (pc' := 38) [_] rfl rfl jlk_11_297 jq_153 jbd_153 (jl rfl) rfl (jl rfl) hu (fun Q' hq => jc_153 hN (Nat.le_trans (jl rfl) hd) hx3 jgc_0 jgc_2 (jo_b h) hq) (fun p6 hp6 h => ?_)
          refine jr_zeq (pa := 45) (pb := 41) rfl rfl rfl (jg_b hp6) h (fun hc h => ?_) (fun hc h => ?_)
          · refine jr_ic (pc' := 46) rfl rfl ?_
            exact k3 ((0 : Int)) jb_0 h
          · refine jr_ic (pc' := 42) rfl rfl (jr_goto (pc' := 46) rfl rfl ?_)
            exact k3 ((1 : Int)) jb_1 h

set_option maxRecDepth 20000 in
set_option maxHeartbeats 1000000 in
theorem jc_181 {X : Nat × (Nat → Int32)} {N d : Nat} {x0 : Int} {x1 : Int} {x2 : Int} (hN3 : 103 ≤ N) (hd : 3 ≤ d) (hx0 : jg x0) (hx1 : jg x1) (hx2 : jg x2) {m : jm} {P : Int × Nat × jm → Prop} {Q : px_Q} (h : jo (jf_181 x0 x1 x2 m) P) (hQ0 : ∀ p : Int × Nat × jm, p.2.1 = 0 → jg p.1 → P p → Q (.inl (some (jv p.1))) (jmem N p.2.2)) (hQ1 : ∀ (p : Int × Nat × jm) e, p.2.1 = e + 1 → P p → Q (.inr e) (jmem N p.2.2)) : px_C X d 181 [.ref 0, jv x0, jv x1, jv x2] (jmem N m) Q := by
  unfold jf_181 at h
  have hN : 102 ≤ N := Nat.le_of_succ_le hN3
  have hu : ju px_m181 (0, 0) := ju_0
  refine jr_inT (M := px_m181) (lev := 2) (L := [some (.ref 0), some (jv x0), some (jv x1), some (jv x2)]) hd hN3 rfl (jl rfl) rfl (fun d hd Q' hQ' => ?_)
  refine jr_al_n (pc' := 1) rfl rfl rfl (jr_il_n (pc' := 2) rfl rfl rfl (jr_al_n (pc' := 3) rfl rfl rfl (jr_gr (pc' := 6) (r := 3) rfl rfl jlk_11_19 (.inl rfl) rfl hN jd_0 rfl rfl rfl (jr_gi (pc' := 9) rfl rfl jlk_11_138 (.inr rfl) rfl hN jd_3 rfl rfl ?_))))
  refine jr_ct_v (pc' := 12) [] rfl rfl jlk_11_213 jq_160 (u' := (1, 6)) rfl (ju_l rfl rfl) (jl rfl) rfl (jl rfl) rfl (jk rfl hN) (jd_0.trans jo_160.symm) (fun Q' hq0 hq1 => jc_160 hN3 (Nat.le_trans (jl rfl) hd) hx0 jg_a (jo_b h) hq0 hq1) (fun p1 h0 hp1 h => jo_i h (fun _ h => ?_) (fun hc _ => absurd h0 hc)) (fun p1 e he h => jo_i h (fun hc _ => absurd (he.symm.trans hc) (Nat.succ_ne_zero e)) (fun _ h => jh_0 rfl (ju_l rfl rfl) (hQ' _ _ (hQ1 (_, _, _) e he h))))
  refine jr_al_n (pc' := 13) rfl rfl rfl (jr_il_n (pc' := 14) rfl rfl rfl (jr_ic (pc' := 15) rfl rfl (jr_si (pc' := 18) rfl rfl rfl ?_)))
  refine jr_cs_p (pc' := 21) [_] rfl rfl jlk_11_297 jq_153 jbd_153 (jl rfl) rfl (jl rfl) (ju_l rfl rfl) (fun Q' hq => jc_153 hN (Nat.le_trans (jl rfl) hd) hx2 jgc_0 jgc_999 (jo_b h) hq) (fun p2 hp2 h => ?_)
  refine jr_reg (fun t3 => jb t3) (fun t3 => jp X (px_C X d) px_m181 Q' N 48 [some (.ref 0), some (jv x0), some (jv x1), some (jv x2)] [(jv t3), (.ref 0)] p1.2 (1, 6)) h (fun t3 ht3 h => ?_) (fun R18 k4 h => ?_)
  · refine jr_ct_v (pc' := 51) [] rfl rfl jlk_11_301 jq_154 (u' := (2, 12)) rfl (ju_l rfl rfl) (jl rfl) rfl (jl rfl) rfl (jk rfl hN) (jd_0.trans jo_154.symm) (fun Q' hq0 hq1 => jc_154 hN3 (Nat.le_trans (jl rfl) hd) (jg_b ht3) (jo_b h) hq0 hq1) (fun p16 h0 hp16 h => jo_i h (fun _ h => ?_) (fun hc _ => absurd h0 hc)) (fun p16 e he h => jo_i h (fun hc _ => absurd (he.symm.trans hc) (Nat.succ_ne_zero e)) (fun _ h => jh_0 rfl (ju_l rfl rfl) (hQ' _ _ (hQ1 (_, _, _) e he h))))
    refine jr_al_n (pc' := 52) rfl rfl rfl (jr_gr (pc' := 55) (r := 3) rfl rfl jlk_11_19 (.inl rfl) rfl hN jd_0 rfl rfl rfl (jr_il_n (pc' := 56) rfl rfl rfl (jr_il_n (pc' := 57) rfl rfl rfl (jr_il_n (pc' := 58) rfl rfl rfl ?_))))
    refine jr_cv_p (pc' := 61) [] rfl rfl jlk_11_397 jq_21 jbd_21 (jl rfl) rfl (jl rfl) (ju_l rfl rfl) rfl (jk rfl hN) (jd_3.trans jo_21.symm) (fun Q' hq => jc_21 hN (Nat.le_trans (jl rfl) hd) hx0 hx1 hx2 (jo_b h) hq) (fun p17 hp17 h => ?_)
    exact jr_ret rfl (ju_l rfl rfl) rfl (hQ' _ _ (hQ0 (p17, 0, p16.2) rfl hp17 h))
  · refine jr_zeq (pa := 47) (pb := 24) rfl rfl rfl (jg_b hp2) h (fun hc h => ?_) (fun hc h => ?_)
    · refine jr_ic (pc' := 48) rfl rfl ?_
      exact k4 ((0 : Int)) jb_0 h
    · refine jr_il_n (pc' := 25) rfl rfl rfl (jr_ic (pc' := 26) rfl rfl (jr_ic (pc' := 27) rfl rfl (jr_al_n (pc' := 28) rfl rfl rfl (jr_gr (pc' := 31) (r := 3) rfl rfl jlk_11_19 (.inl rfl) rfl hN jd_0 rfl rfl rfl (jr_gi (pc' := 34) rfl rfl jlk_11_138 (.inr rfl) rfl hN jd_3 rfl rfl ?_)))))
      refine jr_shl (pc' := 35) rfl rfl (jr_ic (pc' := 36) rfl rfl (jr_sub (pc' := 37) rfl rfl ?_))
      refine jr_cs_p (pc' := 40) [_] rfl rfl jlk_11_297 jq_153 jbd_153 (jl rfl) rfl (jl rfl) (ju_l rfl rfl) (fun Q' hq => jc_153 hN (Nat.le_trans (jl rfl) hd) hx1 jgc_0 jg_w (jo_b h) hq) (fun p5 hp5 h => ?_)
      refine jr_zeq (pa := 47) (pb := 43) rfl rfl rfl (jg_b hp5) h (fun hc h => ?_) (fun hc h => ?_)
      · refine jr_ic (pc' := 48) rfl rfl ?_
        exact k4 ((0 : Int)) jb_0 h
      · refine jr_ic (pc' := 44) rfl rfl (jr_goto (pc' := 48) rfl rfl ?_)
        exact k4 ((1 : Int)) jb_1 h

set_option maxRecDepth 20000 in
set_option maxHeartbeats 1000000 in
theorem jc_182 {X : Nat × (Nat → Int32)} {N d : Nat} {x0 : Int} (hN3 : 103 ≤ N) (hd : 3 ≤ d) (hx0 : jg x0) {m : jm} {P : Int × Nat × jm → Prop} {Q : px_Q} (h : jo (jf_182 x0 m) P) (hQ0 : ∀ p : Int × Nat × jm, p.2.1 = 0 → jg p.1 → P p → Q (.inl (some (jv p.1))) (jmem N p.2.2)) (hQ1 : ∀ (p : Int × Nat × jm) e, p.2.1 = e + 1 → P p → Q (.inr e) (jmem N p.2.2)) : px_C X d 182 [.ref 0, jv x0] (jmem N m) Q := by
  unfold jf_182 at h
  have hN : 102 ≤ N := Nat.le_of_succ_le hN3
  have hu : ju px_m182 (0, 0) := ju_0
  refine jr_inT (M := px_m182) (lev := 2) (L := [some (.ref 0), some (jv x0), none]) hd hN3 rfl (jl rfl) rfl (fun d hd Q' hQ' => ?_)
  refine jr_al_n (pc' := 1) rfl rfl rfl (jr_il_n (pc' := 2) rfl rfl rfl (jr_ic (pc' := 3) rfl rfl (jr_ic (pc' := 4) rfl rfl ?_)))
  refine jr_ct_v (pc' := 7) [] rfl rfl jlk_11_187 jq_152 (u' := (1, 6)) rfl (ju_l rfl rfl) (jl rfl) rfl (jl rfl) rfl (jk rfl hN) (jd_0.trans jo_152.symm) (fun Q' hq0 hq1 => jc_152 hN3 (Nat.le_trans (jl rfl) hd) hx0 jgc_0 jgc_1 (jo_b h) hq0 hq1) (fun p1 h0 hp1 h => jo_i h (fun _ h => ?_) (fun hc _ => absurd h0 hc)) (fun p1 e he h => jo_i h (fun hc _ => absurd (he.symm.trans hc) (Nat.succ_ne_zero e)) (fun _ h => jh_0 rfl (ju_l rfl rfl) (hQ' _ _ (hQ1 (_, _, _) e he h))))
  refine jr_al_n (pc' := 8) rfl rfl rfl (jr_gr (pc' := 11) (r := 47) rfl rfl jlk_11_58 (.inl rfl) rfl hN jd_0 rfl rfl rfl ?_)
  refine jr_cv_p (pc' := 14) [] rfl rfl jlk_11_400 jq_95 jbd_95 (jl rfl) rfl (jl rfl) (ju_l rfl rfl) rfl (jk rfl hN) (jd_47.trans jo_95.symm) (fun Q' hq => jc_95 hN (Nat.le_trans (jl rfl) hd) (.inl rfl) (jo_b h) hq) (fun p2 hp2 h => ?_)
  refine jr_is_n (pc' := 15) (L' := [_, _, _]) rfl rfl (jl rfl) rfl rfl (jr_il_n (pc' := 16) rfl rfl rfl ?_)
  refine jr_reg (fun t3 => jg t3) (fun t3 => jp X (px_C X d) px_m182 Q' N 36 [some (.ref 0), some (jv x0), some (jv p2)] [(jv t3)] p1.2 (1, 6)) h (fun t3 ht3 h => ?_) (fun R16 k4 h => ?_)
  · exact jr_ret rfl (ju_l rfl rfl) rfl (hQ' _ _ (hQ0 (t3, 0, p1.2) rfl ht3 h))
  · refine jr_zeq (pa := 24) (pb := 19) rfl rfl rfl hx0 h (fun hc h => ?_) (fun hc h => ?_)
    · refine jr_il_n (pc' := 25) rfl rfl rfl (jr_goto (pc' := 36) rfl rfl ?_)
      exact k4 (p2) hp2 h
    · refine jr_il_n (pc' := 20) rfl rfl rfl (jr_ic (pc' := 21) rfl rfl ?_)
      refine jr_cne (pa := 24) (pb := 28) rfl rfl rfl hp2 jgc_m1 h (fun hc h => ?_) (fun hc h => ?_)
      · refine jr_il_n (pc' := 25) rfl rfl rfl (jr_goto (pc' := 36) rfl rfl ?_)
        exact k4 (p2) hp2 h
      · refine jr_al_n (pc' := 29) rfl rfl rfl (jr_gr (pc' := 32) (r := 47) rfl rfl jlk_11_58 (.inl rfl) rfl hN jd_0 rfl rfl rfl (jr_il_n (pc' := 33) rfl rfl rfl ?_))
        refine jr_cv_p (pc' := 36) [] rfl rfl jlk_11_239 jq_66 jbd_66 (jl rfl) rfl (jl rfl) (ju_l rfl rfl) rfl (jk rfl hN) (jd_47.trans jo_66.symm) (fun Q' hq => jc_66 hN (Nat.le_trans (jl rfl) hd) (.inl rfl) hp2 (jo_b h) hq) (fun p5 hp5 h => ?_)
        exact k4 (p5) hp5 h

