/-! the pure machine follows the functions, 22 (written by wip/whole/gen/walk.py) -/
set_option maxRecDepth 20000 in
set_option maxHeartbeats 1000000 in
theorem jc_320 {X : Nat × (Nat → Int32)} {N d : Nat} {x1 : Int} {x2 : Int} {x3 : Int} (hN3 : 103 ≤ N) (hd : 8 ≤ d) (hx1 : jg x1) (hx2 : jg x2) (hx3 : jg x3) {m : jm} {P : Int × jm → Prop} {Q : px_Q} (h : jo (jf_320 x1 x2 x3 m) P) (hQ : ∀ p : Int × jm, jg p.1 → P p → Q (.inl (some (jv p.1))) (jmem N p.2)) : px_C X d 320 [.ref 0, jv x1, jv x2, jv x3, .ref 102] (jmem N m) Q := by
  unfold jf_320 at h
  have hN : 102 ≤ N := Nat.le_of_succ_le hN3
  have hu : ju px_m320 (0, 0) := ju_0
  refine jr_inT (M := px_m320) (lev := 7) (L := [some (.ref 0), some (jv x1), some (jv x2), some (jv x3), some (.ref 102), none]) hd hN3 rfl (jl rfl) rfl (fun d hd Q' hQ' => ?_)
  refine jr_al (pc' := 2) rfl rfl rfl (jr_ic (pc' := 3) rfl rfl (jr_al_n (pc' := 4) rfl rfl rfl (jr_il_n (pc' := 5) rfl rfl rfl (jr_il_n (pc' := 6) rfl rfl rfl (jr_il_n (pc' := 7) rfl rfl rfl ?_)))))
  refine jr_ct_i (pc' := 10) [_, _] rfl rfl jlk_13_66 jq_172 (u' := (3, 18)) rfl (ju_l rfl rfl) (jl rfl) rfl (jl rfl) rfl (jk rfl hN) (jd_0.trans jo_172.symm) (fun Q' hq0 hq1 => jc_172 hN3 (Nat.le_trans (jl rfl) hd) hx1 hx2 hx3 (jo_b h) hq0 hq1) (fun p1 h0 hp1 h => jo_i h (fun _ h => ?_) (fun hc _ => absurd h0 hc)) (fun p1 e he h => jo_i h (fun hc _ => absurd (he.symm.trans hc) (Nat.succ_ne_zero e)) (fun _ h => ?_))
  · refine jr_i2l (pc' := 11) rfl rfl hp1 (jr_lst (pc' := 12) rfl rfl hN3 ?_)
    refine jr_le h (fun m2 h => ?_)
    refine jr_goto (pc' := 23) rfl rfl (jr_ic (pc' := 24) rfl rfl ?_)
    exact jr_ret rfl (ju_l rfl rfl) rfl (hQ' _ _ (hQ ((0 : Int), m2) jgc_0 h))
  · refine jo_i h (fun hc h => jhe (Nat.succ.inj (he.symm.trans hc)) (jh_a (L' := [_, _, _, _, _, _]) rfl rfl rfl rfl (jl rfl) rfl ?_)) (fun _ h => ?_)
    · refine jr_ic (pc' := 18) rfl rfl ?_
      exact jr_ret rfl (ju_l rfl rfl) rfl (hQ' _ _ (hQ ((1 : Int), p1.2.2) jgc_1 h))
    · refine jo_i h (fun hc h => jhe (Nat.succ.inj (he.symm.trans hc)) (jh_a (L' := [_, _, _, _, _, _]) rfl rfl rfl rfl (jl rfl) rfl ?_)) (fun _ h => ?_)
      · refine jr_ic (pc' := 22) rfl rfl ?_
        exact jr_ret rfl (ju_l rfl rfl) rfl (hQ' _ _ (hQ ((2 : Int), p1.2.2) jgc_2 h))
      · exact h.elim

set_option maxRecDepth 20000 in
set_option maxHeartbeats 1000000 in
theorem jc_321 {X : Nat × (Nat → Int32)} {N d : Nat} {x1 : Int} (hN3 : 103 ≤ N) (hd : 4 ≤ d) (hx1 : jg x1) {m : jm} {P : Int × jm → Prop} {Q : px_Q} (h : jo (jf_321 x1 m) P) (hQ : ∀ p : Int × jm, jg p.1 → P p → Q (.inl (some (jv p.1))) (jmem N p.2)) : px_C X d 321 [.ref 0, jv x1, .ref 102] (jmem N m) Q := by
  unfold jf_321 at h
  have hN : 102 ≤ N := Nat.le_of_succ_le hN3
  have hu : ju px_m321 (0, 0) := ju_0
  refine jr_inT (M := px_m321) (lev := 3) (L := [some (.ref 0), some (jv x1), some (.ref 102), none]) hd hN3 rfl (jl rfl) rfl (fun d hd Q' hQ' => ?_)
  refine jr_al_n (pc' := 1) rfl rfl rfl (jr_ic (pc' := 2) rfl rfl (jr_al_n (pc' := 3) rfl rfl rfl (jr_il_n (pc' := 4) rfl rfl rfl ?_)))
  refine jr_ct_i (pc' := 7) [_, _] rfl rfl jlk_13_69 jq_173 (u' := (1, 6)) rfl (ju_l rfl rfl) (jl rfl) rfl (jl rfl) rfl (jk rfl hN) (jd_0.trans jo_173.symm) (fun Q' hq0 hq1 => jc_173 hN3 (Nat.le_trans (jl rfl) hd) hx1 (jo_b h) hq0 hq1) (fun p1 h0 hp1 h => jo_i h (fun _ h => ?_) (fun hc _ => absurd h0 hc)) (fun p1 e he h => jo_i h (fun hc _ => absurd (he.symm.trans hc) (Nat.succ_ne_zero e)) (fun _ h => ?_))
  · refine jr_i2l (pc' := 8) rfl rfl hp1 (jr_lst (pc' := 9) rfl rfl hN3 ?_)
    refine jr_le h (fun m2 h => ?_)
    refine jr_goto (pc' := 15) rfl rfl (jr_ic (pc' := 16) rfl rfl ?_)
    exact jr_ret rfl (ju_l rfl rfl) rfl (hQ' _ _ (hQ ((0 : Int), m2) jgc_0 h))
  · refine jo_i h (fun hc h => jhe (Nat.succ.inj (he.symm.trans hc)) (jh_n (L' := [_, _, _, _]) rfl rfl rfl rfl (jl rfl) rfl ?_)) (fun _ h => ?_)
    · refine jr_ic (pc' := 14) rfl rfl ?_
      exact jr_ret rfl (ju_l rfl rfl) rfl (hQ' _ _ (hQ ((1 : Int), p1.2.2) jgc_1 h))
    · exact h.elim

set_option maxRecDepth 20000 in
set_option maxHeartbeats 1000000 in
theorem jc_322 {X : Nat × (Nat → Int32)} {N d : Nat} {x1 : Int} (hN3 : 103 ≤ N) (hd : 4 ≤ d) (hx1 : jg x1) {m : jm} {P : Int × jm → Prop} {Q : px_Q} (h : jo (jf_322 x1 m) P) (hQ : ∀ p : Int × jm, jg p.1 → P p → Q (.inl (some (jv p.1))) (jmem N p.2)) : px_C X d 322 [.ref 0, jv x1, .ref 102] (jmem N m) Q := by
  unfold jf_322 at h
  have hN : 102 ≤ N := Nat.le_of_succ_le hN3
  have hu : ju px_m322 (0, 0) := ju_0
  refine jr_inT (M := px_m322) (lev := 3) (L := [some (.ref 0), some (jv x1), some (.ref 102), none]) hd hN3 rfl (jl rfl) rfl (fun d hd Q' hQ' => ?_)
  refine jr_al_n (pc' := 1) rfl rfl rfl (jr_ic (pc' := 2) rfl rfl (jr_al_n (pc' := 3) rfl rfl rfl (jr_il_n (pc' := 4) rfl rfl rfl ?_)))
  refine jr_ct_i (pc' := 7) [_, _] rfl rfl jlk_13_72 jq_174 (u' := (1, 6)) rfl (ju_l rfl rfl) (jl rfl) rfl (jl rfl) rfl (jk rfl hN) (jd_0.trans jo_174.symm) (fun Q' hq0 hq1 => jc_174 hN3 (Nat.le_trans (jl rfl) hd) hx1 (jo_b h) hq0 hq1) (fun p1 h0 hp1 h => jo_i h (fun _ h => ?_) (fun hc _ => absurd h0 hc)) (fun p1 e he h => jo_i h (fun hc _ => absurd (he.symm.trans hc) (Nat.succ_ne_zero e)) (fun _ h => ?_))
  · refine jr_i2l (pc' := 8) rfl rfl hp1 (jr_lst (pc' := 9) rfl rfl hN3 ?_)
    refine jr_le h (fun m2 h => ?_)
    refine jr_goto (pc' := 15) rfl rfl (jr_ic (pc' := 16) rfl rfl ?_)
    exact jr_ret rfl (ju_l rfl rfl) rfl (hQ' _ _ (hQ ((0 : Int), m2) jgc_0 h))
  · refine jo_i h (fun hc h => jhe (Nat.succ.inj (he.symm.trans hc)) (jh_n (L' := [_, _, _, _]) rfl rfl rfl rfl (jl rfl) rfl ?_)) (fun _ h => ?_)
    · refine jr_ic (pc' := 14) rfl rfl ?_
      exact jr_ret rfl (ju_l rfl rfl) rfl (hQ' _ _ (hQ ((1 : Int), p1.2.2) jgc_1 h))
    · exact h.elim

set_option maxRecDepth 20000 in
set_option maxHeartbeats 1000000 in
theorem jc_323 {X : Nat × (Nat → Int32)} {N d : Nat} {x1 : Int} {x2 : Int} (hN3 : 103 ≤ N) (hd : 7 ≤ d) (hx1 : jg x1) (hx2 : jg x2) {m : jm} {P : Int × jm → Prop} {Q : px_Q} (h : jo (jf_323 x1 x2 m) P) (hQ : ∀ p : Int × jm, jg p.1 → P p → Q (.inl (some (jv p.1))) (jmem N p.2)) : px_C X d 323 [.ref 0, jv x1, jv x2, .ref 102] (jmem N m) Q := by
  unfold jf_323 at h
  have hN : 102 ≤ N := Nat.le_of_succ_le hN3
  have hu : ju px_m323 (0, 0) := ju_0
  refine jr_inT (M := px_m323) (lev := 6) (L := [some (.ref 0), some (jv x1), some (jv x2), some (.ref 102), none]) hd hN3 rfl (jl rfl) rfl (fun d hd Q' hQ' => ?_)
  refine jr_al_n (pc' := 1) rfl rfl rfl (jr_ic (pc' := 2) rfl rfl (jr_al_n (pc' := 3) rfl rfl rfl (jr_il_n (pc' := 4) rfl rfl rfl (jr_il_n (pc' := 5) rfl rfl rfl ?_))))
  refine jr_ct_i (pc' := 8) [_, _] rfl rfl jlk_13_75 jq_175 (u' := (2, 12)) rfl (ju_l rfl rfl) (jl rfl) rfl (jl rfl) rfl (jk rfl hN) (jd_0.trans jo_175.symm) (fun Q' hq0 hq1 => jc_175 hN3 (Nat.le_trans (jl rfl) hd) hx1 hx2 (jo_b h) hq0 hq1) (fun p1 h0 hp1 h => jo_i h (fun _ h => ?_) (fun hc _ => absurd h0 hc)) (fun p1 e he h => jo_i h (fun hc _ => absurd (he.symm.trans hc) (Nat.succ_ne_zero e)) (fun _ h => ?_))
  · refine jr_i2l (pc' := 9) rfl rfl hp1 (jr_lst (pc' := 10) rfl rfl hN3 ?_)
    refine jr_le h (fun m2 h => ?_)
    refine jr_goto (pc' := 21) rfl rfl (jr_ic (pc' := 22) rfl rfl ?_)
    exact jr_ret rfl (ju_l rfl rfl) rfl (hQ' _ _ (hQ ((0 : Int), m2) jgc_0 h))
  · refine jo_i h (fun hc h => jhe (Nat.succ.inj (he.symm.trans hc)) (jh_a (L' := [_, _, _, _, _]) rfl rfl rfl rfl (jl rfl) rfl ?_)) (fun _ h => ?_)
    · refine jr_ic (pc' := 16) rfl rfl ?_
      exact jr_ret rfl (ju_l rfl rfl) rfl (hQ' _ _ (hQ ((1 : Int), p1.2.2) jgc_1 h))
    · refine jo_i h (fun hc h => jhe (Nat.succ.inj (he.symm.trans hc)) (jh_a (L' := [_, _, _, _, _]) rfl rfl rfl rfl (jl rfl) rfl ?_)) (fun _ h => ?_)
      · refine jr_ic (pc' := 20) rfl rfl ?_
        exact jr_ret rfl (ju_l rfl rfl) rfl (hQ' _ _ (hQ ((2 : Int), p1.2.2) jgc_2 h))
      · exact h.elim

set_option maxRecDepth 20000 in
set_option maxHeartbeats 1000000 in
theorem jc_324 {X : Nat × (Nat → Int32)} {N d : Nat} {x1 : Int} {x2 : Int} (hN3 : 103 ≤ N) (hd : 8 ≤ d) (hx1 : jg x1) (hx2 : jg x2) {m : jm} {P : Int × jm → Prop} {Q : px_Q} (h : jo (jf_324 x1 x2 m) P) (hQ : ∀ p : Int × jm, jg p.1 → P p → Q (.inl (some (jv p.1))) (jmem N p.2)) : px_C X d 324 [.ref 0, jv x1, jv x2, .ref 102] (jmem N m) Q := by
  unfold jf_324 at h
  have hN : 102 ≤ N := Nat.le_of_succ_le hN3
  have hu : ju px_m324 (0, 0) := ju_0
  refine jr_inT (M := px_m324) (lev := 7) (L := [some (.ref 0), some (jv x1), some (jv x2), some (.ref 102), none]) hd hN3 rfl (jl rfl) rfl (fun d hd Q' hQ' => ?_)
  refine jr_al_n (pc' := 1) rfl rfl rfl (jr_ic (pc' := 2) rfl rfl (jr_al_n (pc' := 3) rfl rfl rfl (jr_il_n (pc' := 4) rfl rfl rfl (jr_il_n (pc' := 5) rfl rfl rfl ?_))))
  refine jr_ct_i (pc' := 8) [_, _] rfl rfl jlk_13_78 jq_176 (u' := (2, 12)) rfl (ju_l rfl rfl) (jl rfl) rfl (jl rfl) rfl (jk rfl hN) (jd_0.trans jo_176.symm) (fun Q' hq0 hq1 => jc_176 hN3 (Nat.le_trans (jl rfl) hd) hx1 hx2 (jo_b h) hq0 hq1) (fun p1 h0 hp1 h => jo_i h (fun _ h => ?_) (fun hc _ => absurd h0 hc)) (fun p1 e he h => jo_i h (fun hc _ => absurd (he.symm.trans hc) (Nat.succ_ne_zero e)) (fun _ h => ?_))
  · refine jr_i2l (pc' := 9) rfl rfl hp1 (jr_lst (pc' := 10) rfl rfl hN3 ?_)
    refine jr_le h (fun m2 h => ?_)
    refine jr_goto (pc' := 21) rfl rfl (jr_ic (pc' := 22) rfl rfl ?_)
    exact jr_ret rfl (ju_l rfl rfl) rfl (hQ' _ _ (hQ ((0 : Int), m2) jgc_0 h))
  · refine jo_i h (fun hc h => jhe (Nat.succ.inj (he.symm.trans hc)) (jh_a (L' := [_, _, _, _, _]) rfl rfl rfl rfl (jl rfl) rfl ?_)) (fun _ h => ?_)
    · refine jr_ic (pc' := 16) rfl rfl ?_
      exact jr_ret rfl (ju_l rfl rfl) rfl (hQ' _ _ (hQ ((1 : Int), p1.2.2) jgc_1 h))
    · refine jo_i h (fun hc h => jhe (Nat.succ.inj (he.symm.trans hc)) (jh_a (L' := [_, _, _, _, _]) rfl rfl rfl rfl (jl rfl) rfl ?_)) (fun _ h => ?_)
      · refine jr_ic (pc' := 20) rfl rfl ?_
        exact jr_ret rfl (ju_l rfl rfl) rfl (hQ' _ _ (hQ ((2 : Int), p1.2.2) jgc_2 h))
      · exact h.elim

set_option maxRecDepth 20000 in
set_option maxHeartbeats 1000000 in
theorem jc_325 {X : Nat × (Nat → Int32)} {N d : Nat} {x1 : Int} (hN3 : 103 ≤ N) (hd : 8 ≤ d) (hx1 : jg x1) {m : jm} {P : Int × jm → Prop} {Q : px_Q} (h : jo (jf_325 x1 m) P) (hQ : ∀ p : Int × jm, jg p.1 → P p → Q (.inl (some (jv p.1))) (jmem N p.2)) : px_C X d 325 [.ref 0, jv x1, .ref 102] (jmem N m) Q := by
  unfold jf_325 at h
  have hN : 102 ≤ N := Nat.le_of_succ_le hN3
  have hu : ju px_m325 (0, 0) := ju_0
  refine jr_inT (M := px_m325) (lev := 7) (L := [some (.ref 0), some (jv x1), some (.ref 102), none]) hd hN3 rfl (jl rfl) rfl (fun d hd Q' hQ' => ?_)
  refine jr_al_n (pc' := 1) rfl rfl rfl (jr_ic (pc' := 2) rfl rfl (jr_al_n (pc' := 3) rfl rfl rfl (jr_il_n (pc' := 4) rfl rfl rfl ?_)))
  refine jr_ct_i (pc' := 7) [_, _] rfl rfl jlk_13_81 jq_177 (u' := (1, 6)) rfl (ju_l rfl rfl) (jl rfl) rfl (jl rfl) rfl (jk rfl hN) (jd_0.trans jo_177.symm) (fun Q' hq0 hq1 => jc_177 hN3 (Nat.le_trans (jl rfl) hd) hx1 (jo_b h) hq0 hq1) (fun p1 h0 hp1 h => jo_i h (fun _ h => ?_) (fun hc _ => absurd h0 hc)) (fun p1 e he h => jo_i h (fun hc _ => absurd (he.symm.trans hc) (Nat.succ_ne_zero e)) (fun _ h => ?_))
  · refine jr_i2l (pc' := 8) rfl rfl hp1 (jr_lst (pc' := 9) rfl rfl hN3 ?_)
    refine jr_le h (fun m2 h => ?_)
    refine jr_goto (pc' := 15) rfl rfl (jr_ic (pc' := 16) rfl rfl ?_)
    exact jr_ret rfl (ju_l rfl rfl) rfl (hQ' _ _ (hQ ((0 : Int), m2) jgc_0 h))
  · refine jo_i h (fun hc h => jhe (Nat.succ.inj (he.symm.trans hc)) (jh_n (L' := [_, _, _, _]) rfl rfl rfl rfl (jl rfl) rfl ?_)) (fun _ h => ?_)
    · refine jr_ic (pc' := 14) rfl rfl ?_
      exact jr_ret rfl (ju_l rfl rfl) rfl (hQ' _ _ (hQ ((1 : Int), p1.2.2) jgc_1 h))
    · exact h.elim

set_option maxRecDepth 20000 in
set_option maxHeartbeats 1000000 in
theorem jc_326 {X : Nat × (Nat → Int32)} {N d : Nat} {x1 : Int} {x2 : Int} {x3 : Int} {x4 : Int} (hN3 : 103 ≤ N) (hd : 8 ≤ d) (hx1 : jg x1) (hx2 : jg x2) (hx3 : jg x3) (hx4 : jg x4) {m : jm} {P : Int × jm → Prop} {Q : px_Q} (h : jo (jf_326 x1 x2 x3 x4 m) P) (hQ : ∀ p : Int × jm, jg p.1 → P p → Q (.inl (some (jv p.1))) (jmem N p.2)) : px_C X d 326 [.ref 0, jv x1, jv x2, jv x3, jv x4, .ref 102] (jmem N m) Q := by
  unfold jf_326 at h
  have hN : 102 ≤ N := Nat.le_of_succ_le hN3
  have hu : ju px_m326 (0, 0) := ju_0
  refine jr_inT (M := px_m326) (lev := 7) (L := [some (.ref 0), some (jv x1), some (jv x2), some (jv x3), some (jv x4), some (.ref 102), none]) hd hN3 rfl (jl rfl) rfl (fun d hd Q' hQ' => ?_)
  refine jr_al (pc' := 2) rfl rfl rfl (jr_ic (pc' := 3) rfl rfl (jr_al_n (pc' := 4) rfl rfl rfl (jr_il_n (pc' := 5) rfl rfl rfl (jr_il_n (pc' := 6) rfl rfl rfl (jr_il_n (pc' := 7) rfl rfl rfl ?_)))))
  refine jr_il (pc' := 9) rfl rfl rfl ?_
  refine jr_ct_l (pc' := 12) [_, _] rfl rfl jlk_13_84 jq_178 (u' := (3, 18)) rfl (ju_l rfl rfl) (jl rfl) rfl (jl rfl) rfl (jk rfl hN) (jd_0.trans jo_178.symm) (fun Q' hq0 hq1 => jc_178 hN3 (Nat.le_trans (jl rfl) hd) hx1 hx2 hx3 hx4 (jo_b h) hq0 hq1) (fun p1 h0 hp1 h => jo_i h (fun _ h => ?_) (fun hc _ => absurd h0 hc)) (fun p1 e he h => jo_i h (fun hc _ => absurd (he.symm.trans hc) (Nat.succ_ne_zero e)) (fun _ h => ?_))
  · refine jr_lst (pc' := 13) rfl rfl hN3 ?_
    refine jr_le h (fun m2 h => ?_)
    refine jr_goto (pc' := 24) rfl rfl (jr_ic (pc' := 25) rfl rfl ?_)
    exact jr_ret rfl (ju_l rfl rfl) rfl (hQ' _ _ (hQ ((0 : Int), m2) jgc_0 h))
  · refine jo_i h (fun hc h => jhe (Nat.succ.inj (he.symm.trans hc)) (jh_a (L' := [_, _, _, _, _, _, _]) rfl rfl rfl rfl (jl rfl) rfl ?_)) (fun _ h => ?_)
    · refine jr_ic (pc' := 19) rfl rfl ?_
      exact jr_ret rfl (ju_l rfl rfl) rfl (hQ' _ _ (hQ ((1 : Int), p1.2.2) jgc_1 h))
    · refine jo_i h (fun hc h => jhe (Nat.succ.inj (he.symm.trans hc)) (jh_a (L' := [_, _, _, _, _, _, _]) rfl rfl rfl rfl (jl rfl) rfl ?_)) (fun _ h => ?_)
      · refine jr_ic (pc' := 23) rfl rfl ?_
        exact jr_ret rfl (ju_l rfl rfl) rfl (hQ' _ _ (hQ ((2 : Int), p1.2.2) jgc_2 h))
      · exact h.elim

set_option maxRecDepth 20000 in
set_option maxHeartbeats 1000000 in
theorem jc_327 {X : Nat × (Nat → Int32)} {N d : Nat} {x1 : Int} {x2 : Int} {x3 : Int} {x4 : Int} (hN3 : 103 ≤ N) (hd : 3 ≤ d) (hx1 : jg x1) (hx2 : jg x2) (hx3 : jg x3) (hx4 : jg x4) {m : jm} {P : Int × jm → Prop} {Q : px_Q} (h : jo (jf_327 x1 x2 x3 x4 m) P) (hQ : ∀ p : Int × jm, jg p.1 → P p → Q (.inl (some (jv p.1))) (jmem N p.2)) : px_C X d 327 [.ref 0, jv x1, jv x2, jv x3, jv x4, .ref 102] (jmem N m) Q := by
  unfold jf_327 at h
  have hN : 102 ≤ N := Nat.le_of_succ_le hN3
  have hu : ju px_m327 (0, 0) := ju_0
  refine jr_inT (M := px_m327) (lev := 2) (L := [some (.ref 0), some (jv x1), some (jv x2), some (jv x3), some (jv x4), some (.ref 102), none]) hd hN3 rfl (jl rfl) rfl (fun d hd Q' hQ' => ?_)
  refine jr_al (pc' := 2) rfl rfl rfl (jr_ic (pc' := 3) rfl rfl (jr_al_n (pc' := 4) rfl rfl rfl (jr_il_n (pc' := 5) rfl rfl rfl (jr_il_n (pc' := 6) rfl rfl rfl (jr_il_n (pc' := 7) rfl rfl rfl ?_)))))
  refine jr_il (pc' := 9) rfl rfl rfl ?_
  refine jr_ct_i (pc' := 12) [_, _] rfl rfl jlk_13_88 jq_179 (u' := (1, 6)) rfl (ju_l rfl rfl) (jl rfl) rfl (jl rfl) rfl (jk rfl hN) (jd_0.trans jo_179.symm) (fun Q' hq0 hq1 => jc_179 hN3 (Nat.le_trans (jl rfl) hd) hx1 hx2 hx3 hx4 (jo_b h) hq0 hq1) (fun p1 h0 hp1 h => jo_i h (fun _ h => ?_) (fun hc _ => absurd h0 hc)) (fun p1 e he h => jo_i h (fun hc _ => absurd (he.symm.trans hc) (Nat.succ_ne_zero e)) (fun _ h => ?_))
  · refine jr_i2l (pc' := 13) rfl rfl hp1 (jr_lst (pc' := 14) rfl rfl hN3 ?_)
    refine jr_le h (fun m2 h => ?_)
    refine jr_goto (pc' := 21) rfl rfl (jr_ic (pc' := 22) rfl rfl ?_)
    exact jr_ret rfl (ju_l rfl rfl) rfl (hQ' _ _ (hQ ((0 : Int), m2) jgc_0 h))
  · refine jo_i h (fun hc h => jhe (Nat.succ.inj (he.symm.trans hc)) (jh_a (L' := [_, _, _, _, _, _, _]) rfl rfl rfl rfl (jl rfl) rfl ?_)) (fun _ h => ?_)
    · refine jr_ic (pc' := 20) rfl rfl ?_
      exact jr_ret rfl (ju_l rfl rfl) rfl (hQ' _ _ (hQ ((1 : Int), p1.2.2) jgc_1 h))
    · exact h.elim

set_option maxRecDepth 20000 in
set_option maxHeartbeats 1000000 in
theorem jc_328 {X : Nat × (Nat → Int32)} {N d : Nat} {x1 : Int} {x2 : Int} {x3 : Int} (hN3 : 103 ≤ N) (hd : 4 ≤ d) (hx1 : jg x1) (hx2 : jg x2) (hx3 : jg x3) {m : jm} {P : Int × jm → Prop} {Q : px_Q} (h : jo (jf_328 x1 x2 x3 m) P) (hQ : ∀ p : Int × jm, jg p.1 → P p → Q (.inl (some (jv p.1))) (jmem N p.2)) : px_C X d 328 [.ref 0, jv x1, jv x2, jv x3, .ref 102] (jmem N m) Q := by
  unfold jf_328 at h
  have hN : 102 ≤ N := Nat.le_of_succ_le hN3
  have hu : ju px_m328 (0, 0) := ju_0
  refine jr_inT (M := px_m328) (lev := 3) (L := [some (.ref 0), some (jv x1), some (jv x2), some (jv x3), some (.ref 102), none]) hd hN3 rfl (jl rfl) rfl (fun d hd Q' hQ' => ?_)
  refine jr_al (pc' := 2) rfl rfl rfl (jr_ic (pc' := 3) rfl rfl (jr_al_n (pc' := 4) rfl rfl rfl (jr_il_n (pc' := 5) rfl rfl rfl (jr_il_n (pc' := 6) rfl rfl rfl (jr_il_n (pc' := 7) rfl rfl rfl ?_)))))
  refine jr_ct_i (pc' := 10) [_, _] rfl rfl jlk_13_92 jq_181 (u' := (2, 12)) rfl (ju_l rfl rfl) (jl rfl) rfl (jl rfl) rfl (jk rfl hN) (jd_0.trans jo_181.symm) (fun Q' hq0 hq1 => jc_181 hN3 (Nat.le_trans (jl rfl) hd) hx1 hx2 hx3 (jo_b h) hq0 hq1) (fun p1 h0 hp1 h => jo_i h (fun _ h => ?_) (fun hc _ => absurd h0 hc)) (fun p1 e he h => jo_i h (fun hc _ => absurd (he.symm.trans hc) (Nat.succ_ne_zero e)) (fun _ h => ?_))
  · refine jr_i2l (pc' := 11) rfl rfl hp1 (jr_lst (pc' := 12) rfl rfl hN3 ?_)
    refine jr_le h (fun m2 h => ?_)
    refine jr_goto (pc' := 23) rfl rfl (jr_ic (pc' := 24) rfl rfl ?_)
    exact jr_ret rfl (ju_l rfl rfl) rfl (hQ' _ _ (hQ ((0 : Int), m2) jgc_0 h))
  · refine jo_i h (fun hc h => jhe (Nat.succ.inj (he.symm.trans hc)) (jh_a (L' := [_, _, _, _, _, _]) rfl rfl rfl rfl (jl rfl) rfl ?_)) (fun _ h => ?_)
    · refine jr_ic (pc' := 18) rfl rfl ?_
      exact jr_ret rfl (ju_l rfl rfl) rfl (hQ' _ _ (hQ ((1 : Int), p1.2.2) jgc_1 h))
    · refine jo_i h (fun hc h => jhe (Nat.succ.inj (he.symm.trans hc)) (jh_a (L' := [_, _, _, _, _, _]) rfl rfl rfl rfl (jl rfl) rfl ?_)) (fun _ h => ?_)
      · refine jr_ic (pc' := 22) rfl rfl ?_
        exact jr_ret rfl (ju_l rfl rfl) rfl (hQ' _ _ (hQ ((2 : Int), p1.2.2) jgc_2 h))
      · exact h.elim

set_option maxRecDepth 20000 in
set_option maxHeartbeats 1000000 in
theorem jc_329 {X : Nat × (Nat → Int32)} {N d : Nat} {x1 : Int} (hN3 : 103 ≤ N) (hd : 4 ≤ d) (hx1 : jg x1) {m : jm} {P : Int × jm → Prop} {Q : px_Q} (h : jo (jf_329 x1 m) P) (hQ : ∀ p : Int × jm, jg p.1 → P p → Q (.inl (some (jv p.1))) (jmem N p.2)) : px_C X d 329 [.ref 0, jv x1, .ref 102] (jmem N m) Q := by
  unfold jf_329 at h
  have hN : 102 ≤ N := Nat.le_of_succ_le hN3
  have hu : ju px_m329 (0, 0) := ju_0
  refine jr_inT (M := px_m329) (lev := 3) (L := [some (.ref 0), some (jv x1), some (.ref 102), none]) hd hN3 rfl (jl rfl) rfl (fun d hd Q' hQ' => ?_)
  refine jr_al_n (pc' := 1) rfl rfl rfl (jr_ic (pc' := 2) rfl rfl (jr_al_n (pc' := 3) rfl rfl rfl (jr_il_n (pc' := 4) rfl rfl rfl ?_)))
  refine jr_ct_i (pc' := 7) [_, _] rfl rfl jlk_13_95 jq_182 (u' := (1, 6)) rfl (ju_l rfl rfl) (jl rfl) rfl (jl rfl) rfl (jk rfl hN) (jd_0.trans jo_182.symm) (fun Q' hq0 hq1 => jc_182 hN3 (Nat.le_trans (jl rfl) hd) hx1 (jo_b h) hq0 hq1) (fun p1 h0 hp1 h => jo_i h (fun _ h => ?_) (fun hc _ => absurd h0 hc)) (fun p1 e he h => jo_i h (fun hc _ => absurd (he.symm.trans hc) (Nat.succ_ne_zero e)) (fun _ h => ?_))
  · refine jr_i2l (pc' := 8) rfl rfl hp1 (jr_lst (pc' := 9) rfl rfl hN3 ?_)
    refine jr_le h (fun m2 h => ?_)
    refine jr_goto (pc' := 15) rfl rfl (jr_ic (pc' := 16) rfl rfl ?_)
    exact jr_ret rfl (ju_l rfl rfl) rfl (hQ' _ _ (hQ ((0 : Int), m2) jgc_0 h))
  · refine jo_i h (fun hc h => jhe (Nat.succ.inj (he.symm.trans hc)) (jh_n (L' := [_, _, _, _]) rfl rfl rfl rfl (jl rfl) rfl ?_)) (fun _ h => ?_)
    · refine jr_ic (pc' := 14) rfl rfl ?_
      exact jr_ret rfl (ju_l rfl rfl) rfl (hQ' _ _ (hQ ((1 : Int), p1.2.2) jgc_1 h))
    · exact h.elim

set_option maxRecDepth 20000 in
set_option maxHeartbeats 1000000 in
theorem jc_330 {X : Nat × (Nat → Int32)} {N d : Nat} {x1 : Int} {x2 : Int} {x3 : Int} {x4 : Int} (hN3 : 103 ≤ N) (hd : 8 ≤ d) (hx1 : jg x1) (hx2 : jg x2) (hx3 : jg x3) (hx4 : jg x4) {m : jm} {P : Int × jm → Prop} {Q : px_Q} (h : jo (jf_330 x1 x2 x3 x4 m) P) (hQ : ∀ p : Int × jm, jg p.1 → P p → Q (.inl (some (jv p.1))) (jmem N p.2)) : px_C X d 330 [.ref 0, jv x1, jv x2, jv x3, jv x4, .ref 102] (jmem N m) Q := by
  unfold jf_330 at h
  have hN : 102 ≤ N := Nat.le_of_succ_le hN3
  have hu : ju px_m330 (0, 0) := ju_0
  refine jr_inT (M := px_m330) (lev := 7) (L := [some (.ref 0), some (jv x1), some (jv x2), some (jv x3), some (jv x4), some (.ref 102), none]) hd hN3 rfl (jl rfl) rfl (fun d hd Q' hQ' => ?_)
  refine jr_al (pc' := 2) rfl rfl rfl (jr_ic (pc' := 3) rfl rfl (jr_al_n (pc' := 4) rfl rfl rfl (jr_il_n (pc' := 5) rfl rfl rfl (jr_il_n (pc' := 6) rfl rfl rfl (jr_il_n (pc' := 7) rfl rfl rfl ?_)))))
  refine jr_il (pc' := 9) rfl rfl rfl ?_
  refine jr_ct_i (pc' := 12) [_, _] rfl rfl jlk_13_98 jq_183 (u' := (2, 12)) rfl (ju_l rfl rfl) (jl rfl) rfl (jl rfl) rfl (jk rfl hN) (jd_0.trans jo_183.symm) (fun Q' hq0 hq1 => jc_183 hN3 (Nat.le_trans (jl rfl) hd) hx1 hx2 hx3 hx4 (jo_b h) hq0 hq1) (fun p1 h0 hp1 h => jo_i h (fun _ h => ?_) (fun hc _ => absurd h0 hc)) (fun p1 e he h => jo_i h (fun hc _ => absurd (he.symm.trans hc) (Nat.succ_ne_zero e)) (fun _ h => ?_))
  · refine jr_i2l (pc' := 13) rfl rfl hp1 (jr_lst (pc' := 14) rfl rfl hN3 ?_)
    refine jr_le h (fun m2 h => ?_)
    refine jr_goto (pc' := 21) rfl rfl (jr_ic (pc' := 22) rfl rfl ?_)
    exact jr_ret rfl (ju_l rfl rfl) rfl (hQ' _ _ (hQ ((0 : Int), m2) jgc_0 h))
  · refine jo_i h (fun hc h => jhe (Nat.succ.inj (he.symm.trans hc)) (jh_a (L' := [_, _, _, _, _, _, _]) rfl rfl rfl rfl (jl rfl) rfl ?_)) (fun _ h => ?_)
    · refine jr_ic (pc' := 20) rfl rfl ?_
      exact jr_ret rfl (ju_l rfl rfl) rfl (hQ' _ _ (hQ ((1 : Int), p1.2.2) jgc_1 h))
    · exact h.elim

set_option maxRecDepth 20000 in
set_option maxHeartbeats 1000000 in
theorem jc_331 {X : Nat × (Nat → Int32)} {N d : Nat} {x1 : Int} {x2 : Int} {x3 : Int} {x4 : Int} {x5 : Int} (hN3 : 103 ≤ N) (hd : 8 ≤ d) (hx1 : jg x1) (hx2 : jg x2) (hx3 : jg x3) (hx4 : jg x4) (hx5 : jg x5) {m : jm} {P : Int × jm → Prop} {Q : px_Q} (h : jo (jf_331 x1 x2 x3 x4 x5 m) P) (hQ : ∀ p : Int × jm, jg p.1 → P p → Q (.inl (some (jv p.1))) (jmem N p.2)) : px_C X d 331 [.ref 0, jv x1, jv x2, jv x3, jv x4, jv x5, .ref 102] (jmem N m) Q := by
  unfold jf_331 at h
  have hN : 102 ≤ N := Nat.le_of_succ_le hN3
  have hu : ju px_m331 (0, 0) := ju_0
  refine jr_inT (M := px_m331) (lev := 7) (L := [some (.ref 0), some (jv x1), some (jv x2), some (jv x3), some (jv x4), some (jv x5), some (.ref 102), none]) hd hN3 rfl (jl rfl) rfl (fun d hd Q' hQ' => ?_)
  refine jr_al (pc' := 2) rfl rfl rfl (jr_ic (pc' := 3) rfl rfl (jr_al_n (pc' := 4) rfl rfl rfl (jr_il_n (pc' := 5) rfl rfl rfl (jr_il_n (pc' := 6) rfl rfl rfl (jr_il_n (pc' := 7) rfl rfl rfl ?_)))))
  refine jr_il (pc' := 9) rfl rfl rfl (jr_il (pc' := 11) rfl rfl rfl ?_)
  refine jr_ct_i (pc' := 14) [_, _] rfl rfl jlk_13_101 jq_185 (u' := (3, 18)) rfl (ju_l rfl rfl) (jl rfl) rfl (jl rfl) rfl (jk rfl hN) (jd_0.trans jo_185.symm) (fun Q' hq0 hq1 => jc_185 hN3 (Nat.le_trans (jl rfl) hd) hx1 hx2 hx3 hx4 hx5 (jo_b h) hq0 hq1) (fun p1 h0 hp1 h => jo_i h (fun _ h => ?_) (fun hc _ => absurd h0 hc)) (fun p1 e he h => jo_i h (fun hc _ => absurd (he.symm.trans hc) (Nat.succ_ne_zero e)) (fun _ h => ?_))
  · refine jr_i2l (pc' := 15) rfl rfl hp1 (jr_lst (pc' := 16) rfl rfl hN3 ?_)
    refine jr_le h (fun m2 h => ?_)
    refine jr_goto (pc' := 23) rfl rfl (jr_ic (pc' := 24) rfl rfl ?_)
    exact jr_ret rfl (ju_l rfl rfl) rfl (hQ' _ _ (hQ ((0 : Int), m2) jgc_0 h))
  · refine jo_i h (fun hc h => jhe (Nat.succ.inj (he.symm.trans hc)) (jh_a (L' := [_, _, _, _, _, _, _, _]) rfl rfl rfl rfl (jl rfl) rfl ?_)) (fun _ h => ?_)
    · refine jr_ic (pc' := 22) rfl rfl ?_
      exact jr_ret rfl (ju_l rfl rfl) rfl (hQ' _ _ (hQ ((1 : Int), p1.2.2) jgc_1 h))
    · exact h.elim

