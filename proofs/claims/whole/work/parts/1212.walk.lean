/-! the pure machine follows the functions, 13 (written by wip/whole/gen/walk.py) -/
set_option maxRecDepth 20000 in
set_option maxHeartbeats 1000000 in
theorem jc_203 {X : Nat × (Nat → Int32)} {N d : Nat} {x0 : Int} {x1 : Int} (hN : 102 ≤ N) (hd : 1 ≤ d) (hx0 : jg x0) (hx1 : jg x1) {m : jm} {P : jm → Prop} {Q : px_Q} (h : jo (jf_203 x0 x1 m) P) (hQ : ∀ p : jm, True → P p → Q (.inl (none)) (jmem N p)) : px_C X d 203 [.ref 67, jv x0, jv x1] (jmem N m) Q := by
  unfold jf_203 at h
  have hu : ju px_m203 (0, 0) := ju_0
  refine jr_in (M := px_m203) (lev := 0) (L := [some (.ref 67), some (jv x0), some (jv x1)]) hd rfl jbd_203 (jl rfl) rfl (fun d hd Q' hQ' => ?_)
  refine jr_al_n (pc' := 1) rfl rfl rfl (jr_gi (pc' := 4) rfl rfl jlk_12_129 (.inl rfl) rfl hN jd_67 rfl rfl (jr_ic (pc' := 5) rfl rfl ?_))
  refine jr_ceq (pa := 9) (pb := 8) rfl rfl rfl jg_a jgc_m1 h (fun hc h => ?_) (fun hc h => ?_)
  · refine jr_al_n (pc' := 10) rfl rfl rfl (jr_il_n (pc' := 11) rfl rfl rfl (jr_pi (pc' := 14) rfl rfl jlk_12_129 (.inl rfl) rfl hN jd_67 rfl rfl ?_))
    refine jr_le h (fun m1 h => ?_)
    refine jr_al_n (pc' := 15) rfl rfl rfl (jr_il_n (pc' := 16) rfl rfl rfl (jr_pi (pc' := 19) rfl rfl jlk_12_132 (.inl rfl) rfl hN jd_67 rfl rfl ?_))
    refine jr_le h (fun m2 h => ?_)
    exact jr_rv rfl hu rfl (hQ' _ _ (hQ m2 trivial h))
  · exact jr_rv rfl hu rfl (hQ' _ _ (hQ m trivial h))

set_option maxRecDepth 20000 in
set_option maxHeartbeats 1000000 in
theorem jc_204 {X : Nat × (Nat → Int32)} {N d : Nat} {x0 : Int} (hN : 102 ≤ N) (hd : 2 ≤ d) (hx0 : jg x0) {m : jm} {P : Int → Prop} {Q : px_Q} (h : jo (jf_204 x0 m) P) (hQ : ∀ p : Int, jb p → P p → Q (.inl (some (jv p))) (jmem N m)) : px_C X d 204 [.ref 67, jv x0] (jmem N m) Q := by
  unfold jf_204 at h
  have hu : ju px_m204 (0, 0) := ju_0
  refine jr_in (M := px_m204) (lev := 1) (L := [some (.ref 67), some (jv x0)]) hd rfl jbd_204 (jl rfl) rfl (fun d hd Q' hQ' => ?_)
  refine jr_il_n (pc' := 1) rfl rfl rfl (jr_lds (pc' := 3) rfl rfl jlk_12_222 ?_)
  refine jr_cs_p (pc' := 6) [_] rfl rfl jlk_12_223 jq_202 jbd_202 (jl rfl) rfl (jl rfl) hu (fun Q' hq => jc_202 hN (Nat.le_trans (jl rfl) hd) (jl rfl) (jo_b h) hq) (fun p1 hp1 h => ?_)
  refine jr_reg (fun t2 => jb t2) (fun t2 => jp X (px_C X d) px_m204 Q' N 77 [some (.ref 67), some (jv x0)] [(jv t2)] m (0, 0)) h (fun t2 ht2 h => ?_) (fun R28 k3 h => ?_)
  · exact jr_retb rfl hu rfl ht2 (hQ' _ _ (hQ t2 ht2 h))
  · refine jr_cne (pa := 9) (pb := 18) rfl rfl rfl hx0 hp1 h (fun hc h => ?_) (fun hc h => ?_)
    · refine jr_al_n (pc' := 10) rfl rfl rfl (jr_gi (pc' := 13) rfl rfl jlk_12_172 (.inl rfl) rfl hN jd_67 rfl rfl (jr_bi (pc' := 15) rfl rfl rfl ?_))
      refine jr_ceq (pa := 72) (pb := 18) rfl rfl rfl jg_a jgc_8 h (fun hc h => ?_) (fun hc h => ?_)
      · refine jr_ic (pc' := 73) rfl rfl (jr_goto (pc' := 77) rfl rfl ?_)
        exact k3 ((1 : Int)) jb_1 h
      · refine jr_il_n (pc' := 19) rfl rfl rfl (jr_lds (pc' := 21) rfl rfl jlk_12_227 ?_)
        refine jr_cs_p (pc' := 24) [_] rfl rfl jlk_12_223 jq_202 jbd_202 (jl rfl) rfl (jl rfl) hu (fun Q' hq => jc_202 hN (Nat.le_trans (jl rfl) hd) (jl rfl) (jo_b h) hq) (fun p4 hp4 h => ?_)
        refine jr_cne (pa := 27) (pb := 36) rfl rfl rfl hx0 hp4 h (fun hc h => ?_) (fun hc h => ?_)
        · refine jr_al_n (pc' := 28) rfl rfl rfl (jr_gi (pc' := 31) rfl rfl jlk_12_175 (.inl rfl) rfl hN jd_67 rfl rfl (jr_bi (pc' := 33) rfl rfl rfl ?_))
          refine jr_ceq (pa := 72) (pb := 36) rfl rfl rfl jg_a jgc_12 h (fun hc h => ?_) (fun hc h => ?_)
          · refine jr_ic (pc' := 73) rfl rfl (jr_goto (pc' := 77) rfl rfl ?_)
            exact k3 ((1 : Int)) jb_1 h
          · refine jr_il_n (pc' := 37) rfl rfl rfl (jr_lds (pc' := 39) rfl rfl jlk_12_228 ?_)
            refine jr_cs_p (pc' := 42) [_] rfl rfl jlk_12_223 jq_202 jbd_202 (jl rfl) rfl (jl rfl) hu (fun Q' hq => jc_202 hN (Nat.le_trans (jl rfl) hd) (jl rfl) (jo_b h) hq) (fun p5 hp5 h => ?_)
            refine jr_cne (pa := 45) (pb := 54) rfl rfl rfl hx0 hp5 h (fun hc h => ?_) (fun hc h => ?_)
            · refine jr_al_n (pc' := 46) rfl rfl rfl (jr_gi (pc' := 49) rfl rfl jlk_12_178 (.inl rfl) rfl hN jd_67 rfl rfl (jr_bi (pc' := 51) rfl rfl rfl ?_))
              refine jr_ceq (pa := 72) (pb := 54) rfl rfl rfl jg_a jgc_6 h (fun hc h => ?_) (fun hc h => ?_)
              · refine jr_ic (pc' := 73) rfl rfl (jr_goto (pc' := 77) rfl rfl ?_)
                exact k3 ((1 : Int)) jb_1 h
              · refine jr_il_n (pc' := 55) rfl rfl rfl (jr_lds (pc' := 57) rfl rfl jlk_12_229 ?_)
                refine jr_cs_p (pc' := 60) [_] rfl rfl jlk_12_223 jq_202 jbd_202 (jl rfl) rfl (jl rfl) hu (fun Q' hq => jc_202 hN (Nat.le_trans (jl rfl) hd) (jl rfl) (jo_b h) hq) (fun p6 hp6 h => ?_)
                refine jr_cne (pa := 63) (pb := 76) rfl rfl rfl hx0 hp6 h (fun hc h => ?_) (fun hc h => ?_)
                · refine jr_al_n (pc' := 64) rfl rfl rfl (jr_gi (pc' := 67) rfl rfl jlk_12_181 (.inl rfl) rfl hN jd_67 rfl rfl (jr_bi (pc' := 69) rfl rfl rfl ?_))
                  refine jr_cne (pa := 72) (pb := 76) rfl rfl rfl jg_a jgc_8 h (fun hc h => ?_) (fun hc h => ?_)
                  · refine jr_ic (pc' := 73) rfl rfl (jr_goto (pc' := 77) rfl rfl ?_)
                    exact k3 ((1 : Int)) jb_1 h
                  · refine jr_ic (pc' := 77) rfl rfl ?_
                    exact k3 ((0 : Int)) jb_0 h
                · refine jr_ic (pc' := 77) rfl rfl ?_
                  exact k3 ((0 : Int)) jb_0 h
            · refine jr_il_n (pc' := 55) rfl rfl rfl (jr_lds (pc' := 57) rfl rfl jlk_12_229 ?_)
              refine jr_cs_p (pc' := 60) [_] rfl rfl jlk_12_223 jq_202 jbd_202 (jl rfl) rfl (jl rfl) hu (fun Q' hq => jc_202 hN (Nat.le_trans (jl rfl) hd) (jl rfl) (jo_b h) hq) (fun p7 hp7 h => ?_)
              refine jr_cne (pa := 63) (pb := 76) rfl rfl rfl hx0 hp7 h (fun hc h => ?_) (fun hc h => ?_)
              · refine jr_al_n (pc' := 64) rfl rfl rfl (jr_gi (pc' := 67) rfl rfl jlk_12_181 (.inl rfl) rfl hN jd_67 rfl rfl (jr_bi (pc' := 69) rfl rfl rfl ?_))
                refine jr_cne (pa := 72) (pb := 76) rfl rfl rfl jg_a jgc_8 h (fun hc h => ?_) (fun hc h => ?_)
                · refine jr_ic (pc' := 73) rfl rfl (jr_goto (pc' := 77) rfl rfl ?_)
                  exact k3 ((1 : Int)) jb_1 h
                · refine jr_ic (pc' := 77) rfl rfl ?_
                  exact k3 ((0 : Int)) jb_0 h
              · refine jr_ic (pc' := 77) rfl rfl ?_
                exact k3 ((0 : Int)) jb_0 h
        · refine jr_il_n (pc' := 37) rfl rfl rfl (jr_lds (pc' := 39) rfl rfl jlk_12_228 ?_)
          refine jr_cs_p (pc' := 42) [_] rfl rfl jlk_12_223 jq_202 jbd_202 (jl rfl) rfl (jl rfl) hu (fun Q' hq => jc_202 hN (Nat.le_trans (jl rfl) hd) (jl rfl) (jo_b h) hq) (fun p8 hp8 h => ?_)
          refine jr_cne (pa := 45) (pb := 54) rfl rfl rfl hx0 hp8 h (fun hc h => ?_) (fun hc h => ?_)
          · refine jr_al_n (pc' := 46) rfl rfl rfl (jr_gi (pc' := 49) rfl rfl jlk_12_178 (.inl rfl) rfl hN jd_67 rfl rfl (jr_bi (pc' := 51) rfl rfl rfl ?_))
            refine jr_ceq (pa := 72) (pb := 54) rfl rfl rfl jg_a jgc_6 h (fun hc h => ?_) (fun hc h => ?_)
            · refine jr_ic (pc' := 73) rfl rfl (jr_goto (pc' := 77) rfl rfl ?_)
              exact k3 ((1 : Int)) jb_1 h
            · refine jr_il_n (pc' := 55) rfl rfl rfl (jr_lds (pc' := 57) rfl rfl jlk_12_229 ?_)
              refine jr_cs_p (pc' := 60) [_] rfl rfl jlk_12_223 jq_202 jbd_202 (jl rfl) rfl (jl rfl) hu (fun Q' hq => jc_202 hN (Nat.le_trans (jl rfl) hd) (jl rfl) (jo_b h) hq) (fun p9 hp9 h => ?_)
              refine jr_cne (pa := 63) (pb := 76) rfl rfl rfl hx0 hp9 h (fun hc h => ?_) (fun hc h => ?_)
              · refine jr_al_n (pc' := 64) rfl rfl rfl (jr_gi (pc' := 67) rfl rfl jlk_12_181 (.inl rfl) rfl hN jd_67 rfl rfl (jr_bi (pc' := 69) rfl rfl rfl ?_))
                refine jr_cne (pa := 72) (pb := 76) rfl rfl rfl jg_a jgc_8 h (fun hc h => ?_) (fun hc h => ?_)
                · refine jr_ic (pc' := 73) rfl rfl (jr_goto (pc' := 77) rfl rfl ?_)
                  exact k3 ((1 : Int)) jb_1 h
                · refine jr_ic (pc' := 77) rfl rfl ?_
                  exact k3 ((0 : Int)) jb_0 h
              · refine jr_ic (pc' := 77) rfl rfl ?_
                exact k3 ((0 : Int)) jb_0 h
          · refine jr_il_n (pc' := 55) rfl rfl rfl (jr_lds (pc' := 57) rfl rfl jlk_12_229 ?_)
            refine jr_cs_p (pc' := 60) [_] rfl rfl jlk_12_223 jq_202 jbd_202 (jl rfl) rfl (jl rfl) hu (fun Q' hq => jc_202 hN (Nat.le_trans (jl rfl) hd) (jl rfl) (jo_b h) hq) (fun p10 hp10 h => ?_)
            refine jr_cne (pa := 63) (pb := 76) rfl rfl rfl hx0 hp10 h (fun hc h => ?_) (fun hc h => ?_)
            · refine jr_al_n (pc' := 64) rfl rfl rfl (jr_gi (pc' := 67) rfl rfl jlk_12_181 (.inl rfl) rfl hN jd_67 rfl rfl (jr_bi (pc' := 69) rfl rfl rfl ?_))
              refine jr_cne (pa := 72) (pb := 76) rfl rfl rfl jg_a jgc_8 h (fun hc h => ?_) (fun hc h => ?_)
              · refine jr_ic (pc' := 73) rfl rfl (jr_goto (pc' := 77) rfl rfl ?_)
                exact k3 ((1 : Int)) jb_1 h
              · refine jr_ic (pc' := 77) rfl rfl ?_
                exact k3 ((0 : Int)) jb_0 h
            · refine jr_ic (pc' := 77) rfl rfl ?_
              exact k3 ((0 : Int)) jb_0 h
    · refine jr_il_n (pc' := 19) rfl rfl rfl (jr_lds (pc' := 21) rfl rfl jlk_12_227 ?_)
      refine jr_cs_p (pc' := 24) [_] rfl rfl jlk_12_223 jq_202 jbd_202 (jl rfl) rfl (jl rfl) hu (fun Q' hq => jc_202 hN (Nat.le_trans (jl rfl) hd) (jl rfl) (jo_b h) hq) (fun p11 hp11 h => ?_)
      refine jr_cne (pa := 27) (pb := 36) rfl rfl rfl hx0 hp11 h (fun hc h => ?_) (fun hc h => ?_)
      · refine jr_al_n (pc' := 28) rfl rfl rfl (jr_gi (pc' := 31) rfl rfl jlk_12_175 (.inl rfl) rfl hN jd_67 rfl rfl (jr_bi (pc' := 33) rfl rfl rfl ?_))
        refine jr_ceq (pa := 72) (pb := 36) rfl rfl rfl jg_a jgc_12 h (fun hc h => ?_) (fun hc h => ?_)
        · refine jr_ic (pc' := 73) rfl rfl (jr_goto (pc' := 77) rfl rfl ?_)
          exact k3 ((1 : Int)) jb_1 h
        · refine jr_il_n (pc' := 37) rfl rfl rfl (jr_lds (pc' := 39) rfl rfl jlk_12_228 ?_)
          refine jr_cs_p (pc' := 42) [_] rfl rfl jlk_12_223 jq_202 jbd_202 (jl rfl) rfl (jl rfl) hu (fun Q' hq => jc_202 hN (Nat.le_trans (jl rfl) hd) (jl rfl) (jo_b h) hq) (fun p12 hp12 h => ?_)
          refine jr_cne (pa := 45) (pb := 54) rfl rfl rfl hx0 hp12 h (fun hc h => ?_) (fun hc h => ?_)
          · refine jr_al_n (pc' := 46) rfl rfl rfl (jr_gi (pc' := 49) rfl rfl jlk_12_178 (.inl rfl) rfl hN jd_67 rfl rfl (jr_bi (pc' := 51) rfl rfl rfl ?_))
            refine jr_ceq (pa := 72) (pb := 54) rfl rfl rfl jg_a jgc_6 h (fun hc h => ?_) (fun hc h => ?_)
            · refine jr_ic (pc' := 73) rfl rfl (jr_goto (pc' := 77) rfl rfl ?_)
              exact k3 ((1 : Int)) jb_1 h
            · refine jr_il_n (pc' := 55) rfl rfl rfl (jr_lds (pc' := 57) rfl rfl jlk_12_229 ?_)
              refine jr_cs_p (pc' := 60) [_] rfl rfl jlk_12_223 jq_202 jbd_202 (jl rfl) rfl (jl rfl) hu (fun Q' hq => jc_202 hN (Nat.le_trans (jl rfl) hd) (jl rfl) (jo_b h) hq) (fun p13 hp13 h => ?_)
              refine jr_cne (pa := 63) (pb := 76) rfl rfl rfl hx0 hp13 h (fun hc h => ?_) (fun hc h => ?_)
              · refine jr_al_n (pc' := 64) rfl rfl rfl (jr_gi (pc' := 67) rfl rfl jlk_12_181 (.inl rfl) rfl hN jd_67 rfl rfl (jr_bi (pc' := 69) rfl rfl rfl ?_))
                refine jr_cne (pa := 72) (pb := 76) rfl rfl rfl jg_a jgc_8 h (fun hc h => ?_) (fun hc h => ?_)
                · refine jr_ic (pc' := 73) rfl rfl (jr_goto (pc' := 77) rfl rfl ?_)
                  exact k3 ((1 : Int)) jb_1 h
                · refine jr_ic (pc' := 77) rfl rfl ?_
                  exact k3 ((0 : Int)) jb_0 h
              · refine jr_ic (pc' := 77) rfl rfl ?_
                exact k3 ((0 : Int)) jb_0 h
          · refine jr_il_n (pc' := 55) rfl rfl rfl (jr_lds (pc' := 57) rfl rfl jlk_12_229 ?_)
            refine jr_cs_p (pc' := 60) [_] rfl rfl jlk_12_223 jq_202 jbd_202 (jl rfl) rfl (jl rfl) hu (fun Q' hq => jc_202 hN (Nat.le_trans (jl rfl) hd) (jl rfl) (jo_b h) hq) (fun p14 hp14 h => ?_)
            refine jr_cne (pa := 63) (pb := 76) rfl rfl rfl hx0 hp14 h (fun hc h => ?_) (fun hc h => ?_)
            · refine jr_al_n (pc' := 64) rfl rfl rfl (jr_gi (pc' := 67) rfl rfl jlk_12_181 (.inl rfl) rfl hN jd_67 rfl rfl (jr_bi (pc' := 69) rfl rfl rfl ?_))
              refine jr_cne (pa := 72) (pb := 76) rfl rfl rfl jg_a jgc_8 h (fun hc h => ?_) (fun hc h => ?_)
              · refine jr_ic (pc' := 73) rfl rfl (jr_goto (pc' := 77) rfl rfl ?_)
                exact k3 ((1 : Int)) jb_1 h
              · refine jr_ic (pc' := 77) rfl rfl ?_
                exact k3 ((0 : Int)) jb_0 h
            · refine jr_ic (pc' := 77) rfl rfl ?_
              exact k3 ((0 : Int)) jb_0 h
      · refine jr_il_n (pc' := 37) rfl rfl rfl (jr_lds (pc' := 39) rfl rfl jlk_12_228 ?_)
        refine jr_cs_p (pc' := 42) [_] rfl rfl jlk_12_223 jq_202 jbd_202 (jl rfl) rfl (jl rfl) hu (fun Q' hq => jc_202 hN (Nat.le_trans (jl rfl) hd) (jl rfl) (jo_b h) hq) (fun p15 hp15 h => ?_)
        refine jr_cne (pa := 45) (pb := 54) rfl rfl rfl hx0 hp15 h (fun hc h => ?_) (fun hc h => ?_)
        · refine jr_al_n (pc' := 46) rfl rfl rfl (jr_gi (pc' := 49) rfl rfl jlk_12_178 (.inl rfl) rfl hN jd_67 rfl rfl (jr_bi (pc' := 51) rfl rfl rfl ?_))
          refine jr_ceq (pa := 72) (pb := 54) rfl rfl rfl jg_a jgc_6 h (fun hc h => ?_) (fun hc h => ?_)
          · refine jr_ic (pc' := 73) rfl rfl (jr_goto (pc' := 77) rfl rfl ?_)
            exact k3 ((1 : Int)) jb_1 h
          · refine jr_il_n (pc' := 55) rfl rfl rfl (jr_lds (pc' := 57) rfl rfl jlk_12_229 ?_)
            refine jr_cs_p (pc' := 60) [_] rfl rfl jlk_12_223 jq_202 jbd_202 (jl rfl) rfl (jl rfl) hu (fun Q' hq => jc_202 hN (Nat.le_trans (jl rfl) hd) (jl rfl) (jo_b h) hq) (fun p16 hp16 h => ?_)
            refine jr_cne (pa := 63) (pb := 76) rfl rfl rfl hx0 hp16 h (fun hc h => ?_) (fun hc h => ?_)
            · refine jr_al_n (pc' := 64) rfl rfl rfl (jr_gi (pc' := 67) rfl rfl jlk_12_181 (.inl rfl) rfl hN jd_67 rfl rfl (jr_bi (pc' := 69) rfl rfl rfl ?_))
              refine jr_cne (pa := 72) (pb := 76) rfl rfl rfl jg_a jgc_8 h (fun hc h => ?_) (fun hc h => ?_)
              · refine jr_ic (pc' := 73) rfl rfl (jr_goto (pc' := 77) rfl rfl ?_)
                exact k3 ((1 : Int)) jb_1 h
              · refine jr_ic (pc' := 77) rfl rfl ?_
                exact k3 ((0 : Int)) jb_0 h
            · refine jr_ic (pc' := 77) rfl rfl ?_
              exact k3 ((0 : Int)) jb_0 h
        · refine jr_il_n (pc' := 55) rfl rfl rfl (jr_lds (pc' := 57) rfl rfl jlk_12_229 ?_)
          refine jr_cs_p (pc' := 60) [_] rfl rfl jlk_12_223 jq_202 jbd_202 (jl rfl) rfl (jl rfl) hu (fun Q' hq => jc_202 hN (Nat.le_trans (jl rfl) hd) (jl rfl) (jo_b h) hq) (fun p17 hp17 h => ?_)
          refine jr_cne (pa := 63) (pb := 76) rfl rfl rfl hx0 hp17 h (fun hc h => ?_) (fun hc h => ?_)
          · refine jr_al_n (pc' := 64) rfl rfl rfl (jr_gi (pc' := 67) rfl rfl jlk_12_181 (.inl rfl) rfl hN jd_67 rfl rfl (jr_bi (pc' := 69) rfl rfl rfl ?_))
            refine jr_cne (pa := 72) (pb := 76) rfl rfl rfl jg_a jgc_8 h (fun hc h => ?_) (fun hc h => ?_)
            · refine jr_ic (pc' := 73) rfl rfl (jr_goto (pc' := 77) rfl rfl ?_)
              exact k3 ((1 : Int)) jb_1 h
            · refine jr_ic (pc' := 77) rfl rfl ?_
              exact k3 ((0 : Int)) jb_0 h
          · refine jr_ic (pc' := 77) rfl rfl ?_
            exact k3 ((0 : Int)) jb_0 h

set_option maxRecDepth 20000 in
set_option maxHeartbeats 1000000 in
theorem jc_205 {X : Nat × (Nat → Int32)} {N d : Nat}  (hN : 102 ≤ N) (hd : 2 ≤ d)  {m : jm} {P : jm → Prop} {Q : px_Q} (h : jo (jf_205 m) P) (hQ : ∀ p : jm, True → P p → Q (.inl (none)) (jmem N p)) : px_C X d 205 [.ref 67] (jmem N m) Q := by
  unfold jf_205 at h
  have hu : ju px_m205 (0, 0) := ju_0
  refine jr_in (M := px_m205) (lev := 1) (L := [some (.ref 67)]) hd rfl jbd_205 (jl rfl) rfl (fun d hd Q' hQ' => ?_)
  refine jr_reg (fun t4 => True) (fun t4 => jp X (px_C X d) px_m205 Q' N 39 [some (.ref 67)] [] t4 (0, 0)) h (fun t4 ht4 h => ?_) (fun R6 k5 h => ?_)
  · exact jr_rv rfl hu rfl (hQ' _ _ (hQ t4 trivial h))
  · refine jr_lp (fun s1 => True) (fun s1 => jp X (px_C X d) px_m205 Q' N 0 [some (.ref 67)] [] s1 (0, 0)) h trivial (fun s1 hs1 R3 k2 h => ?_)
    refine jr_al_n (pc' := 1) rfl rfl rfl (jr_gi (pc' := 4) rfl rfl jlk_12_135 (.inl rfl) rfl hN jd_67 rfl rfl (jr_al_n (pc' := 5) rfl rfl rfl (jr_gi (pc' := 8) rfl rfl jlk_12_138 (.inl rfl) rfl hN jd_67 rfl rfl ?_)))
    refine jr_cge (pa := 11) (pb := 39) rfl rfl rfl jg_a jg_a h (fun hc h => ?_) (fun hc h => ?_)
    · refine jr_al_n (pc' := 12) rfl rfl rfl (jr_gr (pc' := 15) (r := 69) rfl rfl jlk_12_20 (.inl rfl) rfl hN jd_67 rfl rfl rfl (jr_al_n (pc' := 16) rfl rfl rfl (jr_gi (pc' := 19) rfl rfl jlk_12_135 (.inl rfl) rfl hN jd_67 rfl rfl ?_)))
      refine jr_ia (pc' := 20) rfl rfl (jl rfl) hN jd_69 jn_69 jg_a h (fun hc h => ?_)
      refine jr_cs_p (pc' := 23) [] rfl rfl jlk_12_145 jq_200 jbd_200 (jl rfl) rfl (jl rfl) hu (fun Q' hq => jc_200 hN (Nat.le_trans (jl rfl) hd) jg_a (jo_b h) hq) (fun p7 hp7 h => ?_)
      refine jr_zeq (pa := 39) (pb := 26) rfl rfl rfl (jg_b hp7) h (fun hc h => ?_) (fun hc h => ?_)
      · exact k5 (s1) trivial h
      · refine jr_al_n (pc' := 27) rfl rfl rfl (jr_dup (pc' := 28) rfl rfl rfl (jr_gi (pc' := 31) rfl rfl jlk_12_135 (.inl rfl) rfl hN jd_67 rfl rfl (jr_ic (pc' := 32) rfl rfl (jr_add (pc' := 33) rfl rfl (jr_pi (pc' := 36) rfl rfl jlk_12_135 (.inl rfl) rfl hN jd_67 rfl rfl ?_)))))
        refine jr_le h (fun m8 h => ?_)
        refine jr_goto (pc' := 0) rfl rfl ?_
        exact k2 (m8) trivial h
    · exact k5 (s1) trivial h

set_option maxRecDepth 20000 in
set_option maxHeartbeats 1000000 in
theorem jc_208 {X : Nat × (Nat → Int32)} {N d : Nat} {x0 : Int} (hN : 102 ≤ N) (hd : 1 ≤ d) (hx0 : jg x0) {m : jm} {P : Int → Prop} {Q : px_Q} (h : jo (jf_208 x0 m) P) (hQ : ∀ p : Int, jb p → P p → Q (.inl (some (jv p))) (jmem N m)) : px_C X d 208 [jv x0] (jmem N m) Q := by
  unfold jf_208 at h
  have hu : ju px_m208 (0, 0) := ju_0
  refine jr_in (M := px_m208) (lev := 0) (L := [some (jv x0)]) hd rfl jbd_208 (jl rfl) rfl (fun d hd Q' hQ' => ?_)
  refine jr_il_n (pc' := 1) rfl rfl rfl (jr_bi (pc' := 3) rfl rfl rfl ?_)
  refine jr_reg (fun t1 => jb t1) (fun t1 => jp X (px_C X d) px_m208 Q' N 17 [some (jv x0)] [(jv t1)] m (0, 0)) h (fun t1 ht1 h => ?_) (fun R13 k2 h => ?_)
  · exact jr_retb rfl hu rfl ht1 (hQ' _ _ (hQ t1 ht1 h))
  · refine jr_clt (pa := 16) (pb := 6) rfl rfl rfl hx0 jgc_48 h (fun hc h => ?_) (fun hc h => ?_)
    · refine jr_ic (pc' := 17) rfl rfl ?_
      exact k2 ((0 : Int)) jb_0 h
    · refine jr_il_n (pc' := 7) rfl rfl rfl (jr_bi (pc' := 9) rfl rfl rfl ?_)
      refine jr_cgt (pa := 16) (pb := 12) rfl rfl rfl hx0 jgc_57 h (fun hc h => ?_) (fun hc h => ?_)
      · refine jr_ic (pc' := 17) rfl rfl ?_
        exact k2 ((0 : Int)) jb_0 h
      · refine jr_ic (pc' := 13) rfl rfl (jr_goto (pc' := 17) rfl rfl ?_)
        exact k2 ((1 : Int)) jb_1 h

set_option maxRecDepth 20000 in
set_option maxHeartbeats 1000000 in
theorem jc_207 {X : Nat × (Nat → Int32)} {N d : Nat} {x0 : Int} {x1 : Int} (hN : 102 ≤ N) (hd : 2 ≤ d) (hx0 : jg x0) (hx1 : jg x1) {m : jm} {P : Int × jm → Prop} {Q : px_Q} (h : jo (jf_207 x0 x1 m) P) (hQ : ∀ p : Int × jm, jg p.1 → P p → Q (.inl (some (jv p.1))) (jmem N p.2)) : px_C X d 207 [.ref 67, jv x0, jv x1] (jmem N m) Q := by
  unfold jf_207 at h
  have hu : ju px_m207 (0, 0) := ju_0
  refine jr_in (M := px_m207) (lev := 1) (L := [some (.ref 67), some (jv x0), some (jv x1), none, none, none]) hd rfl jbd_207 (jl rfl) rfl (fun d hd Q' hQ' => ?_)
  refine jr_al_n (pc' := 1) rfl rfl rfl ?_
  refine jr_cv_p (pc' := 4) [] rfl rfl jlk_12_158 jq_196 jbd_196 (jl rfl) rfl (jl rfl) hu rfl (jk rfl hN) (jd_67.trans jo_196.symm) (fun Q' hq => jc_196 hN (Nat.le_trans (jl rfl) hd)  (jo_b h) hq) (fun p1 hp1 h => ?_)
  refine jr_zne (pa := 7) (pb := 9) rfl rfl rfl (jg_b hp1) h (fun hc h => ?_) (fun hc h => ?_)
  · refine jr_ic (pc' := 8) rfl rfl ?_
    exact jr_ret rfl hu rfl (hQ' _ _ (hQ ((0 : Int), m) jgc_0 h))
  · refine jr_al_n (pc' := 10) rfl rfl rfl ?_
    refine jr_cv_i (pc' := 13) [] rfl rfl jlk_12_141 jq_198 jbd_198 (jl rfl) rfl (jl rfl) hu rfl (jk rfl hN) (jd_67.trans jo_198.symm) (fun Q' hq => jc_198 hN (Nat.le_trans (jl rfl) hd)  (jo_b h) hq) (fun p2 hp2 h => ?_)
    refine jr_is_n (pc' := 14) (L' := [_, _, _, _, _, _]) rfl rfl (jl rfl) rfl rfl (jr_al_n (pc' := 15) rfl rfl rfl (jr_gi (pc' := 18) rfl rfl jlk_12_135 (.inl rfl) rfl hN jd_67 rfl rfl (jr_is (pc' := 20) (L' := [_, _, _, _, _, _]) rfl rfl (jl rfl) rfl rfl (jr_ic (pc' := 21) rfl rfl (jr_is (pc' := 23) (L' := [_, _, _, _, _, _]) rfl rfl (jl rfl) rfl rfl ?_)))))
    refine jr_il_n (pc' := 24) rfl rfl rfl ?_
    refine jr_cs_p (pc' := 27) [] rfl rfl jlk_12_162 jq_208 jbd_208 (jl rfl) rfl (jl rfl) hu (fun Q' hq => jc_208 hN (Nat.le_trans (jl rfl) hd) hp2 (jo_b h) hq) (fun p3 hp3 h => ?_)
    refine jr_zne (pa := 30) (pb := 41) rfl rfl rfl (jg_b hp3) h (fun hc h => ?_) (fun hc h => ?_)
    · refine jr_al_n (pc' := 31) rfl rfl rfl (jr_ic (pc' := 32) rfl rfl (jr_al_n (pc' := 33) rfl rfl rfl (jr_gi (pc' := 36) rfl rfl jlk_12_135 (.inl rfl) rfl hN jd_67 rfl rfl ?_)))
      refine jr_cv_v (pc' := 39) [] rfl rfl jlk_12_165 jq_203 jbd_203 (jl rfl) rfl (jl rfl) hu rfl (jk rfl hN) (jd_67.trans jo_203.symm) (fun Q' hq => jc_203 hN (Nat.le_trans (jl rfl) hd) jgc_1 jg_a (jo_b h) hq) (fun p4 hp4 h => ?_)
      refine jr_ic (pc' := 40) rfl rfl ?_
      exact jr_ret rfl hu rfl (hQ' _ _ (hQ ((0 : Int), p4) jgc_0 h))
    · refine jr_reg (fun t8 => jg t8.1) (fun t8 => jp X (px_C X d) px_m207 Q' N 114 [some (.ref 67), some (jv x0), some (jv x1), some (jv p2.1), some (jv (ja p2.2 67 4)), some (jv t8.1)] [] t8.2 (0, 0)) h (fun t8 ht8 h => ?_) (fun R10 k9 h => ?_)
      · refine jr_il (pc' := 116) rfl rfl rfl (jr_il_n (pc' := 117) rfl rfl rfl ?_)
        refine jr_clt (pa := 126) (pb := 120) rfl rfl rfl ht8 hx0 h (fun hc h => ?_) (fun hc h => ?_)
        · refine jr_al_n (pc' := 127) rfl rfl rfl (jr_ic (pc' := 128) rfl rfl (jr_il (pc' := 130) rfl rfl rfl ?_))
          refine jr_cv_v (pc' := 133) [] rfl rfl jlk_12_165 jq_203 jbd_203 (jl rfl) rfl (jl rfl) hu rfl (jk rfl hN) (jd_67.trans jo_203.symm) (fun Q' hq => jc_203 hN (Nat.le_trans (jl rfl) hd) jgc_2 jg_a (jo_b h) hq) (fun p36 hp36 h => ?_)
          refine jr_ic (pc' := 134) rfl rfl ?_
          exact jr_ret rfl hu rfl (hQ' _ _ (hQ ((0 : Int), p36) jgc_0 h))
        · refine jr_il (pc' := 122) rfl rfl rfl (jr_il_n (pc' := 123) rfl rfl rfl ?_)
          refine jr_cle (pa := 126) (pb := 135) rfl rfl rfl ht8 hx1 h (fun hc h => ?_) (fun hc h => ?_)
          · refine jr_al_n (pc' := 127) rfl rfl rfl (jr_ic (pc' := 128) rfl rfl (jr_il (pc' := 130) rfl rfl rfl ?_))
            refine jr_cv_v (pc' := 133) [] rfl rfl jlk_12_165 jq_203 jbd_203 (jl rfl) rfl (jl rfl) hu rfl (jk rfl hN) (jd_67.trans jo_203.symm) (fun Q' hq => jc_203 hN (Nat.le_trans (jl rfl) hd) jgc_2 jg_a (jo_b h) hq) (fun p37 hp37 h => ?_)
            refine jr_ic (pc' := 134) rfl rfl ?_
            exact jr_ret rfl hu rfl (hQ' _ _ (hQ ((0 : Int), p37) jgc_0 h))
          · refine jr_il (pc' := 137) rfl rfl rfl ?_
            exact jr_ret rfl hu rfl (hQ' _ _ (hQ (t8.1, t8.2) ht8 h))
      · refine jr_lp (fun s5 => jg s5.1) (fun s5 => jp X (px_C X d) px_m207 Q' N 41 [some (.ref 67), some (jv x0), some (jv x1), some (jv p2.1), some (jv (ja p2.2 67 4)), some (jv s5.1)] [] s5.2 (0, 0)) h jgc_0 (fun s5 hs5 R7 k6 h => ?_)
        refine jr_al_n (pc' := 42) rfl rfl rfl (jr_gi (pc' := 45) rfl rfl jlk_12_135 (.inl rfl) rfl hN jd_67 rfl rfl (jr_al_n (pc' := 46) rfl rfl rfl (jr_gi (pc' := 49) rfl rfl jlk_12_138 (.inl rfl) rfl hN jd_67 rfl rfl ?_)))
        refine jr_cge (pa := 52) (pb := 114) rfl rfl rfl jg_a jg_a h (fun hc h => ?_) (fun hc h => ?_)
        · refine jr_al_n (pc' := 53) rfl rfl rfl (jr_gr (pc' := 56) (r := 69) rfl rfl jlk_12_20 (.inl rfl) rfl hN jd_67 rfl rfl rfl (jr_al_n (pc' := 57) rfl rfl rfl (jr_gi (pc' := 60) rfl rfl jlk_12_135 (.inl rfl) rfl hN jd_67 rfl rfl ?_)))
          refine jr_ia (pc' := 61) rfl rfl (jl rfl) hN jd_69 jn_69 jg_a h (fun hc h => ?_)
          refine jr_cs_p (pc' := 64) [] rfl rfl jlk_12_162 jq_208 jbd_208 (jl rfl) rfl (jl rfl) hu (fun Q' hq => jc_208 hN (Nat.le_trans (jl rfl) hd) jg_a (jo_b h) hq) (fun p11 hp11 h => ?_)
          refine jr_zeq (pa := 114) (pb := 67) rfl rfl rfl (jg_b hp11) h (fun hc h => ?_) (fun hc h => ?_)
          · exact k9 (s5.1, s5.2) hs5 h
          · refine jr_il (pc' := 69) rfl rfl rfl (jr_si (pc' := 72) rfl rfl rfl ?_)
            refine jr_reg (fun t12 => jg t12) (fun t12 => jp X (px_C X d) px_m207 Q' N 99 [some (.ref 67), some (jv x0), some (jv x1), some (jv p2.1), some (jv (ja p2.2 67 4)), some (jv s5.1)] [(jv t12)] s5.2 (0, 0)) h (fun t12 ht12 h => ?_) (fun R25 k13 h => ?_)
            · refine jr_is (pc' := 101) (L' := [_, _, _, _, _, _]) rfl rfl (jl rfl) rfl rfl (jr_al_n (pc' := 102) rfl rfl rfl (jr_dup (pc' := 103) rfl rfl rfl (jr_gi (pc' := 106) rfl rfl jlk_12_135 (.inl rfl) rfl hN jd_67 rfl rfl (jr_ic (pc' := 107) rfl rfl (jr_add (pc' := 108) rfl rfl ?_)))))
              refine jr_pi (pc' := 111) rfl rfl jlk_12_135 (.inl rfl) rfl hN jd_67 rfl rfl ?_
              refine jr_le h (fun m24 h => ?_)
              refine jr_goto (pc' := 41) rfl rfl ?_
              exact k6 (t12, m24) ht12 h
            · refine jr_cle (pa := 75) (pb := 81) rfl rfl rfl hs5 jgc_9999 h (fun hc h => ?_) (fun hc h => ?_)
              · refine jr_si (pc' := 78) rfl rfl rfl (jr_goto (pc' := 99) rfl rfl ?_)
                exact k13 ((10000 : Int)) jgc_10000 h
              · refine jr_bi (pc' := 83) rfl rfl rfl (jr_il (pc' := 85) rfl rfl rfl (jr_mul (pc' := 86) rfl rfl (jr_al_n (pc' := 87) rfl rfl rfl (jr_gr (pc' := 90) (r := 69) rfl rfl jlk_12_20 (.inl rfl) rfl hN jd_67 rfl rfl rfl (jr_al_n (pc' := 91) rfl rfl rfl ?_)))))
                refine jr_gi (pc' := 94) rfl rfl jlk_12_135 (.inl rfl) rfl hN jd_67 rfl rfl ?_
                refine jr_ia (pc' := 95) rfl rfl (jl rfl) hN jd_69 jn_69 jg_a h (fun hc h => ?_)
                refine jr_add (pc' := 96) rfl rfl (jr_bi (pc' := 98) rfl rfl rfl (jr_sub (pc' := 99) rfl rfl ?_))
                exact k13 (jw ((jw ((jw ((10 : Int) * s5.1)) + (ja s5.2 69 (ja s5.2 67 4).toNat))) - (48 : Int))) jg_w h
        · exact k9 (s5.1, s5.2) hs5 h

set_option maxRecDepth 20000 in
set_option maxHeartbeats 1000000 in
theorem jc_210 {X : Nat × (Nat → Int32)} {N d : Nat}  (hN : 102 ≤ N) (hd : 3 ≤ d)  {m : jm} {P : Int × jm → Prop} {Q : px_Q} (h : jo (jf_210 m) P) (hQ : ∀ p : Int × jm, jg p.1 → P p → Q (.inl (some (jv p.1))) (jmem N p.2)) : px_C X d 210 [.ref 67] (jmem N m) Q := by
  unfold jf_210 at h
  have hu : ju px_m210 (0, 0) := ju_0
  refine jr_in (M := px_m210) (lev := 2) (L := [some (.ref 67)]) hd rfl jbd_210 (jl rfl) rfl (fun d hd Q' hQ' => ?_)
  refine jr_al_n (pc' := 1) rfl rfl rfl (jr_ic (pc' := 2) rfl rfl (jr_al_n (pc' := 3) rfl rfl rfl (jr_gi (pc' := 6) rfl rfl jlk_12_172 (.inl rfl) rfl hN jd_67 rfl rfl (jr_ic (pc' := 7) rfl rfl (jr_sub (pc' := 8) rfl rfl ?_)))))
  refine jr_cv_i (pc' := 11) [] rfl rfl jlk_12_215 jq_207 jbd_207 (jl rfl) rfl (jl rfl) hu rfl (jk rfl hN) (jd_67.trans jo_207.symm) (fun Q' hq => jc_207 hN (Nat.le_trans (jl rfl) hd) jgc_0 jg_w (jo_b h) hq) (fun p1 hp1 h => ?_)
  exact jr_ret rfl hu rfl (hQ' _ _ (hQ (p1.1, p1.2) hp1 h))

set_option maxRecDepth 20000 in
set_option maxHeartbeats 1000000 in
theorem jc_209 {X : Nat × (Nat → Int32)} {N d : Nat}  (hN : 102 ≤ N) (hd : 4 ≤ d)  {m : jm} {P : jm → Prop} {Q : px_Q} (h : jo (jf_209 m) P) (hQ : ∀ p : jm, True → P p → Q (.inl (none)) (jmem N p)) : px_C X d 209 [.ref 67] (jmem N m) Q := by
  unfold jf_209 at h
  have hu : ju px_m209 (0, 0) := ju_0
  refine jr_in (M := px_m209) (lev := 3) (L := [some (.ref 67), none, none, none, none, none, none]) hd rfl jbd_209 (jl rfl) rfl (fun d hd Q' hQ' => ?_)
  refine jr_al_n (pc' := 1) rfl rfl rfl ?_
  refine jr_cv_i (pc' := 4) [] rfl rfl jlk_12_219 jq_210 jbd_210 (jl rfl) rfl (jl rfl) hu rfl (jk rfl hN) (jd_67.trans jo_210.symm) (fun Q' hq => jc_210 hN (Nat.le_trans (jl rfl) hd)  (jo_b h) hq) (fun p1 hp1 h => ?_)
  refine jr_is_n (pc' := 5) (L' := [_, _, _, _, _, _, _]) rfl rfl (jl rfl) rfl rfl (jr_al_n (pc' := 6) rfl rfl rfl ?_)
  refine jr_cv_i (pc' := 9) [] rfl rfl jlk_12_141 jq_198 jbd_198 (jl rfl) rfl (jl rfl) hu rfl (jk rfl hN) (jd_67.trans jo_198.symm) (fun Q' hq => jc_198 hN (Nat.le_trans (jl rfl) hd)  (jo_b h) hq) (fun p2 hp2 h => ?_)
  refine jr_pop (pc' := 10) rfl rfl rfl (jr_al_n (pc' := 11) rfl rfl rfl (jr_gi (pc' := 14) rfl rfl jlk_12_135 (.inl rfl) rfl hN jd_67 rfl rfl (jr_is_n (pc' := 15) (L' := [_, _, _, _, _, _, _]) rfl rfl (jl rfl) rfl rfl (jr_al_n (pc' := 16) rfl rfl rfl ?_))))
  refine jr_cv_i (pc' := 19) [] rfl rfl jlk_12_219 jq_210 jbd_210 (jl rfl) rfl (jl rfl) hu rfl (jk rfl hN) (jd_67.trans jo_210.symm) (fun Q' hq => jc_210 hN (Nat.le_trans (jl rfl) hd)  (jo_b h) hq) (fun p3 hp3 h => ?_)
  refine jr_is_n (pc' := 20) (L' := [_, _, _, _, _, _, _]) rfl rfl (jl rfl) rfl rfl (jr_al_n (pc' := 21) rfl rfl rfl ?_)
  refine jr_cv_p (pc' := 24) [] rfl rfl jlk_12_158 jq_196 jbd_196 (jl rfl) rfl (jl rfl) hu rfl (jk rfl hN) (jd_67.trans jo_196.symm) (fun Q' hq => jc_196 hN (Nat.le_trans (jl rfl) hd)  (jo_b h) hq) (fun p4 hp4 h => ?_)
  refine jr_reg (fun t5 => True) (fun t5 => jp X (px_C X d) px_m209 Q' N 38 [some (.ref 67), some (jv p1.1), some (jv (ja p2.2 67 4)), some (jv p3.1), none, none, none] [] t5 (0, 0)) h (fun t5 ht5 h => ?_) (fun R61 k6 h => ?_)
  · refine jr_ic (pc' := 39) rfl rfl (jr_is (pc' := 41) (L' := [_, _, _, _, _, _, _]) rfl rfl (jl rfl) rfl rfl ?_)
    refine jr_reg (fun t23 => True) (fun t23 => ∀ o24, jn o24 → ∀ o25, jn o25 → ∀ o26, jn o26 → jp X (px_C X d) px_m209 Q' N 117 [some (.ref 67), some (jv p1.1), some (jv (ja p2.2 67 4)), some (jv p3.1), o24, o25, o26] [] t23 (0, 0)) h (fun t23 ht23 h o24 ho24 o25 ho25 o26 ho26 => ?_) (fun R28 k27 h => ?_)
    · refine jr_al_n (pc' := 118) rfl rfl rfl (jr_gr (pc' := 121) (r := 71) rfl rfl jlk_12_26 (.inl rfl) rfl hN jd_67 rfl rfl rfl (jr_ic (pc' := 122) rfl rfl (jr_al_n (pc' := 123) rfl rfl rfl (jr_gi (pc' := 126) rfl rfl jlk_12_175 (.inl rfl) rfl hN jd_67 rfl rfl (jr_mul (pc' := 127) rfl rfl ?_)))))
      refine jr_il_n (pc' := 128) rfl rfl rfl ?_
      refine jr_ist (pc' := 129) rfl rfl (jl rfl) hN jd_71 jn_71 jg_w h (fun hc h => ?_)
      refine jr_le h (fun m56 h => ?_)
      refine jr_al_n (pc' := 130) rfl rfl rfl (jr_gr (pc' := 133) (r := 71) rfl rfl jlk_12_26 (.inl rfl) rfl hN jd_67 rfl rfl rfl (jr_ic (pc' := 134) rfl rfl (jr_al_n (pc' := 135) rfl rfl rfl (jr_gi (pc' := 138) rfl rfl jlk_12_175 (.inl rfl) rfl hN jd_67 rfl rfl (jr_mul (pc' := 139) rfl rfl ?_)))))
      refine jr_ic (pc' := 140) rfl rfl (jr_add (pc' := 141) rfl rfl (jr_il_n (pc' := 142) rfl rfl rfl ?_))
      refine jr_ist (pc' := 143) rfl rfl (jl rfl) hN jd_71 jn_71 jg_w h (fun hc h => ?_)
      refine jr_le h (fun m57 h => ?_)
      refine jr_al_n (pc' := 144) rfl rfl rfl (jr_gr (pc' := 147) (r := 72) rfl rfl jlk_12_29 (.inl rfl) rfl hN jd_67 rfl rfl rfl (jr_al_n (pc' := 148) rfl rfl rfl (jr_gi (pc' := 151) rfl rfl jlk_12_175 (.inl rfl) rfl hN jd_67 rfl rfl (jr_al_n (pc' := 152) rfl rfl rfl (jr_ic (pc' := 153) rfl rfl ?_)))))
      refine jr_bi (pc' := 155) rfl rfl rfl ?_
      refine jr_cv_i (pc' := 158) [_, _] rfl rfl jlk_12_215 jq_207 jbd_207 (jl rfl) rfl (jl rfl) hu rfl (jk rfl hN) (jd_67.trans jo_207.symm) (fun Q' hq => jc_207 hN (Nat.le_trans (jl rfl) hd) jgc_0 jgc_9 (jo_b h) hq) (fun p58 hp58 h => ?_)
      refine jr_ist (pc' := 159) rfl rfl (jl rfl) hN jd_72 jn_72 jg_a h (fun hc h => ?_)
      refine jr_le h (fun m59 h => ?_)
      refine jr_al_n (pc' := 160) rfl rfl rfl (jr_dup (pc' := 161) rfl rfl rfl (jr_gi (pc' := 164) rfl rfl jlk_12_175 (.inl rfl) rfl hN jd_67 rfl rfl (jr_ic (pc' := 165) rfl rfl (jr_add (pc' := 166) rfl rfl (jr_pi (pc' := 169) rfl rfl jlk_12_175 (.inl rfl) rfl hN jd_67 rfl rfl ?_)))))
      refine jr_le h (fun m60 h => ?_)
      exact jr_rv rfl hu rfl (hQ' _ _ (hQ m60 trivial h))
    · refine jr_lp (fun s18 => jg s18.1) (fun s18 => ∀ o19, jn o19 → ∀ o20, jn o20 → jp X (px_C X d) px_m209 Q' N 41 [some (.ref 67), some (jv p1.1), some (jv (ja p2.2 67 4)), some (jv p3.1), some (jv s18.1), o19, o20] [] s18.2 (0, 0)) h jgc_0 (fun s18 hs18 R22 k21 h o19 ho19 o20 ho20 => ?_) _ jn_n _ jn_n
      refine jr_il (pc' := 43) rfl rfl rfl (jr_al_n (pc' := 44) rfl rfl rfl (jr_gi (pc' := 47) rfl rfl jlk_12_175 (.inl rfl) rfl hN jd_67 rfl rfl ?_))
      refine jr_cge (pa := 50) (pb := 117) rfl rfl rfl hs18 jg_a h (fun hc h => ?_) (fun hc h => ?_)
      · refine jr_al_n (pc' := 51) rfl rfl rfl ?_
        refine jr_cv_p (pc' := 54) [] rfl rfl jlk_12_158 jq_196 jbd_196 (jl rfl) rfl (jl rfl) hu rfl (jk rfl hN) (jd_67.trans jo_196.symm) (fun Q' hq => jc_196 hN (Nat.le_trans (jl rfl) hd)  (jo_b h) hq) (fun p29 hp29 h => ?_)
        refine jr_zeq (pa := 117) (pb := 57) rfl rfl rfl (jg_b hp29) h (fun hc h => ?_) (fun hc h => ?_)
        · exact k27 (s18.2) trivial h _ jn_i _ ho19 _ ho20
        · refine jr_al_n (pc' := 58) rfl rfl rfl (jr_gr (pc' := 61) (r := 71) rfl rfl jlk_12_26 (.inl rfl) rfl hN jd_67 rfl rfl rfl (jr_ic (pc' := 62) rfl rfl (jr_il (pc' := 64) rfl rfl rfl (jr_mul (pc' := 65) rfl rfl ?_))))
          refine jr_ia (pc' := 66) rfl rfl (jl rfl) hN jd_71 jn_71 jg_w h (fun hc h => ?_)
          refine jr_is (pc' := 68) (L' := [_, _, _, _, _, _, _]) rfl rfl (jl rfl) rfl rfl (jr_al_n (pc' := 69) rfl rfl rfl (jr_gr (pc' := 72) (r := 71) rfl rfl jlk_12_26 (.inl rfl) rfl hN jd_67 rfl rfl rfl (jr_ic (pc' := 73) rfl rfl (jr_il (pc' := 75) rfl rfl rfl (jr_mul (pc' := 76) rfl rfl ?_)))))
          refine jr_ic (pc' := 77) rfl rfl (jr_add (pc' := 78) rfl rfl ?_)
          refine jr_ia (pc' := 79) rfl rfl (jl rfl) hN jd_71 jn_71 jg_w h (fun hc h => ?_)
          refine jr_is (pc' := 81) (L' := [_, _, _, _, _, _, _]) rfl rfl (jl rfl) rfl rfl (jr_il (pc' := 83) rfl rfl rfl (jr_il_n (pc' := 84) rfl rfl rfl ?_))
          refine jr_reg (fun t30 => True) (fun t30 => jp X (px_C X d) px_m209 Q' N 111 [some (.ref 67), some (jv p1.1), some (jv (ja p2.2 67 4)), some (jv p3.1), some (jv s18.1), some (jv (ja s18.2 71 (jw ((2 : Int) * s18.1)).toNat)), some (jv (ja s18.2 71 (jw ((jw ((2 : Int) * s18.1)) + (1 : Int))).toNat))] [] t30 (0, 0)) h (fun t30 ht30 h => ?_) (fun R45 k31 h => ?_)
          · refine jr_inc (pc' := 114) (L' := [_, _, _, _, _, _, _]) rfl rfl rfl (jl rfl) rfl rfl (jr_goto (pc' := 41) rfl rfl ?_)
            exact k21 (jw (s18.1 + 1), t30) jg_w h _ jn_i _ jn_i
          · refine jr_cne (pa := 87) (pb := 93) rfl rfl rfl jg_a hp1 h (fun hc h => ?_) (fun hc h => ?_)
            · refine jr_il (pc' := 89) rfl rfl rfl (jr_il_n (pc' := 90) rfl rfl rfl ?_)
              refine jr_ceq (pa := 105) (pb := 93) rfl rfl rfl jg_a hp3 h (fun hc h => ?_) (fun hc h => ?_)
              · refine jr_al_n (pc' := 106) rfl rfl rfl (jr_ic (pc' := 107) rfl rfl (jr_il_n (pc' := 108) rfl rfl rfl ?_))
                refine jr_cv_v (pc' := 111) [] rfl rfl jlk_12_165 jq_203 jbd_203 (jl rfl) rfl (jl rfl) hu rfl (jk rfl hN) (jd_67.trans jo_203.symm) (fun Q' hq => jc_203 hN (Nat.le_trans (jl rfl) hd) jgc_2 jg_a (jo_b h) hq) (fun p32 hp32 h => ?_)
                exact k31 (p32) trivial h
              · refine jr_il (pc' := 95) rfl rfl rfl (jr_il_n (pc' := 96) rfl rfl rfl ?_)
                refine jr_cne (pa := 99) (pb := 111) rfl rfl rfl jg_a hp3 h (fun hc h => ?_) (fun hc h => ?_)
                · refine jr_il (pc' := 101) rfl rfl rfl (jr_il_n (pc' := 102) rfl rfl rfl ?_)
                  refine jr_cne (pa := 105) (pb := 111) rfl rfl rfl jg_a hp1 h (fun hc h => ?_) (fun hc h => ?_)
                  · refine jr_al_n (pc' := 106) rfl rfl rfl (jr_ic (pc' := 107) rfl rfl (jr_il_n (pc' := 108) rfl rfl rfl ?_))
                    refine jr_cv_v (pc' := 111) [] rfl rfl jlk_12_165 jq_203 jbd_203 (jl rfl) rfl (jl rfl) hu rfl (jk rfl hN) (jd_67.trans jo_203.symm) (fun Q' hq => jc_203 hN (Nat.le_trans (jl rfl) hd) jgc_2 jg_a (jo_b h) hq) (fun p33 hp33 h => ?_)
                    exact k31 (p33) trivial h
                  · exact k31 (s18.2) trivial h
                · exact k31 (s18.2) trivial h
            · refine jr_il (pc' := 95) rfl rfl rfl (jr_il_n (pc' := 96) rfl rfl rfl ?_)
              refine jr_cne (pa := 99) (pb := 111) rfl rfl rfl jg_a hp3 h (fun hc h => ?_) (fun hc h => ?_)
              · refine jr_il (pc' := 101) rfl rfl rfl (jr_il_n (pc' := 102) rfl rfl rfl ?_)
                refine jr_cne (pa := 105) (pb := 111) rfl rfl rfl jg_a hp1 h (fun hc h => ?_) (fun hc h => ?_)
                · refine jr_al_n (pc' := 106) rfl rfl rfl (jr_ic (pc' := 107) rfl rfl (jr_il_n (pc' := 108) rfl rfl rfl ?_))
                  refine jr_cv_v (pc' := 111) [] rfl rfl jlk_12_165 jq_203 jbd_203 (jl rfl) rfl (jl rfl) hu rfl (jk rfl hN) (jd_67.trans jo_203.symm) (fun Q' hq => jc_203 hN (Nat.le_trans (jl rfl) hd) jgc_2 jg_a (jo_b h) hq) (fun p34 hp34 h => ?_)
                  exact k31 (p34) trivial h
                · exact k31 (s18.2) trivial h
              · exact k31 (s18.2) trivial h
      · exact k27 (s18.2) trivial h _ jn_i _ ho19 _ ho20
  · refine jr_zeq (pa := 38) (pb := 27) rfl rfl rfl (jg_b hp4) h (fun hc h => ?_) (fun hc h => ?_)
    · exact k6 (p3.2) trivial h
    · refine jr_il_n (pc' := 28) rfl rfl rfl (jr_il_n (pc' := 29) rfl rfl rfl ?_)
      refine jr_cne (pa := 32) (pb := 38) rfl rfl rfl hp1 hp3 h (fun hc h => ?_) (fun hc h => ?_)
      · refine jr_al_n (pc' := 33) rfl rfl rfl (jr_ic (pc' := 34) rfl rfl (jr_il_n (pc' := 35) rfl rfl rfl ?_))
        refine jr_cv_v (pc' := 38) [] rfl rfl jlk_12_165 jq_203 jbd_203 (jl rfl) rfl (jl rfl) hu rfl (jk rfl hN) (jd_67.trans jo_203.symm) (fun Q' hq => jc_203 hN (Nat.le_trans (jl rfl) hd) jgc_2 jg_a (jo_b h) hq) (fun p7 hp7 h => ?_)
        exact k6 (p7) trivial h
      · exact k6 (p3.2) trivial h

set_option maxRecDepth 20000 in
set_option maxHeartbeats 1000000 in
theorem jc_206 {X : Nat × (Nat → Int32)} {N d : Nat} {x0 : Int} (hN : 102 ≤ N) (hd : 5 ≤ d) (hx0 : jg x0) {m : jm} {P : jm → Prop} {Q : px_Q} (h : jo (jf_206 x0 m) P) (hQ : ∀ p : jm, True → P p → Q (.inl (none)) (jmem N p)) : px_C X d 206 [.ref 67, jv x0] (jmem N m) Q := by
  unfold jf_206 at h
  have hu : ju px_m206 (0, 0) := ju_0
  refine jr_in (M := px_m206) (lev := 4) (L := [some (.ref 67), some (jv x0), none]) hd rfl jbd_206 (jl rfl) rfl (fun d hd Q' hQ' => ?_)
  refine jr_il_n (pc' := 1) rfl rfl rfl (jr_lds (pc' := 3) rfl rfl jlk_12_222 ?_)
  refine jr_cs_p (pc' := 6) [_] rfl rfl jlk_12_223 jq_202 jbd_202 (jl rfl) rfl (jl rfl) hu (fun Q' hq => jc_202 hN (Nat.le_trans (jl rfl) hd) (jl rfl) (jo_b h) hq) (fun p1 hp1 h => ?_)
  refine jr_reg (fun t2 => True) (fun t2 => ∀ o3, jn o3 → jp X (px_C X d) px_m206 Q' N 191 [some (.ref 67), some (jv x0), o3] [] t2 (0, 0)) h (fun t2 ht2 h o3 ho3 => ?_) (fun R37 k4 h => ?_)
  · exact jr_rv rfl hu rfl (hQ' _ _ (hQ t2 trivial h))
  · refine jr_cne (pa := 9) (pb := 38) rfl rfl rfl hx0 hp1 h (fun hc h => ?_) (fun hc h => ?_)
    · refine jr_al_n (pc' := 10) rfl rfl rfl (jr_gr (pc' := 13) (r := 70) rfl rfl jlk_12_23 (.inl rfl) rfl hN jd_67 rfl rfl rfl (jr_al_n (pc' := 14) rfl rfl rfl (jr_gi (pc' := 17) rfl rfl jlk_12_172 (.inl rfl) rfl hN jd_67 rfl rfl (jr_al_n (pc' := 18) rfl rfl rfl (jr_ic (pc' := 19) rfl rfl ?_)))))
      refine jr_bi (pc' := 21) rfl rfl rfl ?_
      refine jr_cv_i (pc' := 24) [_, _] rfl rfl jlk_12_215 jq_207 jbd_207 (jl rfl) rfl (jl rfl) hu rfl (jk rfl hN) (jd_67.trans jo_207.symm) (fun Q' hq => jc_207 hN (Nat.le_trans (jl rfl) hd) jgc_0 jgc_40 (jo_b h) hq) (fun p5 hp5 h => ?_)
      refine jr_ist (pc' := 25) rfl rfl (jl rfl) hN jd_70 jn_70 jg_a h (fun hc h => ?_)
      refine jr_le h (fun m6 h => ?_)
      refine jr_al_n (pc' := 26) rfl rfl rfl (jr_dup (pc' := 27) rfl rfl rfl (jr_gi (pc' := 30) rfl rfl jlk_12_172 (.inl rfl) rfl hN jd_67 rfl rfl (jr_ic (pc' := 31) rfl rfl (jr_add (pc' := 32) rfl rfl (jr_pi (pc' := 35) rfl rfl jlk_12_172 (.inl rfl) rfl hN jd_67 rfl rfl ?_)))))
      refine jr_le h (fun m7 h => ?_)
      refine jr_goto (pc' := 191) rfl rfl ?_
      exact k4 (m7) trivial h _ jn_n
    · refine jr_il_n (pc' := 39) rfl rfl rfl (jr_lds (pc' := 41) rfl rfl jlk_12_227 ?_)
      refine jr_cs_p (pc' := 44) [_] rfl rfl jlk_12_223 jq_202 jbd_202 (jl rfl) rfl (jl rfl) hu (fun Q' hq => jc_202 hN (Nat.le_trans (jl rfl) hd) (jl rfl) (jo_b h) hq) (fun p8 hp8 h => ?_)
      refine jr_cne (pa := 47) (pb := 54) rfl rfl rfl hx0 hp8 h (fun hc h => ?_) (fun hc h => ?_)
      · refine jr_al_n (pc' := 48) rfl rfl rfl ?_
        refine jr_cv_v (pc' := 51) [] rfl rfl jlk_12_230 jq_209 jbd_209 (jl rfl) rfl (jl rfl) hu rfl (jk rfl hN) (jd_67.trans jo_209.symm) (fun Q' hq => jc_209 hN (Nat.le_trans (jl rfl) hd)  (jo_b h) hq) (fun p9 hp9 h => ?_)
        refine jr_goto (pc' := 191) rfl rfl ?_
        exact k4 (p9) trivial h _ jn_n
      · refine jr_il_n (pc' := 55) rfl rfl rfl (jr_lds (pc' := 57) rfl rfl jlk_12_228 ?_)
        refine jr_cs_p (pc' := 60) [_] rfl rfl jlk_12_223 jq_202 jbd_202 (jl rfl) rfl (jl rfl) hu (fun Q' hq => jc_202 hN (Nat.le_trans (jl rfl) hd) (jl rfl) (jo_b h) hq) (fun p10 hp10 h => ?_)
        refine jr_cne (pa := 63) (pb := 123) rfl rfl rfl hx0 hp10 h (fun hc h => ?_) (fun hc h => ?_)
        · refine jr_ic (pc' := 64) rfl rfl (jr_al_n (pc' := 65) rfl rfl rfl (jr_gi (pc' := 68) rfl rfl jlk_12_178 (.inl rfl) rfl hN jd_67 rfl rfl (jr_mul (pc' := 69) rfl rfl (jr_is_n (pc' := 70) (L' := [_, _, _]) rfl rfl (jl rfl) rfl rfl (jr_al_n (pc' := 71) rfl rfl rfl ?_)))))
          refine jr_gr (pc' := 74) (r := 73) rfl rfl jlk_12_32 (.inl rfl) rfl hN jd_67 rfl rfl rfl (jr_il_n (pc' := 75) rfl rfl rfl (jr_al_n (pc' := 76) rfl rfl rfl ?_))
          refine jr_cv_i (pc' := 79) [_, _] rfl rfl jlk_12_219 jq_210 jbd_210 (jl rfl) rfl (jl rfl) hu rfl (jk rfl hN) (jd_67.trans jo_210.symm) (fun Q' hq => jc_210 hN (Nat.le_trans (jl rfl) hd)  (jo_b h) hq) (fun p11 hp11 h => ?_)
          refine jr_ist (pc' := 80) rfl rfl (jl rfl) hN jd_73 jn_73 jg_w h (fun hc h => ?_)
          refine jr_le h (fun m12 h => ?_)
          refine jr_al_n (pc' := 81) rfl rfl rfl (jr_gr (pc' := 84) (r := 73) rfl rfl jlk_12_32 (.inl rfl) rfl hN jd_67 rfl rfl rfl (jr_il_n (pc' := 85) rfl rfl rfl (jr_ic (pc' := 86) rfl rfl (jr_add (pc' := 87) rfl rfl (jr_al_n (pc' := 88) rfl rfl rfl ?_)))))
          refine jr_ic (pc' := 89) rfl rfl (jr_bi (pc' := 91) rfl rfl rfl ?_)
          refine jr_cv_i (pc' := 94) [_, _] rfl rfl jlk_12_215 jq_207 jbd_207 (jl rfl) rfl (jl rfl) hu rfl (jk rfl hN) (jd_67.trans jo_207.symm) (fun Q' hq => jc_207 hN (Nat.le_trans (jl rfl) hd) jgc_0 jgc_40 (jo_b h) hq) (fun p13 hp13 h => ?_)
          refine jr_ist (pc' := 95) rfl rfl (jl rfl) hN jd_73 jn_73 jg_w h (fun hc h => ?_)
          refine jr_le h (fun m14 h => ?_)
          refine jr_al_n (pc' := 96) rfl rfl rfl (jr_gr (pc' := 99) (r := 73) rfl rfl jlk_12_32 (.inl rfl) rfl hN jd_67 rfl rfl rfl (jr_il_n (pc' := 100) rfl rfl rfl (jr_ic (pc' := 101) rfl rfl (jr_add (pc' := 102) rfl rfl (jr_al_n (pc' := 103) rfl rfl rfl ?_)))))
          refine jr_ic (pc' := 104) rfl rfl (jr_bi (pc' := 106) rfl rfl rfl ?_)
          refine jr_cv_i (pc' := 109) [_, _] rfl rfl jlk_12_215 jq_207 jbd_207 (jl rfl) rfl (jl rfl) hu rfl (jk rfl hN) (jd_67.trans jo_207.symm) (fun Q' hq => jc_207 hN (Nat.le_trans (jl rfl) hd) jgc_0 jgc_6 (jo_b h) hq) (fun p15 hp15 h => ?_)
          refine jr_ist (pc' := 110) rfl rfl (jl rfl) hN jd_73 jn_73 jg_w h (fun hc h => ?_)
          refine jr_le h (fun m16 h => ?_)
          refine jr_al_n (pc' := 111) rfl rfl rfl (jr_dup (pc' := 112) rfl rfl rfl (jr_gi (pc' := 115) rfl rfl jlk_12_178 (.inl rfl) rfl hN jd_67 rfl rfl (jr_ic (pc' := 116) rfl rfl (jr_add (pc' := 117) rfl rfl (jr_pi (pc' := 120) rfl rfl jlk_12_178 (.inl rfl) rfl hN jd_67 rfl rfl ?_)))))
          refine jr_le h (fun m17 h => ?_)
          refine jr_goto (pc' := 191) rfl rfl ?_
          exact k4 (m17) trivial h _ jn_i
        · refine jr_ic (pc' := 124) rfl rfl (jr_al_n (pc' := 125) rfl rfl rfl (jr_gi (pc' := 128) rfl rfl jlk_12_181 (.inl rfl) rfl hN jd_67 rfl rfl (jr_mul (pc' := 129) rfl rfl (jr_is_n (pc' := 130) (L' := [_, _, _]) rfl rfl (jl rfl) rfl rfl (jr_al_n (pc' := 131) rfl rfl rfl ?_)))))
          refine jr_gr (pc' := 134) (r := 74) rfl rfl jlk_12_35 (.inl rfl) rfl hN jd_67 rfl rfl rfl (jr_il_n (pc' := 135) rfl rfl rfl (jr_al_n (pc' := 136) rfl rfl rfl ?_))
          refine jr_cv_i (pc' := 139) [_, _] rfl rfl jlk_12_219 jq_210 jbd_210 (jl rfl) rfl (jl rfl) hu rfl (jk rfl hN) (jd_67.trans jo_210.symm) (fun Q' hq => jc_210 hN (Nat.le_trans (jl rfl) hd)  (jo_b h) hq) (fun p18 hp18 h => ?_)
          refine jr_ist (pc' := 140) rfl rfl (jl rfl) hN jd_74 jn_74 jg_w h (fun hc h => ?_)
          refine jr_le h (fun m19 h => ?_)
          refine jr_al_n (pc' := 141) rfl rfl rfl (jr_gr (pc' := 144) (r := 74) rfl rfl jlk_12_35 (.inl rfl) rfl hN jd_67 rfl rfl rfl (jr_il_n (pc' := 145) rfl rfl rfl (jr_ic (pc' := 146) rfl rfl (jr_add (pc' := 147) rfl rfl (jr_al_n (pc' := 148) rfl rfl rfl ?_)))))
          refine jr_cv_i (pc' := 151) [_, _] rfl rfl jlk_12_219 jq_210 jbd_210 (jl rfl) rfl (jl rfl) hu rfl (jk rfl hN) (jd_67.trans jo_210.symm) (fun Q' hq => jc_210 hN (Nat.le_trans (jl rfl) hd)  (jo_b h) hq) (fun p20 hp20 h => ?_)
          refine jr_ist (pc' := 152) rfl rfl (jl rfl) hN jd_74 jn_74 jg_w h (fun hc h => ?_)
          refine jr_le h (fun m21 h => ?_)
          refine jr_al_n (pc' := 153) rfl rfl rfl (jr_gr (pc' := 156) (r := 74) rfl rfl jlk_12_35 (.inl rfl) rfl hN jd_67 rfl rfl rfl (jr_il_n (pc' := 157) rfl rfl rfl (jr_ic (pc' := 158) rfl rfl (jr_add (pc' := 159) rfl rfl (jr_al_n (pc' := 160) rfl rfl rfl ?_)))))
          refine jr_ic (pc' := 161) rfl rfl (jr_ic (pc' := 162) rfl rfl ?_)
          refine jr_cv_i (pc' := 165) [_, _] rfl rfl jlk_12_215 jq_207 jbd_207 (jl rfl) rfl (jl rfl) hu rfl (jk rfl hN) (jd_67.trans jo_207.symm) (fun Q' hq => jc_207 hN (Nat.le_trans (jl rfl) hd) jgc_0 jgc_5 (jo_b h) hq) (fun p22 hp22 h => ?_)
          refine jr_ist (pc' := 166) rfl rfl (jl rfl) hN jd_74 jn_74 jg_w h (fun hc h => ?_)
          refine jr_le h (fun m23 h => ?_)
          refine jr_al_n (pc' := 167) rfl rfl rfl (jr_gr (pc' := 170) (r := 74) rfl rfl jlk_12_35 (.inl rfl) rfl hN jd_67 rfl rfl rfl (jr_il_n (pc' := 171) rfl rfl rfl (jr_ic (pc' := 172) rfl rfl (jr_add (pc' := 173) rfl rfl (jr_al_n (pc' := 174) rfl rfl rfl ?_)))))
          refine jr_ic (pc' := 175) rfl rfl (jr_bi (pc' := 177) rfl rfl rfl ?_)
          refine jr_cv_i (pc' := 180) [_, _] rfl rfl jlk_12_215 jq_207 jbd_207 (jl rfl) rfl (jl rfl) hu rfl (jk rfl hN) (jd_67.trans jo_207.symm) (fun Q' hq => jc_207 hN (Nat.le_trans (jl rfl) hd) jgc_1 jgc_9 (jo_b h) hq) (fun p24 hp24 h => ?_)
          refine jr_ist (pc' := 181) rfl rfl (jl rfl) hN jd_74 jn_74 jg_w h (fun hc h => ?_)
          refine jr_le h (fun m25 h => ?_)
          refine jr_al_n (pc' := 182) rfl rfl rfl (jr_dup (pc' := 183) rfl rfl rfl (jr_gi (pc' := 186) rfl rfl jlk_12_181 (.inl rfl) rfl hN jd_67 rfl rfl (jr_ic (pc' := 187) rfl rfl (jr_add (pc' := 188) rfl rfl (jr_pi (pc' := 191) rfl rfl jlk_12_181 (.inl rfl) rfl hN jd_67 rfl rfl ?_)))))
          refine jr_le h (fun m26 h => ?_)
          exact k4 (m26) trivial h _ jn_i

set_option maxRecDepth 20000 in
set_option maxHeartbeats 1000000 in
theorem jc_211 {X : Nat × (Nat → Int32)} {N d : Nat} {x0 : Int} (hN : 102 ≤ N) (hd : 2 ≤ d) (hx0 : jg x0) {m : jm} {P : jm → Prop} {Q : px_Q} (h : jo (jf_211 x0 m) P) (hQ : ∀ p : jm, True → P p → Q (.inl (none)) (jmem N p)) : px_C X d 211 [.ref 67, jv x0] (jmem N m) Q := by
  unfold jf_211 at h
  have hu : ju px_m211 (0, 0) := ju_0
  refine jr_in (M := px_m211) (lev := 1) (L := [some (.ref 67), some (jv x0)]) hd rfl jbd_211 (jl rfl) rfl (fun d hd Q' hQ' => ?_)
  refine jr_al_n (pc' := 1) rfl rfl rfl ?_
  refine jr_cv_p (pc' := 4) [] rfl rfl jlk_12_158 jq_196 jbd_196 (jl rfl) rfl (jl rfl) hu rfl (jk rfl hN) (jd_67.trans jo_196.symm) (fun Q' hq => jc_196 hN (Nat.le_trans (jl rfl) hd)  (jo_b h) hq) (fun p1 hp1 h => ?_)
  refine jr_reg (fun t2 => True) (fun t2 => jp X (px_C X d) px_m211 Q' N 24 [some (.ref 67), some (jv x0)] [] t2 (0, 0)) h (fun t2 ht2 h => ?_) (fun R31 k3 h => ?_)
  · refine jr_al_n (pc' := 25) rfl rfl rfl ?_
    refine jr_cv_p (pc' := 28) [] rfl rfl jlk_12_158 jq_196 jbd_196 (jl rfl) rfl (jl rfl) hu rfl (jk rfl hN) (jd_67.trans jo_196.symm) (fun Q' hq => jc_196 hN (Nat.le_trans (jl rfl) hd)  (jo_b h) hq) (fun p16 hp16 h => ?_)
    refine jr_reg (fun t17 => True) (fun t17 => jp X (px_C X d) px_m211 Q' N 41 [some (.ref 67), some (jv x0)] [] t17 (0, 0)) h (fun t17 ht17 h => ?_) (fun R30 k18 h => ?_)
    · exact jr_rv rfl hu rfl (hQ' _ _ (hQ t17 trivial h))
    · refine jr_zeq (pa := 41) (pb := 31) rfl rfl rfl (jg_b hp16) h (fun hc h => ?_) (fun hc h => ?_)
      · exact k18 (t2) trivial h
      · refine jr_al_n (pc' := 32) rfl rfl rfl (jr_dup (pc' := 33) rfl rfl rfl (jr_gi (pc' := 36) rfl rfl jlk_12_135 (.inl rfl) rfl hN jd_67 rfl rfl (jr_ic (pc' := 37) rfl rfl (jr_add (pc' := 38) rfl rfl (jr_pi (pc' := 41) rfl rfl jlk_12_135 (.inl rfl) rfl hN jd_67 rfl rfl ?_)))))
        refine jr_le h (fun m19 h => ?_)
        exact k18 (m19) trivial h
  · refine jr_zeq (pa := 24) (pb := 7) rfl rfl rfl (jg_b hp1) h (fun hc h => ?_) (fun hc h => ?_)
    · exact k3 (m) trivial h
    · refine jr_al_n (pc' := 8) rfl rfl rfl ?_
      refine jr_cv_i (pc' := 11) [] rfl rfl jlk_12_141 jq_198 jbd_198 (jl rfl) rfl (jl rfl) hu rfl (jk rfl hN) (jd_67.trans jo_198.symm) (fun Q' hq => jc_198 hN (Nat.le_trans (jl rfl) hd)  (jo_b h) hq) (fun p4 hp4 h => ?_)
      refine jr_il_n (pc' := 12) rfl rfl rfl ?_
      refine jr_ceq (pa := 24) (pb := 15) rfl rfl rfl hp4 hx0 h (fun hc h => ?_) (fun hc h => ?_)
      · exact k3 (p4.2) trivial h
      · refine jr_al_n (pc' := 16) rfl rfl rfl (jr_ic (pc' := 17) rfl rfl (jr_al_n (pc' := 18) rfl rfl rfl (jr_gi (pc' := 21) rfl rfl jlk_12_135 (.inl rfl) rfl hN jd_67 rfl rfl ?_)))
        refine jr_cv_v (pc' := 24) [] rfl rfl jlk_12_165 jq_203 jbd_203 (jl rfl) rfl (jl rfl) hu rfl (jk rfl hN) (jd_67.trans jo_203.symm) (fun Q' hq => jc_203 hN (Nat.le_trans (jl rfl) hd) jgc_1 jg_a (jo_b h) hq) (fun p5 hp5 h => ?_)
        exact k3 (p5) trivial h

set_option maxRecDepth 20000 in
set_option maxHeartbeats 1000000 in
theorem jc_212 {X : Nat × (Nat → Int32)} {N d : Nat} {x0 : Int} (hN : 102 ≤ N) (hd : 2 ≤ d) (hx0 : jg x0) {m : jm} {P : Int × jm → Prop} {Q : px_Q} (h : jo (jf_212 x0 m) P) (hQ : ∀ p : Int × jm, jg p.1 → P p → Q (.inl (some (jv p.1))) (jmem N p.2)) : px_C X d 212 [.ref 67, jv x0] (jmem N m) Q := by
  unfold jf_212 at h
  have hu : ju px_m212 (0, 0) := ju_0
  refine jr_in (M := px_m212) (lev := 1) (L := [some (.ref 67), some (jv x0)]) hd rfl jbd_212 (jl rfl) rfl (fun d hd Q' hQ' => ?_)
  refine jr_al_n (pc' := 1) rfl rfl rfl (jr_al_n (pc' := 2) rfl rfl rfl (jr_gi (pc' := 5) rfl rfl jlk_12_129 (.inl rfl) rfl hN jd_67 rfl rfl (jr_pi (pc' := 8) rfl rfl jlk_12_17 (.inl rfl) rfl hN jd_67 rfl rfl ?_)))
  refine jr_le h (fun m1 h => ?_)
  refine jr_al_n (pc' := 9) rfl rfl rfl ?_
  refine jr_cv_p (pc' := 12) [] rfl rfl jlk_12_158 jq_196 jbd_196 (jl rfl) rfl (jl rfl) hu rfl (jk rfl hN) (jd_67.trans jo_196.symm) (fun Q' hq => jc_196 hN (Nat.le_trans (jl rfl) hd)  (jo_b h) hq) (fun p2 hp2 h => ?_)
  refine jr_reg (fun t3 => jg t3) (fun t3 => jp X (px_C X d) px_m212 Q' N 26 [some (.ref 67), some (jv x0)] [(jv t3)] m1 (0, 0)) h (fun t3 ht3 h => ?_) (fun R15 k4 h => ?_)
  · exact jr_ret rfl hu rfl (hQ' _ _ (hQ (t3, m1) ht3 h))
  · refine jr_zeq (pa := 19) (pb := 15) rfl rfl rfl (jg_b hp2) h (fun hc h => ?_) (fun hc h => ?_)
    · refine jr_al_n (pc' := 20) rfl rfl rfl (jr_gi (pc' := 23) rfl rfl jlk_12_132 (.inl rfl) rfl hN jd_67 rfl rfl (jr_bi (pc' := 25) rfl rfl rfl (jr_sub (pc' := 26) rfl rfl ?_)))
      exact k4 (jw ((ja m1 67 6) - (10 : Int))) jg_w h
    · refine jr_il_n (pc' := 16) rfl rfl rfl (jr_goto (pc' := 26) rfl rfl ?_)
      exact k4 (x0) hx0 h

set_option maxRecDepth 20000 in
set_option maxHeartbeats 1000000 in
theorem jc_193 {X : Nat × (Nat → Int32)} {N d : Nat} {x0 : Int} (hN : 102 ≤ N) (hd : 6 ≤ d) (hx0 : jg x0) {m : jm} {P : Int × jm → Prop} {Q : px_Q} (h : jo (jf_193 x0 m) P) (hQ : ∀ p : Int × jm, jg p.1 → P p → Q (.inl (some (jv p.1))) (jmem N p.2)) : px_C X d 193 [.ref 67, jv x0] (jmem N m) Q := by
  unfold jf_193 at h
  have hu : ju px_m193 (0, 0) := ju_0
  refine jr_in (M := px_m193) (lev := 5) (L := [some (.ref 67), some (jv x0), none, none]) hd rfl jbd_193 (jl rfl) rfl (fun d hd Q' hQ' => ?_)
  refine jr_al_n (pc' := 1) rfl rfl rfl (jr_ic (pc' := 2) rfl rfl (jr_pi (pc' := 5) rfl rfl jlk_12_3 (.inl rfl) rfl hN jd_67 rfl rfl ?_))
  refine jr_le h (fun m1 h => ?_)
  refine jr_al_n (pc' := 6) rfl rfl rfl (jr_il_n (pc' := 7) rfl rfl rfl ?_)
  refine jr_reg (fun t2 => jb t2) (fun t2 => jp X (px_C X d) px_m193 Q' N 23 [some (.ref 67), some (jv x0), none, none] [(jv t2), (.ref 67)] m1 (0, 0)) h (fun t2 ht2 h => ?_) (fun R91 k3 h => ?_)
  · refine jr_ic (pc' := 24) rfl rfl (jr_ic (pc' := 25) rfl rfl ?_)
    refine jr_cv_i (pc' := 28) [] rfl rfl jlk_12_233 jq_194 jbd_194 (jl rfl) rfl (jl rfl) hu rfl (jk rfl hN) (jd_67.trans jo_194.symm) (fun Q' hq => jc_194 hN (Nat.le_trans (jl rfl) hd) (jg_b ht2) jgc_1 jgc_1 (jo_b h) hq) (fun p14 hp14 h => ?_)
    refine jr_zne (pa := 31) (pb := 33) rfl rfl rfl (jg_b hp14) h (fun hc h => ?_) (fun hc h => ?_)
    · refine jr_ic (pc' := 32) rfl rfl ?_
      exact jr_ret rfl hu rfl (hQ' _ _ (hQ ((0 : Int), p14.2) jgc_0 h))
    · refine jr_al_n (pc' := 34) rfl rfl rfl (jr_il_n (pc' := 35) rfl rfl rfl ?_)
      refine jr_cv_v (pc' := 38) [] rfl rfl jlk_12_237 jq_195 jbd_195 (jl rfl) rfl (jl rfl) hu rfl (jk rfl hN) (jd_67.trans jo_195.symm) (fun Q' hq => jc_195 hN (Nat.le_trans (jl rfl) hd) hx0 (jo_b h) hq) (fun p15 hp15 h => ?_)
      refine jr_al_n (pc' := 39) rfl rfl rfl ?_
      refine jr_cv_v (pc' := 42) [] rfl rfl jlk_12_120 jq_188 jbd_188 (jl rfl) rfl (jl rfl) hu rfl (jk rfl hN) (jd_67.trans jo_188.symm) (fun Q' hq => jc_188 hN (Nat.le_trans (jl rfl) hd)  (jo_b h) hq) (fun p16 hp16 h => ?_)
      refine jr_ic (pc' := 43) rfl rfl (jr_is_n (pc' := 44) (L' := [_, _, _, _]) rfl rfl (jl rfl) rfl rfl ?_)
      refine jr_lp (fun s17 => jg s17.1) (fun s17 => ∀ o18, jn o18 → jp X (px_C X d) px_m193 Q' N 44 [some (.ref 67), some (jv x0), some (jv s17.1), o18] [] s17.2 (0, 0)) h jgc_0 (fun s17 hs17 R20 k19 h o18 ho18 => ?_) _ jn_n
      refine jr_al_n (pc' := 45) rfl rfl rfl ?_
      refine jr_cv_p (pc' := 48) [] rfl rfl jlk_12_158 jq_196 jbd_196 (jl rfl) rfl (jl rfl) hu rfl (jk rfl hN) (jd_67.trans jo_196.symm) (fun Q' hq => jc_196 hN (Nat.le_trans (jl rfl) hd)  (jo_b h) hq) (fun p21 hp21 h => ?_)
      refine jr_zeq (pa := 136) (pb := 51) rfl rfl rfl (jg_b hp21) h (fun hc h => ?_) (fun hc h => ?_)
      · refine jr_al_n (pc' := 137) rfl rfl rfl (jr_al_n (pc' := 138) rfl rfl rfl (jr_gi (pc' := 141) rfl rfl jlk_12_181 (.inl rfl) rfl hN jd_67 rfl rfl ?_))
        refine jr_cv_i (pc' := 144) [] rfl rfl jlk_12_262 jq_212 jbd_212 (jl rfl) rfl (jl rfl) hu rfl (jk rfl hN) (jd_67.trans jo_212.symm) (fun Q' hq => jc_212 hN (Nat.le_trans (jl rfl) hd) jg_a (jo_b h) hq) (fun p22 hp22 h => ?_)
        refine jr_is_n (pc' := 145) (L' := [_, _, _, _]) rfl rfl (jl rfl) rfl rfl (jr_al_n (pc' := 146) rfl rfl rfl (jr_gi (pc' := 149) rfl rfl jlk_12_129 (.inl rfl) rfl hN jd_67 rfl rfl (jr_ic (pc' := 150) rfl rfl ?_)))
        refine jr_reg (fun t23 => True) (fun t23 => jp X (px_C X d) px_m193 Q' N 157 [some (.ref 67), some (jv x0), some (jv s17.1), some (jv p22.1)] [] t23 (0, 0)) h (fun t23 ht23 h => ?_) (fun R36 k24 h => ?_)
        · refine jr_il_n (pc' := 158) rfl rfl rfl ?_
          exact jr_ret rfl hu rfl (hQ' _ _ (hQ (p22.1, t23) hp22 h))
        · refine jr_cne (pa := 153) (pb := 157) rfl rfl rfl jg_a jgc_m1 h (fun hc h => ?_) (fun hc h => ?_)
          · refine jr_al_n (pc' := 154) rfl rfl rfl ?_
            refine jr_cv_v (pc' := 157) [] rfl rfl jlk_12_123 jq_189 jbd_189 (jl rfl) rfl (jl rfl) hu rfl (jk rfl hN) (jd_67.trans jo_189.symm) (fun Q' hq => jc_189 hN (Nat.le_trans (jl rfl) hd)  (jo_b h) hq) (fun p25 hp25 h => ?_)
            exact k24 (p25) trivial h
          · exact k24 (p22.2) trivial h
      · refine jr_al_n (pc' := 52) rfl rfl rfl ?_
        refine jr_cv_i (pc' := 55) [] rfl rfl jlk_12_241 jq_197 jbd_197 (jl rfl) rfl (jl rfl) hu rfl (jk rfl hN) (jd_67.trans jo_197.symm) (fun Q' hq => jc_197 hN (Nat.le_trans (jl rfl) hd)  (jo_b h) hq) (fun p37 hp37 h => ?_)
        refine jr_zeq (pa := 136) (pb := 58) rfl rfl rfl (jg_b hp37) h (fun hc h => ?_) (fun hc h => ?_)
        · refine jr_al_n (pc' := 137) rfl rfl rfl (jr_al_n (pc' := 138) rfl rfl rfl (jr_gi (pc' := 141) rfl rfl jlk_12_181 (.inl rfl) rfl hN jd_67 rfl rfl ?_))
          refine jr_cv_i (pc' := 144) [] rfl rfl jlk_12_262 jq_212 jbd_212 (jl rfl) rfl (jl rfl) hu rfl (jk rfl hN) (jd_67.trans jo_212.symm) (fun Q' hq => jc_212 hN (Nat.le_trans (jl rfl) hd) jg_a (jo_b h) hq) (fun p38 hp38 h => ?_)
          refine jr_is_n (pc' := 145) (L' := [_, _, _, _]) rfl rfl (jl rfl) rfl rfl (jr_al_n (pc' := 146) rfl rfl rfl (jr_gi (pc' := 149) rfl rfl jlk_12_129 (.inl rfl) rfl hN jd_67 rfl rfl (jr_ic (pc' := 150) rfl rfl ?_)))
          refine jr_reg (fun t39 => True) (fun t39 => jp X (px_C X d) px_m193 Q' N 157 [some (.ref 67), some (jv x0), some (jv s17.1), some (jv p38.1)] [] t39 (0, 0)) h (fun t39 ht39 h => ?_) (fun R52 k40 h => ?_)
          · refine jr_il_n (pc' := 158) rfl rfl rfl ?_
            exact jr_ret rfl hu rfl (hQ' _ _ (hQ (p38.1, t39) hp38 h))
          · refine jr_cne (pa := 153) (pb := 157) rfl rfl rfl jg_a jgc_m1 h (fun hc h => ?_) (fun hc h => ?_)
            · refine jr_al_n (pc' := 154) rfl rfl rfl ?_
              refine jr_cv_v (pc' := 157) [] rfl rfl jlk_12_123 jq_189 jbd_189 (jl rfl) rfl (jl rfl) hu rfl (jk rfl hN) (jd_67.trans jo_189.symm) (fun Q' hq => jc_189 hN (Nat.le_trans (jl rfl) hd)  (jo_b h) hq) (fun p41 hp41 h => ?_)
              exact k40 (p41) trivial h
            · exact k40 (p38.2) trivial h
        · refine jr_al_n (pc' := 59) rfl rfl rfl ?_
          refine jr_cv_i (pc' := 62) [] rfl rfl jlk_12_244 jq_199 jbd_199 (jl rfl) rfl (jl rfl) hu rfl (jk rfl hN) (jd_67.trans jo_199.symm) (fun Q' hq => jc_199 hN (Nat.le_trans (jl rfl) hd)  (jo_b h) hq) (fun p53 hp53 h => ?_)
          refine jr_is_n (pc' := 63) (L' := [_, _, _, _]) rfl rfl (jl rfl) rfl rfl (jr_il_n (pc' := 64) rfl rfl rfl ?_)
          refine jr_cs_p (pc' := 67) [] rfl rfl jlk_12_247 jq_201 jbd_201 (jl rfl) rfl (jl rfl) hu (fun Q' hq => jc_201 hN (Nat.le_trans (jl rfl) hd) hp53 (jo_b h) hq) (fun p54 hp54 h => ?_)
          refine jr_reg (fun t55 => True) (fun t55 => jp X (px_C X d) px_m193 Q' N 105 [some (.ref 67), some (jv x0), some (jv s17.1), some (jv p53.1)] [] t55 (0, 0)) h (fun t55 ht55 h => ?_) (fun R90 k56 h => ?_)
          · refine jr_al_n (pc' := 106) rfl rfl rfl ?_
            refine jr_cv_p (pc' := 109) [] rfl rfl jlk_12_158 jq_196 jbd_196 (jl rfl) rfl (jl rfl) hu rfl (jk rfl hN) (jd_67.trans jo_196.symm) (fun Q' hq => jc_196 hN (Nat.le_trans (jl rfl) hd)  (jo_b h) hq) (fun p71 hp71 h => ?_)
            refine jr_zne (pa := 112) (pb := 115) rfl rfl rfl (jg_b hp71) h (fun hc h => ?_) (fun hc h => ?_)
            · refine jr_goto (pc' := 136) rfl rfl (jr_al_n (pc' := 137) rfl rfl rfl (jr_al_n (pc' := 138) rfl rfl rfl (jr_gi (pc' := 141) rfl rfl jlk_12_181 (.inl rfl) rfl hN jd_67 rfl rfl ?_)))
              refine jr_cv_i (pc' := 144) [] rfl rfl jlk_12_262 jq_212 jbd_212 (jl rfl) rfl (jl rfl) hu rfl (jk rfl hN) (jd_67.trans jo_212.symm) (fun Q' hq => jc_212 hN (Nat.le_trans (jl rfl) hd) jg_a (jo_b h) hq) (fun p72 hp72 h => ?_)
              refine jr_is_n (pc' := 145) (L' := [_, _, _, _]) rfl rfl (jl rfl) rfl rfl (jr_al_n (pc' := 146) rfl rfl rfl (jr_gi (pc' := 149) rfl rfl jlk_12_129 (.inl rfl) rfl hN jd_67 rfl rfl (jr_ic (pc' := 150) rfl rfl ?_)))
              refine jr_reg (fun t73 => True) (fun t73 => jp X (px_C X d) px_m193 Q' N 157 [some (.ref 67), some (jv x0), some (jv s17.1), some (jv p72.1)] [] t73 (0, 0)) h (fun t73 ht73 h => ?_) (fun R86 k74 h => ?_)
              · refine jr_il_n (pc' := 158) rfl rfl rfl ?_
                exact jr_ret rfl hu rfl (hQ' _ _ (hQ (p72.1, t73) hp72 h))
              · refine jr_cne (pa := 153) (pb := 157) rfl rfl rfl jg_a jgc_m1 h (fun hc h => ?_) (fun hc h => ?_)
                · refine jr_al_n (pc' := 154) rfl rfl rfl ?_
                  refine jr_cv_v (pc' := 157) [] rfl rfl jlk_12_123 jq_189 jbd_189 (jl rfl) rfl (jl rfl) hu rfl (jk rfl hN) (jd_67.trans jo_189.symm) (fun Q' hq => jc_189 hN (Nat.le_trans (jl rfl) hd)  (jo_b h) hq) (fun p75 hp75 h => ?_)
                  exact k74 (p75) trivial h
                · exact k74 (p72.2) trivial h
            · refine jr_al_n (pc' := 116) rfl rfl rfl ?_
              refine jr_cv_v (pc' := 119) [] rfl rfl jlk_12_253 jq_205 jbd_205 (jl rfl) rfl (jl rfl) hu rfl (jk rfl hN) (jd_67.trans jo_205.symm) (fun Q' hq => jc_205 hN (Nat.le_trans (jl rfl) hd)  (jo_b h) hq) (fun p87 hp87 h => ?_)
              refine jr_al_n (pc' := 120) rfl rfl rfl (jr_il_n (pc' := 121) rfl rfl rfl ?_)
              refine jr_cv_v (pc' := 124) [] rfl rfl jlk_12_256 jq_206 jbd_206 (jl rfl) rfl (jl rfl) hu rfl (jk rfl hN) (jd_67.trans jo_206.symm) (fun Q' hq => jc_206 hN (Nat.le_trans (jl rfl) hd) hp53 (jo_b h) hq) (fun p88 hp88 h => ?_)
              refine jr_al_n (pc' := 125) rfl rfl rfl (jr_bi (pc' := 127) rfl rfl rfl ?_)
              refine jr_cv_v (pc' := 130) [] rfl rfl jlk_12_259 jq_211 jbd_211 (jl rfl) rfl (jl rfl) hu rfl (jk rfl hN) (jd_67.trans jo_211.symm) (fun Q' hq => jc_211 hN (Nat.le_trans (jl rfl) hd) jgc_59 (jo_b h) hq) (fun p89 hp89 h => ?_)
              refine jr_inc (pc' := 133) (L' := [_, _, _, _]) rfl rfl rfl (jl rfl) rfl rfl (jr_goto (pc' := 44) rfl rfl ?_)
              exact k19 (jw (s17.1 + 1), p89) jg_w h _ jn_i
          · refine jr_zne (pa := 70) (pb := 82) rfl rfl rfl (jg_b hp54) h (fun hc h => ?_) (fun hc h => ?_)
            · refine jr_al_n (pc' := 71) rfl rfl rfl (jr_ic (pc' := 72) rfl rfl (jr_al_n (pc' := 73) rfl rfl rfl (jr_gi (pc' := 76) rfl rfl jlk_12_135 (.inl rfl) rfl hN jd_67 rfl rfl ?_)))
              refine jr_cv_v (pc' := 79) [] rfl rfl jlk_12_165 jq_203 jbd_203 (jl rfl) rfl (jl rfl) hu rfl (jk rfl hN) (jd_67.trans jo_203.symm) (fun Q' hq => jc_203 hN (Nat.le_trans (jl rfl) hd) jgc_1 jg_a (jo_b h) hq) (fun p57 hp57 h => ?_)
              refine jr_goto (pc' := 105) rfl rfl ?_
              exact k56 (p57) trivial h
            · refine jr_il_n (pc' := 83) rfl rfl rfl (jr_bi (pc' := 85) rfl rfl rfl ?_)
              refine jr_ceq (pa := 96) (pb := 88) rfl rfl rfl hs17 jgc_60 h (fun hc h => ?_) (fun hc h => ?_)
              · refine jr_al_n (pc' := 97) rfl rfl rfl (jr_ic (pc' := 98) rfl rfl (jr_al_n (pc' := 99) rfl rfl rfl (jr_gi (pc' := 102) rfl rfl jlk_12_135 (.inl rfl) rfl hN jd_67 rfl rfl ?_)))
                refine jr_cv_v (pc' := 105) [] rfl rfl jlk_12_165 jq_203 jbd_203 (jl rfl) rfl (jl rfl) hu rfl (jk rfl hN) (jd_67.trans jo_203.symm) (fun Q' hq => jc_203 hN (Nat.le_trans (jl rfl) hd) jgc_3 jg_a (jo_b h) hq) (fun p58 hp58 h => ?_)
                exact k56 (p58) trivial h
              · refine jr_al_n (pc' := 89) rfl rfl rfl (jr_il_n (pc' := 90) rfl rfl rfl ?_)
                refine jr_cv_p (pc' := 93) [] rfl rfl jlk_12_250 jq_204 jbd_204 (jl rfl) rfl (jl rfl) hu rfl (jk rfl hN) (jd_67.trans jo_204.symm) (fun Q' hq => jc_204 hN (Nat.le_trans (jl rfl) hd) hp53 (jo_b h) hq) (fun p59 hp59 h => ?_)
                refine jr_zeq (pa := 105) (pb := 96) rfl rfl rfl (jg_b hp59) h (fun hc h => ?_) (fun hc h => ?_)
                · exact k56 (p53.2) trivial h
                · refine jr_al_n (pc' := 97) rfl rfl rfl (jr_ic (pc' := 98) rfl rfl (jr_al_n (pc' := 99) rfl rfl rfl (jr_gi (pc' := 102) rfl rfl jlk_12_135 (.inl rfl) rfl hN jd_67 rfl rfl ?_)))
                  refine jr_cv_v (pc' := 105) [] rfl rfl jlk_12_165 jq_203 jbd_203 (jl rfl) rfl (jl rfl) hu rfl (jk rfl hN) (jd_67.trans jo_203.symm) (fun Q' hq => jc_203 hN (Nat.le_trans (jl rfl) hd) jgc_3 jg_a (jo_b h) hq) (fun p60 hp60 h => ?_)
                  exact k56 (p60) trivial h
  · refine jr_zlt (pa := 22) (pb := 10) rfl rfl rfl hx0 h (fun hc h => ?_) (fun hc h => ?_)
    · refine jr_ic (pc' := 23) rfl rfl ?_
      exact k3 ((0 : Int)) jb_0 h
    · refine jr_il_n (pc' := 11) rfl rfl rfl (jr_al_n (pc' := 12) rfl rfl rfl (jr_gi (pc' := 15) rfl rfl jlk_12_126 (.inl rfl) rfl hN jd_67 rfl rfl ?_))
      refine jr_cgt (pa := 22) (pb := 18) rfl rfl rfl hx0 jg_a h (fun hc h => ?_) (fun hc h => ?_)
      · refine jr_ic (pc' := 23) rfl rfl ?_
        exact k3 ((0 : Int)) jb_0 h
      · refine jr_ic (pc' := 19) rfl rfl (jr_goto (pc' := 23) rfl rfl ?_)
        exact k3 ((1 : Int)) jb_1 h

