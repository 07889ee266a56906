/-! the pure machine follows the functions, 6 (written by wip/whole/gen/walk.py) -/
set_option maxRecDepth 20000 in
set_option maxHeartbeats 1000000 in
theorem jc_74 {X : Nat × (Nat → Int32)} {N d : Nat} {q : Nat} (hN : 102 ≤ N) (hd : 2 ≤ d) (hq : q = 0 ∨ q = 17) {m : jm} {P : jm → Prop} {Q : px_Q} (h : jo (jf_74 q m) P) (hQ : ∀ p : jm, True → P p → Q (.inl (none)) (jmem N p)) : px_C X d 74 [.ref (47 + q)] (jmem N m) Q := by
  unfold jf_74 at h
  rcases hq with rfl | rfl
  · have hu : ju px_m74 (0, 0) := ju_0
    try dsimp only [Nat.reduceAdd] at h
    refine jr_in (M := px_m74) (lev := 1) (L := [some (.ref 47)]) hd rfl jbd_74 (jl rfl) rfl (fun d hd Q' hQ' => ?_)
    refine jr_al_n (pc' := 1) rfl rfl rfl (jr_gr (pc' := 4) (r := 48) rfl rfl jlk_6_11 (.inl rfl) rfl hN jd_47 rfl rfl rfl (jr_ic (pc' := 5) rfl rfl ?_))
    refine jr_cs_v (pc' := 8) [] rfl rfl jlk_6_28 jq_334 jbd_334 (jl rfl) rfl (jl rfl) hu (fun Q' hq => jc_334 hN (Nat.le_trans (jl rfl) hd) ⟨jl rfl, jd_48⟩ jgc_0 (jo_b h) hq) (fun p1 hp1 h => ?_)
    refine jr_al_n (pc' := 9) rfl rfl rfl (jr_gr (pc' := 12) (r := 3) rfl rfl jlk_6_20 (.inl rfl) rfl hN jd_47 rfl rfl rfl (jr_gr (pc' := 15) (r := 7) rfl rfl jlk_6_34 (.inr rfl) rfl hN jd_3 rfl rfl rfl (jr_ic (pc' := 16) rfl rfl (jr_al_n (pc' := 17) rfl rfl rfl (jr_gr (pc' := 20) (r := 48) rfl rfl jlk_6_11 (.inl rfl) rfl hN jd_47 rfl rfl rfl ?_)))))
    refine jr_ic (pc' := 21) rfl rfl (jr_bi (pc' := 23) rfl rfl rfl ?_)
    refine jr_cp (pc' := 26) rfl rfl jlk_6_39 (jl rfl) (jl rfl) hN jd_7 jd_48 jn_7 jn_48 (jl rfl) jgc_0 jgc_2 jgc_12 h (fun h => ?_)
    refine jr_le h (fun m2 h => ?_)
    refine jr_al_n (pc' := 27) rfl rfl rfl (jr_gr (pc' := 30) (r := 3) rfl rfl jlk_6_20 (.inl rfl) rfl hN jd_47 rfl rfl rfl (jr_gr (pc' := 33) (r := 8) rfl rfl jlk_6_45 (.inr rfl) rfl hN jd_3 rfl rfl rfl (jr_ic (pc' := 34) rfl rfl (jr_al_n (pc' := 35) rfl rfl rfl (jr_gr (pc' := 38) (r := 48) rfl rfl jlk_6_11 (.inl rfl) rfl hN jd_47 rfl rfl rfl ?_)))))
    refine jr_bi (pc' := 40) rfl rfl rfl (jr_bi (pc' := 42) rfl rfl rfl ?_)
    refine jr_cp (pc' := 45) rfl rfl jlk_6_39 (jl rfl) (jl rfl) hN jd_8 jd_48 jn_8 jn_48 (jl rfl) jgc_0 jgc_26 jgc_6 h (fun h => ?_)
    refine jr_le h (fun m3 h => ?_)
    refine jr_al_n (pc' := 46) rfl rfl rfl (jr_gr (pc' := 49) (r := 3) rfl rfl jlk_6_20 (.inl rfl) rfl hN jd_47 rfl rfl rfl (jr_gr (pc' := 52) (r := 11) rfl rfl jlk_6_48 (.inr rfl) rfl hN jd_3 rfl rfl rfl (jr_ic (pc' := 53) rfl rfl (jr_al_n (pc' := 54) rfl rfl rfl (jr_gr (pc' := 57) (r := 48) rfl rfl jlk_6_11 (.inl rfl) rfl hN jd_47 rfl rfl rfl ?_)))))
    refine jr_bi (pc' := 59) rfl rfl rfl (jr_bi (pc' := 61) rfl rfl rfl ?_)
    refine jr_cp (pc' := 64) rfl rfl jlk_6_39 (jl rfl) (jl rfl) hN jd_11 jd_48 jn_11 jn_48 (jl rfl) jgc_0 jgc_44 jgc_8 h (fun h => ?_)
    refine jr_le h (fun m4 h => ?_)
    exact jr_rv rfl hu rfl (hQ' _ _ (hQ m4 trivial h))
  · have hu : ju px_m74 (0, 0) := ju_0
    try dsimp only [Nat.reduceAdd] at h
    refine jr_in (M := px_m74) (lev := 1) (L := [some (.ref 64)]) hd rfl jbd_74 (jl rfl) rfl (fun d hd Q' hQ' => ?_)
    refine jr_al_n (pc' := 1) rfl rfl rfl (jr_gr (pc' := 4) (r := 65) rfl rfl jlk_6_11 (.inl rfl) rfl hN jd_64 rfl rfl rfl (jr_ic (pc' := 5) rfl rfl ?_))
    refine jr_cs_v (pc' := 8) [] rfl rfl jlk_6_28 jq_334 jbd_334 (jl rfl) rfl (jl rfl) hu (fun Q' hq => jc_334 hN (Nat.le_trans (jl rfl) hd) ⟨jl rfl, jd_65⟩ jgc_0 (jo_b h) hq) (fun p1 hp1 h => ?_)
    refine jr_al_n (pc' := 9) rfl rfl rfl (jr_gr (pc' := 12) (r := 3) rfl rfl jlk_6_20 (.inl rfl) rfl hN jd_64 rfl rfl rfl (jr_gr (pc' := 15) (r := 7) rfl rfl jlk_6_34 (.inr rfl) rfl hN jd_3 rfl rfl rfl (jr_ic (pc' := 16) rfl rfl (jr_al_n (pc' := 17) rfl rfl rfl (jr_gr (pc' := 20) (r := 65) rfl rfl jlk_6_11 (.inl rfl) rfl hN jd_64 rfl rfl rfl ?_)))))
    refine jr_ic (pc' := 21) rfl rfl (jr_bi (pc' := 23) rfl rfl rfl ?_)
    refine jr_cp (pc' := 26) rfl rfl jlk_6_39 (jl rfl) (jl rfl) hN jd_7 jd_65 jn_7 jn_65 (jl rfl) jgc_0 jgc_2 jgc_12 h (fun h => ?_)
    refine jr_le h (fun m2 h => ?_)
    refine jr_al_n (pc' := 27) rfl rfl rfl (jr_gr (pc' := 30) (r := 3) rfl rfl jlk_6_20 (.inl rfl) rfl hN jd_64 rfl rfl rfl (jr_gr (pc' := 33) (r := 8) rfl rfl jlk_6_45 (.inr rfl) rfl hN jd_3 rfl rfl rfl (jr_ic (pc' := 34) rfl rfl (jr_al_n (pc' := 35) rfl rfl rfl (jr_gr (pc' := 38) (r := 65) rfl rfl jlk_6_11 (.inl rfl) rfl hN jd_64 rfl rfl rfl ?_)))))
    refine jr_bi (pc' := 40) rfl rfl rfl (jr_bi (pc' := 42) rfl rfl rfl ?_)
    refine jr_cp (pc' := 45) rfl rfl jlk_6_39 (jl rfl) (jl rfl) hN jd_8 jd_65 jn_8 jn_65 (jl rfl) jgc_0 jgc_26 jgc_6 h (fun h => ?_)
    refine jr_le h (fun m3 h => ?_)
    refine jr_al_n (pc' := 46) rfl rfl rfl (jr_gr (pc' := 49) (r := 3) rfl rfl jlk_6_20 (.inl rfl) rfl hN jd_64 rfl rfl rfl (jr_gr (pc' := 52) (r := 11) rfl rfl jlk_6_48 (.inr rfl) rfl hN jd_3 rfl rfl rfl (jr_ic (pc' := 53) rfl rfl (jr_al_n (pc' := 54) rfl rfl rfl (jr_gr (pc' := 57) (r := 65) rfl rfl jlk_6_11 (.inl rfl) rfl hN jd_64 rfl rfl rfl ?_)))))
    refine jr_bi (pc' := 59) rfl rfl rfl (jr_bi (pc' := 61) rfl rfl rfl ?_)
    refine jr_cp (pc' := 64) rfl rfl jlk_6_39 (jl rfl) (jl rfl) hN jd_11 jd_65 jn_11 jn_65 (jl rfl) jgc_0 jgc_44 jgc_8 h (fun h => ?_)
    refine jr_le h (fun m4 h => ?_)
    exact jr_rv rfl hu rfl (hQ' _ _ (hQ m4 trivial h))

set_option maxRecDepth 20000 in
set_option maxHeartbeats 1000000 in
theorem jc_75 {X : Nat × (Nat → Int32)} {N d : Nat} {q : Nat} {x0 : Int} {x1 : Int} (hN : 102 ≤ N) (hd : 3 ≤ d) (hq : q = 0 ∨ q = 17) (hx0 : jg x0) (hx1 : jg x1) {m : jm} {P : Int × jm → Prop} {Q : px_Q} (h : jo (jf_75 q x0 x1 m) P) (hQ : ∀ p : Int × jm, jb p.1 → P p → Q (.inl (some (jv p.1))) (jmem N p.2)) : px_C X d 75 [.ref (47 + q), jv x0, jv x1] (jmem N m) Q := by
  unfold jf_75 at h
  rcases hq with rfl | rfl
  · have hu : ju px_m75 (0, 0) := ju_0
    try dsimp only [Nat.reduceAdd] at h
    refine jr_in (M := px_m75) (lev := 2) (L := [some (.ref 47), some (jv x0), some (jv x1), none]) hd rfl jbd_75 (jl rfl) rfl (fun d hd Q' hQ' => ?_)
    refine jr_al_n (pc' := 1) rfl rfl rfl (jr_il_n (pc' := 2) rfl rfl rfl ?_)
    refine jr_cv_p (pc' := 5) [] rfl rfl jlk_6_155 jq_58 jbd_58 (jl rfl) rfl (jl rfl) hu rfl (jk rfl hN) (jd_47.trans jo_58.symm) (fun Q' hq => jc_58 hN (Nat.le_trans (jl rfl) hd) (.inl rfl) hx0 (jo_b h) hq) (fun p1 hp1 h => ?_)
    refine jr_reg (fun t2 => jb t2) (fun t2 => jp X (px_C X d) px_m75 Q' N 26 [some (.ref 47), some (jv x0), some (jv x1), none] [(jv t2)] m (0, 0)) h (fun t2 ht2 h => ?_) (fun R20 k3 h => ?_)
    · refine jr_is_n (pc' := 27) (L' := [_, _, _, _]) rfl rfl (jl rfl) rfl rfl (jr_il_n (pc' := 28) rfl rfl rfl ?_)
      refine jr_zeq (pa := 55) (pb := 31) rfl rfl rfl (jg_b ht2) h (fun hc h => ?_) (fun hc h => ?_)
      · refine jr_ic (pc' := 56) rfl rfl ?_
        exact jr_retb rfl hu rfl jb_0 (hQ' _ _ (hQ ((0 : Int), m) jb_0 h))
      · refine jr_al_n (pc' := 32) rfl rfl rfl (jr_gr (pc' := 35) (r := 3) rfl rfl jlk_6_20 (.inl rfl) rfl hN jd_47 rfl rfl rfl (jr_il_n (pc' := 36) rfl rfl rfl (jr_il_n (pc' := 37) rfl rfl rfl ?_)))
        refine jr_cv_p (pc' := 40) [] rfl rfl jlk_6_158 jq_10 jbd_10 (jl rfl) rfl (jl rfl) hu rfl (jk rfl hN) (jd_3.trans jo_10.symm) (fun Q' hq => jc_10 hN (Nat.le_trans (jl rfl) hd) hx0 hx1 (jo_b h) hq) (fun p16 hp16 h => ?_)
        refine jr_zeq (pa := 55) (pb := 43) rfl rfl rfl (jg_b hp16) h (fun hc h => ?_) (fun hc h => ?_)
        · refine jr_ic (pc' := 56) rfl rfl ?_
          exact jr_retb rfl hu rfl jb_0 (hQ' _ _ (hQ ((0 : Int), m) jb_0 h))
        · refine jr_al_n (pc' := 44) rfl rfl rfl (jr_il_n (pc' := 45) rfl rfl rfl ?_)
          refine jr_cv_p (pc' := 48) [] rfl rfl jlk_6_142 jq_60 jbd_60 (jl rfl) rfl (jl rfl) hu rfl (jk rfl hN) (jd_47.trans jo_60.symm) (fun Q' hq => jc_60 hN (Nat.le_trans (jl rfl) hd) (.inl rfl) hx0 (jo_b h) hq) (fun p17 hp17 h => ?_)
          refine jr_cs_p (pc' := 51) [] rfl rfl jlk_6_123 jq_333 jbd_333 (jl rfl) rfl (jl rfl) hu (fun Q' hq => jc_333 hN (Nat.le_trans (jl rfl) hd) hp17 (jo_b h) hq) (fun p18 hp18 h => ?_)
          refine jr_ic (pc' := 52) rfl rfl ?_
          refine jr_clt (pa := 57) (pb := 55) rfl rfl rfl hp18 jgc_2 h (fun hc h => ?_) (fun hc h => ?_)
          · refine jr_al_n (pc' := 58) rfl rfl rfl (jr_gr (pc' := 61) (r := 48) rfl rfl jlk_6_11 (.inl rfl) rfl hN jd_47 rfl rfl rfl (jr_bi (pc' := 63) rfl rfl rfl (jr_il_n (pc' := 64) rfl rfl rfl (jr_add (pc' := 65) rfl rfl (jr_bi (pc' := 67) rfl rfl rfl ?_)))))
            refine jr_il_n (pc' := 68) rfl rfl rfl (jr_add (pc' := 69) rfl rfl ?_)
            refine jr_ist (pc' := 70) rfl rfl (jl rfl) hN jd_48 jn_48 jg_w h (fun hc h => ?_)
            refine jr_le h (fun m19 h => ?_)
            refine jr_ic (pc' := 71) rfl rfl ?_
            exact jr_retb rfl hu rfl jb_1 (hQ' _ _ (hQ ((1 : Int), m19) jb_1 h))
          · refine jr_ic (pc' := 56) rfl rfl ?_
            exact jr_retb rfl hu rfl jb_0 (hQ' _ _ (hQ ((0 : Int), m) jb_0 h))
    · refine jr_zne (pa := 8) (pb := 25) rfl rfl rfl (jg_b hp1) h (fun hc h => ?_) (fun hc h => ?_)
      · refine jr_al_n (pc' := 9) rfl rfl rfl (jr_il_n (pc' := 10) rfl rfl rfl ?_)
        refine jr_cv_p (pc' := 13) [] rfl rfl jlk_6_63 jq_57 jbd_57 (jl rfl) rfl (jl rfl) hu rfl (jk rfl hN) (jd_47.trans jo_57.symm) (fun Q' hq => jc_57 hN (Nat.le_trans (jl rfl) hd) (.inl rfl) hx1 (jo_b h) hq) (fun p4 hp4 h => ?_)
        refine jr_al_n (pc' := 14) rfl rfl rfl (jr_il_n (pc' := 15) rfl rfl rfl ?_)
        refine jr_cv_p (pc' := 18) [_] rfl rfl jlk_6_51 jq_59 jbd_59 (jl rfl) rfl (jl rfl) hu rfl (jk rfl hN) (jd_47.trans jo_59.symm) (fun Q' hq => jc_59 hN (Nat.le_trans (jl rfl) hd) (.inl rfl) hx0 (jo_b h) hq) (fun p5 hp5 h => ?_)
        refine jr_cne (pa := 21) (pb := 25) rfl rfl rfl hp4 hp5 h (fun hc h => ?_) (fun hc h => ?_)
        · refine jr_ic (pc' := 22) rfl rfl (jr_goto (pc' := 26) rfl rfl ?_)
          exact k3 ((1 : Int)) jb_1 h
        · refine jr_ic (pc' := 26) rfl rfl ?_
          exact k3 ((0 : Int)) jb_0 h
      · refine jr_ic (pc' := 26) rfl rfl ?_
        exact k3 ((0 : Int)) jb_0 h
  · have hu : ju px_m75 (0, 0) := ju_0
    try dsimp only [Nat.reduceAdd] at h
    refine jr_in (M := px_m75) (lev := 2) (L := [some (.ref 64), some (jv x0), some (jv x1), none]) hd rfl jbd_75 (jl rfl) rfl (fun d hd Q' hQ' => ?_)
    refine jr_al_n (pc' := 1) rfl rfl rfl (jr_il_n (pc' := 2) rfl rfl rfl ?_)
    refine jr_cv_p (pc' := 5) [] rfl rfl jlk_6_155 jq_58 jbd_58 (jl rfl) rfl (jl rfl) hu rfl (jk rfl hN) (jd_64.trans jo_58.symm) (fun Q' hq => jc_58 hN (Nat.le_trans (jl rfl) hd) (.inr rfl) hx0 (jo_b h) hq) (fun p1 hp1 h => ?_)
    refine jr_reg (fun t2 => jb t2) (fun t2 => jp X (px_C X d) px_m75 Q' N 26 [some (.ref 64), some (jv x0), some (jv x1), none] [(jv t2)] m (0, 0)) h (fun t2 ht2 h => ?_) (fun R20 k3 h => ?_)
    · refine jr_is_n (pc' := 27) (L' := [_, _, _, _]) rfl rfl (jl rfl) rfl rfl (jr_il_n (pc' := 28) rfl rfl rfl ?_)
      refine jr_zeq (pa := 55) (pb := 31) rfl rfl rfl (jg_b ht2) h (fun hc h => ?_) (fun hc h => ?_)
      · refine jr_ic (pc' := 56) rfl rfl ?_
        exact jr_retb rfl hu rfl jb_0 (hQ' _ _ (hQ ((0 : Int), m) jb_0 h))
      · refine jr_al_n (pc' := 32) rfl rfl rfl (jr_gr (pc' := 35) (r := 3) rfl rfl jlk_6_20 (.inl rfl) rfl hN jd_64 rfl rfl rfl (jr_il_n (pc' := 36) rfl rfl rfl (jr_il_n (pc' := 37) rfl rfl rfl ?_)))
        refine jr_cv_p (pc' := 40) [] rfl rfl jlk_6_158 jq_10 jbd_10 (jl rfl) rfl (jl rfl) hu rfl (jk rfl hN) (jd_3.trans jo_10.symm) (fun Q' hq => jc_10 hN (Nat.le_trans (jl rfl) hd) hx0 hx1 (jo_b h) hq) (fun p16 hp16 h => ?_)
        refine jr_zeq (pa := 55) (pb := 43) rfl rfl rfl (jg_b hp16) h (fun hc h => ?_) (fun hc h => ?_)
        · refine jr_ic (pc' := 56) rfl rfl ?_
          exact jr_retb rfl hu rfl jb_0 (hQ' _ _ (hQ ((0 : Int), m) jb_0 h))
        · refine jr_al_n (pc' := 44) rfl rfl rfl (jr_il_n (pc' := 45) rfl rfl rfl ?_)
          refine jr_cv_p (pc' := 48) [] rfl rfl jlk_6_142 jq_60 jbd_60 (jl rfl) rfl (jl rfl) hu rfl (jk rfl hN) (jd_64.trans jo_60.symm) (fun Q' hq => jc_60 hN (Nat.le_trans (jl rfl) hd) (.inr rfl) hx0 (jo_b h) hq) (fun p17 hp17 h => ?_)
          refine jr_cs_p (pc' := 51) [] rfl rfl jlk_6_123 jq_333 jbd_333 (jl rfl) rfl (jl rfl) hu (fun Q' hq => jc_333 hN (Nat.le_trans (jl rfl) hd) hp17 (jo_b h) hq) (fun p18 hp18 h => ?_)
          refine jr_ic (pc' := 52) rfl rfl ?_
          refine jr_clt (pa := 57) (pb := 55) rfl rfl rfl hp18 jgc_2 h (fun hc h => ?_) (fun hc h => ?_)
          · refine jr_al_n (pc' := 58) rfl rfl rfl (jr_gr (pc' := 61) (r := 65) rfl rfl jlk_6_11 (.inl rfl) rfl hN jd_64 rfl rfl rfl (jr_bi (pc' := 63) rfl rfl rfl (jr_il_n (pc' := 64) rfl rfl rfl (jr_add (pc' := 65) rfl rfl (jr_bi (pc' := 67) rfl rfl rfl ?_)))))
            refine jr_il_n (pc' := 68) rfl rfl rfl (jr_add (pc' := 69) rfl rfl ?_)
            refine jr_ist (pc' := 70) rfl rfl (jl rfl) hN jd_65 jn_65 jg_w h (fun hc h => ?_)
            refine jr_le h (fun m19 h => ?_)
            refine jr_ic (pc' := 71) rfl rfl ?_
            exact jr_retb rfl hu rfl jb_1 (hQ' _ _ (hQ ((1 : Int), m19) jb_1 h))
          · refine jr_ic (pc' := 56) rfl rfl ?_
            exact jr_retb rfl hu rfl jb_0 (hQ' _ _ (hQ ((0 : Int), m) jb_0 h))
    · refine jr_zne (pa := 8) (pb := 25) rfl rfl rfl (jg_b hp1) h (fun hc h => ?_) (fun hc h => ?_)
      · refine jr_al_n (pc' := 9) rfl rfl rfl (jr_il_n (pc' := 10) rfl rfl rfl ?_)
        refine jr_cv_p (pc' := 13) [] rfl rfl jlk_6_63 jq_57 jbd_57 (jl rfl) rfl (jl rfl) hu rfl (jk rfl hN) (jd_64.trans jo_57.symm) (fun Q' hq => jc_57 hN (Nat.le_trans (jl rfl) hd) (.inr rfl) hx1 (jo_b h) hq) (fun p4 hp4 h => ?_)
        refine jr_al_n (pc' := 14) rfl rfl rfl (jr_il_n (pc' := 15) rfl rfl rfl ?_)
        refine jr_cv_p (pc' := 18) [_] rfl rfl jlk_6_51 jq_59 jbd_59 (jl rfl) rfl (jl rfl) hu rfl (jk rfl hN) (jd_64.trans jo_59.symm) (fun Q' hq => jc_59 hN (Nat.le_trans (jl rfl) hd) (.inr rfl) hx0 (jo_b h) hq) (fun p5 hp5 h => ?_)
        refine jr_cne (pa := 21) (pb := 25) rfl rfl rfl hp4 hp5 h (fun hc h => ?_) (fun hc h => ?_)
        · refine jr_ic (pc' := 22) rfl rfl (jr_goto (pc' := 26) rfl rfl ?_)
          exact k3 ((1 : Int)) jb_1 h
        · refine jr_ic (pc' := 26) rfl rfl ?_
          exact k3 ((0 : Int)) jb_0 h
      · refine jr_ic (pc' := 26) rfl rfl ?_
        exact k3 ((0 : Int)) jb_0 h

set_option maxRecDepth 20000 in
set_option maxHeartbeats 1000000 in
theorem jc_76 {X : Nat × (Nat → Int32)} {N d : Nat} {q : Nat} {x0 : Int} {x1 : Int} (hN : 102 ≤ N) (hd : 2 ≤ d) (hq : q = 0 ∨ q = 17) (hx0 : jg x0) (hx1 : jg x1) {m : jm} {P : Int × jm → Prop} {Q : px_Q} (h : jo (jf_76 q x0 x1 m) P) (hQ : ∀ p : Int × jm, jb p.1 → P p → Q (.inl (some (jv p.1))) (jmem N p.2)) : px_C X d 76 [.ref (47 + q), jv x0, jv x1] (jmem N m) Q := by
  unfold jf_76 at h
  rcases hq with rfl | rfl
  · have hu : ju px_m76 (0, 0) := ju_0
    try dsimp only [Nat.reduceAdd] at h
    refine jr_in (M := px_m76) (lev := 1) (L := [some (.ref 47), some (jv x0), some (jv x1), none]) hd rfl jbd_76 (jl rfl) rfl (fun d hd Q' hQ' => ?_)
    refine jr_al_n (pc' := 1) rfl rfl rfl (jr_il_n (pc' := 2) rfl rfl rfl ?_)
    refine jr_cv_p (pc' := 5) [] rfl rfl jlk_6_66 jq_61 jbd_61 (jl rfl) rfl (jl rfl) hu rfl (jk rfl hN) (jd_47.trans jo_61.symm) (fun Q' hq => jc_61 hN (Nat.le_trans (jl rfl) hd) (.inl rfl) hx1 (jo_b h) hq) (fun p1 hp1 h => ?_)
    refine jr_il_n (pc' := 6) rfl rfl rfl ?_
    refine jr_ceq (pa := 11) (pb := 9) rfl rfl rfl hp1 hx0 h (fun hc h => ?_) (fun hc h => ?_)
    · refine jr_al_n (pc' := 12) rfl rfl rfl (jr_il_n (pc' := 13) rfl rfl rfl ?_)
      refine jr_cv_p (pc' := 16) [] rfl rfl jlk_6_51 jq_59 jbd_59 (jl rfl) rfl (jl rfl) hu rfl (jk rfl hN) (jd_47.trans jo_59.symm) (fun Q' hq => jc_59 hN (Nat.le_trans (jl rfl) hd) (.inl rfl) hx0 (jo_b h) hq) (fun p2 hp2 h => ?_)
      refine jr_is_n (pc' := 17) (L' := [_, _, _, _]) rfl rfl (jl rfl) rfl rfl (jr_al_n (pc' := 18) rfl rfl rfl (jr_gr (pc' := 21) (r := 48) rfl rfl jlk_6_11 (.inl rfl) rfl hN jd_47 rfl rfl rfl (jr_bi (pc' := 23) rfl rfl rfl (jr_il_n (pc' := 24) rfl rfl rfl (jr_add (pc' := 25) rfl rfl ?_)))))
      refine jr_il_n (pc' := 26) rfl rfl rfl (jr_al_n (pc' := 27) rfl rfl rfl (jr_gr (pc' := 30) (r := 3) rfl rfl jlk_6_20 (.inl rfl) rfl hN jd_47 rfl rfl rfl (jr_gr (pc' := 33) (r := 12) rfl rfl jlk_6_162 (.inr rfl) rfl hN jd_3 rfl rfl rfl (jr_il_n (pc' := 34) rfl rfl rfl ?_))))
      refine jr_ia (pc' := 35) rfl rfl (jl rfl) hN jd_12 jn_12 hx1 h (fun hc h => ?_)
      refine jr_reg (fun t3 => jg t3) (fun t3 => jp X (px_C X d) px_m76 Q' N 44 [some (.ref 47), some (jv x0), some (jv x1), some (jv p2)] [(jv t3), (jv (jw ((44 : Int) + x1))), (.ref 48)] m (0, 0)) h (fun t3 ht3 h => ?_) (fun R16 k4 h => ?_)
      · refine jr_ist (pc' := 45) rfl rfl (jl rfl) hN jd_48 jn_48 jg_w h (fun hc h => ?_)
        refine jr_le h (fun m15 h => ?_)
        refine jr_ic (pc' := 46) rfl rfl ?_
        exact jr_retb rfl hu rfl jb_1 (hQ' _ _ (hQ ((1 : Int), m15) jb_1 h))
      · refine jr_cne (pa := 38) (pb := 43) rfl rfl rfl hp2 jg_a h (fun hc h => ?_) (fun hc h => ?_)
        · refine jr_bi (pc' := 40) rfl rfl rfl (jr_goto (pc' := 44) rfl rfl ?_)
          exact k4 ((14 : Int)) jgc_14 h
        · refine jr_il_n (pc' := 44) rfl rfl rfl ?_
          exact k4 (p2) hp2 h
    · refine jr_ic (pc' := 10) rfl rfl ?_
      exact jr_retb rfl hu rfl jb_0 (hQ' _ _ (hQ ((0 : Int), m) jb_0 h))
  · have hu : ju px_m76 (0, 0) := ju_0
    try dsimp only [Nat.reduceAdd] at h
    refine jr_in (M := px_m76) (lev := 1) (L := [some (.ref 64), some (jv x0), some (jv x1), none]) hd rfl jbd_76 (jl rfl) rfl (fun d hd Q' hQ' => ?_)
    refine jr_al_n (pc' := 1) rfl rfl rfl (jr_il_n (pc' := 2) rfl rfl rfl ?_)
    refine jr_cv_p (pc' := 5) [] rfl rfl jlk_6_66 jq_61 jbd_61 (jl rfl) rfl (jl rfl) hu rfl (jk rfl hN) (jd_64.trans jo_61.symm) (fun Q' hq => jc_61 hN (Nat.le_trans (jl rfl) hd) (.inr rfl) hx1 (jo_b h) hq) (fun p1 hp1 h => ?_)
    refine jr_il_n (pc' := 6) rfl rfl rfl ?_
    refine jr_ceq (pa := 11) (pb := 9) rfl rfl rfl hp1 hx0 h (fun hc h => ?_) (fun hc h => ?_)
    · refine jr_al_n (pc' := 12) rfl rfl rfl (jr_il_n (pc' := 13) rfl rfl rfl ?_)
      refine jr_cv_p (pc' := 16) [] rfl rfl jlk_6_51 jq_59 jbd_59 (jl rfl) rfl (jl rfl) hu rfl (jk rfl hN) (jd_64.trans jo_59.symm) (fun Q' hq => jc_59 hN (Nat.le_trans (jl rfl) hd) (.inr rfl) hx0 (jo_b h) hq) (fun p2 hp2 h => ?_)
      refine jr_is_n (pc' := 17) (L' := [_, _, _, _]) rfl rfl (jl rfl) rfl rfl (jr_al_n (pc' := 18) rfl rfl rfl (jr_gr (pc' := 21) (r := 65) rfl rfl jlk_6_11 (.inl rfl) rfl hN jd_64 rfl rfl rfl (jr_bi (pc' := 23) rfl rfl rfl (jr_il_n (pc' := 24) rfl rfl rfl (jr_add (pc' := 25) rfl rfl ?_)))))
      refine jr_il_n (pc' := 26) rfl rfl rfl (jr_al_n (pc' := 27) rfl rfl rfl (jr_gr (pc' := 30) (r := 3) rfl rfl jlk_6_20 (.inl rfl) rfl hN jd_64 rfl rfl rfl (jr_gr (pc' := 33) (r := 12) rfl rfl jlk_6_162 (.inr rfl) rfl hN jd_3 rfl rfl rfl (jr_il_n (pc' := 34) rfl rfl rfl ?_))))
      refine jr_ia (pc' := 35) rfl rfl (jl rfl) hN jd_12 jn_12 hx1 h (fun hc h => ?_)
      refine jr_reg (fun t3 => jg t3) (fun t3 => jp X (px_C X d) px_m76 Q' N 44 [some (.ref 64), some (jv x0), some (jv x1), some (jv p2)] [(jv t3), (jv (jw ((44 : Int) + x1))), (.ref 65)] m (0, 0)) h (fun t3 ht3 h => ?_) (fun R16 k4 h => ?_)
      · refine jr_ist (pc' := 45) rfl rfl (jl rfl) hN jd_65 jn_65 jg_w h (fun hc h => ?_)
        refine jr_le h (fun m15 h => ?_)
        refine jr_ic (pc' := 46) rfl rfl ?_
        exact jr_retb rfl hu rfl jb_1 (hQ' _ _ (hQ ((1 : Int), m15) jb_1 h))
      · refine jr_cne (pa := 38) (pb := 43) rfl rfl rfl hp2 jg_a h (fun hc h => ?_) (fun hc h => ?_)
        · refine jr_bi (pc' := 40) rfl rfl rfl (jr_goto (pc' := 44) rfl rfl ?_)
          exact k4 ((14 : Int)) jgc_14 h
        · refine jr_il_n (pc' := 44) rfl rfl rfl ?_
          exact k4 (p2) hp2 h
    · refine jr_ic (pc' := 10) rfl rfl ?_
      exact jr_retb rfl hu rfl jb_0 (hQ' _ _ (hQ ((0 : Int), m) jb_0 h))

set_option maxRecDepth 20000 in
set_option maxHeartbeats 1000000 in
theorem jc_78 {X : Nat × (Nat → Int32)} {N d : Nat} {q : Nat} {x0 : Int} {x1 : Int} {x2 : Int} {x3 : Int} (hN : 102 ≤ N) (hd : 3 ≤ d) (hq : q = 0 ∨ q = 17) (hx0 : jg x0) (hx1 : jg x1) (hx2 : jg x2) (hx3 : jg x3) {m : jm} {P : Int × jm → Prop} {Q : px_Q} (h : jo (jf_78 q x0 x1 x2 x3 m) P) (hQ : ∀ p : Int × jm, jg p.1 → P p → Q (.inl (some (jv p.1))) (jmem N p.2)) : px_C X d 78 [.ref (47 + q), jv x0, jv x1, jv x2, jv x3] (jmem N m) Q := by
  unfold jf_78 at h
  rcases hq with rfl | rfl
  · have hu : ju px_m78 (0, 0) := ju_0
    try dsimp only [Nat.reduceAdd] at h
    refine jr_in (M := px_m78) (lev := 2) (L := [some (.ref 47), some (jv x0), some (jv x1), some (jv x2), some (jv x3)]) hd rfl jbd_78 (jl rfl) rfl (fun d hd Q' hQ' => ?_)
    refine jr_al_n (pc' := 1) rfl rfl rfl (jr_il_n (pc' := 2) rfl rfl rfl (jr_il_n (pc' := 3) rfl rfl rfl (jr_il_n (pc' := 4) rfl rfl rfl (jr_il (pc' := 6) rfl rfl rfl ?_))))
    refine jr_cv_v (pc' := 9) [] rfl rfl jlk_6_138 jq_64 jbd_64 (jl rfl) rfl (jl rfl) hu rfl (jk rfl hN) (jd_47.trans jo_64.symm) (fun Q' hq => jc_64 hN (Nat.le_trans (jl rfl) hd) (.inl rfl) hx0 hx1 hx2 hx3 (jo_b h) hq) (fun p1 hp1 h => ?_)
    refine jr_al_n (pc' := 10) rfl rfl rfl (jr_al_n (pc' := 11) rfl rfl rfl (jr_il_n (pc' := 12) rfl rfl rfl ?_))
    refine jr_cv_p (pc' := 15) [_] rfl rfl jlk_6_142 jq_60 jbd_60 (jl rfl) rfl (jl rfl) hu rfl (jk rfl hN) (jd_47.trans jo_60.symm) (fun Q' hq => jc_60 hN (Nat.le_trans (jl rfl) hd) (.inl rfl) hx0 (jo_b h) hq) (fun p2 hp2 h => ?_)
    refine jr_cv_v (pc' := 18) [] rfl rfl jlk_6_145 jq_71 jbd_71 (jl rfl) rfl (jl rfl) hu rfl (jk rfl hN) (jd_47.trans jo_71.symm) (fun Q' hq => jc_71 hN (Nat.le_trans (jl rfl) hd) (.inl rfl) hp2 (jo_b h) hq) (fun p3 hp3 h => ?_)
    refine jr_al_n (pc' := 19) rfl rfl rfl (jr_gr (pc' := 22) (r := 27) rfl rfl jlk_6_24 (.inl rfl) rfl hN jd_47 rfl rfl rfl (jr_al_n (pc' := 23) rfl rfl rfl (jr_gr (pc' := 26) (r := 49) rfl rfl jlk_6_17 (.inl rfl) rfl hN jd_47 rfl rfl rfl ?_)))
    refine jr_cv_i (pc' := 29) [] rfl rfl jlk_6_81 jq_23 jbd_23 (jl rfl) rfl (jl rfl) hu rfl (jk rfl hN) (jd_27.trans jo_23.symm) (fun Q' hq => jc_23 hN (Nat.le_trans (jl rfl) hd) (.inl rfl) (jo_b h) hq) (fun p4 hp4 h => ?_)
    exact jr_ret rfl hu rfl (hQ' _ _ (hQ (p4.1, p4.2) hp4 h))
  · have hu : ju px_m78 (0, 0) := ju_0
    try dsimp only [Nat.reduceAdd] at h
    refine jr_in (M := px_m78) (lev := 2) (L := [some (.ref 64), some (jv x0), some (jv x1), some (jv x2), some (jv x3)]) hd rfl jbd_78 (jl rfl) rfl (fun d hd Q' hQ' => ?_)
    refine jr_al_n (pc' := 1) rfl rfl rfl (jr_il_n (pc' := 2) rfl rfl rfl (jr_il_n (pc' := 3) rfl rfl rfl (jr_il_n (pc' := 4) rfl rfl rfl (jr_il (pc' := 6) rfl rfl rfl ?_))))
    refine jr_cv_v (pc' := 9) [] rfl rfl jlk_6_138 jq_64 jbd_64 (jl rfl) rfl (jl rfl) hu rfl (jk rfl hN) (jd_64.trans jo_64.symm) (fun Q' hq => jc_64 hN (Nat.le_trans (jl rfl) hd) (.inr rfl) hx0 hx1 hx2 hx3 (jo_b h) hq) (fun p1 hp1 h => ?_)
    refine jr_al_n (pc' := 10) rfl rfl rfl (jr_al_n (pc' := 11) rfl rfl rfl (jr_il_n (pc' := 12) rfl rfl rfl ?_))
    refine jr_cv_p (pc' := 15) [_] rfl rfl jlk_6_142 jq_60 jbd_60 (jl rfl) rfl (jl rfl) hu rfl (jk rfl hN) (jd_64.trans jo_60.symm) (fun Q' hq => jc_60 hN (Nat.le_trans (jl rfl) hd) (.inr rfl) hx0 (jo_b h) hq) (fun p2 hp2 h => ?_)
    refine jr_cv_v (pc' := 18) [] rfl rfl jlk_6_145 jq_71 jbd_71 (jl rfl) rfl (jl rfl) hu rfl (jk rfl hN) (jd_64.trans jo_71.symm) (fun Q' hq => jc_71 hN (Nat.le_trans (jl rfl) hd) (.inr rfl) hp2 (jo_b h) hq) (fun p3 hp3 h => ?_)
    refine jr_al_n (pc' := 19) rfl rfl rfl (jr_gr (pc' := 22) (r := 27) rfl rfl jlk_6_24 (.inl rfl) rfl hN jd_64 rfl rfl rfl (jr_al_n (pc' := 23) rfl rfl rfl (jr_gr (pc' := 26) (r := 66) rfl rfl jlk_6_17 (.inl rfl) rfl hN jd_64 rfl rfl rfl ?_)))
    refine jr_cv_i (pc' := 29) [] rfl rfl jlk_6_81 jq_23 jbd_23 (jl rfl) rfl (jl rfl) hu rfl (jk rfl hN) (jd_27.trans jo_23.symm) (fun Q' hq => jc_23 hN (Nat.le_trans (jl rfl) hd) (.inr rfl) (jo_b h) hq) (fun p4 hp4 h => ?_)
    exact jr_ret rfl hu rfl (hQ' _ _ (hQ (p4.1, p4.2) hp4 h))

set_option maxRecDepth 20000 in
set_option maxHeartbeats 1000000 in
theorem jc_79 {X : Nat × (Nat → Int32)} {N d : Nat} {q : Nat} {x0 : Int} (hN : 102 ≤ N) (hd : 3 ≤ d) (hq : q = 0 ∨ q = 17) (hx0 : jg x0) {m : jm} {P : jm → Prop} {Q : px_Q} (h : jo (jf_79 q x0 m) P) (hQ : ∀ p : jm, True → P p → Q (.inl (none)) (jmem N p)) : px_C X d 79 [.ref (47 + q), jv x0] (jmem N m) Q := by
  unfold jf_79 at h
  rcases hq with rfl | rfl
  · have hu : ju px_m79 (0, 0) := ju_0
    try dsimp only [Nat.reduceAdd] at h
    refine jr_in (M := px_m79) (lev := 2) (L := [some (.ref 47), some (jv x0), none]) hd rfl jbd_79 (jl rfl) rfl (fun d hd Q' hQ' => ?_)
    refine jr_ic (pc' := 1) rfl rfl (jr_is_n (pc' := 2) (L' := [_, _, _]) rfl rfl (jl rfl) rfl rfl ?_)
    refine jr_reg (fun t4 => True) (fun t4 => ∀ o5, jn o5 → jp X (px_C X d) px_m79 Q' N 26 [some (.ref 47), some (jv x0), o5] [] t4 (0, 0)) h (fun t4 ht4 h o5 ho5 => ?_) (fun R7 k6 h => ?_)
    · exact jr_rv rfl hu rfl (hQ' _ _ (hQ t4 trivial h))
    · refine jr_lp (fun s1 => jg s1.1) (fun s1 => jp X (px_C X d) px_m79 Q' N 2 [some (.ref 47), some (jv x0), some (jv s1.1)] [] s1.2 (0, 0)) h jgc_0 (fun s1 hs1 R3 k2 h => ?_)
      refine jr_il_n (pc' := 3) rfl rfl rfl (jr_al_n (pc' := 4) rfl rfl rfl (jr_gr (pc' := 7) (r := 3) rfl rfl jlk_6_20 (.inl rfl) rfl hN jd_47 rfl rfl rfl (jr_gi (pc' := 10) rfl rfl jlk_6_55 (.inr rfl) rfl hN jd_3 rfl rfl ?_)))
      refine jr_cge (pa := 13) (pb := 26) rfl rfl rfl hs1 jg_a h (fun hc h => ?_) (fun hc h => ?_)
      · refine jr_al_n (pc' := 14) rfl rfl rfl (jr_il_n (pc' := 15) rfl rfl rfl (jr_il_n (pc' := 16) rfl rfl rfl ?_))
        refine jr_cv_i (pc' := 19) [] rfl rfl jlk_6_174 jq_76 jbd_76 (jl rfl) rfl (jl rfl) hu rfl (jk rfl hN) (jd_47.trans jo_76.symm) (fun Q' hq => jc_76 hN (Nat.le_trans (jl rfl) hd) (.inl rfl) hx0 hs1 (jo_b h) hq) (fun p8 hp8 h => ?_)
        refine jr_pop (pc' := 20) rfl rfl rfl (jr_inc (pc' := 23) (L' := [_, _, _]) rfl rfl rfl (jl rfl) rfl rfl (jr_goto (pc' := 2) rfl rfl ?_))
        exact k2 (jw (s1.1 + 1), p8.2) jg_w h
      · exact k6 (s1.2) trivial h _ jn_i
  · have hu : ju px_m79 (0, 0) := ju_0
    try dsimp only [Nat.reduceAdd] at h
    refine jr_in (M := px_m79) (lev := 2) (L := [some (.ref 64), some (jv x0), none]) hd rfl jbd_79 (jl rfl) rfl (fun d hd Q' hQ' => ?_)
    refine jr_ic (pc' := 1) rfl rfl (jr_is_n (pc' := 2) (L' := [_, _, _]) rfl rfl (jl rfl) rfl rfl ?_)
    refine jr_reg (fun t4 => True) (fun t4 => ∀ o5, jn o5 → jp X (px_C X d) px_m79 Q' N 26 [some (.ref 64), some (jv x0), o5] [] t4 (0, 0)) h (fun t4 ht4 h o5 ho5 => ?_) (fun R7 k6 h => ?_)
    · exact jr_rv rfl hu rfl (hQ' _ _ (hQ t4 trivial h))
    · refine jr_lp (fun s1 => jg s1.1) (fun s1 => jp X (px_C X d) px_m79 Q' N 2 [some (.ref 64), some (jv x0), some (jv s1.1)] [] s1.2 (0, 0)) h jgc_0 (fun s1 hs1 R3 k2 h => ?_)
      refine jr_il_n (pc' := 3) rfl rfl rfl (jr_al_n (pc' := 4) rfl rfl rfl (jr_gr (pc' := 7) (r := 3) rfl rfl jlk_6_20 (.inl rfl) rfl hN jd_64 rfl rfl rfl (jr_gi (pc' := 10) rfl rfl jlk_6_55 (.inr rfl) rfl hN jd_3 rfl rfl ?_)))
      refine jr_cge (pa := 13) (pb := 26) rfl rfl rfl hs1 jg_a h (fun hc h => ?_) (fun hc h => ?_)
      · refine jr_al_n (pc' := 14) rfl rfl rfl (jr_il_n (pc' := 15) rfl rfl rfl (jr_il_n (pc' := 16) rfl rfl rfl ?_))
        refine jr_cv_i (pc' := 19) [] rfl rfl jlk_6_174 jq_76 jbd_76 (jl rfl) rfl (jl rfl) hu rfl (jk rfl hN) (jd_64.trans jo_76.symm) (fun Q' hq => jc_76 hN (Nat.le_trans (jl rfl) hd) (.inr rfl) hx0 hs1 (jo_b h) hq) (fun p8 hp8 h => ?_)
        refine jr_pop (pc' := 20) rfl rfl rfl (jr_inc (pc' := 23) (L' := [_, _, _]) rfl rfl rfl (jl rfl) rfl rfl (jr_goto (pc' := 2) rfl rfl ?_))
        exact k2 (jw (s1.1 + 1), p8.2) jg_w h
      · exact k6 (s1.2) trivial h _ jn_i

set_option maxRecDepth 20000 in
set_option maxHeartbeats 1000000 in
theorem jc_77 {X : Nat × (Nat → Int32)} {N d : Nat} {q : Nat} {x0 : Int} {x1 : Int} (hN : 102 ≤ N) (hd : 4 ≤ d) (hq : q = 0 ∨ q = 17) (hx0 : jg x0) (hx1 : jg x1) {m : jm} {P : Int × jm → Prop} {Q : px_Q} (h : jo (jf_77 q x0 x1 m) P) (hQ : ∀ p : Int × jm, jb p.1 → P p → Q (.inl (some (jv p.1))) (jmem N p.2)) : px_C X d 77 [.ref (47 + q), jv x0, jv x1] (jmem N m) Q := by
  unfold jf_77 at h
  rcases hq with rfl | rfl
  · have hu : ju px_m77 (0, 0) := ju_0
    try dsimp only [Nat.reduceAdd] at h
    refine jr_in (M := px_m77) (lev := 3) (L := [some (.ref 47), some (jv x0), some (jv x1), none, none, none]) hd rfl jbd_77 (jl rfl) rfl (fun d hd Q' hQ' => ?_)
    refine jr_al_n (pc' := 1) rfl rfl rfl (jr_il_n (pc' := 2) rfl rfl rfl ?_)
    refine jr_cv_p (pc' := 5) [] rfl rfl jlk_6_51 jq_59 jbd_59 (jl rfl) rfl (jl rfl) hu rfl (jk rfl hN) (jd_47.trans jo_59.symm) (fun Q' hq => jc_59 hN (Nat.le_trans (jl rfl) hd) (.inl rfl) hx0 (jo_b h) hq) (fun p1 hp1 h => ?_)
    refine jr_is_n (pc' := 6) (L' := [_, _, _, _, _, _]) rfl rfl (jl rfl) rfl rfl (jr_il_n (pc' := 7) rfl rfl rfl (jr_ic (pc' := 8) rfl rfl ?_))
    refine jr_reg (fun t2 => jg t2) (fun t2 => jp X (px_C X d) px_m77 Q' N 24 [some (.ref 47), some (jv x0), some (jv x1), some (jv p1), none, none] [(jv t2)] m (0, 0)) h (fun t2 ht2 h => ?_) (fun R49 k3 h => ?_)
    · refine jr_is (pc' := 26) (L' := [_, _, _, _, _, _]) rfl rfl (jl rfl) rfl rfl (jr_il (pc' := 28) rfl rfl rfl (jr_ic (pc' := 29) rfl rfl ?_))
      refine jr_cne (pa := 32) (pb := 34) rfl rfl rfl ht2 jgc_m1 h (fun hc h => ?_) (fun hc h => ?_)
      · refine jr_ic (pc' := 33) rfl rfl ?_
        exact jr_retb rfl hu rfl jb_0 (hQ' _ _ (hQ ((0 : Int), m) jb_0 h))
      · refine jr_al_n (pc' := 35) rfl rfl rfl (jr_il_n (pc' := 36) rfl rfl rfl (jr_il (pc' := 38) rfl rfl rfl (jr_al_n (pc' := 39) rfl rfl rfl (jr_gr (pc' := 42) (r := 3) rfl rfl jlk_6_20 (.inl rfl) rfl hN jd_47 rfl rfl rfl (jr_gr (pc' := 45) (r := 5) rfl rfl jlk_6_91 (.inr rfl) rfl hN jd_3 rfl rfl rfl ?_)))))
        refine jr_il (pc' := 47) rfl rfl rfl ?_
        refine jr_ia (pc' := 48) rfl rfl (jl rfl) hN jd_5 jn_5 ht2 h (fun hc h => ?_)
        refine jr_il_n (pc' := 49) rfl rfl rfl ?_
        refine jr_reg (fun t15 => jb t15) (fun t15 => jp X (px_C X d) px_m77 Q' N 57 [some (.ref 47), some (jv x0), some (jv x1), some (jv p1), some (jv t2), none] [(jv t15), (jv t2), (jv x0), (.ref 47)] m (0, 0)) h (fun t15 ht15 h => ?_) (fun R48 k16 h => ?_)
        · refine jr_al_n (pc' := 58) rfl rfl rfl ?_
          refine jr_cv_p (pc' := 61) [_, _, _, _] rfl rfl jlk_6_131 jq_63 jbd_63 (jl rfl) rfl (jl rfl) hu rfl (jk rfl hN) (jd_47.trans jo_63.symm) (fun Q' hq => jc_63 hN (Nat.le_trans (jl rfl) hd) (.inl rfl) (jo_b h) hq) (fun p27 hp27 h => ?_)
          refine jr_cv_i (pc' := 64) [] rfl rfl jlk_6_134 jq_78 jbd_78 (jl rfl) rfl (jl rfl) hu rfl (jk rfl hN) (jd_47.trans jo_78.symm) (fun Q' hq => jc_78 hN (Nat.le_trans (jl rfl) hd) (.inl rfl) hx0 ht2 (jg_b ht15) hp27 (jo_b h) hq) (fun p28 hp28 h => ?_)
          refine jr_is (pc' := 66) (L' := [_, _, _, _, _, _]) rfl rfl (jl rfl) rfl rfl (jr_al_n (pc' := 67) rfl rfl rfl (jr_gr (pc' := 70) (r := 48) rfl rfl jlk_6_11 (.inl rfl) rfl hN jd_47 rfl rfl rfl (jr_bi (pc' := 72) rfl rfl rfl (jr_il (pc' := 74) rfl rfl rfl (jr_add (pc' := 75) rfl rfl ?_)))))
          refine jr_dup2 (pc' := 76) rfl rfl rfl rfl ?_
          refine jr_ia (pc' := 77) rfl rfl (jl rfl) hN jd_48 jn_48 jg_w h (fun hc h => ?_)
          refine jr_ic (pc' := 78) rfl rfl (jr_add (pc' := 79) rfl rfl ?_)
          refine jr_ist (pc' := 80) rfl rfl (jl rfl) hN jd_48 jn_48 jg_w h (fun hc h => ?_)
          refine jr_le h (fun m29 h => ?_)
          refine jr_al_n (pc' := 81) rfl rfl rfl (jr_il_n (pc' := 82) rfl rfl rfl (jr_il (pc' := 84) rfl rfl rfl ?_))
          refine jr_cv_p (pc' := 87) [] rfl rfl jlk_6_168 jq_73 jbd_73 (jl rfl) rfl (jl rfl) hu rfl (jk rfl hN) (jd_47.trans jo_73.symm) (fun Q' hq => jc_73 hN (Nat.le_trans (jl rfl) hd) (.inl rfl) hx0 hp28 (jo_b h) hq) (fun p30 hp30 h => ?_)
          refine jr_reg (fun t31 => True) (fun t31 => jp X (px_C X d) px_m77 Q' N 131 [some (.ref 47), some (jv x0), some (jv x1), some (jv p1), some (jv t2), some (jv p28.1)] [] t31 (0, 0)) h (fun t31 ht31 h => ?_) (fun R47 k32 h => ?_)
          · refine jr_ic (pc' := 132) rfl rfl ?_
            exact jr_retb rfl hu rfl jb_1 (hQ' _ _ (hQ ((1 : Int), t31) jb_1 h))
          · refine jr_zeq (pa := 103) (pb := 90) rfl rfl rfl (jg_b hp30) h (fun hc h => ?_) (fun hc h => ?_)
            · refine jr_al_n (pc' := 104) rfl rfl rfl (jr_il_n (pc' := 105) rfl rfl rfl ?_)
              refine jr_cv_v (pc' := 108) [] rfl rfl jlk_6_171 jq_79 jbd_79 (jl rfl) rfl (jl rfl) hu rfl (jk rfl hN) (jd_47.trans jo_79.symm) (fun Q' hq => jc_79 hN (Nat.le_trans (jl rfl) hd) (.inl rfl) hx0 (jo_b h) hq) (fun p33 hp33 h => ?_)
              refine jr_al_n (pc' := 109) rfl rfl rfl (jr_gr (pc' := 112) (r := 48) rfl rfl jlk_6_11 (.inl rfl) rfl hN jd_47 rfl rfl rfl (jr_bi (pc' := 114) rfl rfl rfl (jr_il_n (pc' := 115) rfl rfl rfl (jr_add (pc' := 116) rfl rfl (jr_ic (pc' := 117) rfl rfl ?_)))))
              refine jr_ist (pc' := 118) rfl rfl (jl rfl) hN jd_48 jn_48 jg_w h (fun hc h => ?_)
              refine jr_le h (fun m34 h => ?_)
              refine jr_al_n (pc' := 119) rfl rfl rfl (jr_gr (pc' := 122) (r := 48) rfl rfl jlk_6_11 (.inl rfl) rfl hN jd_47 rfl rfl rfl (jr_bi (pc' := 124) rfl rfl rfl (jr_il_n (pc' := 125) rfl rfl rfl (jr_add (pc' := 126) rfl rfl (jr_dup2 (pc' := 127) rfl rfl rfl rfl ?_)))))
              refine jr_ia (pc' := 128) rfl rfl (jl rfl) hN jd_48 jn_48 jg_w h (fun hc h => ?_)
              refine jr_ic (pc' := 129) rfl rfl (jr_add (pc' := 130) rfl rfl ?_)
              refine jr_ist (pc' := 131) rfl rfl (jl rfl) hN jd_48 jn_48 jg_w h (fun hc h => ?_)
              refine jr_le h (fun m35 h => ?_)
              exact k32 (m35) trivial h
            · refine jr_al_n (pc' := 91) rfl rfl rfl (jr_gr (pc' := 94) (r := 48) rfl rfl jlk_6_11 (.inl rfl) rfl hN jd_47 rfl rfl rfl (jr_bi (pc' := 96) rfl rfl rfl (jr_il_n (pc' := 97) rfl rfl rfl (jr_add (pc' := 98) rfl rfl (jr_il_n (pc' := 99) rfl rfl rfl ?_)))))
              refine jr_ist (pc' := 100) rfl rfl (jl rfl) hN jd_48 jn_48 jg_w h (fun hc h => ?_)
              refine jr_le h (fun m36 h => ?_)
              refine jr_goto (pc' := 131) rfl rfl ?_
              exact k32 (m36) trivial h
        · refine jr_cne (pa := 52) (pb := 56) rfl rfl rfl jg_a hp1 h (fun hc h => ?_) (fun hc h => ?_)
          · refine jr_ic (pc' := 53) rfl rfl (jr_goto (pc' := 57) rfl rfl ?_)
            exact k16 ((0 : Int)) jb_0 h
          · refine jr_ic (pc' := 57) rfl rfl ?_
            exact k16 ((1 : Int)) jb_1 h
    · refine jr_cne (pa := 11) (pb := 15) rfl rfl rfl hp1 jgc_m1 h (fun hc h => ?_) (fun hc h => ?_)
      · refine jr_ic (pc' := 12) rfl rfl (jr_goto (pc' := 24) rfl rfl ?_)
        exact k3 ((-1 : Int)) jgc_m1 h
      · refine jr_al_n (pc' := 16) rfl rfl rfl (jr_gr (pc' := 19) (r := 3) rfl rfl jlk_6_20 (.inl rfl) rfl hN jd_47 rfl rfl rfl (jr_il_n (pc' := 20) rfl rfl rfl (jr_il_n (pc' := 21) rfl rfl rfl ?_)))
        refine jr_cv_p (pc' := 24) [] rfl rfl jlk_6_165 jq_16 jbd_16 (jl rfl) rfl (jl rfl) hu rfl (jk rfl hN) (jd_3.trans jo_16.symm) (fun Q' hq => jc_16 hN (Nat.le_trans (jl rfl) hd) (.inl rfl) hp1 hx1 (jo_b h) hq) (fun p4 hp4 h => ?_)
        exact k3 (p4) hp4 h
  · have hu : ju px_m77 (0, 0) := ju_0
    try dsimp only [Nat.reduceAdd] at h
    refine jr_in (M := px_m77) (lev := 3) (L := [some (.ref 64), some (jv x0), some (jv x1), none, none, none]) hd rfl jbd_77 (jl rfl) rfl (fun d hd Q' hQ' => ?_)
    refine jr_al_n (pc' := 1) rfl rfl rfl (jr_il_n (pc' := 2) rfl rfl rfl ?_)
    refine jr_cv_p (pc' := 5) [] rfl rfl jlk_6_51 jq_59 jbd_59 (jl rfl) rfl (jl rfl) hu rfl (jk rfl hN) (jd_64.trans jo_59.symm) (fun Q' hq => jc_59 hN (Nat.le_trans (jl rfl) hd) (.inr rfl) hx0 (jo_b h) hq) (fun p1 hp1 h => ?_)
    refine jr_is_n (pc' := 6) (L' := [_, _, _, _, _, _]) rfl rfl (jl rfl) rfl rfl (jr_il_n (pc' := 7) rfl rfl rfl (jr_ic (pc' := 8) rfl rfl ?_))
    refine jr_reg (fun t2 => jg t2) (fun t2 => jp X (px_C X d) px_m77 Q' N 24 [some (.ref 64), some (jv x0), some (jv x1), some (jv p1), none, none] [(jv t2)] m (0, 0)) h (fun t2 ht2 h => ?_) (fun R49 k3 h => ?_)
    · refine jr_is (pc' := 26) (L' := [_, _, _, _, _, _]) rfl rfl (jl rfl) rfl rfl (jr_il (pc' := 28) rfl rfl rfl (jr_ic (pc' := 29) rfl rfl ?_))
      refine jr_cne (pa := 32) (pb := 34) rfl rfl rfl ht2 jgc_m1 h (fun hc h => ?_) (fun hc h => ?_)
      · refine jr_ic (pc' := 33) rfl rfl ?_
        exact jr_retb rfl hu rfl jb_0 (hQ' _ _ (hQ ((0 : Int), m) jb_0 h))
      · refine jr_al_n (pc' := 35) rfl rfl rfl (jr_il_n (pc' := 36) rfl rfl rfl (jr_il (pc' := 38) rfl rfl rfl (jr_al_n (pc' := 39) rfl rfl rfl (jr_gr (pc' := 42) (r := 3) rfl rfl jlk_6_20 (.inl rfl) rfl hN jd_64 rfl rfl rfl (jr_gr (pc' := 45) (r := 5) rfl rfl jlk_6_91 (.inr rfl) rfl hN jd_3 rfl rfl rfl ?_)))))
        refine jr_il (pc' := 47) rfl rfl rfl ?_
        refine jr_ia (pc' := 48) rfl rfl (jl rfl) hN jd_5 jn_5 ht2 h (fun hc h => ?_)
        refine jr_il_n (pc' := 49) rfl rfl rfl ?_
        refine jr_reg (fun t15 => jb t15) (fun t15 => jp X (px_C X d) px_m77 Q' N 57 [some (.ref 64), some (jv x0), some (jv x1), some (jv p1), some (jv t2), none] [(jv t15), (jv t2), (jv x0), (.ref 64)] m (0, 0)) h (fun t15 ht15 h => ?_) (fun R48 k16 h => ?_)
        · refine jr_al_n (pc' := 58) rfl rfl rfl ?_
          refine jr_cv_p (pc' := 61) [_, _, _, _] rfl rfl jlk_6_131 jq_63 jbd_63 (jl rfl) rfl (jl rfl) hu rfl (jk rfl hN) (jd_64.trans jo_63.symm) (fun Q' hq => jc_63 hN (Nat.le_trans (jl rfl) hd) (.inr rfl) (jo_b h) hq) (fun p27 hp27 h => ?_)
          refine jr_cv_i (pc' := 64) [] rfl rfl jlk_6_134 jq_78 jbd_78 (jl rfl) rfl (jl rfl) hu rfl (jk rfl hN) (jd_64.trans jo_78.symm) (fun Q' hq => jc_78 hN (Nat.le_trans (jl rfl) hd) (.inr rfl) hx0 ht2 (jg_b ht15) hp27 (jo_b h) hq) (fun p28 hp28 h => ?_)
          refine jr_is (pc' := 66) (L' := [_, _, _, _, _, _]) rfl rfl (jl rfl) rfl rfl (jr_al_n (pc' := 67) rfl rfl rfl (jr_gr (pc' := 70) (r := 65) rfl rfl jlk_6_11 (.inl rfl) rfl hN jd_64 rfl rfl rfl (jr_bi (pc' := 72) rfl rfl rfl (jr_il (pc' := 74) rfl rfl rfl (jr_add (pc' := 75) rfl rfl ?_)))))
          refine jr_dup2 (pc' := 76) rfl rfl rfl rfl ?_
          refine jr_ia (pc' := 77) rfl rfl (jl rfl) hN jd_65 jn_65 jg_w h (fun hc h => ?_)
          refine jr_ic (pc' := 78) rfl rfl (jr_add (pc' := 79) rfl rfl ?_)
          refine jr_ist (pc' := 80) rfl rfl (jl rfl) hN jd_65 jn_65 jg_w h (fun hc h => ?_)
          refine jr_le h (fun m29 h => ?_)
          refine jr_al_n (pc' := 81) rfl rfl rfl (jr_il_n (pc' := 82) rfl rfl rfl (jr_il (pc' := 84) rfl rfl rfl ?_))
          refine jr_cv_p (pc' := 87) [] rfl rfl jlk_6_168 jq_73 jbd_73 (jl rfl) rfl (jl rfl) hu rfl (jk rfl hN) (jd_64.trans jo_73.symm) (fun Q' hq => jc_73 hN (Nat.le_trans (jl rfl) hd) (.inr rfl) hx0 hp28 (jo_b h) hq) (fun p30 hp30 h => ?_)
          refine jr_reg (fun t31 => True) (fun t31 => jp X (px_C X d) px_m77 Q' N 131 [some (.ref 64), some (jv x0), some (jv x1), some (jv p1), some (jv t2), some (jv p28.1)] [] t31 (0, 0)) h (fun t31 ht31 h => ?_) (fun R47 k32 h => ?_)
          · refine jr_ic (pc' := 132) rfl rfl ?_
            exact jr_retb rfl hu rfl jb_1 (hQ' _ _ (hQ ((1 : Int), t31) jb_1 h))
          · refine jr_zeq (pa := 103) (pb := 90) rfl rfl rfl (jg_b hp30) h (fun hc h => ?_) (fun hc h => ?_)
            · refine jr_al_n (pc' := 104) rfl rfl rfl (jr_il_n (pc' := 105) rfl rfl rfl ?_)
              refine jr_cv_v (pc' := 108) [] rfl rfl jlk_6_171 jq_79 jbd_79 (jl rfl) rfl (jl rfl) hu rfl (jk rfl hN) (jd_64.trans jo_79.symm) (fun Q' hq => jc_79 hN (Nat.le_trans (jl rfl) hd) (.inr rfl) hx0 (jo_b h) hq) (fun p33 hp33 h => ?_)
              refine jr_al_n (pc' := 109) rfl rfl rfl (jr_gr (pc' := 112) (r := 65) rfl rfl jlk_6_11 (.inl rfl) rfl hN jd_64 rfl rfl rfl (jr_bi (pc' := 114) rfl rfl rfl (jr_il_n (pc' := 115) rfl rfl rfl (jr_add (pc' := 116) rfl rfl (jr_ic (pc' := 117) rfl rfl ?_)))))
              refine jr_ist (pc' := 118) rfl rfl (jl rfl) hN jd_65 jn_65 jg_w h (fun hc h => ?_)
              refine jr_le h (fun m34 h => ?_)
              refine jr_al_n (pc' := 119) rfl rfl rfl (jr_gr (pc' := 122) (r := 65) rfl rfl jlk_6_11 (.inl rfl) rfl hN jd_64 rfl rfl rfl (jr_bi (pc' := 124) rfl rfl rfl (jr_il_n (pc' := 125) rfl rfl rfl (jr_add (pc' := 126) rfl rfl (jr_dup2 (pc' := 127) rfl rfl rfl rfl ?_)))))
              refine jr_ia (pc' := 128) rfl rfl (jl rfl) hN jd_65 jn_65 jg_w h (fun hc h => ?_)
              refine jr_ic (pc' := 129) rfl rfl (jr_add (pc' := 130) rfl rfl ?_)
              refine jr_ist (pc' := 131) rfl rfl (jl rfl) hN jd_65 jn_65 jg_w h (fun hc h => ?_)
              refine jr_le h (fun m35 h => ?_)
              exact k32 (m35) trivial h
            · refine jr_al_n (pc' := 91) rfl rfl rfl (jr_gr (pc' := 94) (r := 65) rfl rfl jlk_6_11 (.inl rfl) rfl hN jd_64 rfl rfl rfl (jr_bi (pc' := 96) rfl rfl rfl (jr_il_n (pc' := 97) rfl rfl rfl (jr_add (pc' := 98) rfl rfl (jr_il_n (pc' := 99) rfl rfl rfl ?_)))))
              refine jr_ist (pc' := 100) rfl rfl (jl rfl) hN jd_65 jn_65 jg_w h (fun hc h => ?_)
              refine jr_le h (fun m36 h => ?_)
              refine jr_goto (pc' := 131) rfl rfl ?_
              exact k32 (m36) trivial h
        · refine jr_cne (pa := 52) (pb := 56) rfl rfl rfl jg_a hp1 h (fun hc h => ?_) (fun hc h => ?_)
          · refine jr_ic (pc' := 53) rfl rfl (jr_goto (pc' := 57) rfl rfl ?_)
            exact k16 ((0 : Int)) jb_0 h
          · refine jr_ic (pc' := 57) rfl rfl ?_
            exact k16 ((1 : Int)) jb_1 h
    · refine jr_cne (pa := 11) (pb := 15) rfl rfl rfl hp1 jgc_m1 h (fun hc h => ?_) (fun hc h => ?_)
      · refine jr_ic (pc' := 12) rfl rfl (jr_goto (pc' := 24) rfl rfl ?_)
        exact k3 ((-1 : Int)) jgc_m1 h
      · refine jr_al_n (pc' := 16) rfl rfl rfl (jr_gr (pc' := 19) (r := 3) rfl rfl jlk_6_20 (.inl rfl) rfl hN jd_64 rfl rfl rfl (jr_il_n (pc' := 20) rfl rfl rfl (jr_il_n (pc' := 21) rfl rfl rfl ?_)))
        refine jr_cv_p (pc' := 24) [] rfl rfl jlk_6_165 jq_16 jbd_16 (jl rfl) rfl (jl rfl) hu rfl (jk rfl hN) (jd_3.trans jo_16.symm) (fun Q' hq => jc_16 hN (Nat.le_trans (jl rfl) hd) (.inl rfl) hp1 hx1 (jo_b h) hq) (fun p4 hp4 h => ?_)
        exact k3 (p4) hp4 h

set_option maxRecDepth 20000 in
set_option maxHeartbeats 1000000 in
theorem jc_80 {X : Nat × (Nat → Int32)} {N d : Nat} {q : Nat} {x0 : Int} {x1 : Int} (hN : 102 ≤ N) (hd : 2 ≤ d) (hq : q = 0 ∨ q = 17) (hx0 : jg x0) (hx1 : jg x1) {m : jm} {P : Int × jm → Prop} {Q : px_Q} (h : jo (jf_80 q x0 x1 m) P) (hQ : ∀ p : Int × jm, jb p.1 → P p → Q (.inl (some (jv p.1))) (jmem N p.2)) : px_C X d 80 [.ref (47 + q), jv x0, jv x1] (jmem N m) Q := by
  unfold jf_80 at h
  rcases hq with rfl | rfl
  · have hu : ju px_m80 (0, 0) := ju_0
    try dsimp only [Nat.reduceAdd] at h
    refine jr_in (M := px_m80) (lev := 1) (L := [some (.ref 47), some (jv x0), some (jv x1)]) hd rfl jbd_80 (jl rfl) rfl (fun d hd Q' hQ' => ?_)
    refine jr_al_n (pc' := 1) rfl rfl rfl (jr_il_n (pc' := 2) rfl rfl rfl ?_)
    refine jr_cv_p (pc' := 5) [] rfl rfl jlk_6_94 jq_65 jbd_65 (jl rfl) rfl (jl rfl) hu rfl (jk rfl hN) (jd_47.trans jo_65.symm) (fun Q' hq => jc_65 hN (Nat.le_trans (jl rfl) hd) (.inl rfl) hx0 (jo_b h) hq) (fun p1 hp1 h => ?_)
    refine jr_il_n (pc' := 6) rfl rfl rfl ?_
    refine jr_cne (pa := 9) (pb := 11) rfl rfl rfl hp1 hx1 h (fun hc h => ?_) (fun hc h => ?_)
    · refine jr_ic (pc' := 10) rfl rfl ?_
      exact jr_retb rfl hu rfl jb_0 (hQ' _ _ (hQ ((0 : Int), m) jb_0 h))
    · refine jr_al_n (pc' := 12) rfl rfl rfl (jr_gr (pc' := 15) (r := 48) rfl rfl jlk_6_11 (.inl rfl) rfl hN jd_47 rfl rfl rfl (jr_ic (pc' := 16) rfl rfl (jr_il_n (pc' := 17) rfl rfl rfl (jr_add (pc' := 18) rfl rfl (jr_il_n (pc' := 19) rfl rfl rfl ?_)))))
      refine jr_ist (pc' := 20) rfl rfl (jl rfl) hN jd_48 jn_48 jg_w h (fun hc h => ?_)
      refine jr_le h (fun m2 h => ?_)
      refine jr_ic (pc' := 21) rfl rfl ?_
      exact jr_retb rfl hu rfl jb_1 (hQ' _ _ (hQ ((1 : Int), m2) jb_1 h))
  · have hu : ju px_m80 (0, 0) := ju_0
    try dsimp only [Nat.reduceAdd] at h
    refine jr_in (M := px_m80) (lev := 1) (L := [some (.ref 64), some (jv x0), some (jv x1)]) hd rfl jbd_80 (jl rfl) rfl (fun d hd Q' hQ' => ?_)
    refine jr_al_n (pc' := 1) rfl rfl rfl (jr_il_n (pc' := 2) rfl rfl rfl ?_)
    refine jr_cv_p (pc' := 5) [] rfl rfl jlk_6_94 jq_65 jbd_65 (jl rfl) rfl (jl rfl) hu rfl (jk rfl hN) (jd_64.trans jo_65.symm) (fun Q' hq => jc_65 hN (Nat.le_trans (jl rfl) hd) (.inr rfl) hx0 (jo_b h) hq) (fun p1 hp1 h => ?_)
    refine jr_il_n (pc' := 6) rfl rfl rfl ?_
    refine jr_cne (pa := 9) (pb := 11) rfl rfl rfl hp1 hx1 h (fun hc h => ?_) (fun hc h => ?_)
    · refine jr_ic (pc' := 10) rfl rfl ?_
      exact jr_retb rfl hu rfl jb_0 (hQ' _ _ (hQ ((0 : Int), m) jb_0 h))
    · refine jr_al_n (pc' := 12) rfl rfl rfl (jr_gr (pc' := 15) (r := 65) rfl rfl jlk_6_11 (.inl rfl) rfl hN jd_64 rfl rfl rfl (jr_ic (pc' := 16) rfl rfl (jr_il_n (pc' := 17) rfl rfl rfl (jr_add (pc' := 18) rfl rfl (jr_il_n (pc' := 19) rfl rfl rfl ?_)))))
      refine jr_ist (pc' := 20) rfl rfl (jl rfl) hN jd_65 jn_65 jg_w h (fun hc h => ?_)
      refine jr_le h (fun m2 h => ?_)
      refine jr_ic (pc' := 21) rfl rfl ?_
      exact jr_retb rfl hu rfl jb_1 (hQ' _ _ (hQ ((1 : Int), m2) jb_1 h))

set_option maxRecDepth 20000 in
set_option maxHeartbeats 1000000 in
theorem jc_81 {X : Nat × (Nat → Int32)} {N d : Nat} {q : Nat} {x0 : Int} (hN : 102 ≤ N) (hd : 3 ≤ d) (hq : q = 0 ∨ q = 17) (hx0 : jg x0) {m : jm} {P : Int × jm → Prop} {Q : px_Q} (h : jo (jf_81 q x0 m) P) (hQ : ∀ p : Int × jm, jb p.1 → P p → Q (.inl (some (jv p.1))) (jmem N p.2)) : px_C X d 81 [.ref (47 + q), jv x0] (jmem N m) Q := by
  unfold jf_81 at h
  rcases hq with rfl | rfl
  · have hu : ju px_m81 (0, 0) := ju_0
    try dsimp only [Nat.reduceAdd] at h
    refine jr_in (M := px_m81) (lev := 2) (L := [some (.ref 47), some (jv x0)]) hd rfl jbd_81 (jl rfl) rfl (fun d hd Q' hQ' => ?_)
    refine jr_al_n (pc' := 1) rfl rfl rfl (jr_il_n (pc' := 2) rfl rfl rfl ?_)
    refine jr_cv_p (pc' := 5) [] rfl rfl jlk_6_155 jq_58 jbd_58 (jl rfl) rfl (jl rfl) hu rfl (jk rfl hN) (jd_47.trans jo_58.symm) (fun Q' hq => jc_58 hN (Nat.le_trans (jl rfl) hd) (.inl rfl) hx0 (jo_b h) hq) (fun p1 hp1 h => ?_)
    refine jr_zne (pa := 8) (pb := 18) rfl rfl rfl (jg_b hp1) h (fun hc h => ?_) (fun hc h => ?_)
    · refine jr_al_n (pc' := 9) rfl rfl rfl (jr_il_n (pc' := 10) rfl rfl rfl ?_)
      refine jr_cv_p (pc' := 13) [] rfl rfl jlk_6_101 jq_68 jbd_68 (jl rfl) rfl (jl rfl) hu rfl (jk rfl hN) (jd_47.trans jo_68.symm) (fun Q' hq => jc_68 hN (Nat.le_trans (jl rfl) hd) (.inl rfl) hx0 (jo_b h) hq) (fun p2 hp2 h => ?_)
      refine jr_bi (pc' := 15) rfl rfl rfl ?_
      refine jr_clt (pa := 20) (pb := 18) rfl rfl rfl hp2 jgc_9 h (fun hc h => ?_) (fun hc h => ?_)
      · refine jr_al_n (pc' := 21) rfl rfl rfl (jr_gr (pc' := 24) (r := 48) rfl rfl jlk_6_11 (.inl rfl) rfl hN jd_47 rfl rfl rfl (jr_bi (pc' := 26) rfl rfl rfl (jr_il_n (pc' := 27) rfl rfl rfl (jr_add (pc' := 28) rfl rfl (jr_dup2 (pc' := 29) rfl rfl rfl rfl ?_)))))
        refine jr_ia (pc' := 30) rfl rfl (jl rfl) hN jd_48 jn_48 jg_w h (fun hc h => ?_)
        refine jr_ic (pc' := 31) rfl rfl (jr_add (pc' := 32) rfl rfl ?_)
        refine jr_ist (pc' := 33) rfl rfl (jl rfl) hN jd_48 jn_48 jg_w h (fun hc h => ?_)
        refine jr_le h (fun m3 h => ?_)
        refine jr_ic (pc' := 34) rfl rfl ?_
        exact jr_retb rfl hu rfl jb_1 (hQ' _ _ (hQ ((1 : Int), m3) jb_1 h))
      · refine jr_ic (pc' := 19) rfl rfl ?_
        exact jr_retb rfl hu rfl jb_0 (hQ' _ _ (hQ ((0 : Int), m) jb_0 h))
    · refine jr_ic (pc' := 19) rfl rfl ?_
      exact jr_retb rfl hu rfl jb_0 (hQ' _ _ (hQ ((0 : Int), m) jb_0 h))
  · have hu : ju px_m81 (0, 0) := ju_0
    try dsimp only [Nat.reduceAdd] at h
    refine jr_in (M := px_m81) (lev := 2) (L := [some (.ref 64), some (jv x0)]) hd rfl jbd_81 (jl rfl) rfl (fun d hd Q' hQ' => ?_)
    refine jr_al_n (pc' := 1) rfl rfl rfl (jr_il_n (pc' := 2) rfl rfl rfl ?_)
    refine jr_cv_p (pc' := 5) [] rfl rfl jlk_6_155 jq_58 jbd_58 (jl rfl) rfl (jl rfl) hu rfl (jk rfl hN) (jd_64.trans jo_58.symm) (fun Q' hq => jc_58 hN (Nat.le_trans (jl rfl) hd) (.inr rfl) hx0 (jo_b h) hq) (fun p1 hp1 h => ?_)
    refine jr_zne (pa := 8) (pb := 18) rfl rfl rfl (jg_b hp1) h (fun hc h => ?_) (fun hc h => ?_)
    · refine jr_al_n (pc' := 9) rfl rfl rfl (jr_il_n (pc' := 10) rfl rfl rfl ?_)
      refine jr_cv_p (pc' := 13) [] rfl rfl jlk_6_101 jq_68 jbd_68 (jl rfl) rfl (jl rfl) hu rfl (jk rfl hN) (jd_64.trans jo_68.symm) (fun Q' hq => jc_68 hN (Nat.le_trans (jl rfl) hd) (.inr rfl) hx0 (jo_b h) hq) (fun p2 hp2 h => ?_)
      refine jr_bi (pc' := 15) rfl rfl rfl ?_
      refine jr_clt (pa := 20) (pb := 18) rfl rfl rfl hp2 jgc_9 h (fun hc h => ?_) (fun hc h => ?_)
      · refine jr_al_n (pc' := 21) rfl rfl rfl (jr_gr (pc' := 24) (r := 65) rfl rfl jlk_6_11 (.inl rfl) rfl hN jd_64 rfl rfl rfl (jr_bi (pc' := 26) rfl rfl rfl (jr_il_n (pc' := 27) rfl rfl rfl (jr_add (pc' := 28) rfl rfl (jr_dup2 (pc' := 29) rfl rfl rfl rfl ?_)))))
        refine jr_ia (pc' := 30) rfl rfl (jl rfl) hN jd_65 jn_65 jg_w h (fun hc h => ?_)
        refine jr_ic (pc' := 31) rfl rfl (jr_add (pc' := 32) rfl rfl ?_)
        refine jr_ist (pc' := 33) rfl rfl (jl rfl) hN jd_65 jn_65 jg_w h (fun hc h => ?_)
        refine jr_le h (fun m3 h => ?_)
        refine jr_ic (pc' := 34) rfl rfl ?_
        exact jr_retb rfl hu rfl jb_1 (hQ' _ _ (hQ ((1 : Int), m3) jb_1 h))
      · refine jr_ic (pc' := 19) rfl rfl ?_
        exact jr_retb rfl hu rfl jb_0 (hQ' _ _ (hQ ((0 : Int), m) jb_0 h))
    · refine jr_ic (pc' := 19) rfl rfl ?_
      exact jr_retb rfl hu rfl jb_0 (hQ' _ _ (hQ ((0 : Int), m) jb_0 h))

set_option maxRecDepth 20000 in
set_option maxHeartbeats 1000000 in
theorem jc_82 {X : Nat × (Nat → Int32)} {N d : Nat} {q : Nat} (hN : 102 ≤ N) (hd : 1 ≤ d) (hq : q = 0 ∨ q = 17) {m : jm} {P : Int × jm → Prop} {Q : px_Q} (h : jo (jf_82 q m) P) (hQ : ∀ p : Int × jm, jb p.1 → P p → Q (.inl (some (jv p.1))) (jmem N p.2)) : px_C X d 82 [.ref (47 + q)] (jmem N m) Q := by
  unfold jf_82 at h
  rcases hq with rfl | rfl
  · have hu : ju px_m82 (0, 0) := ju_0
    try dsimp only [Nat.reduceAdd] at h
    refine jr_in (M := px_m82) (lev := 0) (L := [some (.ref 47)]) hd rfl jbd_82 (jl rfl) rfl (fun d hd Q' hQ' => ?_)
    refine jr_al_n (pc' := 1) rfl rfl rfl (jr_gr (pc' := 4) (r := 48) rfl rfl jlk_6_11 (.inl rfl) rfl hN jd_47 rfl rfl rfl (jr_ic (pc' := 5) rfl rfl (jr_ic (pc' := 6) rfl rfl (jr_al_n (pc' := 7) rfl rfl rfl (jr_gr (pc' := 10) (r := 48) rfl rfl jlk_6_11 (.inl rfl) rfl hN jd_47 rfl rfl rfl ?_)))))
    refine jr_ic (pc' := 11) rfl rfl ?_
    refine jr_ia (pc' := 12) rfl rfl (jl rfl) hN jd_48 jn_48 jgc_1 h (fun hc h => ?_)
    refine jr_sub (pc' := 13) rfl rfl ?_
    refine jr_ist (pc' := 14) rfl rfl (jl rfl) hN jd_48 jn_48 jgc_1 h (fun hc h => ?_)
    refine jr_le h (fun m1 h => ?_)
    refine jr_ic (pc' := 15) rfl rfl ?_
    exact jr_retb rfl hu rfl jb_1 (hQ' _ _ (hQ ((1 : Int), m1) jb_1 h))
  · have hu : ju px_m82 (0, 0) := ju_0
    try dsimp only [Nat.reduceAdd] at h
    refine jr_in (M := px_m82) (lev := 0) (L := [some (.ref 64)]) hd rfl jbd_82 (jl rfl) rfl (fun d hd Q' hQ' => ?_)
    refine jr_al_n (pc' := 1) rfl rfl rfl (jr_gr (pc' := 4) (r := 65) rfl rfl jlk_6_11 (.inl rfl) rfl hN jd_64 rfl rfl rfl (jr_ic (pc' := 5) rfl rfl (jr_ic (pc' := 6) rfl rfl (jr_al_n (pc' := 7) rfl rfl rfl (jr_gr (pc' := 10) (r := 65) rfl rfl jlk_6_11 (.inl rfl) rfl hN jd_64 rfl rfl rfl ?_)))))
    refine jr_ic (pc' := 11) rfl rfl ?_
    refine jr_ia (pc' := 12) rfl rfl (jl rfl) hN jd_65 jn_65 jgc_1 h (fun hc h => ?_)
    refine jr_sub (pc' := 13) rfl rfl ?_
    refine jr_ist (pc' := 14) rfl rfl (jl rfl) hN jd_65 jn_65 jgc_1 h (fun hc h => ?_)
    refine jr_le h (fun m1 h => ?_)
    refine jr_ic (pc' := 15) rfl rfl ?_
    exact jr_retb rfl hu rfl jb_1 (hQ' _ _ (hQ ((1 : Int), m1) jb_1 h))

set_option maxRecDepth 20000 in
set_option maxHeartbeats 1000000 in
theorem jc_84 {X : Nat × (Nat → Int32)} {N d : Nat} {q : Nat} (hN : 102 ≤ N) (hd : 3 ≤ d) (hq : q = 0 ∨ q = 17) {m : jm} {P : jm → Prop} {Q : px_Q} (h : jo (jf_84 q m) P) (hQ : ∀ p : jm, True → P p → Q (.inl (none)) (jmem N p)) : px_C X d 84 [.ref (47 + q)] (jmem N m) Q := by
  unfold jf_84 at h
  rcases hq with rfl | rfl
  · have hu : ju px_m84 (0, 0) := ju_0
    try dsimp only [Nat.reduceAdd] at h
    refine jr_in (M := px_m84) (lev := 2) (L := [some (.ref 47), none]) hd rfl jbd_84 (jl rfl) rfl (fun d hd Q' hQ' => ?_)
    refine jr_al_n (pc' := 1) rfl rfl rfl (jr_gr (pc' := 4) (r := 48) rfl rfl jlk_6_11 (.inl rfl) rfl hN jd_47 rfl rfl rfl (jr_ic (pc' := 5) rfl rfl (jr_dup2 (pc' := 6) rfl rfl rfl rfl ?_)))
    refine jr_ia (pc' := 7) rfl rfl (jl rfl) hN jd_48 jn_48 jgc_0 h (fun hc h => ?_)
    refine jr_ic (pc' := 8) rfl rfl (jr_add (pc' := 9) rfl rfl ?_)
    refine jr_ist (pc' := 10) rfl rfl (jl rfl) hN jd_48 jn_48 jgc_0 h (fun hc h => ?_)
    refine jr_le h (fun m1 h => ?_)
    refine jr_al_n (pc' := 11) rfl rfl rfl (jr_gr (pc' := 14) (r := 48) rfl rfl jlk_6_11 (.inl rfl) rfl hN jd_47 rfl rfl rfl (jr_ic (pc' := 15) rfl rfl (jr_ic (pc' := 16) rfl rfl ?_)))
    refine jr_ist (pc' := 17) rfl rfl (jl rfl) hN jd_48 jn_48 jgc_1 h (fun hc h => ?_)
    refine jr_le h (fun m2 h => ?_)
    refine jr_ic (pc' := 18) rfl rfl (jr_is_n (pc' := 19) (L' := [_, _]) rfl rfl (jl rfl) rfl rfl ?_)
    refine jr_reg (fun t6 => True) (fun t6 => ∀ o7, jn o7 → jp X (px_C X d) px_m84 Q' N 46 [some (.ref 47), o7] [] t6 (0, 0)) h (fun t6 ht6 h o7 ho7 => ?_) (fun R9 k8 h => ?_)
    · refine jr_ic (pc' := 47) rfl rfl (jr_is_n (pc' := 48) (L' := [_, _]) rfl rfl (jl rfl) rfl rfl ?_)
      refine jr_reg (fun t24 => True) (fun t24 => ∀ o25, jn o25 → jp X (px_C X d) px_m84 Q' N 101 [some (.ref 47), o25] [] t24 (0, 0)) h (fun t24 ht24 h o25 ho25 => ?_) (fun R27 k26 h => ?_)
      · exact jr_rv rfl hu rfl (hQ' _ _ (hQ t24 trivial h))
      · refine jr_lp (fun s21 => jg s21.1) (fun s21 => jp X (px_C X d) px_m84 Q' N 48 [some (.ref 47), some (jv s21.1)] [] s21.2 (0, 0)) h jgc_0 (fun s21 hs21 R23 k22 h => ?_)
        refine jr_il_n (pc' := 49) rfl rfl rfl (jr_al_n (pc' := 50) rfl rfl rfl (jr_gr (pc' := 53) (r := 3) rfl rfl jlk_6_20 (.inl rfl) rfl hN jd_47 rfl rfl rfl (jr_gi (pc' := 56) rfl rfl jlk_6_69 (.inr rfl) rfl hN jd_3 rfl rfl ?_)))
        refine jr_cge (pa := 59) (pb := 101) rfl rfl rfl hs21 jg_a h (fun hc h => ?_) (fun hc h => ?_)
        · refine jr_al_n (pc' := 60) rfl rfl rfl (jr_gr (pc' := 63) (r := 48) rfl rfl jlk_6_11 (.inl rfl) rfl hN jd_47 rfl rfl rfl (jr_bi (pc' := 65) rfl rfl rfl (jr_il_n (pc' := 66) rfl rfl rfl (jr_add (pc' := 67) rfl rfl (jr_ic (pc' := 68) rfl rfl ?_)))))
          refine jr_ist (pc' := 69) rfl rfl (jl rfl) hN jd_48 jn_48 jg_w h (fun hc h => ?_)
          refine jr_le h (fun m28 h => ?_)
          refine jr_al_n (pc' := 70) rfl rfl rfl (jr_il_n (pc' := 71) rfl rfl rfl ?_)
          refine jr_cv_p (pc' := 74) [] rfl rfl jlk_6_155 jq_58 jbd_58 (jl rfl) rfl (jl rfl) hu rfl (jk rfl hN) (jd_47.trans jo_58.symm) (fun Q' hq => jc_58 hN (Nat.le_trans (jl rfl) hd) (.inl rfl) hs21 (jo_b h) hq) (fun p29 hp29 h => ?_)
          refine jr_reg (fun t30 => True) (fun t30 => jp X (px_C X d) px_m84 Q' N 95 [some (.ref 47), some (jv s21.1)] [] t30 (0, 0)) h (fun t30 ht30 h => ?_) (fun R43 k31 h => ?_)
          · refine jr_inc (pc' := 98) (L' := [_, _]) rfl rfl rfl (jl rfl) rfl rfl (jr_goto (pc' := 48) rfl rfl ?_)
            exact k22 (jw (s21.1 + 1), t30) jg_w h
          · refine jr_zeq (pa := 95) (pb := 77) rfl rfl rfl (jg_b hp29) h (fun hc h => ?_) (fun hc h => ?_)
            · exact k31 (m28) trivial h
            · refine jr_al_n (pc' := 78) rfl rfl rfl (jr_gr (pc' := 81) (r := 48) rfl rfl jlk_6_11 (.inl rfl) rfl hN jd_47 rfl rfl rfl (jr_bi (pc' := 83) rfl rfl rfl (jr_il_n (pc' := 84) rfl rfl rfl (jr_add (pc' := 85) rfl rfl (jr_al_n (pc' := 86) rfl rfl rfl ?_)))))
              refine jr_gr (pc' := 89) (r := 3) rfl rfl jlk_6_20 (.inl rfl) rfl hN jd_47 rfl rfl rfl (jr_gr (pc' := 92) (r := 8) rfl rfl jlk_6_45 (.inr rfl) rfl hN jd_3 rfl rfl rfl (jr_il_n (pc' := 93) rfl rfl rfl ?_))
              refine jr_ia (pc' := 94) rfl rfl (jl rfl) hN jd_8 jn_8 hs21 h (fun hc h => ?_)
              refine jr_ist (pc' := 95) rfl rfl (jl rfl) hN jd_48 jn_48 jg_w h (fun hc h => ?_)
              refine jr_le h (fun m32 h => ?_)
              exact k31 (m32) trivial h
        · exact k26 (s21.2) trivial h _ jn_i
    · refine jr_lp (fun s3 => jg s3.1) (fun s3 => jp X (px_C X d) px_m84 Q' N 19 [some (.ref 47), some (jv s3.1)] [] s3.2 (0, 0)) h jgc_0 (fun s3 hs3 R5 k4 h => ?_)
      refine jr_il_n (pc' := 20) rfl rfl rfl (jr_al_n (pc' := 21) rfl rfl rfl (jr_gr (pc' := 24) (r := 3) rfl rfl jlk_6_20 (.inl rfl) rfl hN jd_47 rfl rfl rfl (jr_gi (pc' := 27) rfl rfl jlk_6_75 (.inr rfl) rfl hN jd_3 rfl rfl ?_)))
      refine jr_cge (pa := 30) (pb := 46) rfl rfl rfl hs3 jg_a h (fun hc h => ?_) (fun hc h => ?_)
      · refine jr_al_n (pc' := 31) rfl rfl rfl (jr_gr (pc' := 34) (r := 48) rfl rfl jlk_6_11 (.inl rfl) rfl hN jd_47 rfl rfl rfl (jr_bi (pc' := 36) rfl rfl rfl (jr_il_n (pc' := 37) rfl rfl rfl (jr_add (pc' := 38) rfl rfl (jr_ic (pc' := 39) rfl rfl ?_)))))
        refine jr_ist (pc' := 40) rfl rfl (jl rfl) hN jd_48 jn_48 jg_w h (fun hc h => ?_)
        refine jr_le h (fun m10 h => ?_)
        refine jr_inc (pc' := 43) (L' := [_, _]) rfl rfl rfl (jl rfl) rfl rfl (jr_goto (pc' := 19) rfl rfl ?_)
        exact k4 (jw (s3.1 + 1), m10) jg_w h
      · exact k8 (s3.2) trivial h _ jn_i
  · have hu : ju px_m84 (0, 0) := ju_0
    try dsimp only [Nat.reduceAdd] at h
    refine jr_in (M := px_m84) (lev := 2) (L := [some (.ref 64), none]) hd rfl jbd_84 (jl rfl) rfl (fun d hd Q' hQ' => ?_)
    refine jr_al_n (pc' := 1) rfl rfl rfl (jr_gr (pc' := 4) (r := 65) rfl rfl jlk_6_11 (.inl rfl) rfl hN jd_64 rfl rfl rfl (jr_ic (pc' := 5) rfl rfl (jr_dup2 (pc' := 6) rfl rfl rfl rfl ?_)))
    refine jr_ia (pc' := 7) rfl rfl (jl rfl) hN jd_65 jn_65 jgc_0 h (fun hc h => ?_)
    refine jr_ic (pc' := 8) rfl rfl (jr_add (pc' := 9) rfl rfl ?_)
    refine jr_ist (pc' := 10) rfl rfl (jl rfl) hN jd_65 jn_65 jgc_0 h (fun hc h => ?_)
    refine jr_le h (fun m1 h => ?_)
    refine jr_al_n (pc' := 11) rfl rfl rfl (jr_gr (pc' := 14) (r := 65) rfl rfl jlk_6_11 (.inl rfl) rfl hN jd_64 rfl rfl rfl (jr_ic (pc' := 15) rfl rfl (jr_ic (pc' := 16) rfl rfl ?_)))
    refine jr_ist (pc' := 17) rfl rfl (jl rfl) hN jd_65 jn_65 jgc_1 h (fun hc h => ?_)
    refine jr_le h (fun m2 h => ?_)
    refine jr_ic (pc' := 18) rfl rfl (jr_is_n (pc' := 19) (L' := [_, _]) rfl rfl (jl rfl) rfl rfl ?_)
    refine jr_reg (fun t6 => True) (fun t6 => ∀ o7, jn o7 → jp X (px_C X d) px_m84 Q' N 46 [some (.ref 64), o7] [] t6 (0, 0)) h (fun t6 ht6 h o7 ho7 => ?_) (fun R9 k8 h => ?_)
    · refine jr_ic (pc' := 47) rfl rfl (jr_is_n (pc' := 48) (L' := [_, _]) rfl rfl (jl rfl) rfl rfl ?_)
      refine jr_reg (fun t24 => True) (fun t24 => ∀ o25, jn o25 → jp X (px_C X d) px_m84 Q' N 101 [some (.ref 64), o25] [] t24 (0, 0)) h (fun t24 ht24 h o25 ho25 => ?_) (fun R27 k26 h => ?_)
      · exact jr_rv rfl hu rfl (hQ' _ _ (hQ t24 trivial h))
      · refine jr_lp (fun s21 => jg s21.1) (fun s21 => jp X (px_C X d) px_m84 Q' N 48 [some (.ref 64), some (jv s21.1)] [] s21.2 (0, 0)) h jgc_0 (fun s21 hs21 R23 k22 h => ?_)
        refine jr_il_n (pc' := 49) rfl rfl rfl (jr_al_n (pc' := 50) rfl rfl rfl (jr_gr (pc' := 53) (r := 3) rfl rfl jlk_6_20 (.inl rfl) rfl hN jd_64 rfl rfl rfl (jr_gi (pc' := 56) rfl rfl jlk_6_69 (.inr rfl) rfl hN jd_3 rfl rfl ?_)))
        refine jr_cge (pa := 59) (pb := 101) rfl rfl rfl hs21 jg_a h (fun hc h => ?_) (fun hc h => ?_)
        · refine jr_al_n (pc' := 60) rfl rfl rfl (jr_gr (pc' := 63) (r := 65) rfl rfl jlk_6_11 (.inl rfl) rfl hN jd_64 rfl rfl rfl (jr_bi (pc' := 65) rfl rfl rfl (jr_il_n (pc' := 66) rfl rfl rfl (jr_add (pc' := 67) rfl rfl (jr_ic (pc' := 68) rfl rfl ?_)))))
          refine jr_ist (pc' := 69) rfl rfl (jl rfl) hN jd_65 jn_65 jg_w h (fun hc h => ?_)
          refine jr_le h (fun m28 h => ?_)
          refine jr_al_n (pc' := 70) rfl rfl rfl (jr_il_n (pc' := 71) rfl rfl rfl ?_)
          refine jr_cv_p (pc' := 74) [] rfl rfl jlk_6_155 jq_58 jbd_58 (jl rfl) rfl (jl rfl) hu rfl (jk rfl hN) (jd_64.trans jo_58.symm) (fun Q' hq => jc_58 hN (Nat.le_trans (jl rfl) hd) (.inr rfl) hs21 (jo_b h) hq) (fun p29 hp29 h => ?_)
          refine jr_reg (fun t30 => True) (fun t30 => jp X (px_C X d) px_m84 Q' N 95 [some (.ref 64), some (jv s21.1)] [] t30 (0, 0)) h (fun t30 ht30 h => ?_) (fun R43 k31 h => ?_)
          · refine jr_inc (pc' := 98) (L' := [_, _]) rfl rfl rfl (jl rfl) rfl rfl (jr_goto (pc' := 48) rfl rfl ?_)
            exact k22 (jw (s21.1 + 1), t30) jg_w h
          · refine jr_zeq (pa := 95) (pb := 77) rfl rfl rfl (jg_b hp29) h (fun hc h => ?_) (fun hc h => ?_)
            · exact k31 (m28) trivial h
            · refine jr_al_n (pc' := 78) rfl rfl rfl (jr_gr (pc' := 81) (r := 65) rfl rfl jlk_6_11 (.inl rfl) rfl hN jd_64 rfl rfl rfl (jr_bi (pc' := 83) rfl rfl rfl (jr_il_n (pc' := 84) rfl rfl rfl (jr_add (pc' := 85) rfl rfl (jr_al_n (pc' := 86) rfl rfl rfl ?_)))))
              refine jr_gr (pc' := 89) (r := 3) rfl rfl jlk_6_20 (.inl rfl) rfl hN jd_64 rfl rfl rfl (jr_gr (pc' := 92) (r := 8) rfl rfl jlk_6_45 (.inr rfl) rfl hN jd_3 rfl rfl rfl (jr_il_n (pc' := 93) rfl rfl rfl ?_))
              refine jr_ia (pc' := 94) rfl rfl (jl rfl) hN jd_8 jn_8 hs21 h (fun hc h => ?_)
              refine jr_ist (pc' := 95) rfl rfl (jl rfl) hN jd_65 jn_65 jg_w h (fun hc h => ?_)
              refine jr_le h (fun m32 h => ?_)
              exact k31 (m32) trivial h
        · exact k26 (s21.2) trivial h _ jn_i
    · refine jr_lp (fun s3 => jg s3.1) (fun s3 => jp X (px_C X d) px_m84 Q' N 19 [some (.ref 64), some (jv s3.1)] [] s3.2 (0, 0)) h jgc_0 (fun s3 hs3 R5 k4 h => ?_)
      refine jr_il_n (pc' := 20) rfl rfl rfl (jr_al_n (pc' := 21) rfl rfl rfl (jr_gr (pc' := 24) (r := 3) rfl rfl jlk_6_20 (.inl rfl) rfl hN jd_64 rfl rfl rfl (jr_gi (pc' := 27) rfl rfl jlk_6_75 (.inr rfl) rfl hN jd_3 rfl rfl ?_)))
      refine jr_cge (pa := 30) (pb := 46) rfl rfl rfl hs3 jg_a h (fun hc h => ?_) (fun hc h => ?_)
      · refine jr_al_n (pc' := 31) rfl rfl rfl (jr_gr (pc' := 34) (r := 65) rfl rfl jlk_6_11 (.inl rfl) rfl hN jd_64 rfl rfl rfl (jr_bi (pc' := 36) rfl rfl rfl (jr_il_n (pc' := 37) rfl rfl rfl (jr_add (pc' := 38) rfl rfl (jr_ic (pc' := 39) rfl rfl ?_)))))
        refine jr_ist (pc' := 40) rfl rfl (jl rfl) hN jd_65 jn_65 jg_w h (fun hc h => ?_)
        refine jr_le h (fun m10 h => ?_)
        refine jr_inc (pc' := 43) (L' := [_, _]) rfl rfl rfl (jl rfl) rfl rfl (jr_goto (pc' := 19) rfl rfl ?_)
        exact k4 (jw (s3.1 + 1), m10) jg_w h
      · exact k8 (s3.2) trivial h _ jn_i

