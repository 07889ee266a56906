/-! the pure machine follows the functions, 7 (written by wip/whole/gen/walk.py) -/
set_option maxRecDepth 20000 in
set_option maxHeartbeats 1000000 in
theorem jc_83 {X : Nat × (Nat → Int32)} {N d : Nat} {q : Nat} {x0 : Int} (hN : 102 ≤ N) (hd : 4 ≤ d) (hq : q = 0 ∨ q = 17) (hx0 : jg x0) {m : jm} {P : Int × jm → Prop} {Q : px_Q} (h : jo (jf_83 q x0 m) P) (hQ : ∀ p : Int × jm, jb p.1 → P p → Q (.inl (some (jv p.1))) (jmem N p.2)) : px_C X d 83 [.ref (47 + q), jv x0] (jmem N m) Q := by
  unfold jf_83 at h
  rcases hq with rfl | rfl
  · have hu : ju px_m83 (0, 0) := ju_0
    try dsimp only [Nat.reduceAdd] at h
    refine jr_in (M := px_m83) (lev := 3) (L := [some (.ref 47), some (jv x0)]) hd rfl jbd_83 (jl rfl) rfl (fun d hd Q' hQ' => ?_)
    refine jr_al_n (pc' := 1) rfl rfl rfl ?_
    refine jr_cv_p (pc' := 4) [] rfl rfl jlk_6_104 jq_69 jbd_69 (jl rfl) rfl (jl rfl) hu rfl (jk rfl hN) (jd_47.trans jo_69.symm) (fun Q' hq => jc_69 hN (Nat.le_trans (jl rfl) hd) (.inl rfl) (jo_b h) hq) (fun p1 hp1 h => ?_)
    refine jr_il_n (pc' := 5) rfl rfl rfl ?_
    refine jr_clt (pa := 10) (pb := 8) rfl rfl rfl hp1 hx0 h (fun hc h => ?_) (fun hc h => ?_)
    · refine jr_al_n (pc' := 11) rfl rfl rfl ?_
      refine jr_cv_v (pc' := 14) [] rfl rfl jlk_6_180 jq_84 jbd_84 (jl rfl) rfl (jl rfl) hu rfl (jk rfl hN) (jd_47.trans jo_84.symm) (fun Q' hq => jc_84 hN (Nat.le_trans (jl rfl) hd) (.inl rfl) (jo_b h) hq) (fun p2 hp2 h => ?_)
      refine jr_ic (pc' := 15) rfl rfl ?_
      exact jr_retb rfl hu rfl jb_1 (hQ' _ _ (hQ ((1 : Int), p2) jb_1 h))
    · refine jr_ic (pc' := 9) rfl rfl ?_
      exact jr_retb rfl hu rfl jb_0 (hQ' _ _ (hQ ((0 : Int), m) jb_0 h))
  · have hu : ju px_m83 (0, 0) := ju_0
    try dsimp only [Nat.reduceAdd] at h
    refine jr_in (M := px_m83) (lev := 3) (L := [some (.ref 64), some (jv x0)]) hd rfl jbd_83 (jl rfl) rfl (fun d hd Q' hQ' => ?_)
    refine jr_al_n (pc' := 1) rfl rfl rfl ?_
    refine jr_cv_p (pc' := 4) [] rfl rfl jlk_6_104 jq_69 jbd_69 (jl rfl) rfl (jl rfl) hu rfl (jk rfl hN) (jd_64.trans jo_69.symm) (fun Q' hq => jc_69 hN (Nat.le_trans (jl rfl) hd) (.inr rfl) (jo_b h) hq) (fun p1 hp1 h => ?_)
    refine jr_il_n (pc' := 5) rfl rfl rfl ?_
    refine jr_clt (pa := 10) (pb := 8) rfl rfl rfl hp1 hx0 h (fun hc h => ?_) (fun hc h => ?_)
    · refine jr_al_n (pc' := 11) rfl rfl rfl ?_
      refine jr_cv_v (pc' := 14) [] rfl rfl jlk_6_180 jq_84 jbd_84 (jl rfl) rfl (jl rfl) hu rfl (jk rfl hN) (jd_64.trans jo_84.symm) (fun Q' hq => jc_84 hN (Nat.le_trans (jl rfl) hd) (.inr rfl) (jo_b h) hq) (fun p2 hp2 h => ?_)
      refine jr_ic (pc' := 15) rfl rfl ?_
      exact jr_retb rfl hu rfl jb_1 (hQ' _ _ (hQ ((1 : Int), p2) jb_1 h))
    · refine jr_ic (pc' := 9) rfl rfl ?_
      exact jr_retb rfl hu rfl jb_0 (hQ' _ _ (hQ ((0 : Int), m) jb_0 h))

set_option maxRecDepth 20000 in
set_option maxHeartbeats 1000000 in
theorem jc_86 {X : Nat × (Nat → Int32)} {N d : Nat} {q : Nat} {x0 : Int} (hN : 102 ≤ N) (hd : 1 ≤ d) (hq : q = 0 ∨ q = 17) (hx0 : jg x0) {m : jm} {P : Int → Prop} {Q : px_Q} (h : jo (jf_86 q x0 m) P) (hQ : ∀ p : Int, jb p → P p → Q (.inl (some (jv p))) (jmem N m)) : px_C X d 86 [.ref (47 + q), jv x0] (jmem N m) Q := by
  unfold jf_86 at h
  rcases hq with rfl | rfl
  · have hu : ju px_m86 (0, 0) := ju_0
    try dsimp only [Nat.reduceAdd] at h
    refine jr_in (M := px_m86) (lev := 0) (L := [some (.ref 47), some (jv x0)]) hd rfl jbd_86 (jl rfl) rfl (fun d hd Q' hQ' => ?_)
    refine jr_al_n (pc' := 1) rfl rfl rfl (jr_gr (pc' := 4) (r := 48) rfl rfl jlk_6_11 (.inl rfl) rfl hN jd_47 rfl rfl rfl (jr_bi (pc' := 6) rfl rfl rfl (jr_il_n (pc' := 7) rfl rfl rfl (jr_add (pc' := 8) rfl rfl ?_))))
    refine jr_ia (pc' := 9) rfl rfl (jl rfl) hN jd_48 jn_48 jg_w h (fun hc h => ?_)
    refine jr_bi (pc' := 11) rfl rfl rfl ?_
    refine jr_reg (fun t1 => jb t1) (fun t1 => jp X (px_C X d) px_m86 Q' N 19 [some (.ref 47), some (jv x0)] [(jv t1)] m (0, 0)) h (fun t1 ht1 h => ?_) (fun R13 k2 h => ?_)
    · exact jr_retb rfl hu rfl ht1 (hQ' _ _ (hQ t1 ht1 h))
    · refine jr_cne (pa := 14) (pb := 18) rfl rfl rfl jg_a jgc_14 h (fun hc h => ?_) (fun hc h => ?_)
      · refine jr_ic (pc' := 15) rfl rfl (jr_goto (pc' := 19) rfl rfl ?_)
        exact k2 ((1 : Int)) jb_1 h
      · refine jr_ic (pc' := 19) rfl rfl ?_
        exact k2 ((0 : Int)) jb_0 h
  · have hu : ju px_m86 (0, 0) := ju_0
    try dsimp only [Nat.reduceAdd] at h
    refine jr_in (M := px_m86) (lev := 0) (L := [some (.ref 64), some (jv x0)]) hd rfl jbd_86 (jl rfl) rfl (fun d hd Q' hQ' => ?_)
    refine jr_al_n (pc' := 1) rfl rfl rfl (jr_gr (pc' := 4) (r := 65) rfl rfl jlk_6_11 (.inl rfl) rfl hN jd_64 rfl rfl rfl (jr_bi (pc' := 6) rfl rfl rfl (jr_il_n (pc' := 7) rfl rfl rfl (jr_add (pc' := 8) rfl rfl ?_))))
    refine jr_ia (pc' := 9) rfl rfl (jl rfl) hN jd_65 jn_65 jg_w h (fun hc h => ?_)
    refine jr_bi (pc' := 11) rfl rfl rfl ?_
    refine jr_reg (fun t1 => jb t1) (fun t1 => jp X (px_C X d) px_m86 Q' N 19 [some (.ref 64), some (jv x0)] [(jv t1)] m (0, 0)) h (fun t1 ht1 h => ?_) (fun R13 k2 h => ?_)
    · exact jr_retb rfl hu rfl ht1 (hQ' _ _ (hQ t1 ht1 h))
    · refine jr_cne (pa := 14) (pb := 18) rfl rfl rfl jg_a jgc_14 h (fun hc h => ?_) (fun hc h => ?_)
      · refine jr_ic (pc' := 15) rfl rfl (jr_goto (pc' := 19) rfl rfl ?_)
        exact k2 ((1 : Int)) jb_1 h
      · refine jr_ic (pc' := 19) rfl rfl ?_
        exact k2 ((0 : Int)) jb_0 h

set_option maxRecDepth 20000 in
set_option maxHeartbeats 1000000 in
theorem jc_85 {X : Nat × (Nat → Int32)} {N d : Nat} {q : Nat} (hN : 102 ≤ N) (hd : 2 ≤ d) (hq : q = 0 ∨ q = 17) {m : jm} {P : Int → Prop} {Q : px_Q} (h : jo (jf_85 q m) P) (hQ : ∀ p : Int, jg p → P p → Q (.inl (some (jv p))) (jmem N m)) : px_C X d 85 [.ref (47 + q)] (jmem N m) Q := by
  unfold jf_85 at h
  rcases hq with rfl | rfl
  · have hu : ju px_m85 (0, 0) := ju_0
    try dsimp only [Nat.reduceAdd] at h
    refine jr_in (M := px_m85) (lev := 1) (L := [some (.ref 47), none, none]) hd rfl jbd_85 (jl rfl) rfl (fun d hd Q' hQ' => ?_)
    refine jr_ic (pc' := 1) rfl rfl (jr_is_n (pc' := 2) (L' := [_, _, _]) rfl rfl (jl rfl) rfl rfl (jr_ic (pc' := 3) rfl rfl (jr_is_n (pc' := 4) (L' := [_, _, _]) rfl rfl (jl rfl) rfl rfl ?_)))
    refine jr_reg (fun t4 => jg t4) (fun t4 => ∀ o5, jn o5 → jp X (px_C X d) px_m85 Q' N 39 [some (.ref 47), some (jv t4), o5] [] m (0, 0)) h (fun t4 ht4 h o5 ho5 => ?_) (fun R7 k6 h => ?_)
    · refine jr_il_n (pc' := 40) rfl rfl rfl ?_
      exact jr_ret rfl hu rfl (hQ' _ _ (hQ t4 ht4 h))
    · refine jr_lp (fun s1 => jg s1.1 ∧ jg s1.2) (fun s1 => jp X (px_C X d) px_m85 Q' N 4 [some (.ref 47), some (jv s1.1), some (jv s1.2)] [] m (0, 0)) h ⟨jgc_0, jgc_0⟩ (fun s1 hs1 R3 k2 h => ?_)
      refine jr_il_n (pc' := 5) rfl rfl rfl (jr_al_n (pc' := 6) rfl rfl rfl (jr_gr (pc' := 9) (r := 3) rfl rfl jlk_6_20 (.inl rfl) rfl hN jd_47 rfl rfl rfl (jr_gi (pc' := 12) rfl rfl jlk_6_55 (.inr rfl) rfl hN jd_3 rfl rfl ?_)))
      refine jr_cge (pa := 15) (pb := 39) rfl rfl rfl hs1.2 jg_a h (fun hc h => ?_) (fun hc h => ?_)
      · refine jr_il_n (pc' := 16) rfl rfl rfl (jr_al_n (pc' := 17) rfl rfl rfl (jr_il_n (pc' := 18) rfl rfl rfl ?_))
        refine jr_cv_p (pc' := 21) [_] rfl rfl jlk_6_59 jq_86 jbd_86 (jl rfl) rfl (jl rfl) hu rfl (jk rfl hN) (jd_47.trans jo_86.symm) (fun Q' hq => jc_86 hN (Nat.le_trans (jl rfl) hd) (.inl rfl) hs1.2 (jo_b h) hq) (fun p8 hp8 h => ?_)
        refine jr_reg (fun t9 => jg t9) (fun t9 => jp X (px_C X d) px_m85 Q' N 31 [some (.ref 47), some (jv s1.1), some (jv s1.2)] [(jv t9), (jv s1.1)] m (0, 0)) h (fun t9 ht9 h => ?_) (fun R21 k10 h => ?_)
        · refine jr_or (pc' := 32) rfl rfl (jr_is_n (pc' := 33) (L' := [_, _, _]) rfl rfl (jl rfl) rfl rfl (jr_inc (pc' := 36) (L' := [_, _, _]) rfl rfl rfl (jl rfl) rfl rfl (jr_goto (pc' := 4) rfl rfl ?_)))
          exact k2 (jbor s1.1 t9, jw (s1.2 + 1)) ⟨jg_bor, jg_w⟩ h
        · refine jr_zeq (pa := 30) (pb := 24) rfl rfl rfl (jg_b hp8) h (fun hc h => ?_) (fun hc h => ?_)
          · refine jr_ic (pc' := 31) rfl rfl ?_
            exact k10 ((0 : Int)) jgc_0 h
          · refine jr_ic (pc' := 25) rfl rfl (jr_il_n (pc' := 26) rfl rfl rfl (jr_shl (pc' := 27) rfl rfl (jr_goto (pc' := 31) rfl rfl ?_)))
            exact k10 (jshl (1 : Int) s1.2) jg_shl h
      · exact k6 (s1.1) hs1.1 h _ jn_i
  · have hu : ju px_m85 (0, 0) := ju_0
    try dsimp only [Nat.reduceAdd] at h
    refine jr_in (M := px_m85) (lev := 1) (L := [some (.ref 64), none, none]) hd rfl jbd_85 (jl rfl) rfl (fun d hd Q' hQ' => ?_)
    refine jr_ic (pc' := 1) rfl rfl (jr_is_n (pc' := 2) (L' := [_, _, _]) rfl rfl (jl rfl) rfl rfl (jr_ic (pc' := 3) rfl rfl (jr_is_n (pc' := 4) (L' := [_, _, _]) rfl rfl (jl rfl) rfl rfl ?_)))
    refine jr_reg (fun t4 => jg t4) (fun t4 => ∀ o5, jn o5 → jp X (px_C X d) px_m85 Q' N 39 [some (.ref 64), some (jv t4), o5] [] m (0, 0)) h (fun t4 ht4 h o5 ho5 => ?_) (fun R7 k6 h => ?_)
    · refine jr_il_n (pc' := 40) rfl rfl rfl ?_
      exact jr_ret rfl hu rfl (hQ' _ _ (hQ t4 ht4 h))
    · refine jr_lp (fun s1 => jg s1.1 ∧ jg s1.2) (fun s1 => jp X (px_C X d) px_m85 Q' N 4 [some (.ref 64), some (jv s1.1), some (jv s1.2)] [] m (0, 0)) h ⟨jgc_0, jgc_0⟩ (fun s1 hs1 R3 k2 h => ?_)
      refine jr_il_n (pc' := 5) rfl rfl rfl (jr_al_n (pc' := 6) rfl rfl rfl (jr_gr (pc' := 9) (r := 3) rfl rfl jlk_6_20 (.inl rfl) rfl hN jd_64 rfl rfl rfl (jr_gi (pc' := 12) rfl rfl jlk_6_55 (.inr rfl) rfl hN jd_3 rfl rfl ?_)))
      refine jr_cge (pa := 15) (pb := 39) rfl rfl rfl hs1.2 jg_a h (fun hc h => ?_) (fun hc h => ?_)
      · refine jr_il_n (pc' := 16) rfl rfl rfl (jr_al_n (pc' := 17) rfl rfl rfl (jr_il_n (pc' := 18) rfl rfl rfl ?_))
        refine jr_cv_p (pc' := 21) [_] rfl rfl jlk_6_59 jq_86 jbd_86 (jl rfl) rfl (jl rfl) hu rfl (jk rfl hN) (jd_64.trans jo_86.symm) (fun Q' hq => jc_86 hN (Nat.le_trans (jl rfl) hd) (.inr rfl) hs1.2 (jo_b h) hq) (fun p8 hp8 h => ?_)
        refine jr_reg (fun t9 => jg t9) (fun t9 => jp X (px_C X d) px_m85 Q' N 31 [some (.ref 64), some (jv s1.1), some (jv s1.2)] [(jv t9), (jv s1.1)] m (0, 0)) h (fun t9 ht9 h => ?_) (fun R21 k10 h => ?_)
        · refine jr_or (pc' := 32) rfl rfl (jr_is_n (pc' := 33) (L' := [_, _, _]) rfl rfl (jl rfl) rfl rfl (jr_inc (pc' := 36) (L' := [_, _, _]) rfl rfl rfl (jl rfl) rfl rfl (jr_goto (pc' := 4) rfl rfl ?_)))
          exact k2 (jbor s1.1 t9, jw (s1.2 + 1)) ⟨jg_bor, jg_w⟩ h
        · refine jr_zeq (pa := 30) (pb := 24) rfl rfl rfl (jg_b hp8) h (fun hc h => ?_) (fun hc h => ?_)
          · refine jr_ic (pc' := 31) rfl rfl ?_
            exact k10 ((0 : Int)) jgc_0 h
          · refine jr_ic (pc' := 25) rfl rfl (jr_il_n (pc' := 26) rfl rfl rfl (jr_shl (pc' := 27) rfl rfl (jr_goto (pc' := 31) rfl rfl ?_)))
            exact k10 (jshl (1 : Int) s1.2) jg_shl h
      · exact k6 (s1.1) hs1.1 h _ jn_i

set_option maxRecDepth 20000 in
set_option maxHeartbeats 1000000 in
theorem jc_88 {X : Nat × (Nat → Int32)} {N d : Nat} {q : Nat} {x0 : Int} (hN : 102 ≤ N) (hd : 2 ≤ d) (hq : q = 0 ∨ q = 17) (hx0 : jg x0) {m : jm} {P : Int → Prop} {Q : px_Q} (h : jo (jf_88 q x0 m) P) (hQ : ∀ p : Int, jg p → P p → Q (.inl (some (jv p))) (jmem N m)) : px_C X d 88 [.ref (47 + q), jv x0] (jmem N m) Q := by
  unfold jf_88 at h
  rcases hq with rfl | rfl
  · have hu : ju px_m88 (0, 0) := ju_0
    try dsimp only [Nat.reduceAdd] at h
    refine jr_in (M := px_m88) (lev := 1) (L := [some (.ref 47), some (jv x0), none, none]) hd rfl jbd_88 (jl rfl) rfl (fun d hd Q' hQ' => ?_)
    refine jr_ic (pc' := 1) rfl rfl (jr_is_n (pc' := 2) (L' := [_, _, _, _]) rfl rfl (jl rfl) rfl rfl (jr_ic (pc' := 3) rfl rfl (jr_is_n (pc' := 4) (L' := [_, _, _, _]) rfl rfl (jl rfl) rfl rfl ?_)))
    refine jr_reg (fun t4 => jg t4) (fun t4 => ∀ o5, jn o5 → jp X (px_C X d) px_m88 Q' N 40 [some (.ref 47), some (jv x0), some (jv t4), o5] [] m (0, 0)) h (fun t4 ht4 h o5 ho5 => ?_) (fun R7 k6 h => ?_)
    · refine jr_il_n (pc' := 41) rfl rfl rfl ?_
      exact jr_ret rfl hu rfl (hQ' _ _ (hQ t4 ht4 h))
    · refine jr_lp (fun s1 => jg s1.1 ∧ jg s1.2) (fun s1 => jp X (px_C X d) px_m88 Q' N 4 [some (.ref 47), some (jv x0), some (jv s1.1), some (jv s1.2)] [] m (0, 0)) h ⟨jgc_0, jgc_0⟩ (fun s1 hs1 R3 k2 h => ?_)
      refine jr_il_n (pc' := 5) rfl rfl rfl (jr_al_n (pc' := 6) rfl rfl rfl (jr_gr (pc' := 9) (r := 3) rfl rfl jlk_6_20 (.inl rfl) rfl hN jd_47 rfl rfl rfl (jr_gi (pc' := 12) rfl rfl jlk_6_69 (.inr rfl) rfl hN jd_3 rfl rfl ?_)))
      refine jr_cge (pa := 15) (pb := 40) rfl rfl rfl hs1.2 jg_a h (fun hc h => ?_) (fun hc h => ?_)
      · refine jr_il_n (pc' := 16) rfl rfl rfl (jr_al_n (pc' := 17) rfl rfl rfl (jr_il_n (pc' := 18) rfl rfl rfl ?_))
        refine jr_cv_p (pc' := 21) [_] rfl rfl jlk_6_51 jq_59 jbd_59 (jl rfl) rfl (jl rfl) hu rfl (jk rfl hN) (jd_47.trans jo_59.symm) (fun Q' hq => jc_59 hN (Nat.le_trans (jl rfl) hd) (.inl rfl) hs1.2 (jo_b h) hq) (fun p8 hp8 h => ?_)
        refine jr_il_n (pc' := 22) rfl rfl rfl ?_
        refine jr_reg (fun t9 => jg t9) (fun t9 => jp X (px_C X d) px_m88 Q' N 32 [some (.ref 47), some (jv x0), some (jv s1.1), some (jv s1.2)] [(jv t9), (jv s1.1)] m (0, 0)) h (fun t9 ht9 h => ?_) (fun R21 k10 h => ?_)
        · refine jr_or (pc' := 33) rfl rfl (jr_is_n (pc' := 34) (L' := [_, _, _, _]) rfl rfl (jl rfl) rfl rfl (jr_inc (pc' := 37) (L' := [_, _, _, _]) rfl rfl rfl (jl rfl) rfl rfl (jr_goto (pc' := 4) rfl rfl ?_)))
          exact k2 (jbor s1.1 t9, jw (s1.2 + 1)) ⟨jg_bor, jg_w⟩ h
        · refine jr_cne (pa := 25) (pb := 31) rfl rfl rfl hp8 hx0 h (fun hc h => ?_) (fun hc h => ?_)
          · refine jr_ic (pc' := 26) rfl rfl (jr_il_n (pc' := 27) rfl rfl rfl (jr_shl (pc' := 28) rfl rfl (jr_goto (pc' := 32) rfl rfl ?_)))
            exact k10 (jshl (1 : Int) s1.2) jg_shl h
          · refine jr_ic (pc' := 32) rfl rfl ?_
            exact k10 ((0 : Int)) jgc_0 h
      · exact k6 (s1.1) hs1.1 h _ jn_i
  · have hu : ju px_m88 (0, 0) := ju_0
    try dsimp only [Nat.reduceAdd] at h
    refine jr_in (M := px_m88) (lev := 1) (L := [some (.ref 64), some (jv x0), none, none]) hd rfl jbd_88 (jl rfl) rfl (fun d hd Q' hQ' => ?_)
    refine jr_ic (pc' := 1) rfl rfl (jr_is_n (pc' := 2) (L' := [_, _, _, _]) rfl rfl (jl rfl) rfl rfl (jr_ic (pc' := 3) rfl rfl (jr_is_n (pc' := 4) (L' := [_, _, _, _]) rfl rfl (jl rfl) rfl rfl ?_)))
    refine jr_reg (fun t4 => jg t4) (fun t4 => ∀ o5, jn o5 → jp X (px_C X d) px_m88 Q' N 40 [some (.ref 64), some (jv x0), some (jv t4), o5] [] m (0, 0)) h (fun t4 ht4 h o5 ho5 => ?_) (fun R7 k6 h => ?_)
    · refine jr_il_n (pc' := 41) rfl rfl rfl ?_
      exact jr_ret rfl hu rfl (hQ' _ _ (hQ t4 ht4 h))
    · refine jr_lp (fun s1 => jg s1.1 ∧ jg s1.2) (fun s1 => jp X (px_C X d) px_m88 Q' N 4 [some (.ref 64), some (jv x0), some (jv s1.1), some (jv s1.2)] [] m (0, 0)) h ⟨jgc_0, jgc_0⟩ (fun s1 hs1 R3 k2 h => ?_)
      refine jr_il_n (pc' := 5) rfl rfl rfl (jr_al_n (pc' := 6) rfl rfl rfl (jr_gr (pc' := 9) (r := 3) rfl rfl jlk_6_20 (.inl rfl) rfl hN jd_64 rfl rfl rfl (jr_gi (pc' := 12) rfl rfl jlk_6_69 (.inr rfl) rfl hN jd_3 rfl rfl ?_)))
      refine jr_cge (pa := 15) (pb := 40) rfl rfl rfl hs1.2 jg_a h (fun hc h => ?_) (fun hc h => ?_)
      · refine jr_il_n (pc' := 16) rfl rfl rfl (jr_al_n (pc' := 17) rfl rfl rfl (jr_il_n (pc' := 18) rfl rfl rfl ?_))
        refine jr_cv_p (pc' := 21) [_] rfl rfl jlk_6_51 jq_59 jbd_59 (jl rfl) rfl (jl rfl) hu rfl (jk rfl hN) (jd_64.trans jo_59.symm) (fun Q' hq => jc_59 hN (Nat.le_trans (jl rfl) hd) (.inr rfl) hs1.2 (jo_b h) hq) (fun p8 hp8 h => ?_)
        refine jr_il_n (pc' := 22) rfl rfl rfl ?_
        refine jr_reg (fun t9 => jg t9) (fun t9 => jp X (px_C X d) px_m88 Q' N 32 [some (.ref 64), some (jv x0), some (jv s1.1), some (jv s1.2)] [(jv t9), (jv s1.1)] m (0, 0)) h (fun t9 ht9 h => ?_) (fun R21 k10 h => ?_)
        · refine jr_or (pc' := 33) rfl rfl (jr_is_n (pc' := 34) (L' := [_, _, _, _]) rfl rfl (jl rfl) rfl rfl (jr_inc (pc' := 37) (L' := [_, _, _, _]) rfl rfl rfl (jl rfl) rfl rfl (jr_goto (pc' := 4) rfl rfl ?_)))
          exact k2 (jbor s1.1 t9, jw (s1.2 + 1)) ⟨jg_bor, jg_w⟩ h
        · refine jr_cne (pa := 25) (pb := 31) rfl rfl rfl hp8 hx0 h (fun hc h => ?_) (fun hc h => ?_)
          · refine jr_ic (pc' := 26) rfl rfl (jr_il_n (pc' := 27) rfl rfl rfl (jr_shl (pc' := 28) rfl rfl (jr_goto (pc' := 32) rfl rfl ?_)))
            exact k10 (jshl (1 : Int) s1.2) jg_shl h
          · refine jr_ic (pc' := 32) rfl rfl ?_
            exact k10 ((0 : Int)) jgc_0 h
      · exact k6 (s1.1) hs1.1 h _ jn_i

set_option maxRecDepth 20000 in
set_option maxHeartbeats 1000000 in
theorem jc_87 {X : Nat × (Nat → Int32)} {N d : Nat} {q : Nat} (hN : 102 ≤ N) (hd : 3 ≤ d) (hq : q = 0 ∨ q = 17) {m : jm} {P : Int → Prop} {Q : px_Q} (h : jo (jf_87 q m) P) (hQ : ∀ p : Int, jg p → P p → Q (.inl (some (jv p))) (jmem N m)) : px_C X d 87 [.ref (47 + q)] (jmem N m) Q := by
  unfold jf_87 at h
  rcases hq with rfl | rfl
  · have hu : ju px_m87 (0, 0) := ju_0
    try dsimp only [Nat.reduceAdd] at h
    refine jr_in (M := px_m87) (lev := 2) (L := [some (.ref 47)]) hd rfl jbd_87 (jl rfl) rfl (fun d hd Q' hQ' => ?_)
    refine jr_al_n (pc' := 1) rfl rfl rfl (jr_ic (pc' := 2) rfl rfl ?_)
    refine jr_cv_p (pc' := 5) [] rfl rfl jlk_6_72 jq_88 jbd_88 (jl rfl) rfl (jl rfl) hu rfl (jk rfl hN) (jd_47.trans jo_88.symm) (fun Q' hq => jc_88 hN (Nat.le_trans (jl rfl) hd) (.inl rfl) jgc_m1 (jo_b h) hq) (fun p1 hp1 h => ?_)
    exact jr_ret rfl hu rfl (hQ' _ _ (hQ p1 hp1 h))
  · have hu : ju px_m87 (0, 0) := ju_0
    try dsimp only [Nat.reduceAdd] at h
    refine jr_in (M := px_m87) (lev := 2) (L := [some (.ref 64)]) hd rfl jbd_87 (jl rfl) rfl (fun d hd Q' hQ' => ?_)
    refine jr_al_n (pc' := 1) rfl rfl rfl (jr_ic (pc' := 2) rfl rfl ?_)
    refine jr_cv_p (pc' := 5) [] rfl rfl jlk_6_72 jq_88 jbd_88 (jl rfl) rfl (jl rfl) hu rfl (jk rfl hN) (jd_64.trans jo_88.symm) (fun Q' hq => jc_88 hN (Nat.le_trans (jl rfl) hd) (.inr rfl) jgc_m1 (jo_b h) hq) (fun p1 hp1 h => ?_)
    exact jr_ret rfl hu rfl (hQ' _ _ (hQ p1 hp1 h))

set_option maxRecDepth 20000 in
set_option maxHeartbeats 1000000 in
theorem jc_89 {X : Nat × (Nat → Int32)} {N d : Nat} {q : Nat} (hN : 102 ≤ N) (hd : 2 ≤ d) (hq : q = 0 ∨ q = 17) {m : jm} {P : Int → Prop} {Q : px_Q} (h : jo (jf_89 q m) P) (hQ : ∀ p : Int, jg p → P p → Q (.inl (some (jv p))) (jmem N m)) : px_C X d 89 [.ref (47 + q)] (jmem N m) Q := by
  unfold jf_89 at h
  rcases hq with rfl | rfl
  · have hu : ju px_m89 (0, 0) := ju_0
    try dsimp only [Nat.reduceAdd] at h
    refine jr_in (M := px_m89) (lev := 1) (L := [some (.ref 47), none, none]) hd rfl jbd_89 (jl rfl) rfl (fun d hd Q' hQ' => ?_)
    refine jr_ic (pc' := 1) rfl rfl (jr_is_n (pc' := 2) (L' := [_, _, _]) rfl rfl (jl rfl) rfl rfl (jr_ic (pc' := 3) rfl rfl (jr_is_n (pc' := 4) (L' := [_, _, _]) rfl rfl (jl rfl) rfl rfl ?_)))
    refine jr_reg (fun t4 => jg t4) (fun t4 => ∀ o5, jn o5 → jp X (px_C X d) px_m89 Q' N 29 [some (.ref 47), some (jv t4), o5] [] m (0, 0)) h (fun t4 ht4 h o5 ho5 => ?_) (fun R7 k6 h => ?_)
    · refine jr_il_n (pc' := 30) rfl rfl rfl ?_
      exact jr_ret rfl hu rfl (hQ' _ _ (hQ t4 ht4 h))
    · refine jr_lp (fun s1 => jg s1.1 ∧ jg s1.2) (fun s1 => jp X (px_C X d) px_m89 Q' N 4 [some (.ref 47), some (jv s1.1), some (jv s1.2)] [] m (0, 0)) h ⟨jgc_0, jgc_0⟩ (fun s1 hs1 R3 k2 h => ?_)
      refine jr_il_n (pc' := 5) rfl rfl rfl (jr_al_n (pc' := 6) rfl rfl rfl (jr_gr (pc' := 9) (r := 3) rfl rfl jlk_6_20 (.inl rfl) rfl hN jd_47 rfl rfl rfl (jr_gi (pc' := 12) rfl rfl jlk_6_75 (.inr rfl) rfl hN jd_3 rfl rfl ?_)))
      refine jr_cge (pa := 15) (pb := 29) rfl rfl rfl hs1.2 jg_a h (fun hc h => ?_) (fun hc h => ?_)
      · refine jr_il_n (pc' := 16) rfl rfl rfl (jr_al_n (pc' := 17) rfl rfl rfl (jr_il_n (pc' := 18) rfl rfl rfl ?_))
        refine jr_cv_p (pc' := 21) [_] rfl rfl jlk_6_78 jq_66 jbd_66 (jl rfl) rfl (jl rfl) hu rfl (jk rfl hN) (jd_47.trans jo_66.symm) (fun Q' hq => jc_66 hN (Nat.le_trans (jl rfl) hd) (.inl rfl) hs1.2 (jo_b h) hq) (fun p8 hp8 h => ?_)
        refine jr_add (pc' := 22) rfl rfl (jr_is_n (pc' := 23) (L' := [_, _, _]) rfl rfl (jl rfl) rfl rfl (jr_inc (pc' := 26) (L' := [_, _, _]) rfl rfl rfl (jl rfl) rfl rfl (jr_goto (pc' := 4) rfl rfl ?_)))
        exact k2 (jw (s1.1 + p8), jw (s1.2 + 1)) ⟨jg_w, jg_w⟩ h
      · exact k6 (s1.1) hs1.1 h _ jn_i
  · have hu : ju px_m89 (0, 0) := ju_0
    try dsimp only [Nat.reduceAdd] at h
    refine jr_in (M := px_m89) (lev := 1) (L := [some (.ref 64), none, none]) hd rfl jbd_89 (jl rfl) rfl (fun d hd Q' hQ' => ?_)
    refine jr_ic (pc' := 1) rfl rfl (jr_is_n (pc' := 2) (L' := [_, _, _]) rfl rfl (jl rfl) rfl rfl (jr_ic (pc' := 3) rfl rfl (jr_is_n (pc' := 4) (L' := [_, _, _]) rfl rfl (jl rfl) rfl rfl ?_)))
    refine jr_reg (fun t4 => jg t4) (fun t4 => ∀ o5, jn o5 → jp X (px_C X d) px_m89 Q' N 29 [some (.ref 64), some (jv t4), o5] [] m (0, 0)) h (fun t4 ht4 h o5 ho5 => ?_) (fun R7 k6 h => ?_)
    · refine jr_il_n (pc' := 30) rfl rfl rfl ?_
      exact jr_ret rfl hu rfl (hQ' _ _ (hQ t4 ht4 h))
    · refine jr_lp (fun s1 => jg s1.1 ∧ jg s1.2) (fun s1 => jp X (px_C X d) px_m89 Q' N 4 [some (.ref 64), some (jv s1.1), some (jv s1.2)] [] m (0, 0)) h ⟨jgc_0, jgc_0⟩ (fun s1 hs1 R3 k2 h => ?_)
      refine jr_il_n (pc' := 5) rfl rfl rfl (jr_al_n (pc' := 6) rfl rfl rfl (jr_gr (pc' := 9) (r := 3) rfl rfl jlk_6_20 (.inl rfl) rfl hN jd_64 rfl rfl rfl (jr_gi (pc' := 12) rfl rfl jlk_6_75 (.inr rfl) rfl hN jd_3 rfl rfl ?_)))
      refine jr_cge (pa := 15) (pb := 29) rfl rfl rfl hs1.2 jg_a h (fun hc h => ?_) (fun hc h => ?_)
      · refine jr_il_n (pc' := 16) rfl rfl rfl (jr_al_n (pc' := 17) rfl rfl rfl (jr_il_n (pc' := 18) rfl rfl rfl ?_))
        refine jr_cv_p (pc' := 21) [_] rfl rfl jlk_6_78 jq_66 jbd_66 (jl rfl) rfl (jl rfl) hu rfl (jk rfl hN) (jd_64.trans jo_66.symm) (fun Q' hq => jc_66 hN (Nat.le_trans (jl rfl) hd) (.inr rfl) hs1.2 (jo_b h) hq) (fun p8 hp8 h => ?_)
        refine jr_add (pc' := 22) rfl rfl (jr_is_n (pc' := 23) (L' := [_, _, _]) rfl rfl (jl rfl) rfl rfl (jr_inc (pc' := 26) (L' := [_, _, _]) rfl rfl rfl (jl rfl) rfl rfl (jr_goto (pc' := 4) rfl rfl ?_)))
        exact k2 (jw (s1.1 + p8), jw (s1.2 + 1)) ⟨jg_w, jg_w⟩ h
      · exact k6 (s1.1) hs1.1 h _ jn_i

set_option maxRecDepth 20000 in
set_option maxHeartbeats 1000000 in
theorem jc_90 {X : Nat × (Nat → Int32)} {N d : Nat} {q : Nat} {x0 : Int} (hN : 102 ≤ N) (hd : 2 ≤ d) (hq : q = 0 ∨ q = 17) (hx0 : jg x0) {m : jm} {P : Int → Prop} {Q : px_Q} (h : jo (jf_90 q x0 m) P) (hQ : ∀ p : Int, jg p → P p → Q (.inl (some (jv p))) (jmem N m)) : px_C X d 90 [.ref (47 + q), jv x0] (jmem N m) Q := by
  unfold jf_90 at h
  rcases hq with rfl | rfl
  · have hu : ju px_m90 (0, 0) := ju_0
    try dsimp only [Nat.reduceAdd] at h
    refine jr_in (M := px_m90) (lev := 1) (L := [some (.ref 47), some (jv x0), none, none]) hd rfl jbd_90 (jl rfl) rfl (fun d hd Q' hQ' => ?_)
    refine jr_ic (pc' := 1) rfl rfl (jr_is_n (pc' := 2) (L' := [_, _, _, _]) rfl rfl (jl rfl) rfl rfl (jr_ic (pc' := 3) rfl rfl (jr_is_n (pc' := 4) (L' := [_, _, _, _]) rfl rfl (jl rfl) rfl rfl ?_)))
    refine jr_reg (fun t4 => jg t4) (fun t4 => ∀ o5, jn o5 → jp X (px_C X d) px_m90 Q' N 40 [some (.ref 47), some (jv x0), some (jv t4), o5] [] m (0, 0)) h (fun t4 ht4 h o5 ho5 => ?_) (fun R7 k6 h => ?_)
    · refine jr_il_n (pc' := 41) rfl rfl rfl ?_
      exact jr_ret rfl hu rfl (hQ' _ _ (hQ t4 ht4 h))
    · refine jr_lp (fun s1 => jg s1.1 ∧ jg s1.2) (fun s1 => jp X (px_C X d) px_m90 Q' N 4 [some (.ref 47), some (jv x0), some (jv s1.1), some (jv s1.2)] [] m (0, 0)) h ⟨jgc_0, jgc_0⟩ (fun s1 hs1 R3 k2 h => ?_)
      refine jr_il_n (pc' := 5) rfl rfl rfl (jr_al_n (pc' := 6) rfl rfl rfl (jr_gr (pc' := 9) (r := 3) rfl rfl jlk_6_20 (.inl rfl) rfl hN jd_47 rfl rfl rfl (jr_gi (pc' := 12) rfl rfl jlk_6_55 (.inr rfl) rfl hN jd_3 rfl rfl ?_)))
      refine jr_cge (pa := 15) (pb := 40) rfl rfl rfl hs1.2 jg_a h (fun hc h => ?_) (fun hc h => ?_)
      · refine jr_il_n (pc' := 16) rfl rfl rfl (jr_al_n (pc' := 17) rfl rfl rfl (jr_il_n (pc' := 18) rfl rfl rfl ?_))
        refine jr_cv_p (pc' := 21) [_] rfl rfl jlk_6_63 jq_57 jbd_57 (jl rfl) rfl (jl rfl) hu rfl (jk rfl hN) (jd_47.trans jo_57.symm) (fun Q' hq => jc_57 hN (Nat.le_trans (jl rfl) hd) (.inl rfl) hs1.2 (jo_b h) hq) (fun p8 hp8 h => ?_)
        refine jr_il_n (pc' := 22) rfl rfl rfl ?_
        refine jr_reg (fun t9 => jg t9) (fun t9 => jp X (px_C X d) px_m90 Q' N 32 [some (.ref 47), some (jv x0), some (jv s1.1), some (jv s1.2)] [(jv t9), (jv s1.1)] m (0, 0)) h (fun t9 ht9 h => ?_) (fun R21 k10 h => ?_)
        · refine jr_or (pc' := 33) rfl rfl (jr_is_n (pc' := 34) (L' := [_, _, _, _]) rfl rfl (jl rfl) rfl rfl (jr_inc (pc' := 37) (L' := [_, _, _, _]) rfl rfl rfl (jl rfl) rfl rfl (jr_goto (pc' := 4) rfl rfl ?_)))
          exact k2 (jbor s1.1 t9, jw (s1.2 + 1)) ⟨jg_bor, jg_w⟩ h
        · refine jr_cne (pa := 25) (pb := 31) rfl rfl rfl hp8 hx0 h (fun hc h => ?_) (fun hc h => ?_)
          · refine jr_ic (pc' := 26) rfl rfl (jr_il_n (pc' := 27) rfl rfl rfl (jr_shl (pc' := 28) rfl rfl (jr_goto (pc' := 32) rfl rfl ?_)))
            exact k10 (jshl (1 : Int) s1.2) jg_shl h
          · refine jr_ic (pc' := 32) rfl rfl ?_
            exact k10 ((0 : Int)) jgc_0 h
      · exact k6 (s1.1) hs1.1 h _ jn_i
  · have hu : ju px_m90 (0, 0) := ju_0
    try dsimp only [Nat.reduceAdd] at h
    refine jr_in (M := px_m90) (lev := 1) (L := [some (.ref 64), some (jv x0), none, none]) hd rfl jbd_90 (jl rfl) rfl (fun d hd Q' hQ' => ?_)
    refine jr_ic (pc' := 1) rfl rfl (jr_is_n (pc' := 2) (L' := [_, _, _, _]) rfl rfl (jl rfl) rfl rfl (jr_ic (pc' := 3) rfl rfl (jr_is_n (pc' := 4) (L' := [_, _, _, _]) rfl rfl (jl rfl) rfl rfl ?_)))
    refine jr_reg (fun t4 => jg t4) (fun t4 => ∀ o5, jn o5 → jp X (px_C X d) px_m90 Q' N 40 [some (.ref 64), some (jv x0), some (jv t4), o5] [] m (0, 0)) h (fun t4 ht4 h o5 ho5 => ?_) (fun R7 k6 h => ?_)
    · refine jr_il_n (pc' := 41) rfl rfl rfl ?_
      exact jr_ret rfl hu rfl (hQ' _ _ (hQ t4 ht4 h))
    · refine jr_lp (fun s1 => jg s1.1 ∧ jg s1.2) (fun s1 => jp X (px_C X d) px_m90 Q' N 4 [some (.ref 64), some (jv x0), some (jv s1.1), some (jv s1.2)] [] m (0, 0)) h ⟨jgc_0, jgc_0⟩ (fun s1 hs1 R3 k2 h => ?_)
      refine jr_il_n (pc' := 5) rfl rfl rfl (jr_al_n (pc' := 6) rfl rfl rfl (jr_gr (pc' := 9) (r := 3) rfl rfl jlk_6_20 (.inl rfl) rfl hN jd_64 rfl rfl rfl (jr_gi (pc' := 12) rfl rfl jlk_6_55 (.inr rfl) rfl hN jd_3 rfl rfl ?_)))
      refine jr_cge (pa := 15) (pb := 40) rfl rfl rfl hs1.2 jg_a h (fun hc h => ?_) (fun hc h => ?_)
      · refine jr_il_n (pc' := 16) rfl rfl rfl (jr_al_n (pc' := 17) rfl rfl rfl (jr_il_n (pc' := 18) rfl rfl rfl ?_))
        refine jr_cv_p (pc' := 21) [_] rfl rfl jlk_6_63 jq_57 jbd_57 (jl rfl) rfl (jl rfl) hu rfl (jk rfl hN) (jd_64.trans jo_57.symm) (fun Q' hq => jc_57 hN (Nat.le_trans (jl rfl) hd) (.inr rfl) hs1.2 (jo_b h) hq) (fun p8 hp8 h => ?_)
        refine jr_il_n (pc' := 22) rfl rfl rfl ?_
        refine jr_reg (fun t9 => jg t9) (fun t9 => jp X (px_C X d) px_m90 Q' N 32 [some (.ref 64), some (jv x0), some (jv s1.1), some (jv s1.2)] [(jv t9), (jv s1.1)] m (0, 0)) h (fun t9 ht9 h => ?_) (fun R21 k10 h => ?_)
        · refine jr_or (pc' := 33) rfl rfl (jr_is_n (pc' := 34) (L' := [_, _, _, _]) rfl rfl (jl rfl) rfl rfl (jr_inc (pc' := 37) (L' := [_, _, _, _]) rfl rfl rfl (jl rfl) rfl rfl (jr_goto (pc' := 4) rfl rfl ?_)))
          exact k2 (jbor s1.1 t9, jw (s1.2 + 1)) ⟨jg_bor, jg_w⟩ h
        · refine jr_cne (pa := 25) (pb := 31) rfl rfl rfl hp8 hx0 h (fun hc h => ?_) (fun hc h => ?_)
          · refine jr_ic (pc' := 26) rfl rfl (jr_il_n (pc' := 27) rfl rfl rfl (jr_shl (pc' := 28) rfl rfl (jr_goto (pc' := 32) rfl rfl ?_)))
            exact k10 (jshl (1 : Int) s1.2) jg_shl h
          · refine jr_ic (pc' := 32) rfl rfl ?_
            exact k10 ((0 : Int)) jgc_0 h
      · exact k6 (s1.1) hs1.1 h _ jn_i

set_option maxRecDepth 20000 in
set_option maxHeartbeats 1000000 in
theorem jc_91 {X : Nat × (Nat → Int32)} {N d : Nat} {q : Nat} {x0 : Int} (hN : 102 ≤ N) (hd : 1 ≤ d) (hq : q = 0 ∨ q = 17) (hx0 : jg x0) {m : jm} {P : Int → Prop} {Q : px_Q} (h : jo (jf_91 q x0 m) P) (hQ : ∀ p : Int, jg p → P p → Q (.inl (some (jv p))) (jmem N m)) : px_C X d 91 [.ref (47 + q), jv x0] (jmem N m) Q := by
  unfold jf_91 at h
  rcases hq with rfl | rfl
  · have hu : ju px_m91 (0, 0) := ju_0
    try dsimp only [Nat.reduceAdd] at h
    refine jr_in (M := px_m91) (lev := 0) (L := [some (.ref 47), some (jv x0)]) hd rfl jbd_91 (jl rfl) rfl (fun d hd Q' hQ' => ?_)
    refine jr_al_n (pc' := 1) rfl rfl rfl (jr_gr (pc' := 4) (r := 48) rfl rfl jlk_6_11 (.inl rfl) rfl hN jd_47 rfl rfl rfl (jr_bi (pc' := 6) rfl rfl rfl (jr_il_n (pc' := 7) rfl rfl rfl (jr_add (pc' := 8) rfl rfl ?_))))
    refine jr_ia (pc' := 9) rfl rfl (jl rfl) hN jd_48 jn_48 jg_w h (fun hc h => ?_)
    exact jr_ret rfl hu rfl (hQ' _ _ (hQ (ja m 48 (jw ((38 : Int) + x0)).toNat) jg_a h))
  · have hu : ju px_m91 (0, 0) := ju_0
    try dsimp only [Nat.reduceAdd] at h
    refine jr_in (M := px_m91) (lev := 0) (L := [some (.ref 64), some (jv x0)]) hd rfl jbd_91 (jl rfl) rfl (fun d hd Q' hQ' => ?_)
    refine jr_al_n (pc' := 1) rfl rfl rfl (jr_gr (pc' := 4) (r := 65) rfl rfl jlk_6_11 (.inl rfl) rfl hN jd_64 rfl rfl rfl (jr_bi (pc' := 6) rfl rfl rfl (jr_il_n (pc' := 7) rfl rfl rfl (jr_add (pc' := 8) rfl rfl ?_))))
    refine jr_ia (pc' := 9) rfl rfl (jl rfl) hN jd_65 jn_65 jg_w h (fun hc h => ?_)
    exact jr_ret rfl hu rfl (hQ' _ _ (hQ (ja m 65 (jw ((38 : Int) + x0)).toNat) jg_a h))

set_option maxRecDepth 20000 in
set_option maxHeartbeats 1000000 in
theorem jc_92 {X : Nat × (Nat → Int32)} {N d : Nat} {q : Nat} {x0 : Int} {x1 : Int} {x2 : Int} (hN : 102 ≤ N) (hd : 4 ≤ d) (hq : q = 0 ∨ q = 17) (hx0 : jg x0) (hx1 : jg x1) (hx2 : jg x2) {m : jm} {P : Int × jm → Prop} {Q : px_Q} (h : jo (jf_92 q x0 x1 x2 m) P) (hQ : ∀ p : Int × jm, jg p.1 → P p → Q (.inl (some (jv p.1))) (jmem N p.2)) : px_C X d 92 [.ref (47 + q), jv x0, jv x1, jv x2] (jmem N m) Q := by
  unfold jf_92 at h
  rcases hq with rfl | rfl
  · have hu : ju px_m92 (0, 0) := ju_0
    try dsimp only [Nat.reduceAdd] at h
    refine jr_in (M := px_m92) (lev := 3) (L := [some (.ref 47), some (jv x0), some (jv x1), some (jv x2)]) hd rfl jbd_92 (jl rfl) rfl (fun d hd Q' hQ' => ?_)
    refine jr_al_n (pc' := 1) rfl rfl rfl (jr_il_n (pc' := 2) rfl rfl rfl (jr_il_n (pc' := 3) rfl rfl rfl (jr_il_n (pc' := 4) rfl rfl rfl (jr_al_n (pc' := 5) rfl rfl rfl ?_))))
    refine jr_cv_p (pc' := 8) [_, _, _, _] rfl rfl jlk_6_131 jq_63 jbd_63 (jl rfl) rfl (jl rfl) hu rfl (jk rfl hN) (jd_47.trans jo_63.symm) (fun Q' hq => jc_63 hN (Nat.le_trans (jl rfl) hd) (.inl rfl) (jo_b h) hq) (fun p1 hp1 h => ?_)
    refine jr_cv_i (pc' := 11) [] rfl rfl jlk_6_134 jq_78 jbd_78 (jl rfl) rfl (jl rfl) hu rfl (jk rfl hN) (jd_47.trans jo_78.symm) (fun Q' hq => jc_78 hN (Nat.le_trans (jl rfl) hd) (.inl rfl) hx0 hx1 hx2 hp1 (jo_b h) hq) (fun p2 hp2 h => ?_)
    exact jr_ret rfl hu rfl (hQ' _ _ (hQ (p2.1, p2.2) hp2 h))
  · have hu : ju px_m92 (0, 0) := ju_0
    try dsimp only [Nat.reduceAdd] at h
    refine jr_in (M := px_m92) (lev := 3) (L := [some (.ref 64), some (jv x0), some (jv x1), some (jv x2)]) hd rfl jbd_92 (jl rfl) rfl (fun d hd Q' hQ' => ?_)
    refine jr_al_n (pc' := 1) rfl rfl rfl (jr_il_n (pc' := 2) rfl rfl rfl (jr_il_n (pc' := 3) rfl rfl rfl (jr_il_n (pc' := 4) rfl rfl rfl (jr_al_n (pc' := 5) rfl rfl rfl ?_))))
    refine jr_cv_p (pc' := 8) [_, _, _, _] rfl rfl jlk_6_131 jq_63 jbd_63 (jl rfl) rfl (jl rfl) hu rfl (jk rfl hN) (jd_64.trans jo_63.symm) (fun Q' hq => jc_63 hN (Nat.le_trans (jl rfl) hd) (.inr rfl) (jo_b h) hq) (fun p1 hp1 h => ?_)
    refine jr_cv_i (pc' := 11) [] rfl rfl jlk_6_134 jq_78 jbd_78 (jl rfl) rfl (jl rfl) hu rfl (jk rfl hN) (jd_64.trans jo_78.symm) (fun Q' hq => jc_78 hN (Nat.le_trans (jl rfl) hd) (.inr rfl) hx0 hx1 hx2 hp1 (jo_b h) hq) (fun p2 hp2 h => ?_)
    exact jr_ret rfl hu rfl (hQ' _ _ (hQ (p2.1, p2.2) hp2 h))

set_option maxRecDepth 20000 in
set_option maxHeartbeats 1000000 in
theorem jc_93 {X : Nat × (Nat → Int32)} {N d : Nat} {q : Nat} (hN : 102 ≤ N) (hd : 3 ≤ d) (hq : q = 0 ∨ q = 17) {m : jm} {P : Int × jm → Prop} {Q : px_Q} (h : jo (jf_93 q m) P) (hQ : ∀ p : Int × jm, jg p.1 → P p → Q (.inl (some (jv p.1))) (jmem N p.2)) : px_C X d 93 [.ref (47 + q)] (jmem N m) Q := by
  unfold jf_93 at h
  rcases hq with rfl | rfl
  · have hu : ju px_m93 (0, 0) := ju_0
    try dsimp only [Nat.reduceAdd] at h
    refine jr_in (M := px_m93) (lev := 2) (L := [some (.ref 47)]) hd rfl jbd_93 (jl rfl) rfl (fun d hd Q' hQ' => ?_)
    refine jr_al_n (pc' := 1) rfl rfl rfl (jr_gr (pc' := 4) (r := 27) rfl rfl jlk_6_24 (.inl rfl) rfl hN jd_47 rfl rfl rfl (jr_al_n (pc' := 5) rfl rfl rfl (jr_gr (pc' := 8) (r := 49) rfl rfl jlk_6_17 (.inl rfl) rfl hN jd_47 rfl rfl rfl ?_)))
    refine jr_cv_i (pc' := 11) [] rfl rfl jlk_6_81 jq_23 jbd_23 (jl rfl) rfl (jl rfl) hu rfl (jk rfl hN) (jd_27.trans jo_23.symm) (fun Q' hq => jc_23 hN (Nat.le_trans (jl rfl) hd) (.inl rfl) (jo_b h) hq) (fun p1 hp1 h => ?_)
    exact jr_ret rfl hu rfl (hQ' _ _ (hQ (p1.1, p1.2) hp1 h))
  · have hu : ju px_m93 (0, 0) := ju_0
    try dsimp only [Nat.reduceAdd] at h
    refine jr_in (M := px_m93) (lev := 2) (L := [some (.ref 64)]) hd rfl jbd_93 (jl rfl) rfl (fun d hd Q' hQ' => ?_)
    refine jr_al_n (pc' := 1) rfl rfl rfl (jr_gr (pc' := 4) (r := 27) rfl rfl jlk_6_24 (.inl rfl) rfl hN jd_64 rfl rfl rfl (jr_al_n (pc' := 5) rfl rfl rfl (jr_gr (pc' := 8) (r := 66) rfl rfl jlk_6_17 (.inl rfl) rfl hN jd_64 rfl rfl rfl ?_)))
    refine jr_cv_i (pc' := 11) [] rfl rfl jlk_6_81 jq_23 jbd_23 (jl rfl) rfl (jl rfl) hu rfl (jk rfl hN) (jd_27.trans jo_23.symm) (fun Q' hq => jc_23 hN (Nat.le_trans (jl rfl) hd) (.inr rfl) (jo_b h) hq) (fun p1 hp1 h => ?_)
    exact jr_ret rfl hu rfl (hQ' _ _ (hQ (p1.1, p1.2) hp1 h))

set_option maxRecDepth 20000 in
set_option maxHeartbeats 1000000 in
theorem jc_95 {X : Nat × (Nat → Int32)} {N d : Nat} {q : Nat} (hN : 102 ≤ N) (hd : 2 ≤ d) (hq : q = 0 ∨ q = 17) {m : jm} {P : Int → Prop} {Q : px_Q} (h : jo (jf_95 q m) P) (hQ : ∀ p : Int, jg p → P p → Q (.inl (some (jv p))) (jmem N m)) : px_C X d 95 [.ref (47 + q)] (jmem N m) Q := by
  unfold jf_95 at h
  rcases hq with rfl | rfl
  · have hu : ju px_m95 (0, 0) := ju_0
    try dsimp only [Nat.reduceAdd] at h
    refine jr_in (M := px_m95) (lev := 1) (L := [some (.ref 47), none, none]) hd rfl jbd_95 (jl rfl) rfl (fun d hd Q' hQ' => ?_)
    refine jr_ic (pc' := 1) rfl rfl (jr_is_n (pc' := 2) (L' := [_, _, _]) rfl rfl (jl rfl) rfl rfl (jr_ic (pc' := 3) rfl rfl (jr_is_n (pc' := 4) (L' := [_, _, _]) rfl rfl (jl rfl) rfl rfl ?_)))
    refine jr_reg (fun t4 => jg t4) (fun t4 => ∀ o5, jn o5 → jp X (px_C X d) px_m95 Q' N 45 [some (.ref 47), some (jv t4), o5] [] m (0, 0)) h (fun t4 ht4 h o5 ho5 => ?_) (fun R7 k6 h => ?_)
    · refine jr_il_n (pc' := 46) rfl rfl rfl ?_
      exact jr_ret rfl hu rfl (hQ' _ _ (hQ t4 ht4 h))
    · refine jr_lp (fun s1 => jg s1.1 ∧ jg s1.2) (fun s1 => jp X (px_C X d) px_m95 Q' N 4 [some (.ref 47), some (jv s1.1), some (jv s1.2)] [] m (0, 0)) h ⟨jgc_m1, jgc_0⟩ (fun s1 hs1 R3 k2 h => ?_)
      refine jr_il_n (pc' := 5) rfl rfl rfl (jr_al_n (pc' := 6) rfl rfl rfl (jr_gr (pc' := 9) (r := 3) rfl rfl jlk_6_20 (.inl rfl) rfl hN jd_47 rfl rfl rfl (jr_gi (pc' := 12) rfl rfl jlk_6_75 (.inr rfl) rfl hN jd_3 rfl rfl ?_)))
      refine jr_cge (pa := 15) (pb := 45) rfl rfl rfl hs1.2 jg_a h (fun hc h => ?_) (fun hc h => ?_)
      · refine jr_al_n (pc' := 16) rfl rfl rfl (jr_il_n (pc' := 17) rfl rfl rfl ?_)
        refine jr_cv_p (pc' := 20) [] rfl rfl jlk_6_78 jq_66 jbd_66 (jl rfl) rfl (jl rfl) hu rfl (jk rfl hN) (jd_47.trans jo_66.symm) (fun Q' hq => jc_66 hN (Nat.le_trans (jl rfl) hd) (.inl rfl) hs1.2 (jo_b h) hq) (fun p8 hp8 h => ?_)
        refine jr_il_n (pc' := 21) rfl rfl rfl (jr_ic (pc' := 22) rfl rfl ?_)
        refine jr_reg (fun t9 => jg t9) (fun t9 => jp X (px_C X d) px_m95 Q' N 34 [some (.ref 47), some (jv s1.1), some (jv s1.2)] [(jv t9), (jv p8)] m (0, 0)) h (fun t9 ht9 h => ?_) (fun R35 k10 h => ?_)
        · refine jr_reg (fun t22 => jg t22) (fun t22 => jp X (px_C X d) px_m95 Q' N 39 [some (.ref 47), some (jv t22), some (jv s1.2)] [] m (0, 0)) h (fun t22 ht22 h => ?_) (fun R34 k23 h => ?_)
          · refine jr_inc (pc' := 42) (L' := [_, _, _]) rfl rfl rfl (jl rfl) rfl rfl (jr_goto (pc' := 4) rfl rfl ?_)
            exact k2 (t22, jw (s1.2 + 1)) ⟨ht22, jg_w⟩ h
          · refine jr_cle (pa := 37) (pb := 39) rfl rfl rfl hp8 ht9 h (fun hc h => ?_) (fun hc h => ?_)
            · refine jr_il_n (pc' := 38) rfl rfl rfl (jr_is_n (pc' := 39) (L' := [_, _, _]) rfl rfl (jl rfl) rfl rfl ?_)
              exact k23 (s1.2) hs1.2 h
            · exact k23 (s1.1) hs1.1 h
        · refine jr_cne (pa := 25) (pb := 29) rfl rfl rfl hs1.1 jgc_m1 h (fun hc h => ?_) (fun hc h => ?_)
          · refine jr_ic (pc' := 26) rfl rfl (jr_goto (pc' := 34) rfl rfl ?_)
            exact k10 ((0 : Int)) jgc_0 h
          · refine jr_al_n (pc' := 30) rfl rfl rfl (jr_il_n (pc' := 31) rfl rfl rfl ?_)
            refine jr_cv_p (pc' := 34) [_] rfl rfl jlk_6_78 jq_66 jbd_66 (jl rfl) rfl (jl rfl) hu rfl (jk rfl hN) (jd_47.trans jo_66.symm) (fun Q' hq => jc_66 hN (Nat.le_trans (jl rfl) hd) (.inl rfl) hs1.1 (jo_b h) hq) (fun p11 hp11 h => ?_)
            exact k10 (p11) hp11 h
      · exact k6 (s1.1) hs1.1 h _ jn_i
  · have hu : ju px_m95 (0, 0) := ju_0
    try dsimp only [Nat.reduceAdd] at h
    refine jr_in (M := px_m95) (lev := 1) (L := [some (.ref 64), none, none]) hd rfl jbd_95 (jl rfl) rfl (fun d hd Q' hQ' => ?_)
    refine jr_ic (pc' := 1) rfl rfl (jr_is_n (pc' := 2) (L' := [_, _, _]) rfl rfl (jl rfl) rfl rfl (jr_ic (pc' := 3) rfl rfl (jr_is_n (pc' := 4) (L' := [_, _, _]) rfl rfl (jl rfl) rfl rfl ?_)))
    refine jr_reg (fun t4 => jg t4) (fun t4 => ∀ o5, jn o5 → jp X (px_C X d) px_m95 Q' N 45 [some (.ref 64), some (jv t4), o5] [] m (0, 0)) h (fun t4 ht4 h o5 ho5 => ?_) (fun R7 k6 h => ?_)
    · refine jr_il_n (pc' := 46) rfl rfl rfl ?_
      exact jr_ret rfl hu rfl (hQ' _ _ (hQ t4 ht4 h))
    · refine jr_lp (fun s1 => jg s1.1 ∧ jg s1.2) (fun s1 => jp X (px_C X d) px_m95 Q' N 4 [some (.ref 64), some (jv s1.1), some (jv s1.2)] [] m (0, 0)) h ⟨jgc_m1, jgc_0⟩ (fun s1 hs1 R3 k2 h => ?_)
      refine jr_il_n (pc' := 5) rfl rfl rfl (jr_al_n (pc' := 6) rfl rfl rfl (jr_gr (pc' := 9) (r := 3) rfl rfl jlk_6_20 (.inl rfl) rfl hN jd_64 rfl rfl rfl (jr_gi (pc' := 12) rfl rfl jlk_6_75 (.inr rfl) rfl hN jd_3 rfl rfl ?_)))
      refine jr_cge (pa := 15) (pb := 45) rfl rfl rfl hs1.2 jg_a h (fun hc h => ?_) (fun hc h => ?_)
      · refine jr_al_n (pc' := 16) rfl rfl rfl (jr_il_n (pc' := 17) rfl rfl rfl ?_)
        refine jr_cv_p (pc' := 20) [] rfl rfl jlk_6_78 jq_66 jbd_66 (jl rfl) rfl (jl rfl) hu rfl (jk rfl hN) (jd_64.trans jo_66.symm) (fun Q' hq => jc_66 hN (Nat.le_trans (jl rfl) hd) (.inr rfl) hs1.2 (jo_b h) hq) (fun p8 hp8 h => ?_)
        refine jr_il_n (pc' := 21) rfl rfl rfl (jr_ic (pc' := 22) rfl rfl ?_)
        refine jr_reg (fun t9 => jg t9) (fun t9 => jp X (px_C X d) px_m95 Q' N 34 [some (.ref 64), some (jv s1.1), some (jv s1.2)] [(jv t9), (jv p8)] m (0, 0)) h (fun t9 ht9 h => ?_) (fun R35 k10 h => ?_)
        · refine jr_reg (fun t22 => jg t22) (fun t22 => jp X (px_C X d) px_m95 Q' N 39 [some (.ref 64), some (jv t22), some (jv s1.2)] [] m (0, 0)) h (fun t22 ht22 h => ?_) (fun R34 k23 h => ?_)
          · refine jr_inc (pc' := 42) (L' := [_, _, _]) rfl rfl rfl (jl rfl) rfl rfl (jr_goto (pc' := 4) rfl rfl ?_)
            exact k2 (t22, jw (s1.2 + 1)) ⟨ht22, jg_w⟩ h
          · refine jr_cle (pa := 37) (pb := 39) rfl rfl rfl hp8 ht9 h (fun hc h => ?_) (fun hc h => ?_)
            · refine jr_il_n (pc' := 38) rfl rfl rfl (jr_is_n (pc' := 39) (L' := [_, _, _]) rfl rfl (jl rfl) rfl rfl ?_)
              exact k23 (s1.2) hs1.2 h
            · exact k23 (s1.1) hs1.1 h
        · refine jr_cne (pa := 25) (pb := 29) rfl rfl rfl hs1.1 jgc_m1 h (fun hc h => ?_) (fun hc h => ?_)
          · refine jr_ic (pc' := 26) rfl rfl (jr_goto (pc' := 34) rfl rfl ?_)
            exact k10 ((0 : Int)) jgc_0 h
          · refine jr_al_n (pc' := 30) rfl rfl rfl (jr_il_n (pc' := 31) rfl rfl rfl ?_)
            refine jr_cv_p (pc' := 34) [_] rfl rfl jlk_6_78 jq_66 jbd_66 (jl rfl) rfl (jl rfl) hu rfl (jk rfl hN) (jd_64.trans jo_66.symm) (fun Q' hq => jc_66 hN (Nat.le_trans (jl rfl) hd) (.inr rfl) hs1.1 (jo_b h) hq) (fun p11 hp11 h => ?_)
            exact k10 (p11) hp11 h
      · exact k6 (s1.1) hs1.1 h _ jn_i

set_option maxRecDepth 20000 in
set_option maxHeartbeats 1000000 in
theorem jc_96 {X : Nat × (Nat → Int32)} {N d : Nat} {q : Nat} (hN : 102 ≤ N) (hd : 1 ≤ d) (hq : q = 0 ∨ q = 17) {m : jm} {P : jm → Prop} {Q : px_Q} (h : jo (jf_96 q m) P) (hQ : ∀ p : jm, True → P p → Q (.inl (none)) (jmem N p)) : px_C X d 96 [.ref (47 + q), .ref 47] (jmem N m) Q := by
  unfold jf_96 at h
  rcases hq with rfl | rfl
  · have hu : ju px_m96 (0, 0) := ju_0
    try dsimp only [Nat.reduceAdd] at h
    refine jr_in (M := px_m96) (lev := 0) (L := [some (.ref 47), some (.ref 47)]) hd rfl jbd_96 (jl rfl) rfl (fun d hd Q' hQ' => ?_)
    refine jr_al_n (pc' := 1) rfl rfl rfl (jr_gr (pc' := 4) (r := 48) rfl rfl jlk_6_11 (.inl rfl) rfl hN jd_47 rfl rfl rfl (jr_ic (pc' := 5) rfl rfl (jr_al_n (pc' := 6) rfl rfl rfl (jr_gr (pc' := 9) (r := 48) rfl rfl jlk_6_11 (.inl rfl) rfl hN jd_47 rfl rfl rfl (jr_ic (pc' := 10) rfl rfl ?_)))))
    refine jr_bi (pc' := 12) rfl rfl rfl ?_
    refine jr_cp (pc' := 15) rfl rfl jlk_6_39 (jl rfl) (jl rfl) hN jd_48 jd_48 jn_48 jn_48 (jl rfl) jgc_0 jgc_0 jgc_52 h (fun h => ?_)
    refine jr_le h (fun m1 h => ?_)
    exact jr_rv rfl hu rfl (hQ' _ _ (hQ m1 trivial h))
  · have hu : ju px_m96 (0, 0) := ju_0
    try dsimp only [Nat.reduceAdd] at h
    refine jr_in (M := px_m96) (lev := 0) (L := [some (.ref 64), some (.ref 47)]) hd rfl jbd_96 (jl rfl) rfl (fun d hd Q' hQ' => ?_)
    refine jr_al_n (pc' := 1) rfl rfl rfl (jr_gr (pc' := 4) (r := 48) rfl rfl jlk_6_11 (.inl rfl) rfl hN jd_47 rfl rfl rfl (jr_ic (pc' := 5) rfl rfl (jr_al_n (pc' := 6) rfl rfl rfl (jr_gr (pc' := 9) (r := 65) rfl rfl jlk_6_11 (.inl rfl) rfl hN jd_64 rfl rfl rfl (jr_ic (pc' := 10) rfl rfl ?_)))))
    refine jr_bi (pc' := 12) rfl rfl rfl ?_
    refine jr_cp (pc' := 15) rfl rfl jlk_6_39 (jl rfl) (jl rfl) hN jd_48 jd_65 jn_48 jn_65 (jl rfl) jgc_0 jgc_0 jgc_52 h (fun h => ?_)
    refine jr_le h (fun m1 h => ?_)
    exact jr_rv rfl hu rfl (hQ' _ _ (hQ m1 trivial h))

set_option maxRecDepth 20000 in
set_option maxHeartbeats 1000000 in
theorem jc_97 {X : Nat × (Nat → Int32)} {N d : Nat} {q : Nat} {x0 : Int} (hN : 102 ≤ N) (hd : 4 ≤ d) (hq : q = 0 ∨ q = 17) (hx0 : jg x0) {m : jm} {P : jm → Prop} {Q : px_Q} (h : jo (jf_97 q x0 m) P) (hQ : ∀ p : jm, True → P p → Q (.inl (none)) (jmem N p)) : px_C X d 97 [.ref (47 + q), jv x0] (jmem N m) Q := by
  unfold jf_97 at h
  rcases hq with rfl | rfl
  · have hu : ju px_m97 (0, 0) := ju_0
    try dsimp only [Nat.reduceAdd] at h
    refine jr_in (M := px_m97) (lev := 3) (L := [some (.ref 47), some (jv x0), none]) hd rfl jbd_97 (jl rfl) rfl (fun d hd Q' hQ' => ?_)
    refine jr_ic (pc' := 1) rfl rfl (jr_is_n (pc' := 2) (L' := [_, _, _]) rfl rfl (jl rfl) rfl rfl ?_)
    refine jr_reg (fun t4 => True) (fun t4 => ∀ o5, jn o5 → jp X (px_C X d) px_m97 Q' N 26 [some (.ref 47), some (jv x0), o5] [] t4 (0, 0)) h (fun t4 ht4 h o5 ho5 => ?_) (fun R7 k6 h => ?_)
    · exact jr_rv rfl hu rfl (hQ' _ _ (hQ t4 trivial h))
    · refine jr_lp (fun s1 => jg s1.1) (fun s1 => jp X (px_C X d) px_m97 Q' N 2 [some (.ref 47), some (jv x0), some (jv s1.1)] [] s1.2 (0, 0)) h jgc_0 (fun s1 hs1 R3 k2 h => ?_)
      refine jr_il_n (pc' := 3) rfl rfl rfl (jr_al_n (pc' := 4) rfl rfl rfl (jr_gr (pc' := 7) (r := 3) rfl rfl jlk_6_20 (.inl rfl) rfl hN jd_47 rfl rfl rfl (jr_gi (pc' := 10) rfl rfl jlk_6_55 (.inr rfl) rfl hN jd_3 rfl rfl ?_)))
      refine jr_cge (pa := 13) (pb := 26) rfl rfl rfl hs1 jg_a h (fun hc h => ?_) (fun hc h => ?_)
      · refine jr_al_n (pc' := 14) rfl rfl rfl (jr_il_n (pc' := 15) rfl rfl rfl (jr_il_n (pc' := 16) rfl rfl rfl ?_))
        refine jr_cv_i (pc' := 19) [] rfl rfl jlk_6_177 jq_75 jbd_75 (jl rfl) rfl (jl rfl) hu rfl (jk rfl hN) (jd_47.trans jo_75.symm) (fun Q' hq => jc_75 hN (Nat.le_trans (jl rfl) hd) (.inl rfl) hx0 hs1 (jo_b h) hq) (fun p8 hp8 h => ?_)
        refine jr_pop (pc' := 20) rfl rfl rfl (jr_inc (pc' := 23) (L' := [_, _, _]) rfl rfl rfl (jl rfl) rfl rfl (jr_goto (pc' := 2) rfl rfl ?_))
        exact k2 (jw (s1.1 + 1), p8.2) jg_w h
      · exact k6 (s1.2) trivial h _ jn_i
  · have hu : ju px_m97 (0, 0) := ju_0
    try dsimp only [Nat.reduceAdd] at h
    refine jr_in (M := px_m97) (lev := 3) (L := [some (.ref 64), some (jv x0), none]) hd rfl jbd_97 (jl rfl) rfl (fun d hd Q' hQ' => ?_)
    refine jr_ic (pc' := 1) rfl rfl (jr_is_n (pc' := 2) (L' := [_, _, _]) rfl rfl (jl rfl) rfl rfl ?_)
    refine jr_reg (fun t4 => True) (fun t4 => ∀ o5, jn o5 → jp X (px_C X d) px_m97 Q' N 26 [some (.ref 64), some (jv x0), o5] [] t4 (0, 0)) h (fun t4 ht4 h o5 ho5 => ?_) (fun R7 k6 h => ?_)
    · exact jr_rv rfl hu rfl (hQ' _ _ (hQ t4 trivial h))
    · refine jr_lp (fun s1 => jg s1.1) (fun s1 => jp X (px_C X d) px_m97 Q' N 2 [some (.ref 64), some (jv x0), some (jv s1.1)] [] s1.2 (0, 0)) h jgc_0 (fun s1 hs1 R3 k2 h => ?_)
      refine jr_il_n (pc' := 3) rfl rfl rfl (jr_al_n (pc' := 4) rfl rfl rfl (jr_gr (pc' := 7) (r := 3) rfl rfl jlk_6_20 (.inl rfl) rfl hN jd_64 rfl rfl rfl (jr_gi (pc' := 10) rfl rfl jlk_6_55 (.inr rfl) rfl hN jd_3 rfl rfl ?_)))
      refine jr_cge (pa := 13) (pb := 26) rfl rfl rfl hs1 jg_a h (fun hc h => ?_) (fun hc h => ?_)
      · refine jr_al_n (pc' := 14) rfl rfl rfl (jr_il_n (pc' := 15) rfl rfl rfl (jr_il_n (pc' := 16) rfl rfl rfl ?_))
        refine jr_cv_i (pc' := 19) [] rfl rfl jlk_6_177 jq_75 jbd_75 (jl rfl) rfl (jl rfl) hu rfl (jk rfl hN) (jd_64.trans jo_75.symm) (fun Q' hq => jc_75 hN (Nat.le_trans (jl rfl) hd) (.inr rfl) hx0 hs1 (jo_b h) hq) (fun p8 hp8 h => ?_)
        refine jr_pop (pc' := 20) rfl rfl rfl (jr_inc (pc' := 23) (L' := [_, _, _]) rfl rfl rfl (jl rfl) rfl rfl (jr_goto (pc' := 2) rfl rfl ?_))
        exact k2 (jw (s1.1 + 1), p8.2) jg_w h
      · exact k6 (s1.2) trivial h _ jn_i

set_option maxRecDepth 20000 in
set_option maxHeartbeats 1000000 in
theorem jc_101 {X : Nat × (Nat → Int32)} {N d : Nat} {x0 : Int} {x1 : Int} {x2 : Int} (hN : 102 ≤ N) (hd : 1 ≤ d) (hx0 : jg x0) (hx1 : jg x1) (hx2 : jg x2) {m : jm} {P : Int × jm → Prop} {Q : px_Q} (h : jo (jf_101 x0 x1 x2 m) P) (hQ : ∀ p : Int × jm, jb p.1 → P p → Q (.inl (some (jv p.1))) (jmem N p.2)) : px_C X d 101 [.ref 41, jv x0, jv x1, jv x2] (jmem N m) Q := by
  unfold jf_101 at h
  have hu : ju px_m101 (0, 0) := ju_0
  refine jr_in (M := px_m101) (lev := 0) (L := [some (.ref 41), some (jv x0), some (jv x1), some (jv x2)]) hd rfl jbd_101 (jl rfl) rfl (fun d hd Q' hQ' => ?_)
  refine jr_il_n (pc' := 1) rfl rfl rfl (jr_ic (pc' := 2) rfl rfl ?_)
  refine jr_ceq (pa := 22) (pb := 5) rfl rfl rfl hx1 jgc_m1 h (fun hc h => ?_) (fun hc h => ?_)
  · refine jr_ic (pc' := 23) rfl rfl ?_
    exact jr_retb rfl hu rfl jb_0 (hQ' _ _ (hQ ((0 : Int), m) jb_0 h))
  · refine jr_il_n (pc' := 6) rfl rfl rfl (jr_ic (pc' := 7) rfl rfl ?_)
    refine jr_ceq (pa := 22) (pb := 10) rfl rfl rfl hx2 jgc_m1 h (fun hc h => ?_) (fun hc h => ?_)
    · refine jr_ic (pc' := 23) rfl rfl ?_
      exact jr_retb rfl hu rfl jb_0 (hQ' _ _ (hQ ((0 : Int), m) jb_0 h))
    · refine jr_al_n (pc' := 11) rfl rfl rfl (jr_gi (pc' := 14) rfl rfl jlk_7_27 (.inl rfl) rfl hN jd_41 rfl rfl (jr_al_n (pc' := 15) rfl rfl rfl (jr_gr (pc' := 18) (r := 42) rfl rfl jlk_7_9 (.inl rfl) rfl hN jd_41 rfl rfl rfl (jr_len (pc' := 19) (b := 150) rfl rfl (jl rfl) hN jd_42 jn_42 ?_))))
      refine jr_clt (pa := 24) (pb := 22) rfl rfl rfl jg_a jgc_150 h (fun hc h => ?_) (fun hc h => ?_)
      · refine jr_al_n (pc' := 25) rfl rfl rfl (jr_gr (pc' := 28) (r := 42) rfl rfl jlk_7_9 (.inl rfl) rfl hN jd_41 rfl rfl rfl (jr_al_n (pc' := 29) rfl rfl rfl (jr_gi (pc' := 32) rfl rfl jlk_7_27 (.inl rfl) rfl hN jd_41 rfl rfl (jr_il_n (pc' := 33) rfl rfl rfl ?_))))
        refine jr_ist (pc' := 34) rfl rfl (jl rfl) hN jd_42 jn_42 jg_a h (fun hc h => ?_)
        refine jr_le h (fun m1 h => ?_)
        refine jr_al_n (pc' := 35) rfl rfl rfl (jr_gr (pc' := 38) (r := 43) rfl rfl jlk_7_15 (.inl rfl) rfl hN jd_41 rfl rfl rfl (jr_al_n (pc' := 39) rfl rfl rfl (jr_gi (pc' := 42) rfl rfl jlk_7_27 (.inl rfl) rfl hN jd_41 rfl rfl (jr_il_n (pc' := 43) rfl rfl rfl ?_))))
        refine jr_ist (pc' := 44) rfl rfl (jl rfl) hN jd_43 jn_43 jg_a h (fun hc h => ?_)
        refine jr_le h (fun m2 h => ?_)
        refine jr_al_n (pc' := 45) rfl rfl rfl (jr_gr (pc' := 48) (r := 44) rfl rfl jlk_7_18 (.inl rfl) rfl hN jd_41 rfl rfl rfl (jr_al_n (pc' := 49) rfl rfl rfl (jr_gi (pc' := 52) rfl rfl jlk_7_27 (.inl rfl) rfl hN jd_41 rfl rfl (jr_il_n (pc' := 53) rfl rfl rfl ?_))))
        refine jr_ist (pc' := 54) rfl rfl (jl rfl) hN jd_44 jn_44 jg_a h (fun hc h => ?_)
        refine jr_le h (fun m3 h => ?_)
        refine jr_al_n (pc' := 55) rfl rfl rfl (jr_dup (pc' := 56) rfl rfl rfl (jr_gi (pc' := 59) rfl rfl jlk_7_27 (.inl rfl) rfl hN jd_41 rfl rfl (jr_ic (pc' := 60) rfl rfl (jr_add (pc' := 61) rfl rfl (jr_pi (pc' := 64) rfl rfl jlk_7_27 (.inl rfl) rfl hN jd_41 rfl rfl ?_)))))
        refine jr_le h (fun m4 h => ?_)
        refine jr_ic (pc' := 65) rfl rfl ?_
        exact jr_retb rfl hu rfl jb_1 (hQ' _ _ (hQ ((1 : Int), m4) jb_1 h))
      · refine jr_ic (pc' := 23) rfl rfl ?_
        exact jr_retb rfl hu rfl jb_0 (hQ' _ _ (hQ ((0 : Int), m) jb_0 h))

set_option maxRecDepth 20000 in
set_option maxHeartbeats 1000000 in
theorem jc_100 {X : Nat × (Nat → Int32)} {N d : Nat}  (hN : 102 ≤ N) (hd : 3 ≤ d)  {m : jm} {P : Int × jm → Prop} {Q : px_Q} (h : jo (jf_100 m) P) (hQ : ∀ p : Int × jm, jb p.1 → P p → Q (.inl (some (jv p.1))) (jmem N p.2)) : px_C X d 100 [.ref 41, .ref 1] (jmem N m) Q := by
  unfold jf_100 at h
  have hu : ju px_m100 (0, 0) := ju_0
  refine jr_in (M := px_m100) (lev := 2) (L := [some (.ref 41), some (.ref 1), none]) hd rfl jbd_100 (jl rfl) rfl (fun d hd Q' hQ' => ?_)
  refine jr_al_n (pc' := 1) rfl rfl rfl ?_
  refine jr_cv_v (pc' := 4) [] rfl rfl jlk_7_48 jq_124 jbd_124 (jl rfl) rfl (jl rfl) hu rfl (jk rfl hN) (jd_1.trans jo_124.symm) (fun Q' hq => jc_124 hN (Nat.le_trans (jl rfl) hd)  (jo_b h) hq) (fun p1 hp1 h => ?_)
  refine jr_al_n (pc' := 5) rfl rfl rfl (jr_dup (pc' := 6) rfl rfl rfl (jr_gi (pc' := 9) rfl rfl jlk_7_31 (.inl rfl) rfl hN jd_41 rfl rfl (jr_ic (pc' := 10) rfl rfl (jr_sub (pc' := 11) rfl rfl (jr_pi (pc' := 14) rfl rfl jlk_7_31 (.inl rfl) rfl hN jd_41 rfl rfl ?_)))))
  refine jr_le h (fun m2 h => ?_)
  refine jr_al_n (pc' := 15) rfl rfl rfl (jr_gr (pc' := 18) (r := 46) rfl rfl jlk_7_24 (.inl rfl) rfl hN jd_41 rfl rfl rfl (jr_al_n (pc' := 19) rfl rfl rfl (jr_gi (pc' := 22) rfl rfl jlk_7_31 (.inl rfl) rfl hN jd_41 rfl rfl ?_)))
  refine jr_ia (pc' := 23) rfl rfl (jl rfl) hN jd_46 jn_46 jg_a h (fun hc h => ?_)
  refine jr_is_n (pc' := 24) (L' := [_, _, _]) rfl rfl (jl rfl) rfl rfl (jr_al_n (pc' := 25) rfl rfl rfl (jr_gr (pc' := 28) (r := 44) rfl rfl jlk_7_18 (.inl rfl) rfl hN jd_41 rfl rfl rfl (jr_il_n (pc' := 29) rfl rfl rfl (jr_al_n (pc' := 30) rfl rfl rfl (jr_gi (pc' := 33) rfl rfl jlk_7_27 (.inl rfl) rfl hN jd_41 rfl rfl ?_)))))
  refine jr_ist (pc' := 34) rfl rfl (jl rfl) hN jd_44 jn_44 jg_a h (fun hc h => ?_)
  refine jr_le h (fun m3 h => ?_)
  refine jr_al_n (pc' := 35) rfl rfl rfl (jr_bi (pc' := 37) rfl rfl rfl (jr_il_n (pc' := 38) rfl rfl rfl (jr_ic (pc' := 39) rfl rfl ?_)))
  refine jr_cv_i (pc' := 42) [] rfl rfl jlk_7_51 jq_101 jbd_101 (jl rfl) rfl (jl rfl) hu rfl (jk rfl hN) (jd_41.trans jo_101.symm) (fun Q' hq => jc_101 hN (Nat.le_trans (jl rfl) hd) jgc_8 jg_a jgc_0 (jo_b h) hq) (fun p4 hp4 h => ?_)
  refine jr_reg (fun t5 => jb t5.1) (fun t5 => jp X (px_C X d) px_m100 Q' N 59 [some (.ref 41), some (.ref 1), some (jv (ja m2 46 (ja m2 41 6).toNat))] [(jv t5.1)] t5.2 (0, 0)) h (fun t5 ht5 h => ?_) (fun R18 k6 h => ?_)
  · exact jr_retb rfl hu rfl ht5 (hQ' _ _ (hQ (t5.1, t5.2) ht5 h))
  · refine jr_zeq (pa := 58) (pb := 45) rfl rfl rfl (jg_b hp4) h (fun hc h => ?_) (fun hc h => ?_)
    · refine jr_ic (pc' := 59) rfl rfl ?_
      exact k6 ((0 : Int), p4.2) jb_0 h
    · refine jr_al_n (pc' := 46) rfl rfl rfl (jr_bi (pc' := 48) rfl rfl rfl ?_)
      refine jr_cv_i (pc' := 51) [] rfl rfl jlk_7_55 jq_123 jbd_123 (jl rfl) rfl (jl rfl) hu rfl (jk rfl hN) (jd_1.trans jo_123.symm) (fun Q' hq => jc_123 hN (Nat.le_trans (jl rfl) hd) jgc_59 (jo_b h) hq) (fun p7 hp7 h => ?_)
      refine jr_zeq (pa := 58) (pb := 54) rfl rfl rfl (jg_b hp7) h (fun hc h => ?_) (fun hc h => ?_)
      · refine jr_ic (pc' := 59) rfl rfl ?_
        exact k6 ((0 : Int), p7.2) jb_0 h
      · refine jr_ic (pc' := 55) rfl rfl (jr_goto (pc' := 59) rfl rfl ?_)
        exact k6 ((1 : Int), p7.2) jb_1 h

set_option maxRecDepth 20000 in
set_option maxHeartbeats 1000000 in
theorem jc_103 {X : Nat × (Nat → Int32)} {N d : Nat}  (hN : 102 ≤ N) (hd : 4 ≤ d)  {m : jm} {P : Int × jm → Prop} {Q : px_Q} (h : jo (jf_103 m) P) (hQ : ∀ p : Int × jm, jb p.1 → P p → Q (.inl (some (jv p.1))) (jmem N p.2)) : px_C X d 103 [.ref 41, .ref 1] (jmem N m) Q := by
  unfold jf_103 at h
  have hu : ju px_m103 (0, 0) := ju_0
  refine jr_in (M := px_m103) (lev := 3) (L := [some (.ref 41), some (.ref 1), none]) hd rfl jbd_103 (jl rfl) rfl (fun d hd Q' hQ' => ?_)
  refine jr_al_n (pc' := 1) rfl rfl rfl (jr_gi (pc' := 4) rfl rfl jlk_7_31 (.inl rfl) rfl hN jd_41 rfl rfl (jr_bi (pc' := 6) rfl rfl rfl ?_))
  refine jr_clt (pa := 19) (pb := 9) rfl rfl rfl jg_a jgc_6 h (fun hc h => ?_) (fun hc h => ?_)
  · refine jr_al_n (pc' := 20) rfl rfl rfl (jr_ic (pc' := 21) rfl rfl (jr_bi (pc' := 23) rfl rfl rfl ?_))
    refine jr_cv_i (pc' := 26) [] rfl rfl jlk_7_80 jq_121 jbd_121 (jl rfl) rfl (jl rfl) hu rfl (jk rfl hN) (jd_1.trans jo_121.symm) (fun Q' hq => jc_121 hN (Nat.le_trans (jl rfl) hd) jgc_0 jgc_30 (jo_b h) hq) (fun p1 hp1 h => ?_)
    refine jr_is_n (pc' := 27) (L' := [_, _, _]) rfl rfl (jl rfl) rfl rfl (jr_il_n (pc' := 28) rfl rfl rfl (jr_ic (pc' := 29) rfl rfl ?_))
    refine jr_ceq (pa := 41) (pb := 32) rfl rfl rfl hp1 jgc_m1 h (fun hc h => ?_) (fun hc h => ?_)
    · refine jr_ic (pc' := 42) rfl rfl ?_
      exact jr_retb rfl hu rfl jb_0 (hQ' _ _ (hQ ((0 : Int), p1.2) jb_0 h))
    · refine jr_al_n (pc' := 33) rfl rfl rfl (jr_bi (pc' := 35) rfl rfl rfl ?_)
      refine jr_cv_i (pc' := 38) [] rfl rfl jlk_7_55 jq_123 jbd_123 (jl rfl) rfl (jl rfl) hu rfl (jk rfl hN) (jd_1.trans jo_123.symm) (fun Q' hq => jc_123 hN (Nat.le_trans (jl rfl) hd) jgc_91 (jo_b h) hq) (fun p2 hp2 h => ?_)
      refine jr_zne (pa := 41) (pb := 43) rfl rfl rfl (jg_b hp2) h (fun hc h => ?_) (fun hc h => ?_)
      · refine jr_ic (pc' := 42) rfl rfl ?_
        exact jr_retb rfl hu rfl jb_0 (hQ' _ _ (hQ ((0 : Int), p2.2) jb_0 h))
      · refine jr_al_n (pc' := 44) rfl rfl rfl (jr_gr (pc' := 47) (r := 46) rfl rfl jlk_7_24 (.inl rfl) rfl hN jd_41 rfl rfl rfl (jr_al_n (pc' := 48) rfl rfl rfl (jr_gi (pc' := 51) rfl rfl jlk_7_31 (.inl rfl) rfl hN jd_41 rfl rfl (jr_al_n (pc' := 52) rfl rfl rfl (jr_gi (pc' := 55) rfl rfl jlk_7_27 (.inl rfl) rfl hN jd_41 rfl rfl ?_)))))
        refine jr_ist (pc' := 56) rfl rfl (jl rfl) hN jd_46 jn_46 jg_a h (fun hc h => ?_)
        refine jr_le h (fun m3 h => ?_)
        refine jr_al_n (pc' := 57) rfl rfl rfl (jr_dup (pc' := 58) rfl rfl rfl (jr_gi (pc' := 61) rfl rfl jlk_7_31 (.inl rfl) rfl hN jd_41 rfl rfl (jr_ic (pc' := 62) rfl rfl (jr_add (pc' := 63) rfl rfl (jr_pi (pc' := 66) rfl rfl jlk_7_31 (.inl rfl) rfl hN jd_41 rfl rfl ?_)))))
        refine jr_le h (fun m4 h => ?_)
        refine jr_al_n (pc' := 67) rfl rfl rfl (jr_bi (pc' := 69) rfl rfl rfl (jr_il_n (pc' := 70) rfl rfl rfl (jr_ic (pc' := 71) rfl rfl ?_)))
        refine jr_cv_i (pc' := 74) [] rfl rfl jlk_7_51 jq_101 jbd_101 (jl rfl) rfl (jl rfl) hu rfl (jk rfl hN) (jd_41.trans jo_101.symm) (fun Q' hq => jc_101 hN (Nat.le_trans (jl rfl) hd) jgc_7 hp1 jgc_0 (jo_b h) hq) (fun p5 hp5 h => ?_)
        exact jr_retb rfl hu rfl hp5 (hQ' _ _ (hQ (p5.1, p5.2) hp5 h))
  · refine jr_al_n (pc' := 10) rfl rfl rfl (jr_ic (pc' := 11) rfl rfl (jr_al_n (pc' := 12) rfl rfl rfl (jr_gi (pc' := 15) rfl rfl jlk_7_90 (.inr rfl) rfl hN jd_1 rfl rfl ?_)))
    refine jr_cv_i (pc' := 18) [] rfl rfl jlk_7_93 jq_120 jbd_120 (jl rfl) rfl (jl rfl) hu rfl (jk rfl hN) (jd_1.trans jo_120.symm) (fun Q' hq => jc_120 hN (Nat.le_trans (jl rfl) hd) jgc_3 jg_a (jo_b h) hq) (fun p6 hp6 h => ?_)
    exact jr_retb rfl hu rfl hp6 (hQ' _ _ (hQ (p6.1, p6.2) hp6 h))

set_option maxRecDepth 20000 in
set_option maxHeartbeats 1000000 in
theorem jc_104 {X : Nat × (Nat → Int32)} {N d : Nat} {x2 : Int} (hN : 102 ≤ N) (hd : 4 ≤ d) (hx2 : jg x2) {m : jm} {P : Int × jm → Prop} {Q : px_Q} (h : jo (jf_104 x2 m) P) (hQ : ∀ p : Int × jm, jb p.1 → P p → Q (.inl (some (jv p.1))) (jmem N p.2)) : px_C X d 104 [.ref 41, .ref 1, .ref 3, jv x2] (jmem N m) Q := by
  unfold jf_104 at h
  have hu : ju px_m104 (0, 0) := ju_0
  refine jr_in (M := px_m104) (lev := 3) (L := [some (.ref 41), some (.ref 1), some (.ref 3), some (jv x2), none]) hd rfl jbd_104 (jl rfl) rfl (fun d hd Q' hQ' => ?_)
  refine jr_al_n (pc' := 1) rfl rfl rfl (jr_ic (pc' := 2) rfl rfl (jr_il_n (pc' := 3) rfl rfl rfl (jr_ic (pc' := 4) rfl rfl ?_)))
  refine jr_reg (fun t1 => jg t1) (fun t1 => jp X (px_C X d) px_m104 Q' N 18 [some (.ref 41), some (.ref 1), some (.ref 3), some (jv x2), none] [(jv t1), (jv (0 : Int)), (.ref 1)] m (0, 0)) h (fun t1 ht1 h => ?_) (fun R22 k2 h => ?_)
  · refine jr_ic (pc' := 19) rfl rfl (jr_sub (pc' := 20) rfl rfl ?_)
    refine jr_cv_i (pc' := 23) [] rfl rfl jlk_7_80 jq_121 jbd_121 (jl rfl) rfl (jl rfl) hu rfl (jk rfl hN) (jd_1.trans jo_121.symm) (fun Q' hq => jc_121 hN (Nat.le_trans (jl rfl) hd) jgc_0 jg_w (jo_b h) hq) (fun p13 hp13 h => ?_)
    refine jr_is (pc' := 25) (L' := [_, _, _, _, _]) rfl rfl (jl rfl) rfl rfl (jr_il (pc' := 27) rfl rfl rfl (jr_ic (pc' := 28) rfl rfl ?_))
    refine jr_ceq (pa := 36) (pb := 31) rfl rfl rfl hp13 jgc_m1 h (fun hc h => ?_) (fun hc h => ?_)
    · refine jr_al_n (pc' := 37) rfl rfl rfl (jr_il_n (pc' := 38) rfl rfl rfl (jr_il (pc' := 40) rfl rfl rfl (jr_ic (pc' := 41) rfl rfl ?_)))
      refine jr_cv_i (pc' := 44) [] rfl rfl jlk_7_51 jq_101 jbd_101 (jl rfl) rfl (jl rfl) hu rfl (jk rfl hN) (jd_41.trans jo_101.symm) (fun Q' hq => jc_101 hN (Nat.le_trans (jl rfl) hd) hx2 hp13 jgc_0 (jo_b h) hq) (fun p14 hp14 h => ?_)
      exact jr_retb rfl hu rfl hp14 (hQ' _ _ (hQ (p14.1, p14.2) hp14 h))
    · refine jr_il_n (pc' := 32) rfl rfl rfl (jr_ic (pc' := 33) rfl rfl ?_)
      refine jr_cne (pa := 36) (pb := 45) rfl rfl rfl hx2 jgc_4 h (fun hc h => ?_) (fun hc h => ?_)
      · refine jr_al_n (pc' := 37) rfl rfl rfl (jr_il_n (pc' := 38) rfl rfl rfl (jr_il (pc' := 40) rfl rfl rfl (jr_ic (pc' := 41) rfl rfl ?_)))
        refine jr_cv_i (pc' := 44) [] rfl rfl jlk_7_51 jq_101 jbd_101 (jl rfl) rfl (jl rfl) hu rfl (jk rfl hN) (jd_41.trans jo_101.symm) (fun Q' hq => jc_101 hN (Nat.le_trans (jl rfl) hd) hx2 hp13 jgc_0 (jo_b h) hq) (fun p15 hp15 h => ?_)
        exact jr_retb rfl hu rfl hp15 (hQ' _ _ (hQ (p15.1, p15.2) hp15 h))
      · refine jr_il_n (pc' := 46) rfl rfl rfl ?_
        refine jo_i h (fun hc h => ?_) (fun hc0 h => ?_)
        · refine jr_ls_ (pc' := 72) (o := 26) rfl hx2 (by rw [hc]; rfl) rfl (jr_al_n (pc' := 73) rfl rfl rfl (jr_il_n (pc' := 74) rfl rfl rfl (jr_il (pc' := 76) rfl rfl rfl (jr_al_n (pc' := 77) rfl rfl rfl (jr_ic (pc' := 78) rfl rfl ?_)))))
          refine jr_al_n (pc' := 79) rfl rfl rfl (jr_gi (pc' := 82) rfl rfl jlk_7_84 (.inr rfl) rfl hN jd_3 rfl rfl (jr_ic (pc' := 83) rfl rfl (jr_sub (pc' := 84) rfl rfl ?_)))
          refine jr_cv_i (pc' := 87) [_, _, _] rfl rfl jlk_7_80 jq_121 jbd_121 (jl rfl) rfl (jl rfl) hu rfl (jk rfl hN) (jd_1.trans jo_121.symm) (fun Q' hq => jc_121 hN (Nat.le_trans (jl rfl) hd) jgc_0 jg_w (jo_b h) hq) (fun p20 hp20 h => ?_)
          refine jr_cv_i (pc' := 90) [] rfl rfl jlk_7_51 jq_101 jbd_101 (jl rfl) rfl (jl rfl) hu rfl (jk rfl hN) (jd_41.trans jo_101.symm) (fun Q' hq => jc_101 hN (Nat.le_trans (jl rfl) hd) hx2 hp13 hp20 (jo_b h) hq) (fun p21 hp21 h => ?_)
          exact jr_retb rfl hu rfl hp21 (hQ' _ _ (hQ (p21.1, p21.2) hp21 h))
        · refine jo_i h (fun hc h => ?_) (fun hc1 h => ?_)
          · refine jr_ls_ (pc' := 91) (o := 45) rfl hx2 (by rw [hc]; rfl) rfl (jr_al_n (pc' := 92) rfl rfl rfl (jr_il_n (pc' := 93) rfl rfl rfl (jr_il (pc' := 95) rfl rfl rfl (jr_al_n (pc' := 96) rfl rfl rfl (jr_ic (pc' := 97) rfl rfl ?_)))))
            refine jr_bi (pc' := 99) rfl rfl rfl ?_
            refine jr_cv_i (pc' := 102) [_, _, _] rfl rfl jlk_7_80 jq_121 jbd_121 (jl rfl) rfl (jl rfl) hu rfl (jk rfl hN) (jd_1.trans jo_121.symm) (fun Q' hq => jc_121 hN (Nat.le_trans (jl rfl) hd) jgc_0 jgc_9 (jo_b h) hq) (fun p18 hp18 h => ?_)
            refine jr_cv_i (pc' := 105) [] rfl rfl jlk_7_51 jq_101 jbd_101 (jl rfl) rfl (jl rfl) hu rfl (jk rfl hN) (jd_41.trans jo_101.symm) (fun Q' hq => jc_101 hN (Nat.le_trans (jl rfl) hd) hx2 hp13 hp18 (jo_b h) hq) (fun p19 hp19 h => ?_)
            exact jr_retb rfl hu rfl hp19 (hQ' _ _ (hQ (p19.1, p19.2) hp19 h))
          · refine jr_ls_ (pc' := 106) (o := 60) rfl hx2 (by simp [px_look, *]) rfl (jr_al_n (pc' := 107) rfl rfl rfl (jr_il_n (pc' := 108) rfl rfl rfl (jr_il (pc' := 110) rfl rfl rfl (jr_al_n (pc' := 111) rfl rfl rfl (jr_ic (pc' := 112) rfl rfl ?_)))))
            refine jr_al_n (pc' := 113) rfl rfl rfl (jr_gi (pc' := 116) rfl rfl jlk_7_87 (.inr rfl) rfl hN jd_3 rfl rfl (jr_ic (pc' := 117) rfl rfl (jr_sub (pc' := 118) rfl rfl ?_)))
            refine jr_cv_i (pc' := 121) [_, _, _] rfl rfl jlk_7_80 jq_121 jbd_121 (jl rfl) rfl (jl rfl) hu rfl (jk rfl hN) (jd_1.trans jo_121.symm) (fun Q' hq => jc_121 hN (Nat.le_trans (jl rfl) hd) jgc_0 jg_w (jo_b h) hq) (fun p16 hp16 h => ?_)
            refine jr_cv_i (pc' := 124) [] rfl rfl jlk_7_51 jq_101 jbd_101 (jl rfl) rfl (jl rfl) hu rfl (jk rfl hN) (jd_41.trans jo_101.symm) (fun Q' hq => jc_101 hN (Nat.le_trans (jl rfl) hd) hx2 hp13 hp16 (jo_b h) hq) (fun p17 hp17 h => ?_)
            exact jr_retb rfl hu rfl hp17 (hQ' _ _ (hQ (p17.1, p17.2) hp17 h))
  · refine jr_cne (pa := 7) (pb := 14) rfl rfl rfl hx2 jgc_3 h (fun hc h => ?_) (fun hc h => ?_)
    · refine jr_al_n (pc' := 8) rfl rfl rfl (jr_gi (pc' := 11) rfl rfl jlk_7_72 (.inr rfl) rfl hN jd_3 rfl rfl (jr_goto (pc' := 18) rfl rfl ?_))
      exact k2 (ja m 3 1) jg_a h
    · refine jr_al_n (pc' := 15) rfl rfl rfl (jr_gi (pc' := 18) rfl rfl jlk_7_77 (.inr rfl) rfl hN jd_3 rfl rfl ?_)
      exact k2 (ja m 3 2) jg_a h

