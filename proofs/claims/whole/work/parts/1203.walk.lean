/-! the pure machine follows the functions, 4 (written by wip/whole/gen/walk.py) -/
set_option maxRecDepth 20000 in
set_option maxHeartbeats 1000000 in
theorem jc_27 {X : Nat × (Nat → Int32)} {N d n : Nat} {rec : Nat → Int → Int → jm → Option (Int × jm)} (hrec_28 : ∀ d, 3 + n ≤ d → ∀ {x1 : Int} {m : jm} {P : Int × jm → Prop} {Q : px_Q}, jg x1 → jo (rec 1 x1 0 m) P → (∀ p : Int × jm, jb p.1 → P p → Q (.inl (some (jv p.1))) (jmem N p.2)) → px_C X d 28 [.ref 30, .ref 1, jv x1] (jmem N m) Q) {x1 : Int} (hN : 102 ≤ N) (hd : 3 + n + 1 ≤ d) (hx1 : jg x1) {m : jm} {P : Int × jm → Prop} {Q : px_Q} (h : jo (jf_27 rec x1 m) P) (hQ : ∀ p : Int × jm, jb p.1 → P p → Q (.inl (some (jv p.1))) (jmem N p.2)) : px_C X d 27 [.ref 30, .ref 1, jv x1] (jmem N m) Q := by
  unfold jf_27 at h
  have hu : ju px_m27 (0, 0) := ju_0
  refine jr_in (M := px_m27) (lev := 3 + n) (L := [some (.ref 30), some (.ref 1), some (jv x1), none, none]) hd rfl jbd_27 (jl rfl) rfl (fun d hd Q' hQ' => ?_)
  refine jr_al_n (pc' := 1) rfl rfl rfl (jr_al_n (pc' := 2) rfl rfl rfl (jr_il_n (pc' := 3) rfl rfl rfl ?_))
  refine jr_cv_i (pc' := 6) [] rfl rfl jlk_2_48 jq_28 jbd_28 (jl rfl) rfl (jl rfl) hu rfl (jk rfl hN) (jd_30.trans jo_28.symm) (fun Q' hq => hrec_28 d hd hx1 (jo_b h) hq) (fun p1 hp1 h => ?_)
  refine jr_zne (pa := 9) (pb := 11) rfl rfl rfl (jg_b hp1) h (fun hc h => ?_) (fun hc h => ?_)
  · refine jr_ic (pc' := 10) rfl rfl ?_
    exact jr_retb rfl hu rfl jb_0 (hQ' _ _ (hQ ((0 : Int), p1.2) jb_0 h))
  · refine jr_ic (pc' := 12) rfl rfl (jr_is_n (pc' := 13) (L' := [_, _, _, _, _]) rfl rfl (jl rfl) rfl rfl ?_)
    refine jr_lp (fun s2 => jg s2.1) (fun s2 => ∀ o3, jn o3 → jp X (px_C X d) px_m27 Q' N 13 [some (.ref 30), some (.ref 1), some (jv x1), some (jv s2.1), o3] [] s2.2 (0, 0)) h jgc_0 (fun s2 hs2 R5 k4 h o3 ho3 => ?_) _ jn_n
    refine jr_il_n (pc' := 14) rfl rfl rfl (jr_si (pc' := 17) rfl rfl rfl ?_)
    refine jr_cge (pa := 20) (pb := 83) rfl rfl rfl hs2 jgc_150 h (fun hc h => ?_) (fun hc h => ?_)
    · refine jr_al_n (pc' := 21) rfl rfl rfl ?_
      refine jr_cv_i (pc' := 24) [] rfl rfl jlk_2_35 jq_116 jbd_116 (jl rfl) rfl (jl rfl) hu rfl (jk rfl hN) (jd_1.trans jo_116.symm) (fun Q' hq => jc_116 hN (Nat.le_trans (jl rfl) (Nat.le_trans (Nat.le_add_right 3 n) hd))  (jo_b h) hq) (fun p6 hp6 h => ?_)
      refine jr_is (pc' := 26) (L' := [_, _, _, _, _]) rfl rfl (jl rfl) rfl rfl (jr_il (pc' := 28) rfl rfl rfl (jr_bi (pc' := 30) rfl rfl rfl ?_))
      refine jr_ceq (pa := 42) (pb := 33) rfl rfl rfl hp6 jgc_43 h (fun hc h => ?_) (fun hc h => ?_)
      · refine jr_al_n (pc' := 43) rfl rfl rfl ?_
        refine jr_cv_v (pc' := 46) [] rfl rfl jlk_2_51 jq_124 jbd_124 (jl rfl) rfl (jl rfl) hu rfl (jk rfl hN) (jd_1.trans jo_124.symm) (fun Q' hq => jc_124 hN (Nat.le_trans (jl rfl) (Nat.le_trans (Nat.le_add_right 3 n) hd))  (jo_b h) hq) (fun p7 hp7 h => ?_)
        refine jr_al_n (pc' := 47) rfl rfl rfl (jr_al_n (pc' := 48) rfl rfl rfl (jr_il_n (pc' := 49) rfl rfl rfl ?_))
        refine jr_cv_i (pc' := 52) [] rfl rfl jlk_2_48 jq_28 jbd_28 (jl rfl) rfl (jl rfl) hu rfl (jk rfl hN) (jd_30.trans jo_28.symm) (fun Q' hq => hrec_28 d hd hx1 (jo_b h) hq) (fun p8 hp8 h => ?_)
        refine jr_zne (pa := 55) (pb := 57) rfl rfl rfl (jg_b hp8) h (fun hc h => ?_) (fun hc h => ?_)
        · refine jr_ic (pc' := 56) rfl rfl ?_
          exact jr_retb rfl hu rfl jb_0 (hQ' _ _ (hQ ((0 : Int), p8.2) jb_0 h))
        · refine jr_al_n (pc' := 58) rfl rfl rfl (jr_il (pc' := 60) rfl rfl rfl (jr_bi (pc' := 62) rfl rfl rfl ?_))
          refine jr_reg (fun t9 => jg t9) (fun t9 => jp X (px_C X d) px_m27 Q' N 74 [some (.ref 30), some (.ref 1), some (jv x1), some (jv s2.1), some (jv p6.1)] [(jv t9), (.ref 30)] p8.2 (0, 0)) h (fun t9 ht9 h => ?_) (fun R22 k10 h => ?_)
          · refine jr_cv_v (pc' := 77) [] rfl rfl jlk_2_54 jq_30 jbd_30 (jl rfl) rfl (jl rfl) hu rfl (jk rfl hN) (jd_30.trans jo_30.symm) (fun Q' hq => jc_30 hN (Nat.le_trans (jl rfl) (Nat.le_trans (Nat.le_add_right 3 n) hd)) ht9 (jo_b h) hq) (fun p21 hp21 h => ?_)
            refine jr_inc (pc' := 80) (L' := [_, _, _, _, _]) rfl rfl rfl (jl rfl) rfl rfl (jr_goto (pc' := 13) rfl rfl ?_)
            exact k4 (jw (s2.1 + 1), p21) jg_w h _ jn_i
          · refine jr_cne (pa := 65) (pb := 71) rfl rfl rfl hp6 jgc_43 h (fun hc h => ?_) (fun hc h => ?_)
            · refine jr_si (pc' := 68) rfl rfl rfl (jr_goto (pc' := 74) rfl rfl ?_)
              exact k10 ((2000 : Int)) jgc_2000 h
            · refine jr_si (pc' := 74) rfl rfl rfl ?_
              exact k10 ((2001 : Int)) jgc_2001 h
      · refine jr_il (pc' := 35) rfl rfl rfl (jr_bi (pc' := 37) rfl rfl rfl ?_)
        refine jr_ceq (pa := 42) (pb := 40) rfl rfl rfl hp6 jgc_45 h (fun hc h => ?_) (fun hc h => ?_)
        · refine jr_al_n (pc' := 43) rfl rfl rfl ?_
          refine jr_cv_v (pc' := 46) [] rfl rfl jlk_2_51 jq_124 jbd_124 (jl rfl) rfl (jl rfl) hu rfl (jk rfl hN) (jd_1.trans jo_124.symm) (fun Q' hq => jc_124 hN (Nat.le_trans (jl rfl) (Nat.le_trans (Nat.le_add_right 3 n) hd))  (jo_b h) hq) (fun p23 hp23 h => ?_)
          refine jr_al_n (pc' := 47) rfl rfl rfl (jr_al_n (pc' := 48) rfl rfl rfl (jr_il_n (pc' := 49) rfl rfl rfl ?_))
          refine jr_cv_i (pc' := 52) [] rfl rfl jlk_2_48 jq_28 jbd_28 (jl rfl) rfl (jl rfl) hu rfl (jk rfl hN) (jd_30.trans jo_28.symm) (fun Q' hq => hrec_28 d hd hx1 (jo_b h) hq) (fun p24 hp24 h => ?_)
          refine jr_zne (pa := 55) (pb := 57) rfl rfl rfl (jg_b hp24) h (fun hc h => ?_) (fun hc h => ?_)
          · refine jr_ic (pc' := 56) rfl rfl ?_
            exact jr_retb rfl hu rfl jb_0 (hQ' _ _ (hQ ((0 : Int), p24.2) jb_0 h))
          · refine jr_al_n (pc' := 58) rfl rfl rfl (jr_il (pc' := 60) rfl rfl rfl (jr_bi (pc' := 62) rfl rfl rfl ?_))
            refine jr_reg (fun t25 => jg t25) (fun t25 => jp X (px_C X d) px_m27 Q' N 74 [some (.ref 30), some (.ref 1), some (jv x1), some (jv s2.1), some (jv p6.1)] [(jv t25), (.ref 30)] p24.2 (0, 0)) h (fun t25 ht25 h => ?_) (fun R38 k26 h => ?_)
            · refine jr_cv_v (pc' := 77) [] rfl rfl jlk_2_54 jq_30 jbd_30 (jl rfl) rfl (jl rfl) hu rfl (jk rfl hN) (jd_30.trans jo_30.symm) (fun Q' hq => jc_30 hN (Nat.le_trans (jl rfl) (Nat.le_trans (Nat.le_add_right 3 n) hd)) ht25 (jo_b h) hq) (fun p37 hp37 h => ?_)
              refine jr_inc (pc' := 80) (L' := [_, _, _, _, _]) rfl rfl rfl (jl rfl) rfl rfl (jr_goto (pc' := 13) rfl rfl ?_)
              exact k4 (jw (s2.1 + 1), p37) jg_w h _ jn_i
            · refine jr_cne (pa := 65) (pb := 71) rfl rfl rfl hp6 jgc_43 h (fun hc h => ?_) (fun hc h => ?_)
              · refine jr_si (pc' := 68) rfl rfl rfl (jr_goto (pc' := 74) rfl rfl ?_)
                exact k26 ((2000 : Int)) jgc_2000 h
              · refine jr_si (pc' := 74) rfl rfl rfl ?_
                exact k26 ((2001 : Int)) jgc_2001 h
        · refine jr_ic (pc' := 41) rfl rfl ?_
          exact jr_retb rfl hu rfl jb_1 (hQ' _ _ (hQ ((1 : Int), p6.2) jb_1 h))
    · refine jr_ic (pc' := 84) rfl rfl ?_
      exact jr_retb rfl hu rfl jb_1 (hQ' _ _ (hQ ((1 : Int), s2.2) jb_1 h))

theorem jcG_A {X : Nat × (Nat → Int32)} {N : Nat} (hN : 102 ≤ N) : ∀ n d, 3 + n ≤ d → (∀ {x1 : Int} {m : jm} {P : Int × jm → Prop} {Q : px_Q}, jg x1 → jo (jG_A n 0 x1 0 m) P → (∀ p : Int × jm, jb p.1 → P p → Q (.inl (some (jv p.1))) (jmem N p.2)) → px_C X d 27 [.ref 30, .ref 1, jv x1] (jmem N m) Q) ∧ (∀ {x1 : Int} {m : jm} {P : Int × jm → Prop} {Q : px_Q}, jg x1 → jo (jG_A n 1 x1 0 m) P → (∀ p : Int × jm, jb p.1 → P p → Q (.inl (some (jv p.1))) (jmem N p.2)) → px_C X d 28 [.ref 30, .ref 1, jv x1] (jmem N m) Q) ∧ (∀ {x1 : Int} {m : jm} {P : Int × jm → Prop} {Q : px_Q}, jg x1 → jo (jG_A n 2 x1 0 m) P → (∀ p : Int × jm, jb p.1 → P p → Q (.inl (some (jv p.1))) (jmem N p.2)) → px_C X d 29 [.ref 30, .ref 1, jv x1] (jmem N m) Q) ∧ (∀ {x1 : Int} {m : jm} {P : Int × jm → Prop} {Q : px_Q}, jg x1 → jo (jG_A n 3 x1 0 m) P → (∀ p : Int × jm, jb p.1 → P p → Q (.inl (some (jv p.1))) (jmem N p.2)) → px_C X d 31 [.ref 30, .ref 1, jv x1] (jmem N m) Q) ∧ (∀ {x1 : Int} {x2 : Int} {m : jm} {P : Int × jm → Prop} {Q : px_Q}, jg x1 → jg x2 → jo (jG_A n 4 x1 x2 m) P → (∀ p : Int × jm, jb p.1 → P p → Q (.inl (some (jv p.1))) (jmem N p.2)) → px_C X d 32 [.ref 30, .ref 1, jv x1, jv x2] (jmem N m) Q)
  | 0, d, hd => ⟨fun _ h _ => h.elim, fun _ h _ => h.elim, fun _ h _ => h.elim, fun _ h _ => h.elim, fun _ _ h _ => h.elim⟩
  | n + 1, d, hd => by
    have ih := jcG_A (X := X) (N := N) hN n
    exact ⟨fun h0 h hQ => jc_27 (n := n) (hrec_28 := fun d hd => (ih d hd).2.1) hN hd h0 h hQ, fun h0 h hQ => jc_28 (n := n) (hrec_29 := fun d hd => (ih d hd).2.2.1) hN hd h0 h hQ, fun h0 h hQ => jc_29 (n := n) (hrec_31 := fun d hd => (ih d hd).2.2.2.1) (hrec_32 := fun d hd => (ih d hd).2.2.2.2) hN hd h0 h hQ, fun h0 h hQ => jc_31 (n := n) (hrec_27 := fun d hd => (ih d hd).1) hN hd h0 h hQ, fun h0 h1 h hQ => jc_32 (n := n) (hrec_27 := fun d hd => (ih d hd).1) hN hd h0 h1 h hQ⟩
theorem jcg_27 {X : Nat × (Nat → Int32)} {N d : Nat} {x1 : Int} (hN : 102 ≤ N) (hd : 63 ≤ d) (h0 : jg x1) {m : jm} {P : Int × jm → Prop} {Q : px_Q} (h : jo (jG_A 60 0 x1 0 m) P) (hQ : (∀ p : Int × jm, jb p.1 → P p → Q (.inl (some (jv p.1))) (jmem N p.2))) : px_C X d 27 [.ref 30, .ref 1, jv x1] (jmem N m) Q := (jcG_A hN 60 d hd).1 h0 h hQ
theorem jcg_28 {X : Nat × (Nat → Int32)} {N d : Nat} {x1 : Int} (hN : 102 ≤ N) (hd : 63 ≤ d) (h0 : jg x1) {m : jm} {P : Int × jm → Prop} {Q : px_Q} (h : jo (jG_A 60 1 x1 0 m) P) (hQ : (∀ p : Int × jm, jb p.1 → P p → Q (.inl (some (jv p.1))) (jmem N p.2))) : px_C X d 28 [.ref 30, .ref 1, jv x1] (jmem N m) Q := (jcG_A hN 60 d hd).2.1 h0 h hQ
theorem jcg_29 {X : Nat × (Nat → Int32)} {N d : Nat} {x1 : Int} (hN : 102 ≤ N) (hd : 63 ≤ d) (h0 : jg x1) {m : jm} {P : Int × jm → Prop} {Q : px_Q} (h : jo (jG_A 60 2 x1 0 m) P) (hQ : (∀ p : Int × jm, jb p.1 → P p → Q (.inl (some (jv p.1))) (jmem N p.2))) : px_C X d 29 [.ref 30, .ref 1, jv x1] (jmem N m) Q := (jcG_A hN 60 d hd).2.2.1 h0 h hQ
theorem jcg_31 {X : Nat × (Nat → Int32)} {N d : Nat} {x1 : Int} (hN : 102 ≤ N) (hd : 63 ≤ d) (h0 : jg x1) {m : jm} {P : Int × jm → Prop} {Q : px_Q} (h : jo (jG_A 60 3 x1 0 m) P) (hQ : (∀ p : Int × jm, jb p.1 → P p → Q (.inl (some (jv p.1))) (jmem N p.2))) : px_C X d 31 [.ref 30, .ref 1, jv x1] (jmem N m) Q := (jcG_A hN 60 d hd).2.2.2.1 h0 h hQ
theorem jcg_32 {X : Nat × (Nat → Int32)} {N d : Nat} {x1 : Int} {x2 : Int} (hN : 102 ≤ N) (hd : 63 ≤ d) (h0 : jg x1) (h1 : jg x2) {m : jm} {P : Int × jm → Prop} {Q : px_Q} (h : jo (jG_A 60 4 x1 x2 m) P) (hQ : (∀ p : Int × jm, jb p.1 → P p → Q (.inl (some (jv p.1))) (jmem N p.2))) : px_C X d 32 [.ref 30, .ref 1, jv x1, jv x2] (jmem N m) Q := (jcG_A hN 60 d hd).2.2.2.2 h0 h1 h hQ

set_option maxRecDepth 20000 in
set_option maxHeartbeats 1000000 in
theorem jc_26 {X : Nat × (Nat → Int32)} {N d : Nat}  (hN : 102 ≤ N) (hd : 64 ≤ d)  {m : jm} {P : Int × jm → Prop} {Q : px_Q} (h : jo (jf_26 m) P) (hQ : ∀ p : Int × jm, jb p.1 → P p → Q (.inl (some (jv p.1))) (jmem N p.2)) : px_C X d 26 [.ref 30, .ref 1] (jmem N m) Q := by
  unfold jf_26 at h
  have hu : ju px_m26 (0, 0) := ju_0
  refine jr_in (M := px_m26) (lev := 63) (L := [some (.ref 30), some (.ref 1)]) hd rfl jbd_26 (jl rfl) rfl (fun d hd Q' hQ' => ?_)
  refine jr_al_n (pc' := 1) rfl rfl rfl (jr_ic (pc' := 2) rfl rfl (jr_pi (pc' := 5) rfl rfl jlk_2_18 (.inl rfl) rfl hN jd_30 rfl rfl ?_))
  refine jr_le h (fun m1 h => ?_)
  refine jr_al_n (pc' := 6) rfl rfl rfl (jr_al_n (pc' := 7) rfl rfl rfl (jr_ic (pc' := 8) rfl rfl ?_))
  refine jr_cv_i (pc' := 11) [] rfl rfl jlk_2_31 jq_27 jbd_27 (jl rfl) rfl (jl rfl) hu rfl (jk rfl hN) (jd_30.trans jo_27.symm) (fun Q' hq => jcg_27 hN (Nat.le_trans (jl rfl) hd) jgc_0 (jo_b h) hq) (fun p2 hp2 h => ?_)
  refine jr_zne (pa := 14) (pb := 16) rfl rfl rfl (jg_b hp2) h (fun hc h => ?_) (fun hc h => ?_)
  · refine jr_ic (pc' := 15) rfl rfl ?_
    exact jr_retb rfl hu rfl jb_0 (hQ' _ _ (hQ ((0 : Int), p2.2) jb_0 h))
  · refine jr_al_n (pc' := 17) rfl rfl rfl ?_
    refine jr_cv_i (pc' := 20) [] rfl rfl jlk_2_35 jq_116 jbd_116 (jl rfl) rfl (jl rfl) hu rfl (jk rfl hN) (jd_1.trans jo_116.symm) (fun Q' hq => jc_116 hN (Nat.le_trans (jl rfl) hd)  (jo_b h) hq) (fun p3 hp3 h => ?_)
    refine jr_ic (pc' := 21) rfl rfl ?_
    refine jr_reg (fun t4 => jb t4.1) (fun t4 => jp X (px_C X d) px_m26 Q' N 41 [some (.ref 30), some (.ref 1)] [(jv t4.1)] t4.2 (0, 0)) h (fun t4 ht4 h => ?_) (fun R17 k5 h => ?_)
    · exact jr_retb rfl hu rfl ht4 (hQ' _ _ (hQ (t4.1, t4.2) ht4 h))
    · refine jr_ceq (pa := 36) (pb := 24) rfl rfl rfl hp3 jgc_m1 h (fun hc h => ?_) (fun hc h => ?_)
      · refine jr_ic (pc' := 37) rfl rfl (jr_goto (pc' := 41) rfl rfl ?_)
        exact k5 ((1 : Int), p3.2) jb_1 h
      · refine jr_al_n (pc' := 25) rfl rfl rfl (jr_ic (pc' := 26) rfl rfl (jr_al_n (pc' := 27) rfl rfl rfl (jr_gi (pc' := 30) rfl rfl jlk_2_41 (.inr rfl) rfl hN jd_1 rfl rfl ?_)))
        refine jr_cv_i (pc' := 33) [] rfl rfl jlk_2_44 jq_120 jbd_120 (jl rfl) rfl (jl rfl) hu rfl (jk rfl hN) (jd_1.trans jo_120.symm) (fun Q' hq => jc_120 hN (Nat.le_trans (jl rfl) hd) jgc_1 jg_a (jo_b h) hq) (fun p6 hp6 h => ?_)
        refine jr_zeq (pa := 40) (pb := 36) rfl rfl rfl (jg_b hp6) h (fun hc h => ?_) (fun hc h => ?_)
        · refine jr_ic (pc' := 41) rfl rfl ?_
          exact k5 ((0 : Int), p6.2) jb_0 h
        · refine jr_ic (pc' := 37) rfl rfl (jr_goto (pc' := 41) rfl rfl ?_)
          exact k5 ((1 : Int), p6.2) jb_1 h

set_option maxRecDepth 20000 in
set_option maxHeartbeats 1000000 in
theorem jc_33 {X : Nat × (Nat → Int32)} {N d : Nat}  (hN : 102 ≤ N) (hd : 1 ≤ d)  {m : jm} {P : jm → Prop} {Q : px_Q} (h : jo (jf_33 m) P) (hQ : ∀ p : jm, True → P p → Q (.inl (none)) (jmem N p)) : px_C X d 33 [.ref 27, .ref 30] (jmem N m) Q := by
  unfold jf_33 at h
  have hu : ju px_m33 (0, 0) := ju_0
  refine jr_in (M := px_m33) (lev := 0) (L := [some (.ref 27), some (.ref 30)]) hd rfl jbd_33 (jl rfl) rfl (fun d hd Q' hQ' => ?_)
  refine jr_al_n (pc' := 1) rfl rfl rfl (jr_gr (pc' := 4) (r := 31) rfl rfl jlk_2_9 (.inl rfl) rfl hN jd_30 rfl rfl rfl (jr_ic (pc' := 5) rfl rfl (jr_al_n (pc' := 6) rfl rfl rfl (jr_gr (pc' := 9) (r := 28) rfl rfl jlk_2_9 (.inl rfl) rfl hN jd_27 rfl rfl rfl (jr_ic (pc' := 10) rfl rfl ?_)))))
  refine jr_si (pc' := 13) rfl rfl rfl ?_
  refine jr_cp (pc' := 16) rfl rfl jlk_2_25 (jl rfl) (jl rfl) hN jd_31 jd_28 jn_31 jn_28 (jl rfl) jgc_0 jgc_0 jgc_150 h (fun h => ?_)
  refine jr_le h (fun m1 h => ?_)
  refine jr_al_n (pc' := 17) rfl rfl rfl (jr_al_n (pc' := 18) rfl rfl rfl (jr_gi (pc' := 21) rfl rfl jlk_2_18 (.inl rfl) rfl hN jd_30 rfl rfl (jr_pi (pc' := 24) rfl rfl jlk_2_18 (.inl rfl) rfl hN jd_27 rfl rfl ?_)))
  refine jr_le h (fun m2 h => ?_)
  exact jr_rv rfl hu rfl (hQ' _ _ (hQ m2 trivial h))

set_option maxRecDepth 20000 in
set_option maxHeartbeats 1000000 in
theorem jc_36 {X : Nat × (Nat → Int32)} {N d : Nat}  (hN : 102 ≤ N) (hd : 1 ≤ d)  {m : jm} {P : Int → Prop} {Q : px_Q} (h : jo (jf_36 m) P) (hQ : ∀ p : Int, jg p → P p → Q (.inl (some (jv p))) (jmem N m)) : px_C X d 36 [.ref 55] (jmem N m) Q := by
  unfold jf_36 at h
  have hu : ju px_m36 (0, 0) := ju_0
  refine jr_in (M := px_m36) (lev := 0) (L := [some (.ref 55)]) hd rfl jbd_36 (jl rfl) rfl (fun d hd Q' hQ' => ?_)
  refine jr_ic (pc' := 1) rfl rfl (jr_al_n (pc' := 2) rfl rfl rfl (jr_gr (pc' := 5) (r := 3) rfl rfl jlk_3_9 (.inl rfl) rfl hN jd_55 rfl rfl rfl (jr_gi (pc' := 8) rfl rfl jlk_3_19 (.inr rfl) rfl hN jd_3 rfl rfl (jr_shl (pc' := 9) rfl rfl (jr_ic (pc' := 10) rfl rfl ?_)))))
  refine jr_sub (pc' := 11) rfl rfl ?_
  exact jr_ret rfl hu rfl (hQ' _ _ (hQ (jw ((jshl (1 : Int) (ja m 3 1)) - (1 : Int))) jg_w h))

set_option maxRecDepth 20000 in
set_option maxHeartbeats 1000000 in
theorem jc_38 {X : Nat × (Nat → Int32)} {N d : Nat} {x0 : Int} {x1 : Int} (hN : 102 ≤ N) (hd : 1 ≤ d) (hx0 : jg x0) (hx1 : jg x1) {m : jm} {P : Int → Prop} {Q : px_Q} (h : jo (jf_38 x0 x1 m) P) (hQ : ∀ p : Int, jg p → P p → Q (.inl (some (jv p))) (jmem N m)) : px_C X d 38 [.ref 55, jv x0, jv x1] (jmem N m) Q := by
  unfold jf_38 at h
  have hu : ju px_m38 (0, 0) := ju_0
  refine jr_in (M := px_m38) (lev := 0) (L := [some (.ref 55), some (jv x0), some (jv x1), none, none, none, none]) hd rfl jbd_38 (jl rfl) rfl (fun d hd Q' hQ' => ?_)
  refine jr_ic (pc' := 1) rfl rfl (jr_il_n (pc' := 2) rfl rfl rfl (jr_shl (pc' := 3) rfl rfl (jr_is_n (pc' := 4) (L' := [_, _, _, _, _, _, _]) rfl rfl (jl rfl) rfl rfl (jr_ic (pc' := 5) rfl rfl (jr_is (pc' := 7) (L' := [_, _, _, _, _, _, _]) rfl rfl (jl rfl) rfl rfl ?_)))))
  refine jr_reg (fun t6 => jg t6) (fun t6 => ∀ o7, jn o7 → ∀ o8, jn o8 → ∀ o9, jn o9 → jp X (px_C X d) px_m38 Q' N 90 [some (.ref 55), some (jv x0), some (jv x1), some (jv t6), o7, o8, o9] [] m (0, 0)) h (fun t6 ht6 h o7 ho7 o8 ho8 o9 ho9 => ?_) (fun R11 k10 h => ?_)
  · refine jr_il_n (pc' := 91) rfl rfl rfl ?_
    exact jr_ret rfl hu rfl (hQ' _ _ (hQ t6 ht6 h))
  · refine jr_lp (fun s1 => jg s1.1 ∧ jg s1.2) (fun s1 => ∀ o2, jn o2 → ∀ o3, jn o3 → jp X (px_C X d) px_m38 Q' N 7 [some (.ref 55), some (jv x0), some (jv x1), some (jv s1.1), some (jv s1.2), o2, o3] [] m (0, 0)) h ⟨jg_shl, jgc_0⟩ (fun s1 hs1 R5 k4 h o2 ho2 o3 ho3 => ?_) _ jn_n _ jn_n
    refine jr_il (pc' := 9) rfl rfl rfl (jr_bi (pc' := 11) rfl rfl rfl ?_)
    refine jr_cge (pa := 14) (pb := 90) rfl rfl rfl hs1.2 jgc_8 h (fun hc h => ?_) (fun hc h => ?_)
    · refine jr_ic (pc' := 15) rfl rfl (jr_is (pc' := 17) (L' := [_, _, _, _, _, _, _]) rfl rfl (jl rfl) rfl rfl ?_)
      refine jr_reg (fun t16 => jg t16) (fun t16 => ∀ o17, jn o17 → ∀ o18, jn o18 → jp X (px_C X d) px_m38 Q' N 84 [some (.ref 55), some (jv x0), some (jv x1), some (jv t16), some (jv s1.2), o17, o18] [] m (0, 0)) h (fun t16 ht16 h o17 ho17 o18 ho18 => ?_) (fun R20 k19 h => ?_)
      · refine jr_inc (pc' := 87) (L' := [_, _, _, _, _, _, _]) rfl rfl rfl (jl rfl) rfl rfl (jr_goto (pc' := 7) rfl rfl ?_)
        exact k4 (t16, jw (s1.2 + 1)) ⟨ht16, jg_w⟩ h _ ho17 _ ho18
      · refine jr_lp (fun s12 => jg s12.1 ∧ jg s12.2) (fun s12 => ∀ o13, jn o13 → jp X (px_C X d) px_m38 Q' N 17 [some (.ref 55), some (jv x0), some (jv x1), some (jv s12.1), some (jv s1.2), some (jv s12.2), o13] [] m (0, 0)) h ⟨hs1.1, jgc_0⟩ (fun s12 hs12 R15 k14 h o13 ho13 => ?_) _ ho3
        refine jr_il (pc' := 19) rfl rfl rfl (jr_al_n (pc' := 20) rfl rfl rfl (jr_gr (pc' := 23) (r := 3) rfl rfl jlk_3_9 (.inl rfl) rfl hN jd_55 rfl rfl rfl (jr_gi (pc' := 26) rfl rfl jlk_3_19 (.inr rfl) rfl hN jd_3 rfl rfl ?_)))
        refine jr_cge (pa := 29) (pb := 84) rfl rfl rfl hs12.2 jg_a h (fun hc h => ?_) (fun hc h => ?_)
        · refine jr_ic (pc' := 30) rfl rfl (jr_al_n (pc' := 31) rfl rfl rfl (jr_gr (pc' := 34) (r := 3) rfl rfl jlk_3_9 (.inl rfl) rfl hN jd_55 rfl rfl rfl (jr_gr (pc' := 37) (r := 5) rfl rfl jlk_3_25 (.inr rfl) rfl hN jd_3 rfl rfl rfl (jr_il (pc' := 39) rfl rfl rfl ?_))))
          refine jr_ia (pc' := 40) rfl rfl (jl rfl) hN jd_5 jn_5 hs12.2 h (fun hc h => ?_)
          refine jr_shl (pc' := 41) rfl rfl (jr_ic (pc' := 42) rfl rfl (jr_al_n (pc' := 43) rfl rfl rfl (jr_gr (pc' := 46) (r := 3) rfl rfl jlk_3_9 (.inl rfl) rfl hN jd_55 rfl rfl rfl (jr_gr (pc' := 49) (r := 6) rfl rfl jlk_3_29 (.inr rfl) rfl hN jd_3 rfl rfl rfl (jr_il (pc' := 51) rfl rfl rfl ?_)))))
          refine jr_ia (pc' := 52) rfl rfl (jl rfl) hN jd_6 jn_6 hs12.2 h (fun hc h => ?_)
          refine jr_shl (pc' := 53) rfl rfl (jr_or (pc' := 54) rfl rfl (jr_is (pc' := 56) (L' := [_, _, _, _, _, _, _]) rfl rfl (jl rfl) rfl rfl (jr_il_n (pc' := 57) rfl rfl rfl (jr_il (pc' := 59) rfl rfl rfl (jr_shr (pc' := 60) rfl rfl ?_)))))
          refine jr_ic (pc' := 61) rfl rfl (jr_and (pc' := 62) rfl rfl (jr_ic (pc' := 63) rfl rfl ?_))
          refine jr_reg (fun t21 => jg t21) (fun t21 => jp X (px_C X d) px_m38 Q' N 78 [some (.ref 55), some (jv x0), some (jv x1), some (jv t21), some (jv s1.2), some (jv s12.2), some (jv (jbor (jshl (1 : Int) (ja m 5 s12.2.toNat)) (jshl (1 : Int) (ja m 6 s12.2.toNat))))] [] m (0, 0)) h (fun t21 ht21 h => ?_) (fun R33 k22 h => ?_)
          · refine jr_inc (pc' := 81) (L' := [_, _, _, _, _, _, _]) rfl rfl rfl (jl rfl) rfl rfl (jr_goto (pc' := 17) rfl rfl ?_)
            exact k14 (t21, jw (s12.2 + 1)) ⟨ht21, jg_w⟩ h _ jn_i
          · refine jr_cne (pa := 66) (pb := 78) rfl rfl rfl jg_band jgc_1 h (fun hc h => ?_) (fun hc h => ?_)
            · refine jr_il_n (pc' := 67) rfl rfl rfl (jr_il (pc' := 69) rfl rfl rfl (jr_and (pc' := 70) rfl rfl ?_))
              refine jr_zeq (pa := 78) (pb := 73) rfl rfl rfl jg_band h (fun hc h => ?_) (fun hc h => ?_)
              · exact k22 (s12.1) hs12.1 h
              · refine jr_il_n (pc' := 74) rfl rfl rfl (jr_il (pc' := 76) rfl rfl rfl (jr_or (pc' := 77) rfl rfl (jr_is_n (pc' := 78) (L' := [_, _, _, _, _, _, _]) rfl rfl (jl rfl) rfl rfl ?_)))
                exact k22 (jbor s12.1 (jbor (jshl (1 : Int) (ja m 5 s12.2.toNat)) (jshl (1 : Int) (ja m 6 s12.2.toNat)))) jg_bor h
            · exact k22 (s12.1) hs12.1 h
        · exact k19 (s12.1) hs12.1 h _ jn_i _ ho13
    · exact k10 (s1.1) hs1.1 h _ jn_i _ ho2 _ ho3

set_option maxRecDepth 20000 in
set_option maxHeartbeats 1000000 in
theorem jc_37 {X : Nat × (Nat → Int32)} {N d : Nat} {x0 : Int} (hN : 102 ≤ N) (hd : 2 ≤ d) (hx0 : jg x0) {m : jm} {P : Int → Prop} {Q : px_Q} (h : jo (jf_37 x0 m) P) (hQ : ∀ p : Int, jg p → P p → Q (.inl (some (jv p))) (jmem N m)) : px_C X d 37 [.ref 55, jv x0] (jmem N m) Q := by
  unfold jf_37 at h
  have hu : ju px_m37 (0, 0) := ju_0
  refine jr_in (M := px_m37) (lev := 1) (L := [some (.ref 55), some (jv x0), none, none, none]) hd rfl jbd_37 (jl rfl) rfl (fun d hd Q' hQ' => ?_)
  refine jr_ic (pc' := 1) rfl rfl (jr_is_n (pc' := 2) (L' := [_, _, _, _, _]) rfl rfl (jl rfl) rfl rfl (jr_ic (pc' := 3) rfl rfl (jr_is_n (pc' := 4) (L' := [_, _, _, _, _]) rfl rfl (jl rfl) rfl rfl (jr_ic (pc' := 5) rfl rfl (jr_is (pc' := 7) (L' := [_, _, _, _, _]) rfl rfl (jl rfl) rfl rfl ?_)))))
  refine jr_reg (fun t4 => jg t4) (fun t4 => ∀ o5, jn o5 → ∀ o6, jn o6 → jp X (px_C X d) px_m37 Q' N 47 [some (.ref 55), some (jv x0), some (jv t4), o5, o6] [] m (0, 0)) h (fun t4 ht4 h o5 ho5 o6 ho6 => ?_) (fun R8 k7 h => ?_)
  · refine jr_il_n (pc' := 48) rfl rfl rfl ?_
    exact jr_ret rfl hu rfl (hQ' _ _ (hQ t4 ht4 h))
  · refine jr_lp (fun s1 => jg s1.1 ∧ jg s1.2.1 ∧ jg s1.2.2) (fun s1 => jp X (px_C X d) px_m37 Q' N 7 [some (.ref 55), some (jv x0), some (jv s1.1), some (jv s1.2.1), some (jv s1.2.2)] [] m (0, 0)) h ⟨jgc_0, jgc_0, jgc_0⟩ (fun s1 hs1 R3 k2 h => ?_)
    refine jr_il (pc' := 9) rfl rfl rfl (jr_al_n (pc' := 10) rfl rfl rfl (jr_gr (pc' := 13) (r := 3) rfl rfl jlk_3_9 (.inl rfl) rfl hN jd_55 rfl rfl rfl (jr_gi (pc' := 16) rfl rfl jlk_3_32 (.inr rfl) rfl hN jd_3 rfl rfl ?_)))
    refine jr_cge (pa := 19) (pb := 47) rfl rfl rfl hs1.2.2 jg_a h (fun hc h => ?_) (fun hc h => ?_)
    · refine jr_il_n (pc' := 20) rfl rfl rfl (jr_il (pc' := 22) rfl rfl rfl (jr_shr (pc' := 23) rfl rfl (jr_ic (pc' := 24) rfl rfl (jr_and (pc' := 25) rfl rfl ?_))))
      refine jr_reg (fun t9 => jg t9.1 ∧ jg t9.2) (fun t9 => jp X (px_C X d) px_m37 Q' N 41 [some (.ref 55), some (jv x0), some (jv t9.1), some (jv t9.2), some (jv s1.2.2)] [] m (0, 0)) h (fun t9 ht9 h => ?_) (fun R22 k10 h => ?_)
      · refine jr_inc (pc' := 44) (L' := [_, _, _, _, _]) rfl rfl rfl (jl rfl) rfl rfl (jr_goto (pc' := 7) rfl rfl ?_)
        exact k2 (t9.1, t9.2, jw (s1.2.2 + 1)) ⟨ht9.1, ht9.2, jg_w⟩ h
      · refine jr_zne (pa := 28) (pb := 41) rfl rfl rfl jg_band h (fun hc h => ?_) (fun hc h => ?_)
        · refine jr_il_n (pc' := 29) rfl rfl rfl (jr_al_n (pc' := 30) rfl rfl rfl (jr_il (pc' := 32) rfl rfl rfl (jr_il_n (pc' := 33) rfl rfl rfl ?_)))
          refine jr_cv_p (pc' := 36) [_] rfl rfl jlk_3_35 jq_38 jbd_38 (jl rfl) rfl (jl rfl) hu rfl (jk rfl hN) (jd_55.trans jo_38.symm) (fun Q' hq => jc_38 hN (Nat.le_trans (jl rfl) hd) hs1.2.2 hx0 (jo_b h) hq) (fun p11 hp11 h => ?_)
          refine jr_or (pc' := 37) rfl rfl (jr_is_n (pc' := 38) (L' := [_, _, _, _, _]) rfl rfl (jl rfl) rfl rfl (jr_inc (pc' := 41) (L' := [_, _, _, _, _]) rfl rfl rfl (jl rfl) rfl rfl ?_))
          exact k10 (jw (s1.1 + 1), jbor s1.2.1 p11) ⟨jg_w, jg_bor⟩ h
        · exact k10 (s1.1, s1.2.1) ⟨hs1.1, hs1.2.1⟩ h
    · exact k7 (s1.1) hs1.1 h _ jn_i _ jn_i

set_option maxRecDepth 20000 in
set_option maxHeartbeats 1000000 in
theorem jc_35 {X : Nat × (Nat → Int32)} {N d : Nat}  (hN : 102 ≤ N) (hd : 3 ≤ d)  {m : jm} {P : Int → Prop} {Q : px_Q} (h : jo (jf_35 m) P) (hQ : ∀ p : Int, jg p → P p → Q (.inl (some (jv p))) (jmem N m)) : px_C X d 35 [.ref 55] (jmem N m) Q := by
  unfold jf_35 at h
  have hu : ju px_m35 (0, 0) := ju_0
  refine jr_in (M := px_m35) (lev := 2) (L := [some (.ref 55), none, none, none]) hd rfl jbd_35 (jl rfl) rfl (fun d hd Q' hQ' => ?_)
  refine jr_ic (pc' := 1) rfl rfl (jr_is_n (pc' := 2) (L' := [_, _, _, _]) rfl rfl (jl rfl) rfl rfl (jr_al_n (pc' := 3) rfl rfl rfl (jr_al_n (pc' := 4) rfl rfl rfl ?_)))
  refine jr_cv_p (pc' := 7) [_] rfl rfl jlk_3_39 jq_36 jbd_36 (jl rfl) rfl (jl rfl) hu rfl (jk rfl hN) (jd_55.trans jo_36.symm) (fun Q' hq => jc_36 hN (Nat.le_trans (jl rfl) hd)  (jo_b h) hq) (fun p1 hp1 h => ?_)
  refine jr_cv_p (pc' := 10) [] rfl rfl jlk_3_54 jq_37 jbd_37 (jl rfl) rfl (jl rfl) hu rfl (jk rfl hN) (jd_55.trans jo_37.symm) (fun Q' hq => jc_37 hN (Nat.le_trans (jl rfl) hd) hp1 (jo_b h) hq) (fun p2 hp2 h => ?_)
  refine jr_is_n (pc' := 11) (L' := [_, _, _, _]) rfl rfl (jl rfl) rfl rfl (jr_ic (pc' := 12) rfl rfl (jr_is_n (pc' := 13) (L' := [_, _, _, _]) rfl rfl (jl rfl) rfl rfl ?_))
  refine jr_reg (fun t6 => jg t6) (fun t6 => ∀ o7, jn o7 → jp X (px_C X d) px_m35 Q' N 54 [some (.ref 55), some (jv t6), some (jv p2), o7] [] m (0, 0)) h (fun t6 ht6 h o7 ho7 => ?_) (fun R9 k8 h => ?_)
  · refine jr_il_n (pc' := 55) rfl rfl rfl ?_
    exact jr_ret rfl hu rfl (hQ' _ _ (hQ t6 ht6 h))
  · refine jr_lp (fun s3 => jg s3.1 ∧ jg s3.2) (fun s3 => jp X (px_C X d) px_m35 Q' N 13 [some (.ref 55), some (jv s3.1), some (jv p2), some (jv s3.2)] [] m (0, 0)) h ⟨jgc_0, jgc_0⟩ (fun s3 hs3 R5 k4 h => ?_)
    refine jr_il_n (pc' := 14) rfl rfl rfl (jr_al_n (pc' := 15) rfl rfl rfl (jr_gr (pc' := 18) (r := 3) rfl rfl jlk_3_9 (.inl rfl) rfl hN jd_55 rfl rfl rfl (jr_gi (pc' := 21) rfl rfl jlk_3_19 (.inr rfl) rfl hN jd_3 rfl rfl ?_)))
    refine jr_cge (pa := 24) (pb := 54) rfl rfl rfl hs3.2 jg_a h (fun hc h => ?_) (fun hc h => ?_)
    · refine jr_al_n (pc' := 25) rfl rfl rfl (jr_al_n (pc' := 26) rfl rfl rfl ?_)
      refine jr_cv_p (pc' := 29) [_] rfl rfl jlk_3_39 jq_36 jbd_36 (jl rfl) rfl (jl rfl) hu rfl (jk rfl hN) (jd_55.trans jo_36.symm) (fun Q' hq => jc_36 hN (Nat.le_trans (jl rfl) hd)  (jo_b h) hq) (fun p10 hp10 h => ?_)
      refine jr_ic (pc' := 30) rfl rfl (jr_il_n (pc' := 31) rfl rfl rfl (jr_shl (pc' := 32) rfl rfl (jr_ic (pc' := 33) rfl rfl (jr_xor (pc' := 34) rfl rfl (jr_and (pc' := 35) rfl rfl ?_)))))
      refine jr_cv_p (pc' := 38) [] rfl rfl jlk_3_54 jq_37 jbd_37 (jl rfl) rfl (jl rfl) hu rfl (jk rfl hN) (jd_55.trans jo_37.symm) (fun Q' hq => jc_37 hN (Nat.le_trans (jl rfl) hd) jg_band (jo_b h) hq) (fun p11 hp11 h => ?_)
      refine jr_il_n (pc' := 39) rfl rfl rfl ?_
      refine jr_reg (fun t12 => jg t12) (fun t12 => jp X (px_C X d) px_m35 Q' N 48 [some (.ref 55), some (jv t12), some (jv p2), some (jv s3.2)] [] m (0, 0)) h (fun t12 ht12 h => ?_) (fun R24 k13 h => ?_)
      · refine jr_inc (pc' := 51) (L' := [_, _, _, _]) rfl rfl rfl (jl rfl) rfl rfl (jr_goto (pc' := 13) rfl rfl ?_)
        exact k4 (t12, jw (s3.2 + 1)) ⟨ht12, jg_w⟩ h
      · refine jr_cle (pa := 42) (pb := 48) rfl rfl rfl hp11 hp2 h (fun hc h => ?_) (fun hc h => ?_)
        · refine jr_il_n (pc' := 43) rfl rfl rfl (jr_ic (pc' := 44) rfl rfl (jr_il_n (pc' := 45) rfl rfl rfl (jr_shl (pc' := 46) rfl rfl (jr_or (pc' := 47) rfl rfl (jr_is_n (pc' := 48) (L' := [_, _, _, _]) rfl rfl (jl rfl) rfl rfl ?_)))))
          exact k13 (jbor s3.1 (jshl (1 : Int) s3.2)) jg_bor h
        · exact k13 (s3.1) hs3.1 h
    · exact k8 (s3.1) hs3.1 h _ jn_i

set_option maxRecDepth 20000 in
set_option maxHeartbeats 1000000 in
theorem jc_333 {X : Nat × (Nat → Int32)} {N d : Nat} {x0 : Int} (hN : 102 ≤ N) (hd : 1 ≤ d) (hx0 : jg x0) {m : jm} {P : Int → Prop} {Q : px_Q} (h : jo (jf_333 x0 m) P) (hQ : ∀ p : Int, jg p → P p → Q (.inl (some (jv p))) (jmem N m)) : px_C X d 333 [jv x0] (jmem N m) Q := by
  unfold jf_333 at h
  have hu : ju px_m333 (0, 0) := ju_0
  refine jr_in (M := px_m333) (lev := 0) (L := [some (jv x0)]) hd rfl jbd_333 (jl rfl) rfl (fun d hd Q' hQ' => ?_)
  refine jr_il_n (pc' := 1) rfl rfl rfl (jr_il_n (pc' := 2) rfl rfl rfl (jr_ic (pc' := 3) rfl rfl (jr_ushr (pc' := 4) rfl rfl (jr_ldw (pc' := 7) (x := 1431655765) rfl rfl jlk_14_265 rfl (jr_and (pc' := 8) rfl rfl ?_)))))
  refine jr_sub (pc' := 9) rfl rfl (jr_is_n (pc' := 10) (L' := [_]) rfl rfl (jl rfl) rfl rfl (jr_il_n (pc' := 11) rfl rfl rfl (jr_ldw (pc' := 14) (x := 858993459) rfl rfl jlk_14_266 rfl (jr_and (pc' := 15) rfl rfl (jr_il_n (pc' := 16) rfl rfl rfl ?_)))))
  refine jr_ic (pc' := 17) rfl rfl (jr_ushr (pc' := 18) rfl rfl (jr_ldw (pc' := 21) (x := 858993459) rfl rfl jlk_14_266 rfl (jr_and (pc' := 22) rfl rfl (jr_add (pc' := 23) rfl rfl (jr_is_n (pc' := 24) (L' := [_]) rfl rfl (jl rfl) rfl rfl ?_)))))
  refine jr_il_n (pc' := 25) rfl rfl rfl (jr_il_n (pc' := 26) rfl rfl rfl (jr_ic (pc' := 27) rfl rfl (jr_ushr (pc' := 28) rfl rfl (jr_add (pc' := 29) rfl rfl (jr_ldw (pc' := 32) (x := 252645135) rfl rfl jlk_14_267 rfl ?_)))))
  refine jr_and (pc' := 33) rfl rfl (jr_is_n (pc' := 34) (L' := [_]) rfl rfl (jl rfl) rfl rfl (jr_il_n (pc' := 35) rfl rfl rfl (jr_il_n (pc' := 36) rfl rfl rfl (jr_bi (pc' := 38) rfl rfl rfl (jr_ushr (pc' := 39) rfl rfl ?_)))))
  refine jr_add (pc' := 40) rfl rfl (jr_is_n (pc' := 41) (L' := [_]) rfl rfl (jl rfl) rfl rfl (jr_il_n (pc' := 42) rfl rfl rfl (jr_il_n (pc' := 43) rfl rfl rfl (jr_bi (pc' := 45) rfl rfl rfl (jr_ushr (pc' := 46) rfl rfl ?_)))))
  refine jr_add (pc' := 47) rfl rfl (jr_is_n (pc' := 48) (L' := [_]) rfl rfl (jl rfl) rfl rfl (jr_il_n (pc' := 49) rfl rfl rfl (jr_bi (pc' := 51) rfl rfl rfl (jr_and (pc' := 52) rfl rfl ?_))))
  exact jr_ret rfl hu rfl (hQ' _ _ (hQ (jband (jw ((jw ((jband (jw ((jw ((jband (jw (x0 - (jband (jushr x0 (1 : Int)) (1431655765 : Int)))) (858993459 : Int)) + (jband (jushr (jw (x0 - (jband (jushr x0 (1 : Int)) (1431655765 : Int)))) (2 : Int)) (858993459 : Int)))) + (jushr (jw ((jband (jw (x0 - (jband (jushr x0 (1 : Int)) (1431655765 : Int)))) (858993459 : Int)) + (jband (jushr (jw (x0 - (jband (jushr x0 (1 : Int)) (1431655765 : Int)))) (2 : Int)) (858993459 : Int)))) (4 : Int)))) (252645135 : Int)) + (jushr (jband (jw ((jw ((jband (jw (x0 - (jband (jushr x0 (1 : Int)) (1431655765 : Int)))) (858993459 : Int)) + (jband (jushr (jw (x0 - (jband (jushr x0 (1 : Int)) (1431655765 : Int)))) (2 : Int)) (858993459 : Int)))) + (jushr (jw ((jband (jw (x0 - (jband (jushr x0 (1 : Int)) (1431655765 : Int)))) (858993459 : Int)) + (jband (jushr (jw (x0 - (jband (jushr x0 (1 : Int)) (1431655765 : Int)))) (2 : Int)) (858993459 : Int)))) (4 : Int)))) (252645135 : Int)) (8 : Int)))) + (jushr (jw ((jband (jw ((jw ((jband (jw (x0 - (jband (jushr x0 (1 : Int)) (1431655765 : Int)))) (858993459 : Int)) + (jband (jushr (jw (x0 - (jband (jushr x0 (1 : Int)) (1431655765 : Int)))) (2 : Int)) (858993459 : Int)))) + (jushr (jw ((jband (jw (x0 - (jband (jushr x0 (1 : Int)) (1431655765 : Int)))) (858993459 : Int)) + (jband (jushr (jw (x0 - (jband (jushr x0 (1 : Int)) (1431655765 : Int)))) (2 : Int)) (858993459 : Int)))) (4 : Int)))) (252645135 : Int)) + (jushr (jband (jw ((jw ((jband (jw (x0 - (jband (jushr x0 (1 : Int)) (1431655765 : Int)))) (858993459 : Int)) + (jband (jushr (jw (x0 - (jband (jushr x0 (1 : Int)) (1431655765 : Int)))) (2 : Int)) (858993459 : Int)))) + (jushr (jw ((jband (jw (x0 - (jband (jushr x0 (1 : Int)) (1431655765 : Int)))) (858993459 : Int)) + (jband (jushr (jw (x0 - (jband (jushr x0 (1 : Int)) (1431655765 : Int)))) (2 : Int)) (858993459 : Int)))) (4 : Int)))) (252645135 : Int)) (8 : Int)))) (16 : Int)))) (63 : Int)) jg_band h))

set_option maxRecDepth 20000 in
set_option maxHeartbeats 1000000 in
theorem jc_39 {X : Nat × (Nat → Int32)} {N d : Nat}  (hN : 102 ≤ N) (hd : 2 ≤ d)  {m : jm} {P : Int → Prop} {Q : px_Q} (h : jo (jf_39 m) P) (hQ : ∀ p : Int, jg p → P p → Q (.inl (some (jv p))) (jmem N m)) : px_C X d 39 [.ref 55] (jmem N m) Q := by
  unfold jf_39 at h
  have hu : ju px_m39 (0, 0) := ju_0
  refine jr_in (M := px_m39) (lev := 1) (L := [some (.ref 55), none, none]) hd rfl jbd_39 (jl rfl) rfl (fun d hd Q' hQ' => ?_)
  refine jr_ic (pc' := 1) rfl rfl (jr_is_n (pc' := 2) (L' := [_, _, _]) rfl rfl (jl rfl) rfl rfl (jr_ic (pc' := 3) rfl rfl (jr_is_n (pc' := 4) (L' := [_, _, _]) rfl rfl (jl rfl) rfl rfl ?_)))
  refine jr_reg (fun t4 => jg t4) (fun t4 => ∀ o5, jn o5 → jp X (px_C X d) px_m39 Q' N 38 [some (.ref 55), some (jv t4), o5] [] m (0, 0)) h (fun t4 ht4 h o5 ho5 => ?_) (fun R7 k6 h => ?_)
  · refine jr_il_n (pc' := 39) rfl rfl rfl ?_
    exact jr_ret rfl hu rfl (hQ' _ _ (hQ t4 ht4 h))
  · refine jr_lp (fun s1 => jg s1.1 ∧ jg s1.2) (fun s1 => jp X (px_C X d) px_m39 Q' N 4 [some (.ref 55), some (jv s1.1), some (jv s1.2)] [] m (0, 0)) h ⟨jgc_0, jgc_0⟩ (fun s1 hs1 R3 k2 h => ?_)
    refine jr_il_n (pc' := 5) rfl rfl rfl (jr_al_n (pc' := 6) rfl rfl rfl (jr_gr (pc' := 9) (r := 3) rfl rfl jlk_3_9 (.inl rfl) rfl hN jd_55 rfl rfl rfl (jr_gi (pc' := 12) rfl rfl jlk_3_32 (.inr rfl) rfl hN jd_3 rfl rfl ?_)))
    refine jr_cge (pa := 15) (pb := 38) rfl rfl rfl hs1.2 jg_a h (fun hc h => ?_) (fun hc h => ?_)
    · refine jr_il_n (pc' := 16) rfl rfl rfl (jr_al_n (pc' := 17) rfl rfl rfl (jr_il_n (pc' := 18) rfl rfl rfl (jr_al_n (pc' := 19) rfl rfl rfl ?_)))
      refine jr_cv_p (pc' := 22) [_, _, _] rfl rfl jlk_3_39 jq_36 jbd_36 (jl rfl) rfl (jl rfl) hu rfl (jk rfl hN) (jd_55.trans jo_36.symm) (fun Q' hq => jc_36 hN (Nat.le_trans (jl rfl) hd)  (jo_b h) hq) (fun p8 hp8 h => ?_)
      refine jr_cv_p (pc' := 25) [_] rfl rfl jlk_3_35 jq_38 jbd_38 (jl rfl) rfl (jl rfl) hu rfl (jk rfl hN) (jd_55.trans jo_38.symm) (fun Q' hq => jc_38 hN (Nat.le_trans (jl rfl) hd) hs1.2 hp8 (jo_b h) hq) (fun p9 hp9 h => ?_)
      refine jr_cs_p (pc' := 28) [_] rfl rfl jlk_3_43 jq_333 jbd_333 (jl rfl) rfl (jl rfl) hu (fun Q' hq => jc_333 hN (Nat.le_trans (jl rfl) hd) hp9 (jo_b h) hq) (fun p10 hp10 h => ?_)
      refine jr_max (pc' := 31) rfl rfl jlk_3_49 (jl rfl) hu hs1.1 hp10 (jr_is_n (pc' := 32) (L' := [_, _, _]) rfl rfl (jl rfl) rfl rfl (jr_inc (pc' := 35) (L' := [_, _, _]) rfl rfl rfl (jl rfl) rfl rfl (jr_goto (pc' := 4) rfl rfl ?_)))
      exact k2 (jmax s1.1 p10, jw (s1.2 + 1)) ⟨(jg_max hs1.1 hp10), jg_w⟩ h
    · exact k6 (s1.1) hs1.1 h _ jn_i

set_option maxRecDepth 20000 in
set_option maxHeartbeats 1000000 in
theorem jc_40 {X : Nat × (Nat → Int32)} {N d : Nat}  (hN : 102 ≤ N) (hd : 2 ≤ d)  {m : jm} {P : Int → Prop} {Q : px_Q} (h : jo (jf_40 m) P) (hQ : ∀ p : Int, jg p → P p → Q (.inl (some (jv p))) (jmem N m)) : px_C X d 40 [.ref 55] (jmem N m) Q := by
  unfold jf_40 at h
  have hu : ju px_m40 (0, 0) := ju_0
  refine jr_in (M := px_m40) (lev := 1) (L := [some (.ref 55), none, none, none, none]) hd rfl jbd_40 (jl rfl) rfl (fun d hd Q' hQ' => ?_)
  refine jr_ic (pc' := 1) rfl rfl (jr_is_n (pc' := 2) (L' := [_, _, _, _, _]) rfl rfl (jl rfl) rfl rfl (jr_ic (pc' := 3) rfl rfl (jr_is_n (pc' := 4) (L' := [_, _, _, _, _]) rfl rfl (jl rfl) rfl rfl ?_)))
  refine jr_reg (fun t6 => jg t6) (fun t6 => ∀ o7, jn o7 → ∀ o8, jn o8 → ∀ o9, jn o9 → jp X (px_C X d) px_m40 Q' N 94 [some (.ref 55), some (jv t6), o7, o8, o9] [] m (0, 0)) h (fun t6 ht6 h o7 ho7 o8 ho8 o9 ho9 => ?_) (fun R11 k10 h => ?_)
  · refine jr_il_n (pc' := 95) rfl rfl rfl ?_
    exact jr_ret rfl hu rfl (hQ' _ _ (hQ t6 ht6 h))
  · refine jr_lp (fun s1 => jg s1.1 ∧ jg s1.2) (fun s1 => ∀ o2, jn o2 → ∀ o3, jn o3 → jp X (px_C X d) px_m40 Q' N 4 [some (.ref 55), some (jv s1.1), some (jv s1.2), o2, o3] [] m (0, 0)) h ⟨jgc_0, jgc_0⟩ (fun s1 hs1 R5 k4 h o2 ho2 o3 ho3 => ?_) _ jn_n _ jn_n
    refine jr_il_n (pc' := 5) rfl rfl rfl (jr_bi (pc' := 7) rfl rfl rfl ?_)
    refine jr_cgt (pa := 94) (pb := 10) rfl rfl rfl hs1.2 jgc_9 h (fun hc h => ?_) (fun hc h => ?_)
    · exact k10 (s1.1) hs1.1 h _ jn_i _ ho2 _ ho3
    · refine jr_ic (pc' := 11) rfl rfl (jr_is_n (pc' := 12) (L' := [_, _, _, _, _]) rfl rfl (jl rfl) rfl rfl ?_)
      refine jr_reg (fun t16 => jg t16) (fun t16 => ∀ o17, jn o17 → ∀ o18, jn o18 → jp X (px_C X d) px_m40 Q' N 88 [some (.ref 55), some (jv t16), some (jv s1.2), o17, o18] [] m (0, 0)) h (fun t16 ht16 h o17 ho17 o18 ho18 => ?_) (fun R20 k19 h => ?_)
      · refine jr_inc (pc' := 91) (L' := [_, _, _, _, _]) rfl rfl rfl (jl rfl) rfl rfl (jr_goto (pc' := 4) rfl rfl ?_)
        exact k4 (t16, jw (s1.2 + 1)) ⟨ht16, jg_w⟩ h _ ho17 _ ho18
      · refine jr_lp (fun s12 => jg s12.1 ∧ jg s12.2) (fun s12 => ∀ o13, jn o13 → jp X (px_C X d) px_m40 Q' N 12 [some (.ref 55), some (jv s12.1), some (jv s1.2), some (jv s12.2), o13] [] m (0, 0)) h ⟨hs1.1, jgc_0⟩ (fun s12 hs12 R15 k14 h o13 ho13 => ?_) _ ho3
        refine jr_il_n (pc' := 13) rfl rfl rfl (jr_al_n (pc' := 14) rfl rfl rfl (jr_gr (pc' := 17) (r := 3) rfl rfl jlk_3_9 (.inl rfl) rfl hN jd_55 rfl rfl rfl (jr_gi (pc' := 20) rfl rfl jlk_3_19 (.inr rfl) rfl hN jd_3 rfl rfl ?_)))
        refine jr_cge (pa := 23) (pb := 88) rfl rfl rfl hs12.2 jg_a h (fun hc h => ?_) (fun hc h => ?_)
        · refine jr_al_n (pc' := 24) rfl rfl rfl (jr_al_n (pc' := 25) rfl rfl rfl (jr_gr (pc' := 28) (r := 3) rfl rfl jlk_3_9 (.inl rfl) rfl hN jd_55 rfl rfl rfl (jr_gr (pc' := 31) (r := 5) rfl rfl jlk_3_25 (.inr rfl) rfl hN jd_3 rfl rfl rfl (jr_il_n (pc' := 32) rfl rfl rfl ?_))))
          refine jr_ia (pc' := 33) rfl rfl (jl rfl) hN jd_5 jn_5 hs12.2 h (fun hc h => ?_)
          refine jr_il_n (pc' := 34) rfl rfl rfl ?_
          refine jr_cv_p (pc' := 37) [] rfl rfl jlk_3_35 jq_38 jbd_38 (jl rfl) rfl (jl rfl) hu rfl (jk rfl hN) (jd_55.trans jo_38.symm) (fun Q' hq => jc_38 hN (Nat.le_trans (jl rfl) hd) jg_a hs12.1 (jo_b h) hq) (fun p21 hp21 h => ?_)
          refine jr_al_n (pc' := 38) rfl rfl rfl (jr_gr (pc' := 41) (r := 3) rfl rfl jlk_3_9 (.inl rfl) rfl hN jd_55 rfl rfl rfl (jr_gr (pc' := 44) (r := 6) rfl rfl jlk_3_29 (.inr rfl) rfl hN jd_3 rfl rfl rfl (jr_il_n (pc' := 45) rfl rfl rfl ?_)))
          refine jr_ia (pc' := 46) rfl rfl (jl rfl) hN jd_6 jn_6 hs12.2 h (fun hc h => ?_)
          refine jr_shr (pc' := 47) rfl rfl (jr_ic (pc' := 48) rfl rfl (jr_and (pc' := 49) rfl rfl ?_))
          refine jr_reg (fun t22 => jb t22) (fun t22 => jp X (px_C X d) px_m40 Q' N 57 [some (.ref 55), some (jv s12.1), some (jv s1.2), some (jv s12.2), o13] [(jv t22)] m (0, 0)) h (fun t22 ht22 h => ?_) (fun R48 k23 h => ?_)
          · refine jr_is (pc' := 59) (L' := [_, _, _, _, _]) rfl rfl (jl rfl) rfl rfl (jr_al_n (pc' := 60) rfl rfl rfl (jr_gr (pc' := 63) (r := 47) rfl rfl jlk_3_15 (.inl rfl) rfl hN jd_55 rfl rfl rfl (jr_il_n (pc' := 64) rfl rfl rfl ?_)))
            refine jr_cv_p (pc' := 67) [] rfl rfl jlk_3_57 jq_65 jbd_65 (jl rfl) rfl (jl rfl) hu rfl (jk rfl hN) (jd_47.trans jo_65.symm) (fun Q' hq => jc_65 hN (Nat.le_trans (jl rfl) hd) (.inl rfl) hs12.2 (jo_b h) hq) (fun p34 hp34 h => ?_)
            refine jr_il_n (pc' := 68) rfl rfl rfl ?_
            refine jr_reg (fun t35 => jg t35) (fun t35 => jp X (px_C X d) px_m40 Q' N 82 [some (.ref 55), some (jv t35), some (jv s1.2), some (jv s12.2), some (jv t22)] [] m (0, 0)) h (fun t35 ht35 h => ?_) (fun R47 k36 h => ?_)
            · refine jr_inc (pc' := 85) (L' := [_, _, _, _, _]) rfl rfl rfl (jl rfl) rfl rfl (jr_goto (pc' := 12) rfl rfl ?_)
              exact k14 (t35, jw (s12.2 + 1)) ⟨ht35, jg_w⟩ h _ jn_i
            · refine jr_cne (pa := 71) (pb := 82) rfl rfl rfl hp34 hs1.2 h (fun hc h => ?_) (fun hc h => ?_)
              · refine jr_il (pc' := 73) rfl rfl rfl ?_
                refine jr_zeq (pa := 82) (pb := 76) rfl rfl rfl (jg_b ht22) h (fun hc h => ?_) (fun hc h => ?_)
                · exact k36 (s12.1) hs12.1 h
                · refine jr_il_n (pc' := 77) rfl rfl rfl (jr_ic (pc' := 78) rfl rfl (jr_il_n (pc' := 79) rfl rfl rfl (jr_shl (pc' := 80) rfl rfl (jr_or (pc' := 81) rfl rfl (jr_is_n (pc' := 82) (L' := [_, _, _, _, _]) rfl rfl (jl rfl) rfl rfl ?_)))))
                  exact k36 (jbor s12.1 (jshl (1 : Int) s12.2)) jg_bor h
              · exact k36 (s12.1) hs12.1 h
          · refine jr_zne (pa := 52) (pb := 56) rfl rfl rfl jg_band h (fun hc h => ?_) (fun hc h => ?_)
            · refine jr_ic (pc' := 53) rfl rfl (jr_goto (pc' := 57) rfl rfl ?_)
              exact k23 ((1 : Int)) jb_1 h
            · refine jr_ic (pc' := 57) rfl rfl ?_
              exact k23 ((0 : Int)) jb_0 h
        · exact k19 (s12.1) hs12.1 h _ jn_i _ ho13

set_option maxRecDepth 20000 in
set_option maxHeartbeats 1000000 in
theorem jc_41 {X : Nat × (Nat → Int32)} {N d : Nat} {x0 : Int} (hN : 102 ≤ N) (hd : 2 ≤ d) (hx0 : jg x0) {m : jm} {P : Int → Prop} {Q : px_Q} (h : jo (jf_41 x0 m) P) (hQ : ∀ p : Int, jg p → P p → Q (.inl (some (jv p))) (jmem N m)) : px_C X d 41 [.ref 55, jv x0] (jmem N m) Q := by
  unfold jf_41 at h
  have hu : ju px_m41 (0, 0) := ju_0
  refine jr_in (M := px_m41) (lev := 1) (L := [some (.ref 55), some (jv x0), none, none]) hd rfl jbd_41 (jl rfl) rfl (fun d hd Q' hQ' => ?_)
  refine jr_ic (pc' := 1) rfl rfl (jr_is_n (pc' := 2) (L' := [_, _, _, _]) rfl rfl (jl rfl) rfl rfl (jr_ic (pc' := 3) rfl rfl (jr_is_n (pc' := 4) (L' := [_, _, _, _]) rfl rfl (jl rfl) rfl rfl ?_)))
  refine jr_reg (fun t4 => jg t4) (fun t4 => ∀ o5, jn o5 → jp X (px_C X d) px_m41 Q' N 38 [some (.ref 55), some (jv x0), some (jv t4), o5] [] m (0, 0)) h (fun t4 ht4 h o5 ho5 => ?_) (fun R7 k6 h => ?_)
  · refine jr_il_n (pc' := 39) rfl rfl rfl ?_
    exact jr_ret rfl hu rfl (hQ' _ _ (hQ t4 ht4 h))
  · refine jr_lp (fun s1 => jg s1.1 ∧ jg s1.2) (fun s1 => jp X (px_C X d) px_m41 Q' N 4 [some (.ref 55), some (jv x0), some (jv s1.1), some (jv s1.2)] [] m (0, 0)) h ⟨jgc_0, jgc_0⟩ (fun s1 hs1 R3 k2 h => ?_)
    refine jr_il_n (pc' := 5) rfl rfl rfl (jr_al_n (pc' := 6) rfl rfl rfl (jr_gr (pc' := 9) (r := 3) rfl rfl jlk_3_9 (.inl rfl) rfl hN jd_55 rfl rfl rfl (jr_gi (pc' := 12) rfl rfl jlk_3_19 (.inr rfl) rfl hN jd_3 rfl rfl ?_)))
    refine jr_cge (pa := 15) (pb := 38) rfl rfl rfl hs1.2 jg_a h (fun hc h => ?_) (fun hc h => ?_)
    · refine jr_il_n (pc' := 16) rfl rfl rfl (jr_il_n (pc' := 17) rfl rfl rfl (jr_il_n (pc' := 18) rfl rfl rfl (jr_shr (pc' := 19) rfl rfl (jr_ic (pc' := 20) rfl rfl (jr_and (pc' := 21) rfl rfl ?_)))))
      refine jr_al_n (pc' := 22) rfl rfl rfl (jr_gr (pc' := 25) (r := 47) rfl rfl jlk_3_15 (.inl rfl) rfl hN jd_55 rfl rfl rfl (jr_il_n (pc' := 26) rfl rfl rfl ?_))
      refine jr_cv_p (pc' := 29) [_, _] rfl rfl jlk_3_57 jq_65 jbd_65 (jl rfl) rfl (jl rfl) hu rfl (jk rfl hN) (jd_47.trans jo_65.symm) (fun Q' hq => jc_65 hN (Nat.le_trans (jl rfl) hd) (.inl rfl) hs1.2 (jo_b h) hq) (fun p8 hp8 h => ?_)
      refine jr_mul (pc' := 30) rfl rfl (jr_add (pc' := 31) rfl rfl (jr_is_n (pc' := 32) (L' := [_, _, _, _]) rfl rfl (jl rfl) rfl rfl (jr_inc (pc' := 35) (L' := [_, _, _, _]) rfl rfl rfl (jl rfl) rfl rfl (jr_goto (pc' := 4) rfl rfl ?_))))
      exact k2 (jw (s1.1 + (jw ((jband (jshr x0 s1.2) (1 : Int)) * p8))), jw (s1.2 + 1)) ⟨jg_w, jg_w⟩ h
    · exact k6 (s1.1) hs1.1 h _ jn_i

set_option maxRecDepth 20000 in
set_option maxHeartbeats 1000000 in
theorem jc_57 {X : Nat × (Nat → Int32)} {N d : Nat} {q : Nat} {x0 : Int} (hN : 102 ≤ N) (hd : 1 ≤ d) (hq : q = 0 ∨ q = 17) (hx0 : jg x0) {m : jm} {P : Int → Prop} {Q : px_Q} (h : jo (jf_57 q x0 m) P) (hQ : ∀ p : Int, jg p → P p → Q (.inl (some (jv p))) (jmem N m)) : px_C X d 57 [.ref (47 + q), jv x0] (jmem N m) Q := by
  unfold jf_57 at h
  rcases hq with rfl | rfl
  · have hu : ju px_m57 (0, 0) := ju_0
    try dsimp only [Nat.reduceAdd] at h
    refine jr_in (M := px_m57) (lev := 0) (L := [some (.ref 47), some (jv x0), none]) hd rfl jbd_57 (jl rfl) rfl (fun d hd Q' hQ' => ?_)
    refine jr_al_n (pc' := 1) rfl rfl rfl (jr_gr (pc' := 4) (r := 48) rfl rfl jlk_6_11 (.inl rfl) rfl hN jd_47 rfl rfl rfl (jr_bi (pc' := 6) rfl rfl rfl (jr_il_n (pc' := 7) rfl rfl rfl (jr_add (pc' := 8) rfl rfl ?_))))
    refine jr_ia (pc' := 9) rfl rfl (jl rfl) hN jd_48 jn_48 jg_w h (fun hc h => ?_)
    refine jr_is_n (pc' := 10) (L' := [_, _, _]) rfl rfl (jl rfl) rfl rfl (jr_il_n (pc' := 11) rfl rfl rfl (jr_bi (pc' := 13) rfl rfl rfl ?_))
    refine jr_reg (fun t1 => jg t1) (fun t1 => jp X (px_C X d) px_m57 Q' N 21 [some (.ref 47), some (jv x0), some (jv (ja m 48 (jw ((44 : Int) + x0)).toNat))] [(jv t1)] m (0, 0)) h (fun t1 ht1 h => ?_) (fun R13 k2 h => ?_)
    · exact jr_ret rfl hu rfl (hQ' _ _ (hQ t1 ht1 h))
    · refine jr_cge (pa := 16) (pb := 20) rfl rfl rfl jg_a jgc_8 h (fun hc h => ?_) (fun hc h => ?_)
      · refine jr_il_n (pc' := 17) rfl rfl rfl (jr_goto (pc' := 21) rfl rfl ?_)
        exact k2 (ja m 48 (jw ((44 : Int) + x0)).toNat) jg_a h
      · refine jr_ic (pc' := 21) rfl rfl ?_
        exact k2 ((-1 : Int)) jgc_m1 h
  · have hu : ju px_m57 (0, 0) := ju_0
    try dsimp only [Nat.reduceAdd] at h
    refine jr_in (M := px_m57) (lev := 0) (L := [some (.ref 64), some (jv x0), none]) hd rfl jbd_57 (jl rfl) rfl (fun d hd Q' hQ' => ?_)
    refine jr_al_n (pc' := 1) rfl rfl rfl (jr_gr (pc' := 4) (r := 65) rfl rfl jlk_6_11 (.inl rfl) rfl hN jd_64 rfl rfl rfl (jr_bi (pc' := 6) rfl rfl rfl (jr_il_n (pc' := 7) rfl rfl rfl (jr_add (pc' := 8) rfl rfl ?_))))
    refine jr_ia (pc' := 9) rfl rfl (jl rfl) hN jd_65 jn_65 jg_w h (fun hc h => ?_)
    refine jr_is_n (pc' := 10) (L' := [_, _, _]) rfl rfl (jl rfl) rfl rfl (jr_il_n (pc' := 11) rfl rfl rfl (jr_bi (pc' := 13) rfl rfl rfl ?_))
    refine jr_reg (fun t1 => jg t1) (fun t1 => jp X (px_C X d) px_m57 Q' N 21 [some (.ref 64), some (jv x0), some (jv (ja m 65 (jw ((44 : Int) + x0)).toNat))] [(jv t1)] m (0, 0)) h (fun t1 ht1 h => ?_) (fun R13 k2 h => ?_)
    · exact jr_ret rfl hu rfl (hQ' _ _ (hQ t1 ht1 h))
    · refine jr_cge (pa := 16) (pb := 20) rfl rfl rfl jg_a jgc_8 h (fun hc h => ?_) (fun hc h => ?_)
      · refine jr_il_n (pc' := 17) rfl rfl rfl (jr_goto (pc' := 21) rfl rfl ?_)
        exact k2 (ja m 65 (jw ((44 : Int) + x0)).toNat) jg_a h
      · refine jr_ic (pc' := 21) rfl rfl ?_
        exact k2 ((-1 : Int)) jgc_m1 h

set_option maxRecDepth 20000 in
set_option maxHeartbeats 1000000 in
theorem jc_59 {X : Nat × (Nat → Int32)} {N d : Nat} {q : Nat} {x0 : Int} (hN : 102 ≤ N) (hd : 1 ≤ d) (hq : q = 0 ∨ q = 17) (hx0 : jg x0) {m : jm} {P : Int → Prop} {Q : px_Q} (h : jo (jf_59 q x0 m) P) (hQ : ∀ p : Int, jg p → P p → Q (.inl (some (jv p))) (jmem N m)) : px_C X d 59 [.ref (47 + q), jv x0] (jmem N m) Q := by
  unfold jf_59 at h
  rcases hq with rfl | rfl
  · have hu : ju px_m59 (0, 0) := ju_0
    try dsimp only [Nat.reduceAdd] at h
    refine jr_in (M := px_m59) (lev := 0) (L := [some (.ref 47), some (jv x0)]) hd rfl jbd_59 (jl rfl) rfl (fun d hd Q' hQ' => ?_)
    refine jr_al_n (pc' := 1) rfl rfl rfl (jr_gr (pc' := 4) (r := 48) rfl rfl jlk_6_11 (.inl rfl) rfl hN jd_47 rfl rfl rfl (jr_bi (pc' := 6) rfl rfl rfl (jr_il_n (pc' := 7) rfl rfl rfl (jr_add (pc' := 8) rfl rfl ?_))))
    refine jr_ia (pc' := 9) rfl rfl (jl rfl) hN jd_48 jn_48 jg_w h (fun hc h => ?_)
    exact jr_ret rfl hu rfl (hQ' _ _ (hQ (ja m 48 (jw ((26 : Int) + x0)).toNat) jg_a h))
  · have hu : ju px_m59 (0, 0) := ju_0
    try dsimp only [Nat.reduceAdd] at h
    refine jr_in (M := px_m59) (lev := 0) (L := [some (.ref 64), some (jv x0)]) hd rfl jbd_59 (jl rfl) rfl (fun d hd Q' hQ' => ?_)
    refine jr_al_n (pc' := 1) rfl rfl rfl (jr_gr (pc' := 4) (r := 65) rfl rfl jlk_6_11 (.inl rfl) rfl hN jd_64 rfl rfl rfl (jr_bi (pc' := 6) rfl rfl rfl (jr_il_n (pc' := 7) rfl rfl rfl (jr_add (pc' := 8) rfl rfl ?_))))
    refine jr_ia (pc' := 9) rfl rfl (jl rfl) hN jd_65 jn_65 jg_w h (fun hc h => ?_)
    exact jr_ret rfl hu rfl (hQ' _ _ (hQ (ja m 65 (jw ((26 : Int) + x0)).toNat) jg_a h))

set_option maxRecDepth 20000 in
set_option maxHeartbeats 1000000 in
theorem jc_58 {X : Nat × (Nat → Int32)} {N d : Nat} {q : Nat} {x0 : Int} (hN : 102 ≤ N) (hd : 2 ≤ d) (hq : q = 0 ∨ q = 17) (hx0 : jg x0) {m : jm} {P : Int → Prop} {Q : px_Q} (h : jo (jf_58 q x0 m) P) (hQ : ∀ p : Int, jb p → P p → Q (.inl (some (jv p))) (jmem N m)) : px_C X d 58 [.ref (47 + q), jv x0] (jmem N m) Q := by
  unfold jf_58 at h
  rcases hq with rfl | rfl
  · have hu : ju px_m58 (0, 0) := ju_0
    try dsimp only [Nat.reduceAdd] at h
    refine jr_in (M := px_m58) (lev := 1) (L := [some (.ref 47), some (jv x0)]) hd rfl jbd_58 (jl rfl) rfl (fun d hd Q' hQ' => ?_)
    refine jr_al_n (pc' := 1) rfl rfl rfl (jr_il_n (pc' := 2) rfl rfl rfl ?_)
    refine jr_cv_p (pc' := 5) [] rfl rfl jlk_6_51 jq_59 jbd_59 (jl rfl) rfl (jl rfl) hu rfl (jk rfl hN) (jd_47.trans jo_59.symm) (fun Q' hq => jc_59 hN (Nat.le_trans (jl rfl) hd) (.inl rfl) hx0 (jo_b h) hq) (fun p1 hp1 h => ?_)
    refine jr_ic (pc' := 6) rfl rfl ?_
    refine jr_reg (fun t2 => jb t2) (fun t2 => jp X (px_C X d) px_m58 Q' N 14 [some (.ref 47), some (jv x0)] [(jv t2)] m (0, 0)) h (fun t2 ht2 h => ?_) (fun R14 k3 h => ?_)
    · exact jr_retb rfl hu rfl ht2 (hQ' _ _ (hQ t2 ht2 h))
    · refine jr_cne (pa := 9) (pb := 13) rfl rfl rfl hp1 jgc_m1 h (fun hc h => ?_) (fun hc h => ?_)
      · refine jr_ic (pc' := 10) rfl rfl (jr_goto (pc' := 14) rfl rfl ?_)
        exact k3 ((1 : Int)) jb_1 h
      · refine jr_ic (pc' := 14) rfl rfl ?_
        exact k3 ((0 : Int)) jb_0 h
  · have hu : ju px_m58 (0, 0) := ju_0
    try dsimp only [Nat.reduceAdd] at h
    refine jr_in (M := px_m58) (lev := 1) (L := [some (.ref 64), some (jv x0)]) hd rfl jbd_58 (jl rfl) rfl (fun d hd Q' hQ' => ?_)
    refine jr_al_n (pc' := 1) rfl rfl rfl (jr_il_n (pc' := 2) rfl rfl rfl ?_)
    refine jr_cv_p (pc' := 5) [] rfl rfl jlk_6_51 jq_59 jbd_59 (jl rfl) rfl (jl rfl) hu rfl (jk rfl hN) (jd_64.trans jo_59.symm) (fun Q' hq => jc_59 hN (Nat.le_trans (jl rfl) hd) (.inr rfl) hx0 (jo_b h) hq) (fun p1 hp1 h => ?_)
    refine jr_ic (pc' := 6) rfl rfl ?_
    refine jr_reg (fun t2 => jb t2) (fun t2 => jp X (px_C X d) px_m58 Q' N 14 [some (.ref 64), some (jv x0)] [(jv t2)] m (0, 0)) h (fun t2 ht2 h => ?_) (fun R14 k3 h => ?_)
    · exact jr_retb rfl hu rfl ht2 (hQ' _ _ (hQ t2 ht2 h))
    · refine jr_cne (pa := 9) (pb := 13) rfl rfl rfl hp1 jgc_m1 h (fun hc h => ?_) (fun hc h => ?_)
      · refine jr_ic (pc' := 10) rfl rfl (jr_goto (pc' := 14) rfl rfl ?_)
        exact k3 ((1 : Int)) jb_1 h
      · refine jr_ic (pc' := 14) rfl rfl ?_
        exact k3 ((0 : Int)) jb_0 h

set_option maxRecDepth 20000 in
set_option maxHeartbeats 1000000 in
theorem jc_61 {X : Nat × (Nat → Int32)} {N d : Nat} {q : Nat} {x0 : Int} (hN : 102 ≤ N) (hd : 1 ≤ d) (hq : q = 0 ∨ q = 17) (hx0 : jg x0) {m : jm} {P : Int → Prop} {Q : px_Q} (h : jo (jf_61 q x0 m) P) (hQ : ∀ p : Int, jg p → P p → Q (.inl (some (jv p))) (jmem N m)) : px_C X d 61 [.ref (47 + q), jv x0] (jmem N m) Q := by
  unfold jf_61 at h
  rcases hq with rfl | rfl
  · have hu : ju px_m61 (0, 0) := ju_0
    try dsimp only [Nat.reduceAdd] at h
    refine jr_in (M := px_m61) (lev := 0) (L := [some (.ref 47), some (jv x0), none]) hd rfl jbd_61 (jl rfl) rfl (fun d hd Q' hQ' => ?_)
    refine jr_al_n (pc' := 1) rfl rfl rfl (jr_gr (pc' := 4) (r := 48) rfl rfl jlk_6_11 (.inl rfl) rfl hN jd_47 rfl rfl rfl (jr_bi (pc' := 6) rfl rfl rfl (jr_il_n (pc' := 7) rfl rfl rfl (jr_add (pc' := 8) rfl rfl ?_))))
    refine jr_ia (pc' := 9) rfl rfl (jl rfl) hN jd_48 jn_48 jg_w h (fun hc h => ?_)
    refine jr_is_n (pc' := 10) (L' := [_, _, _]) rfl rfl (jl rfl) rfl rfl (jr_il_n (pc' := 11) rfl rfl rfl (jr_bi (pc' := 13) rfl rfl rfl ?_))
    refine jr_reg (fun t1 => jg t1) (fun t1 => jp X (px_C X d) px_m61 Q' N 30 [some (.ref 47), some (jv x0), some (jv (ja m 48 (jw ((44 : Int) + x0)).toNat))] [(jv t1)] m (0, 0)) h (fun t1 ht1 h => ?_) (fun R13 k2 h => ?_)
    · exact jr_ret rfl hu rfl (hQ' _ _ (hQ t1 ht1 h))
    · refine jr_clt (pa := 29) (pb := 16) rfl rfl rfl jg_a jgc_8 h (fun hc h => ?_) (fun hc h => ?_)
      · refine jr_ic (pc' := 30) rfl rfl ?_
        exact k2 ((-1 : Int)) jgc_m1 h
      · refine jr_il_n (pc' := 17) rfl rfl rfl (jr_bi (pc' := 19) rfl rfl rfl ?_)
        refine jr_cge (pa := 22) (pb := 29) rfl rfl rfl jg_a jgc_14 h (fun hc h => ?_) (fun hc h => ?_)
        · refine jr_il_n (pc' := 23) rfl rfl rfl (jr_bi (pc' := 25) rfl rfl rfl (jr_sub (pc' := 26) rfl rfl (jr_goto (pc' := 30) rfl rfl ?_)))
          exact k2 (jw ((ja m 48 (jw ((44 : Int) + x0)).toNat) - (8 : Int))) jg_w h
        · refine jr_ic (pc' := 30) rfl rfl ?_
          exact k2 ((-1 : Int)) jgc_m1 h
  · have hu : ju px_m61 (0, 0) := ju_0
    try dsimp only [Nat.reduceAdd] at h
    refine jr_in (M := px_m61) (lev := 0) (L := [some (.ref 64), some (jv x0), none]) hd rfl jbd_61 (jl rfl) rfl (fun d hd Q' hQ' => ?_)
    refine jr_al_n (pc' := 1) rfl rfl rfl (jr_gr (pc' := 4) (r := 65) rfl rfl jlk_6_11 (.inl rfl) rfl hN jd_64 rfl rfl rfl (jr_bi (pc' := 6) rfl rfl rfl (jr_il_n (pc' := 7) rfl rfl rfl (jr_add (pc' := 8) rfl rfl ?_))))
    refine jr_ia (pc' := 9) rfl rfl (jl rfl) hN jd_65 jn_65 jg_w h (fun hc h => ?_)
    refine jr_is_n (pc' := 10) (L' := [_, _, _]) rfl rfl (jl rfl) rfl rfl (jr_il_n (pc' := 11) rfl rfl rfl (jr_bi (pc' := 13) rfl rfl rfl ?_))
    refine jr_reg (fun t1 => jg t1) (fun t1 => jp X (px_C X d) px_m61 Q' N 30 [some (.ref 64), some (jv x0), some (jv (ja m 65 (jw ((44 : Int) + x0)).toNat))] [(jv t1)] m (0, 0)) h (fun t1 ht1 h => ?_) (fun R13 k2 h => ?_)
    · exact jr_ret rfl hu rfl (hQ' _ _ (hQ t1 ht1 h))
    · refine jr_clt (pa := 29) (pb := 16) rfl rfl rfl jg_a jgc_8 h (fun hc h => ?_) (fun hc h => ?_)
      · refine jr_ic (pc' := 30) rfl rfl ?_
        exact k2 ((-1 : Int)) jgc_m1 h
      · refine jr_il_n (pc' := 17) rfl rfl rfl (jr_bi (pc' := 19) rfl rfl rfl ?_)
        refine jr_cge (pa := 22) (pb := 29) rfl rfl rfl jg_a jgc_14 h (fun hc h => ?_) (fun hc h => ?_)
        · refine jr_il_n (pc' := 23) rfl rfl rfl (jr_bi (pc' := 25) rfl rfl rfl (jr_sub (pc' := 26) rfl rfl (jr_goto (pc' := 30) rfl rfl ?_)))
          exact k2 (jw ((ja m 65 (jw ((44 : Int) + x0)).toNat) - (8 : Int))) jg_w h
        · refine jr_ic (pc' := 30) rfl rfl ?_
          exact k2 ((-1 : Int)) jgc_m1 h

set_option maxRecDepth 20000 in
set_option maxHeartbeats 1000000 in
theorem jc_60 {X : Nat × (Nat → Int32)} {N d : Nat} {q : Nat} {x0 : Int} (hN : 102 ≤ N) (hd : 2 ≤ d) (hq : q = 0 ∨ q = 17) (hx0 : jg x0) {m : jm} {P : Int → Prop} {Q : px_Q} (h : jo (jf_60 q x0 m) P) (hQ : ∀ p : Int, jg p → P p → Q (.inl (some (jv p))) (jmem N m)) : px_C X d 60 [.ref (47 + q), jv x0] (jmem N m) Q := by
  unfold jf_60 at h
  rcases hq with rfl | rfl
  · have hu : ju px_m60 (0, 0) := ju_0
    try dsimp only [Nat.reduceAdd] at h
    refine jr_in (M := px_m60) (lev := 1) (L := [some (.ref 47), some (jv x0), none, none]) hd rfl jbd_60 (jl rfl) rfl (fun d hd Q' hQ' => ?_)
    refine jr_ic (pc' := 1) rfl rfl (jr_is_n (pc' := 2) (L' := [_, _, _, _]) rfl rfl (jl rfl) rfl rfl (jr_ic (pc' := 3) rfl rfl (jr_is_n (pc' := 4) (L' := [_, _, _, _]) rfl rfl (jl rfl) rfl rfl ?_)))
    refine jr_reg (fun t4 => jg t4) (fun t4 => ∀ o5, jn o5 → jp X (px_C X d) px_m60 Q' N 40 [some (.ref 47), some (jv x0), some (jv t4), o5] [] m (0, 0)) h (fun t4 ht4 h o5 ho5 => ?_) (fun R7 k6 h => ?_)
    · refine jr_il_n (pc' := 41) rfl rfl rfl ?_
      exact jr_ret rfl hu rfl (hQ' _ _ (hQ t4 ht4 h))
    · refine jr_lp (fun s1 => jg s1.1 ∧ jg s1.2) (fun s1 => jp X (px_C X d) px_m60 Q' N 4 [some (.ref 47), some (jv x0), some (jv s1.1), some (jv s1.2)] [] m (0, 0)) h ⟨jgc_0, jgc_0⟩ (fun s1 hs1 R3 k2 h => ?_)
      refine jr_il_n (pc' := 5) rfl rfl rfl (jr_al_n (pc' := 6) rfl rfl rfl (jr_gr (pc' := 9) (r := 3) rfl rfl jlk_6_20 (.inl rfl) rfl hN jd_47 rfl rfl rfl (jr_gi (pc' := 12) rfl rfl jlk_6_55 (.inr rfl) rfl hN jd_3 rfl rfl ?_)))
      refine jr_cge (pa := 15) (pb := 40) rfl rfl rfl hs1.2 jg_a h (fun hc h => ?_) (fun hc h => ?_)
      · refine jr_il_n (pc' := 16) rfl rfl rfl (jr_al_n (pc' := 17) rfl rfl rfl (jr_il_n (pc' := 18) rfl rfl rfl ?_))
        refine jr_cv_p (pc' := 21) [_] rfl rfl jlk_6_66 jq_61 jbd_61 (jl rfl) rfl (jl rfl) hu rfl (jk rfl hN) (jd_47.trans jo_61.symm) (fun Q' hq => jc_61 hN (Nat.le_trans (jl rfl) hd) (.inl rfl) hs1.2 (jo_b h) hq) (fun p8 hp8 h => ?_)
        refine jr_il_n (pc' := 22) rfl rfl rfl ?_
        refine jr_reg (fun t9 => jg t9) (fun t9 => jp X (px_C X d) px_m60 Q' N 32 [some (.ref 47), some (jv x0), some (jv s1.1), some (jv s1.2)] [(jv t9), (jv s1.1)] m (0, 0)) h (fun t9 ht9 h => ?_) (fun R21 k10 h => ?_)
        · refine jr_or (pc' := 33) rfl rfl (jr_is_n (pc' := 34) (L' := [_, _, _, _]) rfl rfl (jl rfl) rfl rfl (jr_inc (pc' := 37) (L' := [_, _, _, _]) rfl rfl rfl (jl rfl) rfl rfl (jr_goto (pc' := 4) rfl rfl ?_)))
          exact k2 (jbor s1.1 t9, jw (s1.2 + 1)) ⟨jg_bor, jg_w⟩ h
        · refine jr_cne (pa := 25) (pb := 31) rfl rfl rfl hp8 hx0 h (fun hc h => ?_) (fun hc h => ?_)
          · refine jr_ic (pc' := 26) rfl rfl (jr_il_n (pc' := 27) rfl rfl rfl (jr_shl (pc' := 28) rfl rfl (jr_goto (pc' := 32) rfl rfl ?_)))
            exact k10 (jshl (1 : Int) s1.2) jg_shl h
          · refine jr_ic (pc' := 32) rfl rfl ?_
            exact k10 ((0 : Int)) jgc_0 h
      · exact k6 (s1.1) hs1.1 h _ jn_i
  · have hu : ju px_m60 (0, 0) := ju_0
    try dsimp only [Nat.reduceAdd] at h
    refine jr_in (M := px_m60) (lev := 1) (L := [some (.ref 64), some (jv x0), none, none]) hd rfl jbd_60 (jl rfl) rfl (fun d hd Q' hQ' => ?_)
    refine jr_ic (pc' := 1) rfl rfl (jr_is_n (pc' := 2) (L' := [_, _, _, _]) rfl rfl (jl rfl) rfl rfl (jr_ic (pc' := 3) rfl rfl (jr_is_n (pc' := 4) (L' := [_, _, _, _]) rfl rfl (jl rfl) rfl rfl ?_)))
    refine jr_reg (fun t4 => jg t4) (fun t4 => ∀ o5, jn o5 → jp X (px_C X d) px_m60 Q' N 40 [some (.ref 64), some (jv x0), some (jv t4), o5] [] m (0, 0)) h (fun t4 ht4 h o5 ho5 => ?_) (fun R7 k6 h => ?_)
    · refine jr_il_n (pc' := 41) rfl rfl rfl ?_
      exact jr_ret rfl hu rfl (hQ' _ _ (hQ t4 ht4 h))
    · refine jr_lp (fun s1 => jg s1.1 ∧ jg s1.2) (fun s1 => jp X (px_C X d) px_m60 Q' N 4 [some (.ref 64), some (jv x0), some (jv s1.1), some (jv s1.2)] [] m (0, 0)) h ⟨jgc_0, jgc_0⟩ (fun s1 hs1 R3 k2 h => ?_)
      refine jr_il_n (pc' := 5) rfl rfl rfl (jr_al_n (pc' := 6) rfl rfl rfl (jr_gr (pc' := 9) (r := 3) rfl rfl jlk_6_20 (.inl rfl) rfl hN jd_64 rfl rfl rfl (jr_gi (pc' := 12) rfl rfl jlk_6_55 (.inr rfl) rfl hN jd_3 rfl rfl ?_)))
      refine jr_cge (pa := 15) (pb := 40) rfl rfl rfl hs1.2 jg_a h (fun hc h => ?_) (fun hc h => ?_)
      · refine jr_il_n (pc' := 16) rfl rfl rfl (jr_al_n (pc' := 17) rfl rfl rfl (jr_il_n (pc' := 18) rfl rfl rfl ?_))
        refine jr_cv_p (pc' := 21) [_] rfl rfl jlk_6_66 jq_61 jbd_61 (jl rfl) rfl (jl rfl) hu rfl (jk rfl hN) (jd_64.trans jo_61.symm) (fun Q' hq => jc_61 hN (Nat.le_trans (jl rfl) hd) (.inr rfl) hs1.2 (jo_b h) hq) (fun p8 hp8 h => ?_)
        refine jr_il_n (pc' := 22) rfl rfl rfl ?_
        refine jr_reg (fun t9 => jg t9) (fun t9 => jp X (px_C X d) px_m60 Q' N 32 [some (.ref 64), some (jv x0), some (jv s1.1), some (jv s1.2)] [(jv t9), (jv s1.1)] m (0, 0)) h (fun t9 ht9 h => ?_) (fun R21 k10 h => ?_)
        · refine jr_or (pc' := 33) rfl rfl (jr_is_n (pc' := 34) (L' := [_, _, _, _]) rfl rfl (jl rfl) rfl rfl (jr_inc (pc' := 37) (L' := [_, _, _, _]) rfl rfl rfl (jl rfl) rfl rfl (jr_goto (pc' := 4) rfl rfl ?_)))
          exact k2 (jbor s1.1 t9, jw (s1.2 + 1)) ⟨jg_bor, jg_w⟩ h
        · refine jr_cne (pa := 25) (pb := 31) rfl rfl rfl hp8 hx0 h (fun hc h => ?_) (fun hc h => ?_)
          · refine jr_ic (pc' := 26) rfl rfl (jr_il_n (pc' := 27) rfl rfl rfl (jr_shl (pc' := 28) rfl rfl (jr_goto (pc' := 32) rfl rfl ?_)))
            exact k10 (jshl (1 : Int) s1.2) jg_shl h
          · refine jr_ic (pc' := 32) rfl rfl ?_
            exact k10 ((0 : Int)) jgc_0 h
      · exact k6 (s1.1) hs1.1 h _ jn_i

set_option maxRecDepth 20000 in
set_option maxHeartbeats 1000000 in
theorem jc_71 {X : Nat × (Nat → Int32)} {N d : Nat} {q : Nat} {x0 : Int} (hN : 102 ≤ N) (hd : 2 ≤ d) (hq : q = 0 ∨ q = 17) (hx0 : jg x0) {m : jm} {P : jm → Prop} {Q : px_Q} (h : jo (jf_71 q x0 m) P) (hQ : ∀ p : jm, True → P p → Q (.inl (none)) (jmem N p)) : px_C X d 71 [.ref (47 + q), jv x0] (jmem N m) Q := by
  unfold jf_71 at h
  rcases hq with rfl | rfl
  · have hu : ju px_m71 (0, 0) := ju_0
    try dsimp only [Nat.reduceAdd] at h
    refine jr_in (M := px_m71) (lev := 1) (L := [some (.ref 47), some (jv x0), none, none, none]) hd rfl jbd_71 (jl rfl) rfl (fun d hd Q' hQ' => ?_)
    refine jr_ic (pc' := 1) rfl rfl (jr_is_n (pc' := 2) (L' := [_, _, _, _, _]) rfl rfl (jl rfl) rfl rfl (jr_ic (pc' := 3) rfl rfl (jr_is_n (pc' := 4) (L' := [_, _, _, _, _]) rfl rfl (jl rfl) rfl rfl (jr_ic (pc' := 5) rfl rfl (jr_is (pc' := 7) (L' := [_, _, _, _, _]) rfl rfl (jl rfl) rfl rfl ?_)))))
    refine jr_reg (fun t4 => jg t4.1 ∧ jg t4.2) (fun t4 => ∀ o5, jn o5 → jp X (px_C X d) px_m71 Q' N 63 [some (.ref 47), some (jv x0), some (jv t4.1), some (jv t4.2), o5] [] m (0, 0)) h (fun t4 ht4 h o5 ho5 => ?_) (fun R7 k6 h => ?_)
    · refine jr_al_n (pc' := 64) rfl rfl rfl (jr_il_n (pc' := 65) rfl rfl rfl (jr_il_n (pc' := 66) rfl rfl rfl (jr_il_n (pc' := 67) rfl rfl rfl ?_)))
      refine jr_cs_p (pc' := 70) [_, _, _] rfl rfl jlk_6_123 jq_333 jbd_333 (jl rfl) rfl (jl rfl) hu (fun Q' hq => jc_333 hN (Nat.le_trans (jl rfl) hd) hx0 (jo_b h) hq) (fun p31 hp31 h => ?_)
      refine jr_cv_v (pc' := 73) [] rfl rfl jlk_6_128 jq_72 jbd_72 (jl rfl) rfl (jl rfl) hu rfl (jk rfl hN) (jd_47.trans jo_72.symm) (fun Q' hq => jc_72 hN (Nat.le_trans (jl rfl) hd) (.inl rfl) ht4.1 ht4.2 hp31 (jo_b h) hq) (fun p32 hp32 h => ?_)
      exact jr_rv rfl hu rfl (hQ' _ _ (hQ p32 trivial h))
    · refine jr_lp (fun s1 => jg s1.1 ∧ jg s1.2.1 ∧ jg s1.2.2) (fun s1 => jp X (px_C X d) px_m71 Q' N 7 [some (.ref 47), some (jv x0), some (jv s1.1), some (jv s1.2.1), some (jv s1.2.2)] [] m (0, 0)) h ⟨jgc_0, jgc_0, jgc_0⟩ (fun s1 hs1 R3 k2 h => ?_)
      refine jr_il (pc' := 9) rfl rfl rfl (jr_al_n (pc' := 10) rfl rfl rfl (jr_gr (pc' := 13) (r := 3) rfl rfl jlk_6_20 (.inl rfl) rfl hN jd_47 rfl rfl rfl (jr_gi (pc' := 16) rfl rfl jlk_6_55 (.inr rfl) rfl hN jd_3 rfl rfl ?_)))
      refine jr_cge (pa := 19) (pb := 63) rfl rfl rfl hs1.2.2 jg_a h (fun hc h => ?_) (fun hc h => ?_)
      · refine jr_il_n (pc' := 20) rfl rfl rfl (jr_il (pc' := 22) rfl rfl rfl (jr_shr (pc' := 23) rfl rfl (jr_ic (pc' := 24) rfl rfl (jr_and (pc' := 25) rfl rfl (jr_ic (pc' := 26) rfl rfl ?_)))))
        refine jr_reg (fun t8 => jg t8.1 ∧ jg t8.2) (fun t8 => jp X (px_C X d) px_m71 Q' N 57 [some (.ref 47), some (jv x0), some (jv t8.1), some (jv t8.2), some (jv s1.2.2)] [] m (0, 0)) h (fun t8 ht8 h => ?_) (fun R20 k9 h => ?_)
        · refine jr_inc (pc' := 60) (L' := [_, _, _, _, _]) rfl rfl rfl (jl rfl) rfl rfl (jr_goto (pc' := 7) rfl rfl ?_)
          exact k2 (t8.1, t8.2, jw (s1.2.2 + 1)) ⟨ht8.1, ht8.2, jg_w⟩ h
        · refine jr_cne (pa := 29) (pb := 57) rfl rfl rfl jg_band jgc_1 h (fun hc h => ?_) (fun hc h => ?_)
          · refine jr_il_n (pc' := 30) rfl rfl rfl (jr_al_n (pc' := 31) rfl rfl rfl (jr_gr (pc' := 34) (r := 3) rfl rfl jlk_6_20 (.inl rfl) rfl hN jd_47 rfl rfl rfl (jr_gr (pc' := 37) (r := 14) rfl rfl jlk_6_111 (.inr rfl) rfl hN jd_3 rfl rfl rfl (jr_il (pc' := 39) rfl rfl rfl ?_))))
            refine jr_ia (pc' := 40) rfl rfl (jl rfl) hN jd_14 jn_14 hs1.2.2 h (fun hc h => ?_)
            refine jr_add (pc' := 41) rfl rfl (jr_is_n (pc' := 42) (L' := [_, _, _, _, _]) rfl rfl (jl rfl) rfl rfl (jr_il_n (pc' := 43) rfl rfl rfl (jr_al_n (pc' := 44) rfl rfl rfl (jr_gr (pc' := 47) (r := 3) rfl rfl jlk_6_20 (.inl rfl) rfl hN jd_47 rfl rfl rfl (jr_gr (pc' := 50) (r := 13) rfl rfl jlk_6_114 (.inr rfl) rfl hN jd_3 rfl rfl rfl ?_)))))
            refine jr_il (pc' := 52) rfl rfl rfl ?_
            refine jr_ia (pc' := 53) rfl rfl (jl rfl) hN jd_13 jn_13 hs1.2.2 h (fun hc h => ?_)
            refine jr_max (pc' := 56) rfl rfl jlk_6_117 (jl rfl) hu hs1.2.1 jg_a (jr_is_n (pc' := 57) (L' := [_, _, _, _, _]) rfl rfl (jl rfl) rfl rfl ?_)
            exact k9 (jw (s1.1 + (ja m 14 s1.2.2.toNat)), jmax s1.2.1 (ja m 13 s1.2.2.toNat)) ⟨jg_w, (jg_max hs1.2.1 jg_a)⟩ h
          · exact k9 (s1.1, s1.2.1) ⟨hs1.1, hs1.2.1⟩ h
      · exact k6 (s1.1, s1.2.1) ⟨hs1.1, hs1.2.1⟩ h _ jn_i
  · have hu : ju px_m71 (0, 0) := ju_0
    try dsimp only [Nat.reduceAdd] at h
    refine jr_in (M := px_m71) (lev := 1) (L := [some (.ref 64), some (jv x0), none, none, none]) hd rfl jbd_71 (jl rfl) rfl (fun d hd Q' hQ' => ?_)
    refine jr_ic (pc' := 1) rfl rfl (jr_is_n (pc' := 2) (L' := [_, _, _, _, _]) rfl rfl (jl rfl) rfl rfl (jr_ic (pc' := 3) rfl rfl (jr_is_n (pc' := 4) (L' := [_, _, _, _, _]) rfl rfl (jl rfl) rfl rfl (jr_ic (pc' := 5) rfl rfl (jr_is (pc' := 7) (L' := [_, _, _, _, _]) rfl rfl (jl rfl) rfl rfl ?_)))))
    refine jr_reg (fun t4 => jg t4.1 ∧ jg t4.2) (fun t4 => ∀ o5, jn o5 → jp X (px_C X d) px_m71 Q' N 63 [some (.ref 64), some (jv x0), some (jv t4.1), some (jv t4.2), o5] [] m (0, 0)) h (fun t4 ht4 h o5 ho5 => ?_) (fun R7 k6 h => ?_)
    · refine jr_al_n (pc' := 64) rfl rfl rfl (jr_il_n (pc' := 65) rfl rfl rfl (jr_il_n (pc' := 66) rfl rfl rfl (jr_il_n (pc' := 67) rfl rfl rfl ?_)))
      refine jr_cs_p (pc' := 70) [_, _, _] rfl rfl jlk_6_123 jq_333 jbd_333 (jl rfl) rfl (jl rfl) hu (fun Q' hq => jc_333 hN (Nat.le_trans (jl rfl) hd) hx0 (jo_b h) hq) (fun p31 hp31 h => ?_)
      refine jr_cv_v (pc' := 73) [] rfl rfl jlk_6_128 jq_72 jbd_72 (jl rfl) rfl (jl rfl) hu rfl (jk rfl hN) (jd_64.trans jo_72.symm) (fun Q' hq => jc_72 hN (Nat.le_trans (jl rfl) hd) (.inr rfl) ht4.1 ht4.2 hp31 (jo_b h) hq) (fun p32 hp32 h => ?_)
      exact jr_rv rfl hu rfl (hQ' _ _ (hQ p32 trivial h))
    · refine jr_lp (fun s1 => jg s1.1 ∧ jg s1.2.1 ∧ jg s1.2.2) (fun s1 => jp X (px_C X d) px_m71 Q' N 7 [some (.ref 64), some (jv x0), some (jv s1.1), some (jv s1.2.1), some (jv s1.2.2)] [] m (0, 0)) h ⟨jgc_0, jgc_0, jgc_0⟩ (fun s1 hs1 R3 k2 h => ?_)
      refine jr_il (pc' := 9) rfl rfl rfl (jr_al_n (pc' := 10) rfl rfl rfl (jr_gr (pc' := 13) (r := 3) rfl rfl jlk_6_20 (.inl rfl) rfl hN jd_64 rfl rfl rfl (jr_gi (pc' := 16) rfl rfl jlk_6_55 (.inr rfl) rfl hN jd_3 rfl rfl ?_)))
      refine jr_cge (pa := 19) (pb := 63) rfl rfl rfl hs1.2.2 jg_a h (fun hc h => ?_) (fun hc h => ?_)
      · refine jr_il_n (pc' := 20) rfl rfl rfl (jr_il (pc' := 22) rfl rfl rfl (jr_shr (pc' := 23) rfl rfl (jr_ic (pc' := 24) rfl rfl (jr_and (pc' := 25) rfl rfl (jr_ic (pc' := 26) rfl rfl ?_)))))
        refine jr_reg (fun t8 => jg t8.1 ∧ jg t8.2) (fun t8 => jp X (px_C X d) px_m71 Q' N 57 [some (.ref 64), some (jv x0), some (jv t8.1), some (jv t8.2), some (jv s1.2.2)] [] m (0, 0)) h (fun t8 ht8 h => ?_) (fun R20 k9 h => ?_)
        · refine jr_inc (pc' := 60) (L' := [_, _, _, _, _]) rfl rfl rfl (jl rfl) rfl rfl (jr_goto (pc' := 7) rfl rfl ?_)
          exact k2 (t8.1, t8.2, jw (s1.2.2 + 1)) ⟨ht8.1, ht8.2, jg_w⟩ h
        · refine jr_cne (pa := 29) (pb := 57) rfl rfl rfl jg_band jgc_1 h (fun hc h => ?_) (fun hc h => ?_)
          · refine jr_il_n (pc' := 30) rfl rfl rfl (jr_al_n (pc' := 31) rfl rfl rfl (jr_gr (pc' := 34) (r := 3) rfl rfl jlk_6_20 (.inl rfl) rfl hN jd_64 rfl rfl rfl (jr_gr (pc' := 37) (r := 14) rfl rfl jlk_6_111 (.inr rfl) rfl hN jd_3 rfl rfl rfl (jr_il (pc' := 39) rfl rfl rfl ?_))))
            refine jr_ia (pc' := 40) rfl rfl (jl rfl) hN jd_14 jn_14 hs1.2.2 h (fun hc h => ?_)
            refine jr_add (pc' := 41) rfl rfl (jr_is_n (pc' := 42) (L' := [_, _, _, _, _]) rfl rfl (jl rfl) rfl rfl (jr_il_n (pc' := 43) rfl rfl rfl (jr_al_n (pc' := 44) rfl rfl rfl (jr_gr (pc' := 47) (r := 3) rfl rfl jlk_6_20 (.inl rfl) rfl hN jd_64 rfl rfl rfl (jr_gr (pc' := 50) (r := 13) rfl rfl jlk_6_114 (.inr rfl) rfl hN jd_3 rfl rfl rfl ?_)))))
            refine jr_il (pc' := 52) rfl rfl rfl ?_
            refine jr_ia (pc' := 53) rfl rfl (jl rfl) hN jd_13 jn_13 hs1.2.2 h (fun hc h => ?_)
            refine jr_max (pc' := 56) rfl rfl jlk_6_117 (jl rfl) hu hs1.2.1 jg_a (jr_is_n (pc' := 57) (L' := [_, _, _, _, _]) rfl rfl (jl rfl) rfl rfl ?_)
            exact k9 (jw (s1.1 + (ja m 14 s1.2.2.toNat)), jmax s1.2.1 (ja m 13 s1.2.2.toNat)) ⟨jg_w, (jg_max hs1.2.1 jg_a)⟩ h
          · exact k9 (s1.1, s1.2.1) ⟨hs1.1, hs1.2.1⟩ h
      · exact k6 (s1.1, s1.2.1) ⟨hs1.1, hs1.2.1⟩ h _ jn_i

