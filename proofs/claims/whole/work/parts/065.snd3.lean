section PXU
variable {l : Launch} {s0 : State} {b0 : Nat} {X : Nat × (Nat → Int32)} {D : va_G} {cs : ClassId × ClassId × ClassId} {adK adV : Nat → Nat} {wo : Nat} {ρ : Nat → Nat}
variable {p : Program} {e : Env} {R : Room} {s : State} {m : MethodId} {args : Array Value} {below : List Frame} {meth : Method} {c : Code} {Z : State → Prop} {M : px_M}
set_option maxHeartbeats 4000000 in
theorem px_s3 (hF : px_Fr s0 p s m meth c M) (hE : px_Env l s0 b0 X D cs adK adV wo ρ) {i : Instr} {len pc : Nat} {L : px_L} {st : List Value} {V : px_V} {u : Nat × Nat} {K : px_S → Prop} {Q : px_Q} (hd : decode (px_by M.1) pc = .ok (i, len)) (hg : px_good pc i len = true) (hRc : ∀ a b, a ≤ (px_bud M.1).1 → b ≤ (px_bud M.1).2 → a ≤ R.cells ∧ b ≤ R.slots)
    (hR : px_ZR s0 D cs ρ p l e R s m args below meth c M Z Q) (hX : px_ZT s0 D cs ρ p l e R s m args below meth c M Z Q)
    (h : px_act3 X M i pc L st V u K Q) (hK : ∀ σ, K σ → px_G s0 D cs ρ p l e R s m args below meth c M Z σ) : px_G s0 D cs ρ p l e R s m args below meth c M Z (pc, L, st, V, u) := by
  have hx := hF.1
  have hb := hF.2.1
  have hown := hF.2.2.2.1
  have hWm := hF.2.2.2.2.1
  have hs0 := hF.2.2.2.2.2.1
  have hold := hF.2.2.2.2.2.2.1
  have hKs := px_KS (s := s) hE hWm
  have hA : ∀ q : Nat, s.heap.size ≤ q → s0.heap.size ≤ q := fun q hq => Nat.le_trans hs0 hq
  have hXs : ∀ {b n : Nat} {f : Nat → Int32}, va_X b n f s0 s0.heap → b < s0.heap.size → va_X b n f s s.heap := fun q hq => va_X.moved hWm.alike (q.kept (hold _ hq))
  intro H locs ls h1 h2 h3 h4 h5
  dsimp only at h1 h2 h3 h4 h5 ⊢
  have hD := px_ws_D (n0 := s0.heap.size) (cs := cs) (ρ := ρ) (V := V)
  unfold px_act3 at h
  split at h
  · rename_i n k st0
    obtain rfl : len = 3 := of_decide_eq_true hg
    split at h
    · rename_i c0 j q
      obtain ⟨⟨hk, hkd⟩, hKK⟩ := h
      obtain ⟨hw, hq⟩ := px_link q
      have hc : c0 < 13 := of_decide_eq_true (Bool.and_eq_true_iff.mp hq).1
      have hj : j < px_nf c0 := of_decide_eq_true (Bool.and_eq_true_iff.mp hq).2
      have he := px_ws_get (n0 := s0.heap.size) (cs := cs) (ρ := ρ) hk
      rw [px_ce_obj hkd hc] at he
      show W p l e R s m args below meth c H locs u.1 u.2 Z (F0 m pc ls (.ref (ρ k) :: st0.map (px_re ρ)))
      rw [px_rlt hE (by omega)]
      exact va_get hx hb (px_layS hE hWm hc) (fun w q => q) hown hKs h2 k he (px_vwA hc) j hj (px_word hE hWm hw rfl) (by rw [(px_fqI hc hj).1]; exact fun x q => q) (px_fs_get hj) hd (hK _ hKK H locs ls h1 h2 h3 h4 h5)
    · rename_i c0 j q
      obtain ⟨⟨hk, hkd⟩, hKK⟩ := h
      obtain ⟨hw, hq⟩ := px_link q
      have hc : c0 < 13 := of_decide_eq_true (Bool.and_eq_true_iff.mp hq).1
      have hj : j < px_nf c0 := of_decide_eq_true (Bool.and_eq_true_iff.mp hq).2
      have he := px_ws_get (n0 := s0.heap.size) (cs := cs) (ρ := ρ) hk
      rw [px_ce_obj hkd hc] at he
      show W p l e R s m args below meth c H locs u.1 u.2 Z (F0 m pc ls (.ref (ρ k) :: st0.map (px_re ρ)))
      rw [px_rlt hE (by omega)]
      exact va_getN hx hb (px_layS hE hWm hc) (fun w q => q) hown hKs h2 k he (px_vwA hc) j hj (va_Nw.use rfl (va_Nw.warmF hWm (va_Nw.of rfl (hE.2.2.1 _ hw)))) (by rw [(px_fqI hc hj).1]; exact fun x q => q) (px_fs_get hj) hd (hK _ hKK H locs ls h1 h2 h3 h4 h5)
    · exact h.elim
  · rename_i n v k st0
    obtain rfl : len = 3 := of_decide_eq_true hg
    split at h
    · rename_i c0 j q
      obtain ⟨⟨hk, hkd⟩, hft, hfin, hKK⟩ := h
      obtain ⟨hw, hq⟩ := px_link q
      have hc : c0 < 13 := of_decide_eq_true (Bool.and_eq_true_iff.mp hq).1
      have hj : j < px_nf c0 := of_decide_eq_true (Bool.and_eq_true_iff.mp hq).2
      have he := px_ws_get (n0 := s0.heap.size) (cs := cs) (ρ := ρ) hk
      rw [px_ce_obj hkd hc] at he
      obtain ⟨f1, f2, f3, f4, -⟩ := px_fqI hc hj
      obtain ⟨g1, g2⟩ := px_nar (ρ := ρ) hft f4
      have kk : ∀ (H1 : Heap) (locs1 : List Loc), va_P D vwCl ((px_ws s0.heap.size cs ρ V).set k (s0.heap.size + k, .inr (c0, ((List.range (px_nf c0)).map (fun j => px_re ρ (V k j))).set j (px_re ρ v)))) H1 → va_D (fun q => s0.heap.size ≤ q) ((px_ws s0.heap.size cs ρ V).set k (s0.heap.size + k, .inr (c0, ((List.range (px_nf c0)).map (fun j => px_re ρ (V k j))).set j (px_re ρ v)))) → va_S (fun q => s0.heap.size ≤ q) s.heap H1 locs1 → W p l e R s m args below meth c H1 locs1 u.1 u.2 Z (F0 m (pc + 3) ls (st0.map (px_re ρ))) := by
        intro H1 locs1 k1 k2 k3
        rw [px_ws_set (V' := px_set V k j v) (px_n_set (by omega)) (fun a ha => px_set_row ha) hk (by rw [px_ce_obj hkd hc, px_fs_set])] at k1
        exact hK _ hKK H1 locs1 ls (by rw [px_n_set (by omega)]; exact h1) k1 k3 h4 (by rw [px_n_set (by omega)]; exact h5)
      show W p l e R s m args below meth c H locs u.1 u.2 Z (F0 m pc ls (px_re ρ v :: .ref (ρ k) :: st0.map (px_re ρ)))
      rw [px_rlt hE (by omega)]
      by_cases hfn : px_fty c0 j < 10
      · exact va_put hx hb (px_layS hE hWm hc) (fun w q => q) (px_ty c0) (fun a ha => (px_fqI hc ha).2.1) (px_nmA hc) hown hKs h2 hD h3 k he (px_vwA hc) j hj (px_word hE hWm hw rfl) (by rw [f1]; exact fun x q => q) (by rw [f3]; exact decide_eq_false (by omega)) f2 g1 g2 (by simpa using hj) hd kk
      · rcases hfin with hfin | ⟨hi1, hi2⟩
        · exact absurd hfin hfn
        · exact va_putF hx hb (px_layS hE hWm hc) (fun w q => q) (px_ty c0) (fun a ha => (px_fqI hc ha).2.1) (px_nmA hc) hown hKs h2 hD h3 k he (px_vwA hc) j hj (px_word hE hWm hw rfl) (by rw [f1]; exact fun x q => q) (by rw [f3]; exact decide_eq_true (by omega)) (hF.2.2.2.2.2.2.2.2.2.1 hi1) (by rw [f1, hi2]) f2 g1 g2 (by simpa using hj) hd kk
    · rename_i c0 j q
      obtain ⟨⟨hk, hkd⟩, hft, hfin, hKK⟩ := h
      obtain ⟨hw, hq⟩ := px_link q
      have hc : c0 < 13 := of_decide_eq_true (Bool.and_eq_true_iff.mp hq).1
      have hj : j < px_nf c0 := of_decide_eq_true (Bool.and_eq_true_iff.mp hq).2
      have he := px_ws_get (n0 := s0.heap.size) (cs := cs) (ρ := ρ) hk
      rw [px_ce_obj hkd hc] at he
      obtain ⟨f1, f2, f3, f4, -⟩ := px_fqI hc hj
      obtain ⟨g1, g2⟩ := px_nar (ρ := ρ) hft f4
      show W p l e R s m args below meth c H locs u.1 u.2 Z (F0 m pc ls (px_re ρ v :: .ref (ρ k) :: st0.map (px_re ρ)))
      rw [px_rlt hE (by omega)]
      refine va_putN hx hb (px_layS hE hWm hc) (fun w q => q) (px_ty c0) (fun a ha => (px_fqI hc ha).2.1) (px_nmA hc) hown hKs h2 hD h3 k he (px_vwA hc) j hj (va_Nw.use rfl (va_Nw.warmF hWm (va_Nw.of rfl (hE.2.2.1 _ hw)))) (by rw [f1]; exact fun x q => q) (by rw [f3]; exact decide_eq_false (by omega)) f2 g1 g2 (by simpa using hj) hd ?_
      intro H1 locs1 k1 k2 k3
      rw [px_ws_set (V' := px_set V k j v) (px_n_set (by omega)) (fun a ha => px_set_row ha) hk (by rw [px_ce_obj hkd hc, px_fs_set])] at k1
      exact hK _ hKK H1 locs1 ls (by rw [px_n_set (by omega)]; exact h1) k1 k3 h4 (by rw [px_n_set (by omega)]; exact h5)
    · exact h.elim
  · rename_i n
    obtain rfl : len = 3 := of_decide_eq_true hg
    split at h
    · rename_i q
      obtain ⟨hw, -⟩ := px_link q
      refine va_gets (v := .ref (ρ 1100)) hx hb (C := "WirePost$Law") (n := "WITHOUT") (d := "[I") (ref := "WirePost$Law") ?_ h3 hown (px_word hE hWm hw rfl) (fun x q => q) hd (hK _ h H locs ls h1 h2 h3 h4 h5)
      rw [px_r1100 hE]
      exact (va_Z.moved hWm.alike (hE.2.2.2.2.2.2.1.1.kept (fun a ha hn => by exact hold a ha)))
    · exact h.elim
  · rename_i k st0
    obtain rfl : len = 1 := of_decide_eq_true hg
    split at h
    · rename_i n f q
      unfold px_arr at q
      by_cases e1 : k = 1100
      · rw [if_pos e1] at q
        cases q
        subst e1
        show W p l e R s m args below meth c H locs u.1 u.2 Z (F0 m pc ls (.ref (ρ 1100) :: st0.map (px_re ρ)))
        rw [px_r1100 hE]
        exact va_slen hx hb (hXs hE.2.2.2.2.2.2.1.2.1 hE.2.2.2.2.2.2.1.2.2) (Nat.lt_of_lt_of_le hE.2.2.2.2.2.2.1.2.2 hs0) (Nat.not_le.mpr hE.2.2.2.2.2.2.1.2.2) h3 hd (hK _ h H locs ls h1 h2 h3 h4 h5)
      · rw [if_neg e1] at q
        by_cases e2 : k = 1200
        · rw [if_pos e2] at q
          cases q
          subst e2
          show W p l e R s m args below meth c H locs u.1 u.2 Z (F0 m pc ls (.ref (ρ 1200) :: st0.map (px_re ρ)))
          rw [px_r1200 hE]
          exact va_slen hx hb (hXs hE.2.2.2.2.2.2.2.1.1 hE.2.2.2.2.2.2.2.1.2.1) (Nat.lt_of_lt_of_le hE.2.2.2.2.2.2.2.1.2.1 hs0) (Nat.not_le.mpr hE.2.2.2.2.2.2.2.1.2.1) h3 hd (hK _ h H locs ls h1 h2 h3 h4 h5)
        · rw [if_neg e2] at q
          by_cases e3 : k < px_n V ∧ px_kd k = 20
          · rw [if_pos e3] at q
            cases q
            have he := px_ws_get (n0 := s0.heap.size) (cs := cs) (ρ := ρ) e3.1
            rw [px_ce_int e3.2] at he
            show W p l e R s m args below meth c H locs u.1 u.2 Z (F0 m pc ls (.ref (ρ k) :: st0.map (px_re ρ)))
            rw [px_rlt hE (Nat.lt_of_lt_of_le (Nat.lt_of_lt_of_le e3.1 h1) (by decide))]
            exact va_alen hx hb hKs h2 k 0 he rfl rfl hd (hK _ h H locs ls h1 h2 h3 h4 h5)
          · rw [if_neg e3] at q
            cases q
    · exact h.elim
  · rename_i j k st0
    obtain rfl : len = 1 := of_decide_eq_true hg
    split at h
    · rename_i n f q
      unfold px_arr at q
      by_cases e1 : k = 1100
      · rw [if_pos e1] at q
        cases q
        subst e1
        show W p l e R s m args below meth c H locs u.1 u.2 Z (F0 m pc ls (.int j :: .ref (ρ 1100) :: st0.map (px_re ρ)))
        rw [px_r1100 hE]
        exact va_sld hx hb (hXs hE.2.2.2.2.2.2.1.2.1 hE.2.2.2.2.2.2.1.2.2) (Nat.lt_of_lt_of_le hE.2.2.2.2.2.2.1.2.2 hs0) (Nat.not_le.mpr hE.2.2.2.2.2.2.1.2.2) h3 h.1 hd (hK _ h.2 H locs ls h1 h2 h3 h4 h5)
      · rw [if_neg e1] at q
        by_cases e2 : k = 1200
        · rw [if_pos e2] at q
          cases q
          subst e2
          show W p l e R s m args below meth c H locs u.1 u.2 Z (F0 m pc ls (.int j :: .ref (ρ 1200) :: st0.map (px_re ρ)))
          rw [px_r1200 hE]
          exact va_sld hx hb (hXs hE.2.2.2.2.2.2.2.1.1 hE.2.2.2.2.2.2.2.1.2.1) (Nat.lt_of_lt_of_le hE.2.2.2.2.2.2.2.1.2.1 hs0) (Nat.not_le.mpr hE.2.2.2.2.2.2.2.1.2.1) h3 h.1 hd (hK _ h.2 H locs ls h1 h2 h3 h4 h5)
        · rw [if_neg e2] at q
          by_cases e3 : k < px_n V ∧ px_kd k = 20
          · rw [if_pos e3] at q
            cases q
            have he := px_ws_get (n0 := s0.heap.size) (cs := cs) (ρ := ρ) e3.1
            rw [px_ce_int e3.2] at he
            show W p l e R s m args below meth c H locs u.1 u.2 Z (F0 m pc ls (.int j :: .ref (ρ k) :: st0.map (px_re ρ)))
            rw [px_rlt hE (Nat.lt_of_lt_of_le (Nat.lt_of_lt_of_le e3.1 h1) (by decide))]
            exact va_iald hx hb hKs h2 k 0 he rfl h.1 hd (hK _ h.2 H locs ls h1 h2 h3 h4 h5)
          · rw [if_neg e3] at q
            cases q
    · exact h.elim
  · rename_i j k st0
    obtain rfl : len = 1 := of_decide_eq_true hg
    obtain ⟨⟨hk, hkd⟩, hin, hKK⟩ := h
    have he := px_ws_get (n0 := s0.heap.size) (cs := cs) (ρ := ρ) hk
    rw [px_ce_boo hkd] at he
    show W p l e R s m args below meth c H locs u.1 u.2 Z (F0 m pc ls (.int j :: .ref (ρ k) :: st0.map (px_re ρ)))
    rw [px_rlt hE (by omega)]
    exact va_zald hx hb hKs h2 k 1 he rfl hin hd (hK _ hKK H locs ls h1 h2 h3 h4 h5)
  · rename_i j k st0
    obtain rfl : len = 1 := of_decide_eq_true hg
    obtain ⟨⟨hk, hkd⟩, hin, hKK⟩ := h
    have he := px_ws_get (n0 := s0.heap.size) (cs := cs) (ρ := ρ) hk
    rw [px_ce_lon hkd] at he
    show W p l e R s m args below meth c H locs u.1 u.2 Z (F0 m pc ls (.int j :: .ref (ρ k) :: st0.map (px_re ρ)))
    rw [px_rlt hE (by omega)]
    exact va_lald hx hb hKs h2 k 2 he rfl hin hd (hK _ hKK H locs ls h1 h2 h3 h4 h5)
  · rename_i x j k st0
    obtain rfl : len = 1 := of_decide_eq_true hg
    obtain ⟨⟨hk, hkd⟩, hin, hKK⟩ := h
    have he := px_ws_get (n0 := s0.heap.size) (cs := cs) (ρ := ρ) hk
    rw [px_ce_int hkd] at he
    show W p l e R s m args below meth c H locs u.1 u.2 Z (F0 m pc ls (.int x :: .int j :: .ref (ρ k) :: st0.map (px_re ρ)))
    rw [px_rlt hE (by omega)]
    refine va_iast hx hb hKs h2 hD h3 k 0 he rfl hin hd ?_
    intro H1 locs1 k1 k2 k3
    rw [px_ws_set (V' := px_set V k j.toNatClampNeg (.int x)) (px_n_set (by omega)) (fun a ha => px_set_row ha) hk (by rw [px_ce_int hkd, px_upd_i])] at k1
    exact hK _ hKK H1 locs1 ls (by rw [px_n_set (by omega)]; exact h1) k1 k3 h4 (by rw [px_n_set (by omega)]; exact h5)
  · rename_i x j k st0
    obtain rfl : len = 1 := of_decide_eq_true hg
    obtain ⟨⟨hk, hkd⟩, hin, hKK⟩ := h
    have he := px_ws_get (n0 := s0.heap.size) (cs := cs) (ρ := ρ) hk
    rw [px_ce_boo hkd] at he
    show W p l e R s m args below meth c H locs u.1 u.2 Z (F0 m pc ls (.int x :: .int j :: .ref (ρ k) :: st0.map (px_re ρ)))
    rw [px_rlt hE (by omega)]
    refine va_zast hx hb hKs h2 hD h3 k 1 he rfl hin hd ?_
    intro H1 locs1 k1 k2 k3
    rw [px_ws_set (V' := px_set V k j.toNatClampNeg (.int (vp_nar .boolean x))) (px_n_set (by omega)) (fun a ha => px_set_row ha) hk (by rw [px_ce_boo hkd, px_upd_i])] at k1
    exact hK _ hKK H1 locs1 ls (by rw [px_n_set (by omega)]; exact h1) k1 k3 h4 (by rw [px_n_set (by omega)]; exact h5)
  · rename_i x j k st0
    obtain rfl : len = 1 := of_decide_eq_true hg
    obtain ⟨⟨hk, hkd⟩, hin, hKK⟩ := h
    have he := px_ws_get (n0 := s0.heap.size) (cs := cs) (ρ := ρ) hk
    rw [px_ce_lon hkd] at he
    show W p l e R s m args below meth c H locs u.1 u.2 Z (F0 m pc ls (.long x :: .int j :: .ref (ρ k) :: st0.map (px_re ρ)))
    rw [px_rlt hE (by omega)]
    refine va_last hx hb hKs h2 hD h3 k 2 he rfl hin hd ?_
    intro H1 locs1 k1 k2 k3
    rw [px_ws_set (V' := px_set V k j.toNatClampNeg (.long x)) (px_n_set (by omega)) (fun a ha => px_set_row ha) hk (by rw [px_ce_lon hkd, px_upd_l])] at k1
    exact hK _ hKK H1 locs1 ls (by rw [px_n_set (by omega)]; exact h1) k1 k3 h4 (by rw [px_n_set (by omega)]; exact h5)
  · rename_i n
    obtain rfl : len = 3 := of_decide_eq_true hg
    split at h
    · rename_i c0 b q
      obtain ⟨hn, hkd, hc, U1, U2, hKK⟩ := h
      obtain ⟨B1, B2⟩ := hRc _ _ U1 U2
      exact px_nw hF hE hd (px_link q).1 hn hkd hc B1 B2 h1 h2 h3 h5 (fun H1 g1 g2 g3 g4 => hK _ hKK H1 locs ls g1 g2 g3 h4 g4)
    · rename_i k b q
      obtain ⟨hpc, hct, B1, B2, hQ⟩ := h
      have hk2 : k < 2 := of_decide_eq_true (px_link q).2
      exact hX H locs ls V u pc k st hpc hk2 hct h4.1.1 B1 B2 hQ h1 h2 h3
    · exact h.elim
  · rename_i t n st0
    obtain rfl : len = 2 := of_decide_eq_true hg
    obtain ⟨hn, hnn, hbig, U1, U2, hor⟩ := h
    obtain ⟨B1, B2⟩ := hRc _ _ U1 U2
    rcases hor with ⟨rfl, hkd, hKK⟩ | ⟨rfl, hkd, hKK⟩ | ⟨rfl, hkd, hKK⟩
    · exact px_na (ty := .int) (a0 := (px_ln (px_n V), .inl (fun _ => 0))) (tix := 0) hF hE hd rfl hn hnn hbig (fun _ => rfl) rfl (by decide) px_acI (fun C q => by cases q) (by rw [px_ce_int hkd, px_new_at]; rfl) B1 B2 h1 h2 h3 h5 (fun H1 g1 g2 g3 g4 => hK _ hKK H1 locs ls g1 g2 g3 h4 g4)
    · exact px_na (ty := .boolean) (a0 := (px_ln (px_n V), .inl (fun _ => 0))) (tix := 1) hF hE hd rfl hn hnn hbig (fun _ => rfl) rfl (by decide) px_acZ (fun C q => by cases q) (by rw [px_ce_boo hkd, px_new_at]; rfl) B1 B2 h1 h2 h3 h5 (fun H1 g1 g2 g3 g4 => hK _ hKK H1 locs ls g1 g2 g3 h4 g4)
    · exact px_na (ty := .long) (a0 := (px_ln (px_n V), .inr (.inl (fun _ => 0)))) (tix := 2) hF hE hd rfl hn hnn hbig (fun _ => rfl) rfl (by decide) px_acJ (fun C q => by cases q) (by rw [px_ce_lon hkd, px_new_at]; rfl) B1 B2 h1 h2 h3 h5 (fun H1 g1 g2 g3 g4 => hK _ hKK H1 locs ls g1 g2 g3 h4 g4)
  · rename_i x
    obtain rfl : len = 1 := of_decide_eq_true hg
    obtain ⟨B1, B2, hrt, hQ⟩ := h
    exact hR H locs ls V u pc .ireturn (some (.int x)) hd (Or.inr (Or.inl ⟨x, rfl, rfl, hrt⟩)) B1 B2 hQ h1 h2 h3
  · rename_i x
    obtain rfl : len = 1 := of_decide_eq_true hg
    obtain ⟨B1, B2, hrt, hQ⟩ := h
    exact hR H locs ls V u pc .lreturn (some (.long x)) hd (Or.inr (Or.inr ⟨x, rfl, rfl, hrt⟩)) B1 B2 hQ h1 h2 h3
  · obtain rfl : len = 1 := of_decide_eq_true hg
    obtain ⟨B1, B2, hrt, hQ⟩ := h
    exact hR H locs ls V u pc .return_ none hd (Or.inl ⟨rfl, rfl, hrt⟩) B1 B2 hQ h1 h2 h3
  · exact h.elim
end PXU
