/-! WHAT THE PURE MACHINE SAYS HOLDS OF THE MACHINE: the calls one by one. -/
theorem px_tl (ρ : Nat → Nat) (r : Option Value) (st : List Value) : (r.toList ++ st).map (px_re ρ) = (r.map (px_re ρ)).toList ++ st.map (px_re ρ) := by cases r <;> simp
theorem px_tk (ρ : Nat → Nat) (st : List Value) (a : Nat) : st.map (px_re ρ) = (((st.take a).reverse).map (px_re ρ)).reverse ++ (st.drop a).map (px_re ρ) := by
  rw [← List.map_reverse, List.reverse_reverse, ← List.map_append, List.take_append_drop]
theorem px_tkl (ρ : Nat → Nat) {st : List Value} {a : Nat} (h : a ≤ st.length) : (((st.take a).reverse).map (px_re ρ)).length = a := by simp; omega
theorem px_spl {st : List Value} {a : Nat} {v : Value} (h : (st.drop a).head? = some v) : st.drop a = v :: st.drop (a + 1) ∧ st.take (a + 1) = st.take a ++ [v] ∧ a < st.length := by
  have ha : a < st.length := by
    by_cases q : a < st.length
    · exact q
    · rw [List.drop_eq_nil_of_le (by omega)] at h
      cases h
  have e1 : st.drop a = st[a] :: st.drop (a + 1) := List.drop_eq_getElem_cons ha
  rw [e1] at h
  have e2 : st[a] = v := Option.some.inj h
  refine ⟨by rw [e1, e2], ?_, ha⟩
  rw [List.take_add_one, List.getElem?_eq_getElem ha, e2]
  rfl
section PXD
variable {l : Launch} {s0 : State} {b0 : Nat} {X : Nat × (Nat → Int32)} {D : va_G} {cs : ClassId × ClassId × ClassId} {adK adV : Nat → Nat} {wo : Nat} {ρ : Nat → Nat}
variable {p : Program} {e : Env} {R : Room} {s : State} {m : MethodId} {args : Array Value} {below : List Frame} {meth : Method} {c : Code} {Z : State → Prop} {M : px_M}
set_option maxHeartbeats 4000000 in
theorem px_s4 (hF : px_Fr s0 p s m meth c M) (hE : px_Env l s0 b0 X D cs adK adV wo ρ) (hMp : M = px_prog M.1) (hMl : M.1 < 338) {d : Nat} (hIH : ∀ mi av V Q, mi < 335 → mi ≠ 332 → px_C X d mi av V Q → px_Mt l s0 D cs ρ d mi av V Q) (hR1 : 8 + (d + 1) ≤ R.frames) (hR2 : 300 + 60 * (d + 1) ≤ R.locals)
    {i : Instr} {len pc : Nat} {L : px_L} {st : List Value} {V : px_V} {u : Nat × Nat} {K : px_S → Prop} {Q : px_Q} (hd : decode (px_by M.1) pc = .ok (i, len)) (hg : px_good pc i len = true) (hRc : ∀ a b, a ≤ (px_bud M.1).1 → b ≤ (px_bud M.1).2 → a ≤ R.cells ∧ b ≤ R.slots)
    (hZP : px_ZP s0 D cs ρ p l e R s m args below meth c M Z Q) (h : px_act4 X (px_C X d) M i pc L st V u K Q) (hK : ∀ σ, K σ → px_G s0 D cs ρ p l e R s m args below meth c M Z σ) : px_G s0 D cs ρ p l e R s m args below meth c M Z (pc, L, st, V, u) := by
  have hx := hF.1
  have hb := hF.2.1
  have hml := hF.2.2.1
  have hown := hF.2.2.2.1
  have hWm := hF.2.2.2.2.1
  have hs0 := hF.2.2.2.2.2.1
  have hold := hF.2.2.2.2.2.2.1
  have hKs := px_KS (s := s) hE hWm
  intro H locs ls h1 h2 h3 h4 h5
  dsimp only at h1 h2 h3 h4 h5 ⊢
  have hsz : ls.size = M.2.2.2.2.1 := h4.1.1
  have hD := px_ws_D (n0 := s0.heap.size) (cs := cs) (ρ := ρ) (V := V)
  have hXs : ∀ {b n : Nat} {f : Nat → Int32}, va_X b n f s0 s0.heap → b < s0.heap.size → va_X b n f s s.heap := fun q hq => va_X.moved hWm.alike (q.kept (hold _ hq))
  -- the room in the heap before a call
  have hz : ∀ T : State, T.heap = H → Stand p l e R s m args below meth c T locs u.1 u.2 → px_n V < 103 → H.size ≤ s0.heap.size + px_n V := by
    intro T hT XX hn
    have a1 := XX.heapSize
    rw [hT] at a1
    have a2 := h5 hn
    omega
  -- behind a call: it returned
  have kr : ∀ (mi n : Nat) (r : Option Value) (V' : px_V) (H1 : Heap) (locs1 : List Loc), (px_n V' < 103 → px_n V' = px_n V + (px_bud mi).1) → K (pc + 3, L, r.toList ++ st.drop n, V', (u.1 + (px_bud mi).1, u.2 + (px_bud mi).2)) → px_n V' ≤ 103 → va_P D vwCl (px_ws s0.heap.size cs ρ V') H1 → va_S (fun q => s0.heap.size ≤ q) s.heap H1 locs1 → W p l e R s m args below meth c H1 locs1 (u.1 + (px_bud mi).1) (u.2 + (px_bud mi).2) Z (F0 m (pc + 3) ls ((r.map (px_re ρ)).toList ++ (st.drop n).map (px_re ρ))) := by
    intro mi n r V' H1 locs1 hw hq hn hP hS
    have fin := hK _ hq H1 locs1 ls hn hP hS h4 (fun g => by
      have g9 : px_n V' < 103 := g
      have a1 := hw g9
      have a2 := h5 (by omega)
      show s.heap.size + (u.1 + (px_bud mi).1) ≤ s0.heap.size + px_n V'
      omega)
    dsimp only at fin
    rw [px_tl] at fin
    exact fin
  -- behind a call: it threw
  have kx : ∀ (mi n k : Nat) (V' : px_V) (q : Addr) (ce : Cell) (H1 : Heap) (locs1 : List Loc), k < 2 → H1[q]? = some ce → ce.vm = .none → s.vm.findClass (px_en k) = some ce.cls → (px_n V' < 103 → px_n V' = px_n V + (px_bud mi).1) → px_hand M pc k L V' (u.1 + (px_bud mi).1, u.2 + (px_bud mi).2) K Q → px_n V' ≤ 103 → va_P D vwCl (px_ws s0.heap.size cs ρ V') H1 → va_S (fun q => s0.heap.size ≤ q) s.heap H1 locs1 → vx_W p l e R s m args below meth c H1 locs1 (u.1 + (px_bud mi).1) (u.2 + (px_bud mi).2) Z (F0 m pc ls ((st.drop n).map (px_re ρ))) q := by
    intro mi n k V' q ce H1 locs1 hk hce hcv hcl hw hq hn hP hS
    unfold px_hand at hq
    split at hq
    · rename_i hh
      exact hZP H1 locs1 ls V' (u.1 + (px_bud mi).1, u.2 + (px_bud mi).2) pc k q ce _ hh hk hce hcv hcl hq.1 hq.2.1 hq.2.2 hn hP hS
    · split at hq
      · rename_i h0 hf
        have h5' : px_n V' < 103 → s.heap.size + (u.1 + (px_bud mi).1) ≤ s0.heap.size + px_n V' := fun g => by
          have a1 := hw g
          have a2 := h5 (by omega)
          omega
        refine px_catch hF hE hk hce hcv hcl hf ?_
        split at hq
        · rename_i n0 hi
          rw [hMp] at hi
          obtain ⟨d1, -⟩ := px_dec (k := M.1) hMl hi
          exact lv_astore_n hx hb d1 rfl h4.1 (by rw [← h4.2]; exact hq.1) rfl (fun ls' hl' => hK _ hq.2 H1 locs1 ls' hn hP hS (px_LR_st1 (Or.inl rfl) hl' h4.2) h5')
        · rename_i n0 hi
          rw [hMp] at hi
          obtain ⟨d1, -⟩ := px_dec (k := M.1) hMl hi
          exact lv_astore hx hb d1 h4.1 (by rw [← h4.2]; exact hq.1) rfl (fun ls' hl' => hK _ hq.2 H1 locs1 ls' hn hP hS (px_LR_st1 (Or.inl rfl) hl' h4.2) h5')
        · exact hq.elim
      · exact hq.elim
  have fix0 : ∀ cc, c.code = cc → CallFix p m c cc M.2.2.2.2.1 s args [] (px_cn M.2.1) := fun cc hcc => ⟨hx, hcc, hml, hown, fun w hw => by cases hw⟩
  have hroom : ∀ n, px_cat (st.drop n) ≤ 8 → 2 * (F0 m pc ls (st.map (px_re ρ))).monitorRoom + (((st.drop n).map (px_re ρ)).map fun v => v.category).sum ≤ 8 := fun n q => lv_room (by rw [px_cat_map]; exact q)
  have hrm8 : ∀ t : List Value, px_cat t ≤ 8 → ((t.map (px_re ρ)).map fun v => v.category).sum ≤ 8 := fun t q => by rw [px_cat_map]; exact q
  unfold px_act4 at h
  split at h
  · -- invokestatic
    rename_i n
    obtain rfl : len = 3 := of_decide_eq_true hg
    split at h
    · rename_i b q
      split at h
      · rename_i y x st0
        obtain ⟨hct, B1, B2, hKK⟩ := h
        obtain ⟨w1, w2, w3, w4⟩ := px_math_max
        obtain ⟨r1, r2⟩ := hRc _ _ B1 B2
        have hl := (px_link q).1
        rw [show px_wd M.2.1 n 2 335 b = .methodLink (px_cn M.2.1) n (px_y 335) from rfl, w4] at hl
        exact va_mmax hx hb (by rw [hml, hsz]) hown (px_word hE hWm hl rfl) (px_word hE hWm w1 rfl) (px_word hE hWm w2 rfl) (px_word hE hWm w3 rfl) (by omega) (by have := hrm8 _ hct; omega) r1 r2 hd (hK _ hKK H locs ls h1 h2 h3 h4 h5)
      · exact h.elim
    · rename_i b q
      split at h
      · rename_i y x st0
        obtain ⟨hct, B1, B2, hKK⟩ := h
        obtain ⟨w1, w2, w3, w4⟩ := px_math_min
        obtain ⟨r1, r2⟩ := hRc _ _ B1 B2
        have hl := (px_link q).1
        rw [show px_wd M.2.1 n 2 336 b = .methodLink (px_cn M.2.1) n (px_y 336) from rfl, w4] at hl
        exact va_mmin hx hb (by rw [hml, hsz]) hown (px_word hE hWm hl rfl) (px_word hE hWm w1 rfl) (px_word hE hWm w2 rfl) (px_word hE hWm w3 rfl) (by omega) (by have := hrm8 _ hct; omega) r1 r2 hd (hK _ hKK H locs ls h1 h2 h3 h4 h5)
      · exact h.elim
    · rename_i b q
      split at h
      · rename_i x st0
        obtain ⟨hct, B1, B2, hKK⟩ := h
        obtain ⟨w1, w2, w3, w4⟩ := px_math_abs
        obtain ⟨r1, r2⟩ := hRc _ _ B1 B2
        have hl := (px_link q).1
        rw [show px_wd M.2.1 n 2 337 b = .methodLink (px_cn M.2.1) n (px_y 337) from rfl, w4] at hl
        exact va_mabs hx hb (by rw [hml, hsz]) hown (px_word hE hWm hl rfl) (px_word hE hWm w1 rfl) (px_word hE hWm w2 rfl) (px_word hE hWm w3 rfl) (by omega) (by have := hrm8 _ hct; omega) r1 r2 hd (hK _ hKK H locs ls h1 h2 h3 h4 h5)
      · exact h.elim
    · rename_i mi a _ _ _ q
      obtain ⟨hst, hm, hne, h⟩ := h
      unfold px_call at h
      obtain ⟨hn, hct, U1, U2, hC⟩ := h
      obtain ⟨r1, r2⟩ := hRc _ _ U1 U2
      have hMt := hIH mi _ V _ hm hne hC
      obtain ⟨q1, q2, q3, q4, q5, q6, q7, q8, q9, q10, q11, q12, q13, q14, q15⟩ := px_meth hm hne
      have hsw : (Cond.static (px_y mi)).before args s = true := px_word hE hWm (by rw [← show px_kindW mi = Cond.static (px_y mi) by unfold px_kindW; rw [if_pos hst]]; exact q3) rfl
      intro T hT XX
      have hpre := px_pre (av := (st.take a).reverse) hF h1 h2 h3 (hz T hT XX)
      by_cases hh : (px_prog mi).2.2.2.2.2.2 = []
      · have hrun := vx_runS (H := H) (locs := locs) (cells := u.1) (slots := u.2) (e := e) (below := below) (meth := meth) (g := F0 m pc ls (st.map (px_re ρ))) (rest := (st.drop a).map (px_re ρ)) (fix0 _ hb) hMt ⟨px_cb hF hE hm hne hh q hR1 hR2, hsw⟩ ⟨px_blind, hpre⟩ rfl (px_tkl ρ hn) hsz (px_tk ρ st a) (hroom a hct) hd ⟨r1, r2⟩
        have hW9 : W p l e R s m args below meth c H locs u.1 u.2 Z (F0 m pc ls (st.map (px_re ρ))) := px_after hrun h3 (fun r V' H1 locs1 hq => kr mi a r V' H1 locs1 hq.1 hq.2) (fun k V' qa ce H1 locs1 g1 g2 g3 g4 hq => kx mi a k V' qa ce H1 locs1 g1 g2 g3 g4 hq.1 hq.2)
        exact hW9 T hT XX
      · have hcw : px_codeW mi (px_prog mi).2.2.2.2.2.2 = Cond.codeWith (px_y mi) (px_by mi) (px_prog mi).2.2.2.2.1 (px_ret (px_prog mi).2.2.2.1) (px_prog mi).2.2.2.2.2.2 := by unfold px_codeW; rw [if_neg hh]
        have hpar2 : (parseMethodDescriptor (px_y mi).desc).map (fun d => d.parameters.length) = some a := of_decide_eq_true (Bool.and_eq_true_iff.mp (px_link q).2).2
        have cw : vx_CSW R s args (px_cn M.2.1) n (px_y mi) (px_by mi) (px_prog mi).2.2.2.2.1 (px_ret (px_prog mi).2.2.2.1) (px_prog mi).2.2.2.2.2.2 [px_codeW mi (px_prog mi).2.2.2.2.2.2] (px_rm d mi) (px_bud mi).1 (px_bud mi).2 a := by
          refine ⟨⟨rfl, rfl, ?_, ?_, ?_, ?_⟩, ?_, ?_, ⟨q12, q13⟩, ?_, ?_, hsw⟩
          · show 8 + d + 1 ≤ R.frames
            omega
          · show 8 + ((px_prog mi).2.2.2.2.1 + 11) + (300 + 60 * d) ≤ R.locals
            omega
          · intro w hw a' U hU
            rw [List.mem_singleton] at hw
            subst hw
            exact word_at (args := args) hU (good_of_word (px_good_code _ _)) (px_word hE hWm q1 (px_good_code _ _))
          · rw [hcw]; exact List.mem_singleton.mpr rfl
          · rw [← hcw]; exact px_word hE hWm q1 (px_good_code _ _)
          · rw [q6]; exact px_word hE hWm q2 rfl
          · intro sig hsig
            rw [hsig] at hpar2
            exact (Option.some.inj hpar2).symm
          · exact px_word hE hWm (px_link q).1 rfl
        have hrun := vx_runSX (H := H) (locs := locs) (cells := u.1) (slots := u.2) (e := e) (below := below) (meth := meth) (g := F0 m pc ls (st.map (px_re ρ))) (rest := (st.drop a).map (px_re ρ)) (fix0 _ hb) hMt cw ⟨px_blind, hpre⟩ rfl (px_tkl ρ hn) hsz (px_tk ρ st a) (hroom a hct) hd ⟨r1, r2⟩
        have hW9 : W p l e R s m args below meth c H locs u.1 u.2 Z (F0 m pc ls (st.map (px_re ρ))) := px_after hrun h3 (fun r V' H1 locs1 hq => kr mi a r V' H1 locs1 hq.1 hq.2) (fun k V' qa ce H1 locs1 g1 g2 g3 g4 hq => kx mi a k V' qa ce H1 locs1 g1 g2 g3 g4 hq.1 hq.2)
        exact hW9 T hT XX
    · rename_i mi a q
      obtain ⟨hst, hm, hne, hh, h⟩ := h
      unfold px_callN at h
      obtain ⟨hn, hct, U1, U2, hC⟩ := h
      obtain ⟨r1, r2⟩ := hRc _ _ U1 U2
      have hMt := px_toMet (hIH mi _ V _ hm hne hC) (fun E st t q => by obtain ⟨⟨k, V', -, -, hq, -⟩, -⟩ := q; exact hq.2)
      obtain ⟨q1, q2, q3, q4, q5, q6, q7, q8, q9, q10, q11, q12, q13, q14, q15⟩ := px_meth hm hne
      have hsw : (Cond.static (px_y mi)).before args s = true := px_word hE hWm (by rw [← show px_kindW mi = Cond.static (px_y mi) by unfold px_kindW; rw [if_pos hst]]; exact q3) rfl
      have hpar2 : (parseMethodDescriptor (px_y mi).desc).map (fun d => d.parameters.length) = some a := of_decide_eq_true (Bool.and_eq_true_iff.mp (px_link q).2).2
      have hcw : px_codeW mi (px_prog mi).2.2.2.2.2.2 = Cond.code (px_y mi) (px_by mi) (px_prog mi).2.2.2.2.1 (px_ret (px_prog mi).2.2.2.1) := by rw [hh]; rfl
      have hnl : (Cond.methodLinkNest (px_cn M.2.1) n (px_y mi) "WirePost").before args s = true := va_Nw.use rfl (va_Nw.warmM hWm (va_Nw.of rfl (hE.2.2.1 _ (px_link q).1)))
      have cw : va_CN R s args (px_cn M.2.1) n (px_y mi) "WirePost" (px_by mi) (px_prog mi).2.2.2.2.1 (px_ret (px_prog mi).2.2.2.1) [px_codeW mi (px_prog mi).2.2.2.2.2.2] (px_rm d mi) (px_bud mi).1 (px_bud mi).2 a := by
        refine ⟨⟨rfl, rfl, ?_, ?_, ?_, ?_⟩, ?_, ?_, ⟨q12, q13⟩, ?_, hnl⟩
        · show 8 + d + 1 ≤ R.frames
          omega
        · show 8 + ((px_prog mi).2.2.2.2.1 + 11) + (300 + 60 * d) ≤ R.locals
          omega
        · intro w hw a' U hU
          rw [List.mem_singleton] at hw
          subst hw
          exact word_at (args := args) hU (good_of_word (px_good_code _ _)) (px_word hE hWm q1 (px_good_code _ _))
        · rw [hcw]; exact List.mem_singleton.mpr rfl
        · rw [← hcw]; exact px_word hE hWm q1 (px_good_code _ _)
        · rw [q6]; exact px_word hE hWm q2 rfl
        · intro sig hsig
          rw [hsig] at hpar2
          exact (Option.some.inj hpar2).symm
      intro T hT XX
      have hpre := px_pre (av := (st.take a).reverse) hF h1 h2 h3 (hz T hT XX)
      have hrun := va_runSN (H := H) (locs := locs) (cells := u.1) (slots := u.2) (e := e) (below := below) (meth := meth) (g := F0 m pc ls (st.map (px_re ρ))) (rest := (st.drop a).map (px_re ρ)) (fix0 _ hb) hMt ⟨cw, hsw, trivial⟩ ⟨px_blind, hpre⟩ rfl (px_tkl ρ hn) hsz (px_tk ρ st a) (hroom a hct) hd ⟨r1, r2⟩
      have hW9 : W p l e R s m args below meth c H locs u.1 u.2 Z (F0 m pc ls (st.map (px_re ρ))) := px_afterN hrun h3 (fun r V' H1 locs1 hq => kr mi a r V' H1 locs1 hq.1 hq.2)
      exact hW9 T hT XX
    · rename_i _ b q
      split at h
      · rename_i nn dp dd sp s9 st0
        split at h
        · rename_i ln f hf
          obtain ⟨hct, hne, ⟨hdn, hkd⟩, g1, g2, g3, g4, g5, hKK⟩ := h
          obtain ⟨w1, w2, w3⟩ := px_sysw
          have he := px_ws_get (n0 := s0.heap.size) (cs := cs) (ρ := ρ) hdn
          rw [px_ce_int hkd] at he
          have hloc : ((st0.map (px_re ρ)).map fun v => v.category).sum + (nativeFrameWords "java/lang/System" "arraycopy" 5 + 11) ≤ R.locals := by
            have q9 := hrm8 _ hct
            have q8 : nativeFrameWords "java/lang/System" "arraycopy" 5 ≤ 100 := by decide
            omega
          have kk : ∀ (g : Nat → Int32) (H1 : Heap) (locs1 : List Loc), (∀ i, i < sp.toNatClampNeg + nn.toNatClampNeg → px_i (f i) = g i) → va_P D vwCl ((px_ws s0.heap.size cs ρ V).set dd (s0.heap.size + dd, .inl (cs.1, px_ln dd, .inl (va_cpy g (fun i => px_i (V dd i)) sp.toNatClampNeg dp.toNatClampNeg nn.toNatClampNeg)))) H1 → va_S (fun q => s0.heap.size ≤ q) s.heap H1 locs1 → W p l e R s m args below meth c H1 locs1 u.1 u.2 Z (F0 m (pc + 3) ls (st0.map (px_re ρ))) := by
            intro g H1 locs1 hg1 k1 k3
            rw [px_ws_set (V' := px_cpy V f dd sp.toNatClampNeg dp.toNatClampNeg nn.toNatClampNeg) (px_n_cpy (by omega)) (fun a ha => px_cpy_row ha) hdn (by rw [px_ce_int hkd, px_upd_c hg1])] at k1
            exact hK _ hKK H1 locs1 ls (by rw [px_n_cpy (by omega)]; exact h1) k1 k3 h4 (by rw [px_n_cpy (by omega)]; exact h5)
          show W p l e R s m args below meth c H locs u.1 u.2 Z (F0 m pc ls (.int nn :: .int dp :: .ref (ρ dd) :: .int sp :: .ref (ρ s9) :: st0.map (px_re ρ)))
          rw [px_rlt hE (Nat.lt_of_lt_of_le (Nat.lt_of_lt_of_le hdn h1) (by decide))]
          unfold px_arr at hf
          by_cases e1 : s9 = 1100
          · rw [if_pos e1] at hf
            cases hf
            subst e1
            rw [px_r1100 hE]
            exact va_copyx hx hb (by rw [hml, hsz]) hown (px_word hE hWm (px_link q).1 rfl) (px_word hE hWm w1 rfl) (px_word hE hWm w2 rfl) (px_word hE hWm w3 rfl) hKs h2 hD h3 (hXs hE.2.2.2.2.2.2.1.2.1 hE.2.2.2.2.2.2.1.2.2) (Nat.lt_of_lt_of_le hE.2.2.2.2.2.2.1.2.2 hs0) (Nat.not_le.mpr hE.2.2.2.2.2.2.1.2.2) dd 0 he rfl g1 g2 g3 g4 g5 (by omega) hloc hd (fun H1 locs1 k1 k2 k3 => kk _ H1 locs1 (fun i hi => rfl) k1 k3)
          · rw [if_neg e1, if_neg hne] at hf
            by_cases e3 : s9 < px_n V ∧ px_kd s9 = 20
            · rw [if_pos e3] at hf
              cases hf
              have he2 := px_ws_get (n0 := s0.heap.size) (cs := cs) (ρ := ρ) e3.1
              rw [px_ce_int e3.2] at he2
              rw [px_rlt hE (Nat.lt_of_lt_of_le (Nat.lt_of_lt_of_le e3.1 h1) (by decide))]
              exact va_copyi hx hb (by rw [hml, hsz]) hown (px_word hE hWm (px_link q).1 rfl) (px_word hE hWm w1 rfl) (px_word hE hWm w2 rfl) (px_word hE hWm w3 rfl) hKs h2 hD h3 s9 dd 0 0 he2 he rfl rfl rfl g1 g2 g3 g4 g5 (fun i hi => rfl) (by omega) hloc hd (fun H1 locs1 k1 k2 k3 => kk _ H1 locs1 (fun i hi => rfl) k1 k3)
            · rw [if_neg e3] at hf
              cases hf
        · exact h.elim
      · exact h.elim
    · exact h.elim
  · -- invokevirtual
    rename_i n
    obtain rfl : len = 3 := of_decide_eq_true hg
    split at h
    · rename_i mi a q
      obtain ⟨hst, hm, hne, hh, hk13, ⟨k, hhd, ⟨hkl, hkk⟩⟩, h⟩ := h
      unfold px_call at h
      obtain ⟨hn, hct, U1, U2, hC⟩ := h
      obtain ⟨r1, r2⟩ := hRc _ _ U1 U2
      have hMt := hIH mi _ V _ hm hne hC
      obtain ⟨q1, q2, q3, q4, q5, q6, q7, q8, q9, q10, q11, q12, q13, q14, q15⟩ := px_meth hm hne
      obtain ⟨e1, e2, e3⟩ := px_spl hhd
      have hiw : (Cond.instanceMethod (px_y mi)).before args s = true := px_word hE hWm (by rw [← show px_kindW mi = Cond.instanceMethod (px_y mi) by unfold px_kindW; rw [if_neg (by omega)]]; exact q3) rfl
      have hsw : (Cond.selects (px_cn (px_own mi)) (px_y mi) (px_y mi)).before args s = true := px_word hE hWm (by rw [← show px_selW mi = Cond.selects (px_cn (px_own mi)) (px_y mi) (px_y mi) by unfold px_selW; rw [if_pos hst]]; exact q4) rfl
      have he := px_ws_get (n0 := s0.heap.size) (cs := cs) (ρ := ρ) hkl
      rw [px_ce_obj hkk hk13] at he
      have hrc := va_recv hKs h2 (px_vwA hk13) he
      rw [← px_rlt hE (Nat.lt_of_lt_of_le (Nat.lt_of_lt_of_le hkl h1) (by decide))] at hrc
      intro T hT XX
      have hpre := px_pre (av := (st.take (a + 1)).reverse) hF h1 h2 h3 (hz T hT XX)
      have hav : ((st.take (a + 1)).reverse).map (px_re ρ) = Value.ref (ρ k) :: ((st.take a).reverse).map (px_re ρ) := by
        rw [e2, List.reverse_append]; rfl
      rw [hav] at hpre
      have hstk : st.map (px_re ρ) = (((st.take a).reverse).map (px_re ρ)).reverse ++ Value.ref (ρ k) :: (st.drop (a + 1)).map (px_re ρ) := by
        rw [px_tk ρ st a, e1]; rfl
      have hrun := vx_runV (H := H) (locs := locs) (cells := u.1) (slots := u.2) (e := e) (below := below) (meth := meth) (g := F0 m pc ls (st.map (px_re ρ))) (rest := (st.drop (a + 1)).map (px_re ρ)) (fix0 _ hb) hMt ⟨px_cb hF hE hm hne hh q hR1 hR2, hiw, hsw⟩ ⟨px_blind, hrc, hpre⟩ rfl (px_tkl ρ (by omega)) hsz hstk (hroom (a + 1) hct) hd ⟨r1, r2⟩
      have hW9 : W p l e R s m args below meth c H locs u.1 u.2 Z (F0 m pc ls (st.map (px_re ρ))) := px_after hrun h3 (fun r V' H1 locs1 hq => kr mi (a + 1) r V' H1 locs1 hq.1 hq.2) (fun k V' qa ce H1 locs1 g1 g2 g3 g4 hq => kx mi (a + 1) k V' qa ce H1 locs1 g1 g2 g3 g4 hq.1 hq.2)
      exact hW9 T hT XX
    · rename_i a b q
      split at h
      · rename_i k st0
        obtain ⟨⟨k1, k2⟩, hct, B1, B2, hKK⟩ := h
        obtain ⟨r1, r2⟩ := hRc _ _ B1 B2
        exact px_rlen hF hE hR1 hR2 hsz k1 k2 hct r1 r2 (px_link q).1 hd h3 (hK _ hKK H locs ls h1 h2 h3 h4 h5)
      · exact h.elim
    · rename_i a b q
      split at h
      · rename_i j k st0
        obtain ⟨⟨k1, k2⟩, hct, B1, B2, hin, hKK⟩ := h
        obtain ⟨r1, r2⟩ := hRc _ _ B1 B2
        exact px_rchr hF hE hR1 hR2 hsz k1 k2 hct hin r1 r2 (px_link q).1 hd h3 (hK _ hKK H locs ls h1 h2 h3 h4 h5)
      · exact h.elim
    · exact h.elim
  · -- invokespecial
    rename_i n
    obtain rfl : len = 3 := of_decide_eq_true hg
    split at h
    · rename_i mi a q
      obtain ⟨hst, hm, hne, hh, ⟨k, hhd⟩, h⟩ := h
      unfold px_callN at h
      obtain ⟨hn, hct, U1, U2, hC⟩ := h
      obtain ⟨r1, r2⟩ := hRc _ _ U1 U2
      have hMt := px_toMet (hIH mi _ V _ hm hne hC) (fun E st t q => by obtain ⟨⟨k, V', -, -, hq, -⟩, -⟩ := q; exact hq.2)
      obtain ⟨q1, q2, q3, q4, q5, q6, q7, q8, q9, q10, q11, q12, q13, q14, q15⟩ := px_meth hm hne
      obtain ⟨e1, e2, e3⟩ := px_spl hhd
      have hiw : (Cond.instanceMethod (px_y mi)).before args s = true := px_word hE hWm (by rw [← show px_kindW mi = Cond.instanceMethod (px_y mi) by unfold px_kindW; rw [if_neg (by omega)]]; exact q3) rfl
      have hy1 : (px_y mi).name = "<init>" := q11 ▸ hst
      have hret : px_ret (px_prog mi).2.2.2.1 = none := by rw [q14 hst]; rfl
      intro T hT XX
      have hpre := px_pre (av := (st.take (a + 1)).reverse) hF h1 h2 h3 (hz T hT XX)
      have hav : ((st.take (a + 1)).reverse).map (px_re ρ) = Value.ref (ρ k) :: ((st.take a).reverse).map (px_re ρ) := by
        rw [e2, List.reverse_append]; rfl
      rw [hav] at hpre
      have hstk : st.map (px_re ρ) = (((st.take a).reverse).map (px_re ρ)).reverse ++ Value.ref (ρ k) :: (st.drop (a + 1)).map (px_re ρ) := by
        rw [px_tk ρ st a, e1]; rfl
      have hcb := px_cb (args := args) hF hE hm hne hh q hR1 hR2
      rw [hret] at hcb
      have hrun := va_runI (H := H) (locs := locs) (cells := u.1) (slots := u.2) (e := e) (below := below) (meth := meth) (g := F0 m pc ls (st.map (px_re ρ))) (rest := (st.drop (a + 1)).map (px_re ρ)) (fix0 _ hb) hMt ⟨hcb, hy1, hiw⟩ ⟨px_blind, hpre⟩ rfl (px_tkl ρ (by omega)) hsz hstk (hroom (a + 1) hct) hd ⟨r1, r2⟩
      have hW9 : W p l e R s m args below meth c H locs u.1 u.2 Z (F0 m pc ls (st.map (px_re ρ))) := px_afterN hrun h3 (fun r V' H1 locs1 hq => kr mi (a + 1) r V' H1 locs1 hq.1 hq.2)
      exact hW9 T hT XX
    · rename_i mi a q
      obtain ⟨hst, hm, hne, hh, ⟨k, hhd⟩, h⟩ := h
      unfold px_callN at h
      obtain ⟨hn, hct, U1, U2, hC⟩ := h
      obtain ⟨r1, r2⟩ := hRc _ _ U1 U2
      have hMt := px_toMet (hIH mi _ V _ hm hne hC) (fun E st t q => by obtain ⟨⟨k, V', -, -, hq, -⟩, -⟩ := q; exact hq.2)
      obtain ⟨q1, q2, q3, q4, q5, q6, q7, q8, q9, q10, q11, q12, q13, q14, q15⟩ := px_meth hm hne
      obtain ⟨e1, e2, e3⟩ := px_spl hhd
      have hiw : (Cond.instanceMethod (px_y mi)).before args s = true := px_word hE hWm (by rw [← show px_kindW mi = Cond.instanceMethod (px_y mi) by unfold px_kindW; rw [if_neg (by omega)]]; exact q3) rfl
      have hy1 : (px_y mi).name = "<init>" := q11 ▸ hst
      have hret : px_ret (px_prog mi).2.2.2.1 = none := by rw [q14 hst]; rfl
      have hpar2 : (parseMethodDescriptor (px_y mi).desc).map (fun d => d.parameters.length) = some a := of_decide_eq_true (Bool.and_eq_true_iff.mp (px_link q).2).2
      have hcw : px_codeW mi (px_prog mi).2.2.2.2.2.2 = Cond.code (px_y mi) (px_by mi) (px_prog mi).2.2.2.2.1 none := by rw [hh, ← hret]; rfl
      have hnl : (Cond.methodLinkNest (px_cn M.2.1) n (px_y mi) "WirePost").before args s = true := va_Nw.use rfl (va_Nw.warmM hWm (va_Nw.of rfl (hE.2.2.1 _ (px_link q).1)))
      have cw : va_CN R s args (px_cn M.2.1) n (px_y mi) "WirePost" (px_by mi) (px_prog mi).2.2.2.2.1 none [px_codeW mi (px_prog mi).2.2.2.2.2.2] (px_rm d mi) (px_bud mi).1 (px_bud mi).2 a := by
        refine ⟨⟨rfl, rfl, ?_, ?_, ?_, ?_⟩, ?_, ?_, ⟨q12, q13⟩, ?_, hnl⟩
        · show 8 + d + 1 ≤ R.frames
          omega
        · show 8 + ((px_prog mi).2.2.2.2.1 + 11) + (300 + 60 * d) ≤ R.locals
          omega
        · intro w hw a' U hU
          rw [List.mem_singleton] at hw
          subst hw
          exact word_at (args := args) hU (good_of_word (px_good_code _ _)) (px_word hE hWm q1 (px_good_code _ _))
        · rw [hcw]; exact List.mem_singleton.mpr rfl
        · rw [← hcw]; exact px_word hE hWm q1 (px_good_code _ _)
        · rw [q6]; exact px_word hE hWm q2 rfl
        · intro sig hsig
          rw [hsig] at hpar2
          exact (Option.some.inj hpar2).symm
      intro T hT XX
      have hpre := px_pre (av := (st.take (a + 1)).reverse) hF h1 h2 h3 (hz T hT XX)
      have hav : ((st.take (a + 1)).reverse).map (px_re ρ) = Value.ref (ρ k) :: ((st.take a).reverse).map (px_re ρ) := by
        rw [e2, List.reverse_append]; rfl
      rw [hav] at hpre
      have hstk : st.map (px_re ρ) = (((st.take a).reverse).map (px_re ρ)).reverse ++ Value.ref (ρ k) :: (st.drop (a + 1)).map (px_re ρ) := by
        rw [px_tk ρ st a, e1]; rfl
      have hrun := va_runIN (H := H) (locs := locs) (cells := u.1) (slots := u.2) (e := e) (below := below) (meth := meth) (g := F0 m pc ls (st.map (px_re ρ))) (rest := (st.drop (a + 1)).map (px_re ρ)) (fix0 _ hb) hMt ⟨cw, hy1, hiw⟩ ⟨px_blind, hpre⟩ rfl (px_tkl ρ (by omega)) hsz hstk (hroom (a + 1) hct) hd ⟨r1, r2⟩
      have hW9 : W p l e R s m args below meth c H locs u.1 u.2 Z (F0 m pc ls (st.map (px_re ρ))) := px_afterN hrun h3 (fun r V' H1 locs1 hq => kr mi (a + 1) r V' H1 locs1 hq.1 hq.2)
      exact hW9 T hT XX
    · rename_i a b q
      split at h
      · rename_i k st0
        obtain ⟨w1, w2⟩ := px_objw
        exact W.objInit hx hb hown (px_word hE hWm (px_link q).1 rfl) (px_word hE hWm w1 rfl) (px_word hE hWm w2 rfl) rfl (by rw [hml]; exact hsz) rfl hd (by omega) (by have := hrm8 _ h.1; show 2 * 0 + _ + 12 ≤ _; omega) (hK _ h.2 H locs ls h1 h2 h3 h4 h5)
      · exact h.elim
    · exact h.elim
  · exact h.elim
end PXD
