/-! WHAT THE PURE MACHINE SAYS HOLDS OF THE MACHINE: the world, the frame, loads, arithmetic, branches. -/
def px_lens : List Nat := px_str.map List.length
def px_byts : List (List Int32) := px_str.map (fun t => t.map (fun x => Int32.ofNat x))
def px_Env (l : Launch) (s0 : State) (b0 : Nat) (X : Nat × (Nat → Int32)) (D : va_G) (cs : ClassId × ClassId × ClassId) (adK adV : Nat → Nat) (wo : Nat) (ρ : Nat → Nat) : Prop :=
  l.stackTraces = false ∧ ρ = px_rho s0.heap.size adK wo b0 ∧ (∀ w ∈ lw_tbl, w.before #[Value.ref b0] s0 = true) ∧
  va_K D vwCl [(cs.1, .int), (cs.2.1, .boolean), (cs.2.2, .long)] s0 ∧
  vk_S 25 px_lens px_byts adK adV (fun q => s0.heap.size ≤ q) s0 s0.heap ∧
  (∀ c idx a b, px_lk c idx = some (7, a, b) → vk_R (px_cn c) idx (px_txt a) (adK a) s0) ∧
  (va_Z "WirePost$Law" "WITHOUT" "[I" (.ref wo) (fun q => s0.heap.size ≤ q) s0 s0.heap ∧ va_X wo 7 (fun i => px_wo.getD i 0) s0 s0.heap ∧ wo < s0.heap.size) ∧
  (va_X b0 X.1 X.2 s0 s0.heap ∧ b0 < s0.heap.size ∧ X.1 ≤ 5120) ∧
  (vx_Zq Bundle.tN "UNASSIGNED_STACK" Bundle.steD (fun q => s0.heap.size ≤ q) s0 s0.heap ∧ vx_Zq Bundle.tN "SUPPRESSED_SENTINEL" Bundle.listD (fun q => s0.heap.size ≤ q) s0 s0.heap) ∧
  (∀ a b, a < 2 → b < 2 → a ≠ b → va_Nc (px_en a) (px_en b) s0) ∧ (∀ q ∈ [("java/lang/String", "COMPACT_STRINGS", "Z", (1 : Int32))], va_Z q.1 q.2.1 q.2.2.1 (.int q.2.2.2) (fun q => s0.heap.size ≤ q) s0 s0.heap) ∧ va_Zq "jdk/internal/util/Preconditions" "SIOOBE_FORMATTER" "Ljava/util/function/BiFunction;" (fun q => s0.heap.size ≤ q) s0 s0.heap
def px_Fr (s0 : State) (p : Program) (s : State) (m : MethodId) (meth : Method) (c : Code) (M : px_M) : Prop :=
  p.tables.exec = Jvm.exec ∧ c.code = px_by M.1 ∧ c.maxLocals = M.2.2.2.2.1 ∧ s.vm.findClass (px_cn M.2.1) = some m.cls ∧ s0.WarmedH s.vm ∧ s0.heap.size ≤ s.heap.size ∧ (∀ q, q < s0.heap.size → s.heap[q]? = s0.heap[q]?) ∧ meth.locks = false ∧ c.exceptionTable.toList = tableOf M.2.2.2.2.2.2 ∧ (M.2.2.1 = 1 → meth.name = "<init>") ∧ meth.sig.returnType = px_ret M.2.2.2.1
def px_G (s0 : State) (D : va_G) (cs : ClassId × ClassId × ClassId) (ρ : Nat → Nat) (p : Program) (l : Launch) (e : Env) (R : Room) (s : State) (m : MethodId) (args : Array Value) (below : List Frame) (meth : Method) (c : Code) (M : px_M) (Z : State → Prop) (σ : px_S) : Prop :=
  ∀ (H : Heap) (locs : List Loc) (ls : Array Slot), px_n σ.2.2.2.1 ≤ 103 → va_P D vwCl (px_ws s0.heap.size cs ρ σ.2.2.2.1) H → va_S (fun q => s0.heap.size ≤ q) s.heap H locs → px_LR ρ ls M.2.2.2.2.1 σ.2.1 → (px_n σ.2.2.2.1 < 103 → s.heap.size + σ.2.2.2.2.1 ≤ s0.heap.size + px_n σ.2.2.2.1) →
    W p l e R s m args below meth c H locs σ.2.2.2.2.1 σ.2.2.2.2.2 Z (F0 m σ.1 ls (σ.2.2.1.map (px_re ρ)))
theorem px_rho_s {n0 : Nat} {adK : Nat → Nat} {wo b0 a : Nat} (h : a < 100) : px_rho n0 adK wo b0 (1000 + a) = adK a := by
  unfold px_rho
  rw [if_neg (by omega), if_pos (by omega), Nat.add_sub_cancel_left]
/-! links -/
theorem px_lk_of {c idx k a b : Nat} : ∀ {t : List (Nat × Nat × Nat × Nat)} {ws : List Nat}, t.length = ws.length → (t.zip ws).all (px_lq c) = true → t.lookup idx = some (k, a, b) → px_wd c idx k a b ∈ tables_1 ∧ px_wx k a b = true
  | [], _, _, _, h => by cases h
  | _ :: _, [], hl, _, _ => by cases hl
  | (i, x) :: t, w :: ws, hl, ha, h => by
    rw [List.zip_cons_cons, List.all_cons, Bool.and_eq_true] at ha
    rw [List.lookup_cons] at h
    by_cases hi : idx = i
    · subst hi
      rw [beq_self_eq_true] at h
      cases h
      have h1 := ha.1
      unfold px_lq at h1
      rw [Bool.and_eq_true, decide_eq_true_eq] at h1
      exact ⟨List.mem_of_getElem? h1.1, h1.2⟩
    · rw [show (idx == i) = false from beq_eq_false_iff_ne.mpr hi] at h
      exact px_lk_of (Nat.succ.inj hl) ha.2 h
theorem px_lk_out {c idx : Nat} (h : 17 ≤ c) : px_lk c idx = none := by
  unfold px_lk
  rw [List.getD_eq_getElem?_getD, List.getElem?_eq_none (show px_lkL.length ≤ c from h)]
  rfl
theorem px_link {c idx k a b : Nat} (h : px_lk c idx = some (k, a, b)) : px_wd c idx k a b ∈ lw_tbl ∧ px_wx k a b = true := by
  have key : px_wd c idx k a b ∈ tables_1 ∧ px_wx k a b = true := by
    rcases Nat.lt_or_ge c 17 with hc | hc
    · have h17 : c = 0 ∨ c = 1 ∨ c = 2 ∨ c = 3 ∨ c = 4 ∨ c = 5 ∨ c = 6 ∨ c = 7 ∨ c = 8 ∨ c = 9 ∨ c = 10 ∨ c = 11 ∨ c = 12 ∨ c = 13 ∨ c = 14 ∨ c = 15 ∨ c = 16 := by omega
      rcases h17 with rfl | rfl | rfl | rfl | rfl | rfl | rfl | rfl | rfl | rfl | rfl | rfl | rfl | rfl | rfl | rfl | rfl
      · exact px_lk_of (by rw [px_lz0]; rfl) px_lq0 h
      · exact px_lk_of (by rw [px_lz1]; rfl) px_lq1 h
      · exact px_lk_of (by rw [px_lz2]; rfl) px_lq2 h
      · exact px_lk_of (by rw [px_lz3]; rfl) px_lq3 h
      · exact px_lk_of (by rw [px_lz4]; rfl) px_lq4 h
      · exact px_lk_of (by rw [px_lz5]; rfl) px_lq5 h
      · exact px_lk_of (by rw [px_lz6]; rfl) px_lq6 h
      · exact px_lk_of (by rw [px_lz7]; rfl) px_lq7 h
      · exact px_lk_of (by rw [px_lz8]; rfl) px_lq8 h
      · exact px_lk_of (by rw [px_lz9]; rfl) px_lq9 h
      · exact px_lk_of (by rw [px_lz10]; rfl) px_lq10 h
      · exact px_lk_of (by rw [px_lz11]; rfl) px_lq11 h
      · exact px_lk_of (by rw [px_lz12]; rfl) px_lq12 h
      · exact px_lk_of (by rw [px_lz13]; rfl) px_lq13 h
      · exact px_lk_of (by rw [px_lz14]; rfl) px_lq14 h
      · exact px_lk_of (by rw [px_lz15]; rfl) px_lq15 h
      · exact px_lk_of (by rw [px_lz16]; rfl) px_lq16 h
    · rw [px_lk_out hc] at h; cases h
  exact ⟨List.mem_append_right _ key.1, key.2⟩
section PXS
variable {l : Launch} {s0 : State} {b0 : Nat} {X : Nat × (Nat → Int32)} {D : va_G} {cs : ClassId × ClassId × ClassId} {adK adV : Nat → Nat} {wo : Nat} {ρ : Nat → Nat}
variable {p : Program} {e : Env} {R : Room} {s : State} {m : MethodId} {args : Array Value} {below : List Frame} {meth : Method} {c : Code} {Z : State → Prop} {M : px_M}
/-- a word of the tables, at a state that came from the law's start -/
theorem px_word {a' : Array Value} {w : Cond} (hE : px_Env l s0 b0 X D cs adK adV wo ρ) (hW : s0.WarmedH s.vm) (hw : w ∈ lw_tbl) (hg : goodWord w = true) : w.before a' s = true := word_at hW (good_of_word hg) (hE.2.2.1 w hw)
theorem px_ldcwS {H : Heap} {locs : List Loc} {cells slots : Nat} {Q : State → Prop} {cc : ByteArray} {pc : Nat} {ls : Array Slot} {rest : List Value} (hexec : p.tables.exec = Jvm.exec) (hb : c.code = cc) {own tx : String} {index q : Nat} (hown : s.vm.findClass own = some m.cls) (hZ : vk_R own index tx q s) (hdg : decode cc pc = .ok (.ldc_w index, 3))
    (k : W p l e R s m args below meth c H locs cells slots Q (F0 m (pc + 3) ls (.ref q :: rest))) : W p l e R s m args below meth c H locs cells slots Q (F0 m pc ls rest) := by
  intro T hT X
  obtain ⟨t, a1, b1⟩ := k T hT X
  refine ⟨t, ?_, b1⟩
  obtain ⟨kk, cf, i, a', hk, hcf, hcp, -, hr, hev'⟩ := Cond.stringRef_spec hown hZ.1
  cases hZ.2.symm.trans hev'
  obtain ⟨k', hk', he⟩ := X.warmed.alike.2.2 _ _ hk
  have hr' : k'.resolved[index]? = some (some (.string q)) := by
    rcases X.warmed.entry hk hk' index with h | ⟨h, -⟩
    · rw [h]; exact hr
    · rw [hr] at h; cases h
  have hdg' : decode c.code (F0 m pc ls rest).pc = .ok (.ldc_w index, 3) := by rw [hb]; exact hdg
  jvm_step X.here [hexec, hdg', ldc_w.wp_string (e := e) (s := T) (f := F0 m pc ls rest) X.here.top hk' (by rw [he]; exact hcf) hcp hr']
  exact a1
set_option maxHeartbeats 4000000 in
theorem px_s1 (hF : px_Fr s0 p s m meth c M) (hE : px_Env l s0 b0 X D cs adK adV wo ρ) {i : Instr} {len pc : Nat} {L : px_L} {st : List Value} {V : px_V} {u : Nat × Nat} {K : px_S → Prop} (hd : decode (px_by M.1) pc = .ok (i, len)) (hg : px_good pc i len = true)
    (h : px_act1 M i pc L st V u K) (hK : ∀ σ, K σ → px_G s0 D cs ρ p l e R s m args below meth c M Z σ) : px_G s0 D cs ρ p l e R s m args below meth c M Z (pc, L, st, V, u) := by
  have hx := hF.1
  have hb := hF.2.1
  have hown := hF.2.2.2.1
  have hWm := hF.2.2.2.2.1
  intro H locs ls h1 h2 h3 h4 h5
  unfold px_act1 at h
  split at h
  · obtain rfl : len = 1 := of_decide_eq_true hg
    exact lv_iconst hx hb hd rfl (hK _ h H locs ls h1 h2 h3 h4 h5)
  · obtain rfl : len = 2 := of_decide_eq_true hg
    exact lv_bipush hx hb hd rfl (hK _ h H locs ls h1 h2 h3 h4 h5)
  · obtain rfl : len = 3 := of_decide_eq_true hg
    exact lv_sipush hx hb hd rfl (hK _ h H locs ls h1 h2 h3 h4 h5)
  · obtain rfl : len = 1 := of_decide_eq_true hg
    exact lv_lconst hx hb hd rfl (hK _ h H locs ls h1 h2 h3 h4 h5)
  · obtain rfl : len = 1 := of_decide_eq_true hg
    split at h
    · rename_i q
      exact lv_iload_n hx hb hd rfl (h4.at q) (hK _ h H locs ls h1 h2 h3 h4 h5)
    · exact h.elim
  · obtain rfl : len = 2 := of_decide_eq_true hg
    split at h
    · rename_i q
      exact lv_iload hx hb hd (h4.at q) (hK _ h H locs ls h1 h2 h3 h4 h5)
    · exact h.elim
  · obtain rfl : len = 1 := of_decide_eq_true hg
    split at h
    · rename_i q
      exact lv_lload_n hx hb hd rfl (h4.at q) (hK _ h H locs ls h1 h2 h3 h4 h5)
    · exact h.elim
  · obtain rfl : len = 2 := of_decide_eq_true hg
    split at h
    · rename_i q
      exact lv_lload hx hb hd (h4.at q) (hK _ h H locs ls h1 h2 h3 h4 h5)
    · exact h.elim
  · obtain rfl : len = 1 := of_decide_eq_true hg
    split at h
    · rename_i q
      exact lv_aload_n hx hb hd rfl (h4.at q) (hK _ h H locs ls h1 h2 h3 h4 h5)
    · exact h.elim
  · obtain rfl : len = 2 := of_decide_eq_true hg
    split at h
    · rename_i q
      exact lv_aload hx hb hd (h4.at q) (hK _ h H locs ls h1 h2 h3 h4 h5)
    · exact h.elim
  · obtain rfl : len = 1 := of_decide_eq_true hg
    exact lv_istore_n hx hb hd rfl h4.1 (by rw [← h4.2]; exact h.1) rfl (fun ls' hl' => hK _ h.2 H locs ls' h1 h2 h3 (px_LR_st1 (Or.inr ⟨_, rfl, rfl⟩) hl' h4.2) h5)
  · obtain rfl : len = 2 := of_decide_eq_true hg
    exact lv_istore hx hb hd h4.1 (by rw [← h4.2]; exact h.1) rfl (fun ls' hl' => hK _ h.2 H locs ls' h1 h2 h3 (px_LR_st1 (Or.inr ⟨_, rfl, rfl⟩) hl' h4.2) h5)
  · obtain rfl : len = 1 := of_decide_eq_true hg
    exact lv_astore_n hx hb hd rfl h4.1 (by rw [← h4.2]; exact h.1) rfl (fun ls' hl' => hK _ h.2 H locs ls' h1 h2 h3 (px_LR_st1 (Or.inr ⟨_, rfl, rfl⟩) hl' h4.2) h5)
  · obtain rfl : len = 2 := of_decide_eq_true hg
    exact lv_astore hx hb hd h4.1 (by rw [← h4.2]; exact h.1) rfl (fun ls' hl' => hK _ h.2 H locs ls' h1 h2 h3 (px_LR_st1 (Or.inr ⟨_, rfl, rfl⟩) hl' h4.2) h5)
  · obtain rfl : len = 2 := of_decide_eq_true hg
    exact lv_lstore hx hb hd h4.1 (by rw [← h4.2]; exact h.1) rfl (fun ls' hl' => hK _ h.2 H locs ls' h1 h2 h3 (px_LR_st2 hl' h4.2) h5)
  · obtain rfl : len = 3 := of_decide_eq_true hg
    split at h
    · rename_i x q
      have hm : (_, Value.int x) ∈ px_as ρ L := px_as_mem.mpr ⟨.int x, q, rfl⟩
      obtain ⟨k, hk⟩ := List.getElem?_of_mem hm
      exact lv_iinc hx hb hd h4.1 hk rfl (by rw [← h4.2]; exact h.1) rfl (fun ls' hl' => hK _ h.2 H locs ls' h1 h2 h3 (px_LR_st1 (Or.inr ⟨_, rfl, rfl⟩) hl' h4.2) h5)
    · exact h.elim
  · obtain rfl : len = 1 := of_decide_eq_true hg
    exact lv_iadd hx hb hd (hK _ h H locs ls h1 h2 h3 h4 h5)
  · obtain rfl : len = 1 := of_decide_eq_true hg
    exact lv_isub hx hb hd (hK _ h H locs ls h1 h2 h3 h4 h5)
  · obtain rfl : len = 1 := of_decide_eq_true hg
    exact lv_imul hx hb hd (hK _ h H locs ls h1 h2 h3 h4 h5)
  · obtain rfl : len = 1 := of_decide_eq_true hg
    exact lv_idiv hx hb hd h.1 (hK _ h.2 H locs ls h1 h2 h3 h4 h5)
  · obtain rfl : len = 1 := of_decide_eq_true hg
    exact lv_irem hx hb hd h.1 (hK _ h.2 H locs ls h1 h2 h3 h4 h5)
  · obtain rfl : len = 1 := of_decide_eq_true hg
    exact lv_ineg hx hb hd (hK _ h H locs ls h1 h2 h3 h4 h5)
  · obtain rfl : len = 1 := of_decide_eq_true hg
    exact lv_iand hx hb hd (hK _ h H locs ls h1 h2 h3 h4 h5)
  · obtain rfl : len = 1 := of_decide_eq_true hg
    exact lv_ior hx hb hd (hK _ h H locs ls h1 h2 h3 h4 h5)
  · obtain rfl : len = 1 := of_decide_eq_true hg
    exact lv_ixor hx hb hd (hK _ h H locs ls h1 h2 h3 h4 h5)
  · obtain rfl : len = 1 := of_decide_eq_true hg
    exact lv_ishl hx hb hd (hK _ h H locs ls h1 h2 h3 h4 h5)
  · obtain rfl : len = 1 := of_decide_eq_true hg
    exact lv_ishr hx hb hd (hK _ h H locs ls h1 h2 h3 h4 h5)
  · obtain rfl : len = 1 := of_decide_eq_true hg
    exact lv_iushr hx hb hd rfl (hK _ h H locs ls h1 h2 h3 h4 h5)
  · obtain rfl : len = 1 := of_decide_eq_true hg
    exact lv_i2l hx hb hd rfl (hK _ h H locs ls h1 h2 h3 h4 h5)
  · obtain rfl : len = 1 := of_decide_eq_true hg
    exact lv_lmul hx hb hd (hK _ h H locs ls h1 h2 h3 h4 h5)
  · obtain rfl : len = 1 := of_decide_eq_true hg
    exact lv_ldiv hx hb hd h.1 (hK _ h.2 H locs ls h1 h2 h3 h4 h5)
  · obtain rfl : len = 1 := of_decide_eq_true hg
    exact lv_lrem hx hb hd h.1 (hK _ h.2 H locs ls h1 h2 h3 h4 h5)
  · obtain rfl : len = 1 := of_decide_eq_true hg
    exact W.lcmp hx hb hd (hK _ h H locs ls h1 h2 h3 h4 h5)
  · obtain rfl : len = 1 := of_decide_eq_true hg
    exact lv_dup hx hb hd (by rw [px_re_cat]; exact h.1) (hK _ h.2 H locs ls h1 h2 h3 h4 h5)
  · obtain rfl : len = 1 := of_decide_eq_true hg
    exact lv_dup2_11 hx hb hd (by rw [px_re_cat]; exact h.1) (by rw [px_re_cat]; exact h.2.1) (hK _ h.2.2 H locs ls h1 h2 h3 h4 h5)
  · obtain rfl : len = 1 := of_decide_eq_true hg
    exact lv_pop hx hb hd (by rw [px_re_cat]; exact h.1) (hK _ h.2 H locs ls h1 h2 h3 h4 h5)
  · obtain rfl : len = 2 := of_decide_eq_true hg
    split at h
    · rename_i q
      exact lv_ldc hx hb hown (px_word hE hWm (px_link q).1 rfl) hd (hK _ h H locs ls h1 h2 h3 h4 h5)
    · rename_i a b q
      have ha : a < 25 := of_decide_eq_true (px_link q).2
      refine va_ldcS (q := ρ (1000 + a)) (tx := px_txt a) hx hb hown ?_ hd (hK _ h H locs ls h1 h2 h3 h4 h5)
      rw [hE.2.1, px_rho_s (by omega)]
      exact vk_R.warm hWm (hE.2.2.2.2.2.1 _ _ _ _ q)
    · exact h.elim
  · obtain rfl : len = 3 := of_decide_eq_true hg
    split at h
    · rename_i q
      exact lv_ldcw hx hb hown (px_word hE hWm (px_link q).1 rfl) hd (hK _ h H locs ls h1 h2 h3 h4 h5)
    · rename_i a b q
      have ha : a < 25 := of_decide_eq_true (px_link q).2
      refine px_ldcwS (q := ρ (1000 + a)) (tx := px_txt a) hx hb hown ?_ hd (hK _ h H locs ls h1 h2 h3 h4 h5)
      rw [hE.2.1, px_rho_s (by omega)]
      exact vk_R.warm hWm (hE.2.2.2.2.2.1 _ _ _ _ q)
    · exact h.elim
  · obtain rfl : len = 3 := of_decide_eq_true hg
    split at h
    · rename_i q
      exact lv_ldc2 hx hb hown (px_word hE hWm (px_link q).1 rfl) hd (hK _ h H locs ls h1 h2 h3 h4 h5)
    · exact h.elim
  · exact h.elim
theorem px_tgt {pc : Nat} {o : Int} (h : 0 ≤ (pc : Int) + o) : (pc : Int) + o = ((px_tg pc o : Nat) : Int) := by
  unfold px_tg
  omega
set_option maxHeartbeats 4000000 in
theorem px_s2 (hF : px_Fr s0 p s m meth c M) {i : Instr} {len pc : Nat} {L : px_L} {st : List Value} {V : px_V} {u : Nat × Nat} {K : px_S → Prop} (hd : decode (px_by M.1) pc = .ok (i, len)) (hg : px_good pc i len = true)
    (h : px_act2 i pc L st V u K) (hK : ∀ σ, K σ → px_G s0 D cs ρ p l e R s m args below meth c M Z σ) : px_G s0 D cs ρ p l e R s m args below meth c M Z (pc, L, st, V, u) := by
  have hx := hF.1
  have hb := hF.2.1
  intro H locs ls h1 h2 h3 h4 h5
  have br : ∀ {o : Int}, (decide (0 ≤ (pc : Int) + o) && decide (len = 3)) = true → (pc : Int) + o = ((px_tg pc o : Nat) : Int) ∧ len = 3 := by
    intro o q
    rw [Bool.and_eq_true, decide_eq_true_eq, decide_eq_true_eq] at q
    exact ⟨px_tgt q.1, q.2⟩
  unfold px_act2 at h
  split at h
  · obtain ⟨ht, rfl⟩ := br hg
    exact lv_goto hx hb hd ht (hK _ h H locs ls h1 h2 h3 h4 h5)
  · obtain ⟨ht, rfl⟩ := br hg
    exact lv_if_eq hx hb hd ht (fun q => by rw [if_pos q] at h; exact hK _ h H locs ls h1 h2 h3 h4 h5) (fun q => by rw [if_neg q] at h; exact hK _ h H locs ls h1 h2 h3 h4 h5)
  · obtain ⟨ht, rfl⟩ := br hg
    exact lv_if_ne hx hb hd ht (fun q => by rw [if_neg q] at h; exact hK _ h H locs ls h1 h2 h3 h4 h5) (fun q => by rw [if_pos q] at h; exact hK _ h H locs ls h1 h2 h3 h4 h5)
  · obtain ⟨ht, rfl⟩ := br hg
    exact lv_if_lt hx hb hd ht (fun q => by rw [if_pos q] at h; exact hK _ h H locs ls h1 h2 h3 h4 h5) (fun q => by rw [if_neg q] at h; exact hK _ h H locs ls h1 h2 h3 h4 h5)
  · obtain ⟨ht, rfl⟩ := br hg
    exact lv_if_ge hx hb hd ht (fun q => by rw [if_neg (Int32.not_lt.mpr q)] at h; exact hK _ h H locs ls h1 h2 h3 h4 h5) (fun q => by rw [if_pos (Int32.not_le.mp q)] at h; exact hK _ h H locs ls h1 h2 h3 h4 h5)
  · obtain ⟨ht, rfl⟩ := br hg
    exact lv_if_gt hx hb hd ht (fun q => by rw [if_pos q] at h; exact hK _ h H locs ls h1 h2 h3 h4 h5) (fun q => by rw [if_neg q] at h; exact hK _ h H locs ls h1 h2 h3 h4 h5)
  · obtain ⟨ht, rfl⟩ := br hg
    exact lv_if_le hx hb hd ht (fun q => by rw [if_neg (Int32.not_lt.mpr q)] at h; exact hK _ h H locs ls h1 h2 h3 h4 h5) (fun q => by rw [if_pos (Int32.not_le.mp q)] at h; exact hK _ h H locs ls h1 h2 h3 h4 h5)
  · obtain ⟨ht, rfl⟩ := br hg
    exact lv_icmp_eq hx hb hd ht (fun q => by rw [if_pos q] at h; exact hK _ h H locs ls h1 h2 h3 h4 h5) (fun q => by rw [if_neg q] at h; exact hK _ h H locs ls h1 h2 h3 h4 h5)
  · obtain ⟨ht, rfl⟩ := br hg
    exact lv_icmp_ne hx hb hd ht (fun q => by rw [if_neg q] at h; exact hK _ h H locs ls h1 h2 h3 h4 h5) (fun q => by rw [if_pos q] at h; exact hK _ h H locs ls h1 h2 h3 h4 h5)
  · obtain ⟨ht, rfl⟩ := br hg
    exact lv_icmp_lt hx hb hd ht (fun q => by rw [if_pos q] at h; exact hK _ h H locs ls h1 h2 h3 h4 h5) (fun q => by rw [if_neg q] at h; exact hK _ h H locs ls h1 h2 h3 h4 h5)
  · obtain ⟨ht, rfl⟩ := br hg
    exact lv_icmp_ge hx hb hd ht (fun q => by rw [if_neg (Int32.not_lt.mpr q)] at h; exact hK _ h H locs ls h1 h2 h3 h4 h5) (fun q => by rw [if_pos (Int32.not_le.mp q)] at h; exact hK _ h H locs ls h1 h2 h3 h4 h5)
  · obtain ⟨ht, rfl⟩ := br hg
    exact lv_icmp_gt hx hb hd ht (fun q => by rw [if_pos q] at h; exact hK _ h H locs ls h1 h2 h3 h4 h5) (fun q => by rw [if_neg q] at h; exact hK _ h H locs ls h1 h2 h3 h4 h5)
  · obtain ⟨ht, rfl⟩ := br hg
    exact lv_icmp_le hx hb hd ht (fun q => by rw [if_neg (Int32.not_lt.mpr q)] at h; exact hK _ h H locs ls h1 h2 h3 h4 h5) (fun q => by rw [if_pos (Int32.not_le.mp q)] at h; exact hK _ h H locs ls h1 h2 h3 h4 h5)
  · rename_i d lo hi offs x st0
    have hg2 : (decide (0 ≤ (pc : Int) + d) && offs.toList.all (fun o => decide (0 ≤ (pc : Int) + o))) = true := hg
    rw [Bool.and_eq_true, decide_eq_true_eq] at hg2
    by_cases hr : x.toInt < lo ∨ hi < x.toInt
    · rw [if_pos hr] at h
      exact lv_tableOut hx hb hd hr (px_tgt hg2.1) (hK _ h H locs ls h1 h2 h3 h4 h5)
    · rw [if_neg hr] at h
      split at h
      · rename_i o ho
        have ho2 : 0 ≤ (pc : Int) + o := of_decide_eq_true (List.all_eq_true.mp hg2.2 o (List.mem_of_getElem? ho))
        exact lv_tableIn hx hb hd (fun q => hr (Or.inl q)) (fun q => hr (Or.inr q)) (by rw [← Array.getElem?_toList]; exact ho) (px_tgt ho2) (hK _ h H locs ls h1 h2 h3 h4 h5)
      · exact h.elim
  · rename_i d ps x st0
    have hg2 : (decide (0 ≤ (pc : Int) + d) && ps.toList.all (fun q => decide (0 ≤ (pc : Int) + q.2)) && (ps.toList.zip (ps.toList.drop 1)).all (fun (a, next) => decide (a.1 < next.1)) && ps.toList.all (fun q => decide (-2147483648 ≤ q.1) && decide (q.1 < 2147483648))) = true := hg
    rw [Bool.and_eq_true, Bool.and_eq_true, Bool.and_eq_true, decide_eq_true_eq] at hg2
    obtain ⟨⟨⟨g1, g2⟩, g3⟩, -⟩ := hg2
    have ek : ∀ t : List (Int × Int), Op.lookupswitch.offset t d x.toInt = px_look t d x.toInt := by
      intro t
      induction t with
      | nil => rfl
      | cons a r ih =>
        obtain ⟨a, o⟩ := a
        unfold px_look
        by_cases hq : x.toInt = a
        · rw [if_pos hq]
          simp [Op.lookupswitch.offset, hq]
        · rw [if_neg hq, ← ih]
          simp [Op.lookupswitch.offset, Ne.symm hq]
    have ep : ∀ t : List (Int × Int), t.all (fun q => decide (0 ≤ (pc : Int) + q.2)) = true → 0 ≤ (pc : Int) + px_look t d x.toInt := by
      intro t ht
      induction t with
      | nil => exact g1
      | cons a r ih =>
        obtain ⟨a, o⟩ := a
        rw [List.all_cons, Bool.and_eq_true, decide_eq_true_eq] at ht
        unfold px_look
        split
        · exact ht.1
        · exact ih ht.2
    exact lv_lookup hx hb hd g3 (ek _) (px_tgt (ep _ g2)) (hK _ h H locs ls h1 h2 h3 h4 h5)
  · exact h.elim
end PXS
