/-! THE PURE MEMORY AND THE MACHINE'S HEAP. -/
def px_rho (n0 : Nat) (adK : Nat → Nat) (wo b0 k : Nat) : Nat := if k < 1000 then n0 + k else if k < 1100 then adK (k - 1000) else if k = 1100 then wo else b0
def px_re (ρ : Nat → Nat) (v : Value) : Value := match v with
  | .ref k => .ref (ρ k)
  | v => v
def px_ce (cs : ClassId × ClassId × ClassId) (ρ : Nat → Nat) (V : px_V) (k : Nat) : va_E :=
  if px_kd k = 20 then .inl (cs.1, px_ln k, .inl (fun i => px_i (V k i)))
  else if px_kd k = 21 then .inl (cs.2.1, px_ln k, .inl (fun i => px_i (V k i)))
  else if px_kd k = 22 then .inl (cs.2.2, px_ln k, .inr (.inl (fun i => px_l (V k i))))
  else .inr (px_kd k, (List.range (px_nf (px_kd k))).map (fun j => px_re ρ (V k j)))
def px_ws (n0 : Nat) (cs : ClassId × ClassId × ClassId) (ρ : Nat → Nat) (V : px_V) : va_W := (List.range (px_n V)).map (fun k => (n0 + k, px_ce cs ρ V k))
theorem px_re_cat (ρ : Nat → Nat) (v : Value) : (px_re ρ v).category = v.category := by cases v <;> rfl
theorem px_cat_map (ρ : Nat → Nat) (st : List Value) : ((st.map (px_re ρ)).map fun v => v.category).sum = px_cat st := by
  unfold px_cat
  rw [List.map_map]
  congr 1
  apply List.map_congr_left
  intro v _
  exact px_re_cat ρ v
section PXW
variable {n0 : Nat} {cs : ClassId × ClassId × ClassId} {ρ : Nat → Nat} {V V' : px_V} {k i : Nat} {v : Value}
theorem px_ws_len : (px_ws n0 cs ρ V).length = px_n V := by simp [px_ws]
theorem px_ws_get (h : k < px_n V) : (px_ws n0 cs ρ V)[k]? = some (n0 + k, px_ce cs ρ V k) := by simp [px_ws, h]
theorem px_ws_D : va_D (fun q => n0 ≤ q) (px_ws n0 cs ρ V) := by
  have key : ∀ (i : Nat) (x : Nat × va_E), (px_ws n0 cs ρ V)[i]? = some x → x.1 = n0 + i := by
    intro i x h
    have hi : i < px_n V := by have := (List.getElem?_eq_some_iff.mp h).1; rwa [px_ws_len] at this
    rw [px_ws_get hi] at h
    cases h
    rfl
  refine ⟨fun i j x y hx hy hxy => ?_, fun i x hx => ?_⟩
  · have h1 := key i x hx
    have h2 := key j y hy
    omega
  · have h1 := key i x hx
    show n0 ≤ x.1
    omega
theorem px_n_set (h : k < 2000) : px_n (px_set V k i v) = px_n V := by
  have e : px_set V k i v 2000 0 = V 2000 0 := by
    unfold px_set
    rw [if_neg]
    omega
  unfold px_n
  rw [e]
theorem px_n_cpy {src : Nat → Value} {d sp dp n : Nat} (h : d < 2000) : px_n (px_cpy V src d sp dp n) = px_n V := by
  have e : px_cpy V src d sp dp n 2000 0 = V 2000 0 := by
    unfold px_cpy
    rw [if_neg]
    omega
  unfold px_n
  rw [e]
theorem px_n_new {row : Nat → Value} {N : Nat} (h : N < 2000) : px_n (px_new V N row) = N + 1 := by
  have e : px_new V N row 2000 0 = .ref (N + 1) := by
    unfold px_new
    rw [if_neg (by omega), if_pos ⟨rfl, rfl⟩]
  unfold px_n
  rw [e]
theorem px_ce_row (h : V' k = V k) : px_ce cs ρ V' k = px_ce cs ρ V k := by unfold px_ce; rw [h]
theorem px_ws_set {E : va_E} (hn : px_n V' = px_n V) (hr : ∀ j, j ≠ k → V' j = V j) (hk : k < px_n V) (he : E = px_ce cs ρ V' k) : (px_ws n0 cs ρ V).set k (n0 + k, E) = px_ws n0 cs ρ V' := by
  subst he
  apply List.ext_getElem?
  intro j
  rw [List.getElem?_set]
  by_cases hj : k = j
  · subst hj
    rw [if_pos rfl, px_ws_len, if_pos hk, px_ws_get (by rw [hn]; exact hk)]
  · rw [if_neg hj]
    by_cases hl : j < px_n V
    · rw [px_ws_get hl, px_ws_get (by rw [hn]; exact hl), px_ce_row (hr j (fun h => hj h.symm))]
    · rw [List.getElem?_eq_none (by rw [px_ws_len]; omega), List.getElem?_eq_none (by rw [px_ws_len]; omega)]
theorem px_set_row {j : Nat} (h : j ≠ k) : px_set V k i v j = V j := by
  funext b
  unfold px_set
  rw [if_neg (fun q => h q.1)]
theorem px_cpy_row {src : Nat → Value} {d sp dp n j : Nat} (h : j ≠ d) : px_cpy V src d sp dp n j = V j := by
  funext b
  unfold px_cpy
  rw [if_neg (fun q => h q.1)]
theorem px_ce_int (h : px_kd k = 20) : px_ce cs ρ V k = .inl (cs.1, px_ln k, .inl (fun i => px_i (V k i))) := by unfold px_ce; rw [if_pos h]
theorem px_ce_boo (h : px_kd k = 21) : px_ce cs ρ V k = .inl (cs.2.1, px_ln k, .inl (fun i => px_i (V k i))) := by unfold px_ce; rw [if_neg (by omega), if_pos h]
theorem px_ce_lon (h : px_kd k = 22) : px_ce cs ρ V k = .inl (cs.2.2, px_ln k, .inr (.inl (fun i => px_l (V k i)))) := by unfold px_ce; rw [if_neg (by omega), if_neg (by omega), if_pos h]
theorem px_ce_obj {c : Nat} (h : px_kd k = c) (hc : c < 13) : px_ce cs ρ V k = .inr (c, (List.range (px_nf c)).map (fun j => px_re ρ (V k j))) := by
  unfold px_ce
  rw [if_neg (by omega), if_neg (by omega), if_neg (by omega), h]
theorem px_fs_get {n j : Nat} (h : j < n) : ((List.range n).map (fun j => px_re ρ (V k j)))[j]? = some (px_re ρ (V k j)) := by simp [h]
theorem px_fs_set {n j : Nat} : ((List.range n).map (fun j => px_re ρ (V k j))).set j (px_re ρ v) = (List.range n).map (fun b => px_re ρ (px_set V k j v k b)) := by
  apply List.ext_getElem?
  intro b
  rw [List.getElem?_set]
  by_cases hb : j = b
  · subst hb
    by_cases hl : j < n
    · simp [hl, px_set]
    · simp [hl]
  · rw [if_neg hb]
    by_cases hl : b < n
    · simp [hl, px_set, Ne.symm hb]
    · simp [hl]
theorem px_upd_i {j : Nat} {x : Int32} : upd (fun i => px_i (V k i)) j x = fun i => px_i (px_set V k j (.int x) k i) := by
  funext b
  unfold upd px_set
  by_cases h : b = j
  · rw [if_pos h, if_pos ⟨rfl, h⟩]; rfl
  · rw [if_neg h, if_neg (fun q => h q.2)]
theorem px_upd_l {j : Nat} {x : Int64} : vp_updL (fun i => px_l (V k i)) j x = fun i => px_l (px_set V k j (.long x) k i) := by
  funext b
  unfold vp_updL px_set
  by_cases h : b = j
  · rw [if_pos h, if_pos ⟨rfl, h⟩]; rfl
  · rw [if_neg h, if_neg (fun q => h q.2)]
theorem px_upd_c {src : Nat → Value} {d sp dp n : Nat} {f : Nat → Int32} (hf : ∀ i, i < sp + n → px_i (src i) = f i) : va_cpy f (fun i => px_i (V d i)) sp dp n = fun i => px_i (px_cpy V src d sp dp n d i) := by
  funext b
  unfold va_cpy px_cpy
  by_cases h : dp ≤ b ∧ b < dp + n
  · rw [if_pos h, if_pos ⟨rfl, h⟩, hf _ (by omega)]
  · rw [if_neg h, if_neg (fun q => h q.2)]
end PXW
/-! locals -/
def px_as (ρ : Nat → Nat) (L : px_L) : List (Nat × Value) := (List.range L.length).filterMap (fun i => (px_ld L i).map (fun v => (i, px_re ρ v)))
theorem px_ld_lt {L : px_L} {i : Nat} {v : Value} (h : px_ld L i = some v) : i < L.length := by
  unfold px_ld at h
  by_cases hi : i < L.length
  · exact hi
  · rw [List.getElem?_eq_none (by omega)] at h
    cases h
theorem px_ld_at {L : px_L} {i : Nat} {v : Value} : px_ld L i = some v ↔ L[i]? = some (some v) := by
  unfold px_ld
  cases h : L[i]? with
  | none => simp
  | some o => cases o <;> simp
theorem px_as_mem {ρ : Nat → Nat} {L : px_L} {q : Nat × Value} : q ∈ px_as ρ L ↔ ∃ v, px_ld L q.1 = some v ∧ q.2 = px_re ρ v := by
  unfold px_as
  rw [List.mem_filterMap]
  constructor
  · rintro ⟨i, -, h⟩
    cases hl : px_ld L i with
    | none => rw [hl] at h; cases h
    | some v => rw [hl] at h; cases h; exact ⟨v, hl, rfl⟩
  · rintro ⟨v, h1, h2⟩
    exact ⟨q.1, List.mem_range.mpr (px_ld_lt h1), by rw [h1]; obtain ⟨a, b⟩ := q; cases h2; rfl⟩
def px_LR (ρ : Nat → Nat) (ls : Array Slot) (n : Nat) (L : px_L) : Prop := lv_has ls n (px_as ρ L) ∧ L.length = n
theorem px_LR.at {ρ : Nat → Nat} {ls : Array Slot} {n : Nat} {L : px_L} (h : px_LR ρ ls n L) {i : Nat} {v : Value} (hl : px_ld L i = some v) : ls[i]? = some (.val (px_re ρ v)) := h.1.2.2 (i, px_re ρ v) (px_as_mem.mpr ⟨v, hl, rfl⟩)
theorem px_kill_ld {L : px_L} {i j : Nat} {v : Value} (h : px_ld (px_kill L i) j = some v) : px_ld L j = some v ∧ ¬ (j + 1 = i ∧ v.category = 2) := by
  cases i with
  | zero => exact ⟨h, fun q => by omega⟩
  | succ a =>
    unfold px_kill at h
    dsimp only at h
    cases ha : L[a]? with
    | none =>
      rw [ha] at h
      refine ⟨h, fun q => ?_⟩
      have e : j = a := by omega
      subst e
      have := px_ld_at.mp h
      rw [ha] at this
      cases this
    | some o =>
      cases o with
      | none =>
        rw [ha] at h
        refine ⟨h, fun q => ?_⟩
        have e : j = a := by omega
        subst e
        have := px_ld_at.mp h
        rw [ha] at this
        cases this
      | some w =>
        rw [ha] at h
        dsimp only at h
        by_cases hc : w.category = 2
        · rw [if_pos hc] at h
          have h1 := px_ld_at.mp h
          rw [List.getElem?_set] at h1
          by_cases hj : a = j
          · subst hj
            rw [if_pos rfl] at h1
            split at h1 <;> cases h1
          · rw [if_neg hj] at h1
            exact ⟨px_ld_at.mpr h1, fun q => hj (by omega)⟩
        · rw [if_neg hc] at h
          refine ⟨h, fun q => ?_⟩
          have e : j = a := by omega
          subst e
          have := px_ld_at.mp h
          rw [ha] at this
          cases this
          exact hc q.2
theorem px_kill_len {L : px_L} {i : Nat} : (px_kill L i).length = L.length := by
  cases i with
  | zero => rfl
  | succ a =>
    unfold px_kill
    dsimp only
    split
    · split <;> simp
    · rfl
theorem px_st1_ld {L : px_L} {i j : Nat} {w : Option Value} {v : Value} (h : px_ld (px_st1 L i w) j = some v) : (j = i ∧ w = some v) ∨ (j ≠ i ∧ px_ld L j = some v ∧ ¬ (j + 1 = i ∧ v.category = 2)) := by
  have h1 := px_ld_at.mp h
  unfold px_st1 at h1
  rw [List.getElem?_set] at h1
  by_cases hj : i = j
  · subst hj
    rw [if_pos rfl] at h1
    split at h1
    · exact Or.inl ⟨rfl, Option.some.inj h1⟩
    · cases h1
  · rw [if_neg hj] at h1
    exact Or.inr ⟨fun q => hj q.symm, px_kill_ld (px_ld_at.mpr h1)⟩
theorem px_st1_len {L : px_L} {i : Nat} {w : Option Value} : (px_st1 L i w).length = L.length := by
  unfold px_st1
  rw [List.length_set, px_kill_len]
theorem px_LR_st1 {ρ : Nat → Nat} {ls : Array Slot} {n i : Nat} {L : px_L} {w : Option Value} {v0 : Value} (hw : w = none ∨ ∃ v, w = some v ∧ v0 = px_re ρ v) (h : lv_has ls n ((i, v0) :: (px_as ρ L).filter (fun q => !(q.1 == i) && !(q.1 + 1 == i && q.2.category == 2)))) (hl : L.length = n) : px_LR ρ ls n (px_st1 L i w) := by
  refine ⟨⟨h.1, h.2.1, fun q hq => ?_⟩, by rw [px_st1_len]; exact hl⟩
  obtain ⟨v, h1, h2⟩ := px_as_mem.mp hq
  rcases px_st1_ld h1 with ⟨e1, e2⟩ | ⟨e1, e2, e3⟩
  · rcases hw with hw | ⟨v', hw, hv⟩
    · rw [hw] at e2; cases e2
    · rw [hw] at e2
      cases e2
      have := h.2.2 (i, v0) List.mem_cons_self
      rw [e1, h2, ← hv]
      exact this
  · refine h.2.2 q (List.mem_cons_of_mem _ (List.mem_filter.mpr ⟨px_as_mem.mpr ⟨v, e2, h2⟩, ?_⟩))
    rw [h2, px_re_cat]
    simp only [Bool.and_eq_true, Bool.not_eq_true', beq_eq_false_iff_ne, Bool.and_eq_false_imp, beq_iff_eq, ne_eq]
    refine ⟨e1, fun h3 => ?_⟩
    intro h4
    exact e3 ⟨h3, h4⟩
theorem px_st2_ld {L : px_L} {i j : Nat} {x v : Value} (h : px_ld (px_st2 L i x) j = some v) : (j = i ∧ x = v) ∨ (j ≠ i ∧ j ≠ i + 1 ∧ px_ld L j = some v ∧ ¬ (j + 1 = i ∧ v.category = 2)) := by
  have h1 := px_ld_at.mp h
  unfold px_st2 at h1
  rw [List.getElem?_set] at h1
  by_cases hj : i + 1 = j
  · rw [if_pos hj] at h1
    split at h1 <;> cases h1
  · rw [if_neg hj] at h1
    rcases px_st1_ld (L := L) (i := i) (j := j) (w := some x) (v := v) (px_ld_at.mpr h1) with ⟨e1, e2⟩ | ⟨e1, e2, e3⟩
    · exact Or.inl ⟨e1, Option.some.inj e2⟩
    · exact Or.inr ⟨e1, fun q => hj q.symm, e2, e3⟩
theorem px_LR_st2 {ρ : Nat → Nat} {ls : Array Slot} {n i : Nat} {L : px_L} {x : Int64} (h : lv_has ls n ((i, .long x) :: (px_as ρ L).filter (fun q => !(q.1 == i) && (!(q.1 == i + 1) && !(q.1 + 1 == i && q.2.category == 2))))) (hl : L.length = n) : px_LR ρ ls n (px_st2 L i (.long x)) := by
  refine ⟨⟨h.1, h.2.1, fun q hq => ?_⟩, by unfold px_st2; rw [List.length_set, List.length_set, px_kill_len]; exact hl⟩
  obtain ⟨v, h1, h2⟩ := px_as_mem.mp hq
  rcases px_st2_ld h1 with ⟨e1, e2⟩ | ⟨e1, e2, e3, e4⟩
  · subst e2
    have := h.2.2 (i, .long x) List.mem_cons_self
    rw [e1, h2]
    exact this
  · refine h.2.2 q (List.mem_cons_of_mem _ (List.mem_filter.mpr ⟨px_as_mem.mpr ⟨v, e3, h2⟩, ?_⟩))
    rw [h2, px_re_cat]
    simp only [Bool.and_eq_true, Bool.not_eq_true', beq_eq_false_iff_ne, Bool.and_eq_false_imp, beq_iff_eq, ne_eq]
    refine ⟨e1, e2, fun h3 => ?_⟩
    intro h4
    exact e4 ⟨h3, h4⟩
