/-! WHAT THE PURE MACHINE SAYS HOLDS OF THE MACHINE: memory, and the ends of a method. -/
def px_ZR (s0 : State) (D : va_G) (cs : ClassId × ClassId × ClassId) (ρ : Nat → Nat) (p : Program) (l : Launch) (e : Env) (R : Room) (s : State) (m : MethodId) (args : Array Value) (below : List Frame) (meth : Method) (c : Code) (M : px_M) (Z : State → Prop) (Q : px_Q) : Prop :=
  ∀ (H : Heap) (locs : List Loc) (ls : Array Slot) (V : px_V) (u : Nat × Nat) (pc : Nat) (i : Instr) (r : Option Value), decode (px_by M.1) pc = .ok (i, 1) →
    ((i = .return_ ∧ r = none ∧ M.2.2.2.1 = 0) ∨ (∃ x, i = .ireturn ∧ r = some (.int x) ∧ (M.2.2.2.1 = 1 ∨ (M.2.2.2.1 = 2 ∧ (x = 0 ∨ x = 1)))) ∨ (∃ x, i = .lreturn ∧ r = some (.long x) ∧ M.2.2.2.1 = 3)) →
    u.1 ≤ (px_bud M.1).1 → u.2 ≤ (px_bud M.1).2 → Q (.inl r) V → px_n V ≤ 103 → va_P D vwCl (px_ws s0.heap.size cs ρ V) H → va_S (fun q => s0.heap.size ≤ q) s.heap H locs → W p l e R s m args below meth c H locs u.1 u.2 Z (F0 m pc ls (r.toList.map (px_re ρ)))
def px_ZT (s0 : State) (D : va_G) (cs : ClassId × ClassId × ClassId) (ρ : Nat → Nat) (p : Program) (l : Launch) (e : Env) (R : Room) (s : State) (m : MethodId) (args : Array Value) (below : List Frame) (meth : Method) (c : Code) (M : px_M) (Z : State → Prop) (Q : px_Q) : Prop :=
  ∀ (H : Heap) (locs : List Loc) (ls : Array Slot) (V : px_V) (u : Nat × Nat) (pc k : Nat) (st : List Value), (M.1, pc) = px_thr k → k < 2 → px_cat st ≤ 8 → ls.size = M.2.2.2.2.1 →
    u.1 + 1 ≤ (px_bud M.1).1 → u.2 + 6 ≤ (px_bud M.1).2 → Q (.inr k) V → px_n V ≤ 103 → va_P D vwCl (px_ws s0.heap.size cs ρ V) H → va_S (fun q => s0.heap.size ≤ q) s.heap H locs → W p l e R s m args below meth c H locs u.1 u.2 Z (F0 m pc ls (st.map (px_re ρ)))
theorem px_nar {ρ : Nat → Nat} {t : Nat} {ty : FieldType} {v : Value} (h : px_fit t v) (ht : t % 10 = px_tyc ty) : narrow ty (px_re ρ v) = px_re ρ v ∧ fits ty (px_re ρ v) = true := by
  cases v with
  | int x =>
    have h : t % 10 = 0 := h
    rw [h] at ht
    cases ty <;> first | exact ⟨rfl, rfl⟩ | (exfalso; revert ht; unfold px_tyc; decide) | (exfalso; revert ht; unfold px_tyc; intro q; cases q)
  | long x =>
    have h : t % 10 = 1 := h
    rw [h] at ht
    cases ty <;> first | exact ⟨rfl, rfl⟩ | (exfalso; revert ht; unfold px_tyc; decide) | (exfalso; revert ht; unfold px_tyc; intro q; cases q)
  | ref x =>
    have h : t % 10 = 2 := h
    rw [h] at ht
    cases ty <;> first | exact ⟨rfl, rfl⟩ | (exfalso; revert ht; unfold px_tyc; decide) | (exfalso; revert ht; unfold px_tyc; intro q; cases q)
  | float x => exact h.elim
  | double x => exact h.elim
  | null => exact h.elim
  | retAddr x => exact h.elim
theorem px_new_row {V : px_V} {N : Nat} {row : Nat → Value} {j : Nat} (h : j < N) (hN : N < 2000) : px_new V N row j = V j := by
  funext b
  unfold px_new
  rw [if_neg (by omega), if_neg (by omega)]
theorem px_new_at {V : px_V} {N : Nat} {row : Nat → Value} : px_new V N row N = row := by
  funext b
  unfold px_new
  rw [if_pos rfl]
theorem px_ws_new {n0 : Nat} {cs : ClassId × ClassId × ClassId} {ρ : Nat → Nat} {V : px_V} {row : Nat → Value} (h : px_n V < 2000) : px_ws n0 cs ρ (px_new V (px_n V) row) = px_ws n0 cs ρ V ++ [(n0 + px_n V, px_ce cs ρ (px_new V (px_n V) row) (px_n V))] := by
  unfold px_ws
  rw [px_n_new h, List.range_succ, List.map_append]
  congr 1
  apply List.map_congr_left
  intro k hk
  rw [px_ce_row (px_new_row (List.mem_range.mp hk) h)]
section PXT
variable {l : Launch} {s0 : State} {b0 : Nat} {X : Nat × (Nat → Int32)} {D : va_G} {cs : ClassId × ClassId × ClassId} {adK adV : Nat → Nat} {wo : Nat} {ρ : Nat → Nat}
variable {p : Program} {e : Env} {R : Room} {s : State} {m : MethodId} {args : Array Value} {below : List Frame} {meth : Method} {c : Code} {Z : State → Prop} {M : px_M}
theorem px_rlt (hE : px_Env l s0 b0 X D cs adK adV wo ρ) {k : Nat} (h : k < 1000) : ρ k = s0.heap.size + k := by
  rw [hE.2.1]; unfold px_rho; rw [if_pos h]
theorem px_r1100 (hE : px_Env l s0 b0 X D cs adK adV wo ρ) : ρ 1100 = wo := by rw [hE.2.1]; rfl
theorem px_r1200 (hE : px_Env l s0 b0 X D cs adK adV wo ρ) : ρ 1200 = b0 := by rw [hE.2.1]; rfl
theorem px_KS (hE : px_Env l s0 b0 X D cs adK adV wo ρ) (hW : s0.WarmedH s.vm) : va_K D vwCl [(cs.1, .int), (cs.2.1, .boolean), (cs.2.2, .long)] s := va_K.moved hW.alike hE.2.2.2.1
theorem px_layS (hE : px_Env l s0 b0 X D cs adK adV wo ρ) (hW : s0.WarmedH s.vm) {a : Nat} (ha : a < 13) : ∀ w ∈ u_ws (px_cn a) (px_T a) (px_nf a), w.before args s = true := fun w hw => px_word hE hW (px_layA ha w hw).1 (px_layA ha w hw).2
/-- the number of cells that live is the heap's size, while cells are made -/
theorem px_size {T : State} {locs : List Loc} {H : Heap} {V : px_V} {u : Nat × Nat} (X : Stand p l e R s m args below meth c T locs u.1 u.2) (hT : T.heap = H) (hn : px_n V < 103) (h0 : s0.heap.size ≤ s.heap.size) (hS : va_S (fun q => s0.heap.size ≤ q) s.heap H locs) (hP : va_P D vwCl (px_ws s0.heap.size cs ρ V) H) (h5 : px_n V < 103 → s.heap.size + u.1 ≤ s0.heap.size + px_n V) : H.size = s0.heap.size + px_n V := by
  have a1 := X.heapSize
  rw [hT] at a1
  have a2 := h5 hn
  rcases Nat.eq_zero_or_pos (px_n V) with hz | hz
  · have := hS.1
    omega
  · have a3 := (hP (px_n V - 1) _ (px_ws_get (by omega))).lt
    dsimp only at a3
    omega
set_option maxHeartbeats 4000000 in
theorem px_nw (hF : px_Fr s0 p s m meth c M) (hE : px_Env l s0 b0 X D cs adK adV wo ρ) {n c0 pc : Nat} {st : List Value} {V : px_V} {u : Nat × Nat} {H : Heap} {locs : List Loc} {ls : Array Slot} (hd : decode (px_by M.1) pc = .ok (.new n, 3)) (hw : px_wd M.2.1 n 4 c0 0 ∈ lw_tbl) (hn : px_n V < 103) (hkd : px_kd (px_n V) = c0) (hc : c0 < 13) (B1 : u.1 + 1 ≤ R.cells) (B2 : u.2 + px_nf c0 ≤ R.slots)
    (h1 : px_n V ≤ 103) (h2 : va_P D vwCl (px_ws s0.heap.size cs ρ V) H) (h3 : va_S (fun q => s0.heap.size ≤ q) s.heap H locs) (h5 : px_n V < 103 → s.heap.size + u.1 ≤ s0.heap.size + px_n V)
    (kk : ∀ H1 : Heap, px_n (px_new V (px_n V) (fun j => px_dft (px_fty c0 j))) ≤ 103 → va_P D vwCl (px_ws s0.heap.size cs ρ (px_new V (px_n V) (fun j => px_dft (px_fty c0 j)))) H1 → va_S (fun q => s0.heap.size ≤ q) s.heap H1 locs → (px_n (px_new V (px_n V) (fun j => px_dft (px_fty c0 j))) < 103 → s.heap.size + (u.1 + 1) ≤ s0.heap.size + px_n (px_new V (px_n V) (fun j => px_dft (px_fty c0 j)))) → W p l e R s m args below meth c H1 locs (u.1 + 1) (u.2 + px_nf c0) Z (F0 m (pc + 3) ls (px_re ρ (.ref (px_n V)) :: st.map (px_re ρ)))) :
    W p l e R s m args below meth c H locs u.1 u.2 Z (F0 m pc ls (st.map (px_re ρ))) := by
  have hx := hF.1
  have hb := hF.2.1
  have hown := hF.2.2.2.1
  have hWm := hF.2.2.2.2.1
  have hs0 := hF.2.2.2.2.2.1
  have hKs := px_KS (s := s) hE hWm
  have hKn := hKs.1 c0 _ (px_vwA hc)
  have i1 : (Cond.instantiable (px_cn c0) (px_nf c0)).before args s = true := px_word hE hWm (px_inA hc).1 rfl
  have i2 : (Cond.initialized (px_cn c0)).before args s = true := px_word hE hWm (px_inA hc).2 rfl
  have i3 : (Cond.classLink (px_cn M.2.1) n (px_cn c0)).before args s = true := px_word hE hWm hw rfl
  intro T hT XX
  have hsz := px_size XX hT hn hs0 h3 h2 h5
  suffices hW : W p l e R s m args below meth c H locs u.1 u.2 Z (F0 m pc ls (st.map (px_re ρ))) from hW T hT XX
  refine W.newcK hx hb hown i3 i1 i2 rfl hd B1 B2 hKn.2.1 rfl (fun H1 kC hkC e1 z1 o1 => ?_)
  have hkp : ∀ (k : Nat) (x : Nat × va_E), (px_ws s0.heap.size cs ρ V)[k]? = some x → H1[x.1]? = H[x.1]? := fun k x hx => o1 x.1 ((h2 k x hx).lt)
  have hP1 : va_P D vwCl (px_ws s0.heap.size cs ρ (px_new V (px_n V) (fun j => px_dft (px_fty c0 j)))) H1 := by
    rw [px_ws_new (by omega)]
    refine (h2.kept hkp).app (fun k x hx => ?_)
    have hz : k < 1 := (List.getElem?_eq_some_iff.mp hx).1
    rw [show k = 0 by omega] at hx
    cases hx
    rw [px_ce_obj hkd hc, ← hsz]
    refine ⟨_, px_vwA hc, (u_born (px_ty c0) (px_layS (args := args) hE hWm hc) (fun w q => q) hKn hkC e1 (fun a ha => (px_fqI hc ha).2.1)).to (fun a ha => ?_)⟩
    show defaultValue (px_ty c0 a) = vp_V _ a
    unfold vp_V
    rw [List.getD_eq_getElem?_getD, px_fs_get ha, px_new_at, (px_fqI hc ha).2.2.2.2]
    unfold px_dft
    split
    · rfl
    · split <;> rfl
  have hS1 : va_S (fun q => s0.heap.size ≤ q) s.heap H1 locs := ⟨Nat.le_trans h3.1 (by omega), fun x g1 g2 => (o1 x (Nat.lt_of_lt_of_le g1 h3.1)).trans (h3.2.1 x g1 g2), h3.2.2⟩
  have hn1 : px_n (px_new V (px_n V) (fun j => px_dft (px_fty c0 j))) = px_n V + 1 := px_n_new (by omega)
  have fin := kk H1 (by rw [hn1]; omega) hP1 hS1 (fun g => by have := h5 hn; rw [hn1]; omega)
  have e2 : px_re ρ (.ref (px_n V)) = .ref H.size := by
    show Value.ref (ρ (px_n V)) = _
    rw [px_rlt hE (by omega), hsz]
  rw [e2] at fin
  exact fin
set_option maxHeartbeats 4000000 in
theorem px_na (hF : px_Fr s0 p s m meth c M) (hE : px_Env l s0 b0 X D cs adK adV wo ρ) {t : ArrayType} {ty : FieldType} {n : Int32} {pc tix : Nat} {cA : ClassId} {a0 : vp_A} {row : Nat → Value} {st : List Value} {V : px_V} {u : Nat × Nat} {H : Heap} {locs : List Loc} {ls : Array Slot} (hd : decode (px_by M.1) pc = .ok (.newarray t, 2)) (hty : newarray.typeOf t = ty) (hn : px_n V < 103) (hnn : n = Int32.ofNat (px_ln (px_n V))) (hbig : px_ln (px_n V) < 4096)
    (ha0 : ∀ cA : ClassId, vp_cell cA a0 = arrV cA (px_ln (px_n V)) (fun _ => defaultValue ty)) (htix : [(cs.1, FieldType.int), (cs.2.1, FieldType.boolean), (cs.2.2, FieldType.long)][tix]? = some (cA, ty)) (hcb : componentBytes ty ≤ 8) (hwd : (Cond.arrayClass ty) ∈ lw_tbl) (hno : ∀ C : String, ty ≠ .object C) (hce : px_ce cs ρ (px_new V (px_n V) row) (px_n V) = .inl (cA, a0)) (B1 : u.1 + 1 ≤ R.cells) (B2 : u.2 + px_ln (px_n V) ≤ R.slots)
    (h1 : px_n V ≤ 103) (h2 : va_P D vwCl (px_ws s0.heap.size cs ρ V) H) (h3 : va_S (fun q => s0.heap.size ≤ q) s.heap H locs) (h5 : px_n V < 103 → s.heap.size + u.1 ≤ s0.heap.size + px_n V)
    (kk : ∀ H1 : Heap, px_n (px_new V (px_n V) row) ≤ 103 → va_P D vwCl (px_ws s0.heap.size cs ρ (px_new V (px_n V) row)) H1 → va_S (fun q => s0.heap.size ≤ q) s.heap H1 locs → (px_n (px_new V (px_n V) row) < 103 → s.heap.size + (u.1 + 1) ≤ s0.heap.size + px_n (px_new V (px_n V) row)) → W p l e R s m args below meth c H1 locs (u.1 + 1) (u.2 + px_ln (px_n V)) Z (F0 m (pc + 2) ls (px_re ρ (.ref (px_n V)) :: st.map (px_re ρ)))) :
    W p l e R s m args below meth c H locs u.1 u.2 Z (F0 m pc ls (.int n :: st.map (px_re ρ))) := by
  have hx := hF.1
  have hb := hF.2.1
  have hWm := hF.2.2.2.2.1
  have hs0 := hF.2.2.2.2.2.1
  have hKs := px_KS (s := s) hE hWm
  subst hty
  have hlt : px_ln (px_n V) < 2 ^ 31 := by omega
  have i1 : (Cond.arrayClass (newarray.typeOf t)).before args s = true := px_word hE hWm hwd rfl
  intro T hT XX
  have hsz := px_size XX hT hn hs0 h3 h2 h5
  suffices hW : W p l e R s m args below meth c H locs u.1 u.2 Z (F0 m pc ls (.int n :: st.map (px_re ρ))) from hW T hT XX
  refine va_newaK hx hb i1 rfl hd rfl (n := n) (N := px_ln (px_n V)) (by rw [hnn]; exact nI_pos hlt) (by rw [hnn]; exact nI_clamp hlt) (Nat.le_trans (Nat.mul_le_mul (Nat.le_of_lt hbig) hcb) (by decide)) B1 B2 rfl (fun H1 cB e1 z1 o1 hAr hNm => ?_)
  have hcc : cB = cA := by
    have q := (hKs.2 tix _ htix).2
    have q2 : s.vm.findClass ("[" ++ (newarray.typeOf t).toString) = some cA := by
      revert q
      unfold va_RA
      split
      · rename_i C hC
        exact absurd hC (hno C)
      · exact fun q => q
    exact Option.some.inj (hNm.symm.trans q2)
  subst hcc
  have hkp : ∀ (k : Nat) (x : Nat × va_E), (px_ws s0.heap.size cs ρ V)[k]? = some x → H1[x.1]? = H[x.1]? := fun k x hx => o1 x.1 ((h2 k x hx).lt)
  have hP1 : va_P D vwCl (px_ws s0.heap.size cs ρ (px_new V (px_n V) row)) H1 := by
    rw [px_ws_new (by omega)]
    refine (h2.kept hkp).app (fun k x hx => ?_)
    have hz : k < 1 := (List.getElem?_eq_some_iff.mp hx).1
    rw [show k = 0 by omega] at hx
    cases hx
    rw [hce, ← hsz]
    show H1[H.size]? = some (vp_cell _ _)
    rw [ha0]
    exact e1
  have hS1 : va_S (fun q => s0.heap.size ≤ q) s.heap H1 locs := ⟨Nat.le_trans h3.1 (by omega), fun x g1 g2 => (o1 x (Nat.lt_of_lt_of_le g1 h3.1)).trans (h3.2.1 x g1 g2), h3.2.2⟩
  have hn1 : px_n (px_new V (px_n V) row) = px_n V + 1 := px_n_new (by omega)
  have fin := kk H1 (by rw [hn1]; omega) hP1 hS1 (fun g => by have := h5 hn; rw [hn1]; omega)
  have e2 : px_re ρ (.ref (px_n V)) = .ref H.size := by
    show Value.ref (ρ (px_n V)) = _
    rw [px_rlt hE (by omega), hsz]
  rw [e2] at fin
  exact fin
end PXT
