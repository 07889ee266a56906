/-! THE WORLD AT THE LAW'S START. -/
def px_tmL : List (Nat × Nat) := [(11, 456), (1, 70), (2, 72), (7, 59), (11, 449), (12, 222), (12, 227), (12, 228), (12, 229), (12, 304), (12, 309), (12, 284), (12, 289), (12, 290), (12, 292), (12, 294), (12, 296), (12, 298), (12, 300), (12, 302), (12, 328), (12, 330), (12, 332), (12, 337), (12, 339)]
def px_tm (i : Nat) : Term := .string (px_cn (px_tmL.getD i (0, 0)).1) (px_tmL.getD i (0, 0)).2
def px_fS (i : Nat) : List Cond := [.exactly (px_tm i) "java/lang/String", .eq (.field (px_tm i) "java/lang/String" "coder" "B") (.int 0), .arrayOf (.field (px_tm i) "java/lang/String" "value" "[B") .byte, .eq (.length (.field (px_tm i) "java/lang/String" "value" "[B")) (.int (Int32.ofNat (px_lens.getD i 0)))] ++
  (List.range (px_lens.getD i 0)).map (fun j => Cond.eq (.elem (.field (px_tm i) "java/lang/String" "value" "[B") (.int (Int32.ofNat j))) (.int ((px_byts.getD i []).getD j 0))) ++ (List.range i).map (fun j => Cond.not (Cond.eq (px_tm j) (px_tm i)))
def px_fL : List Cond := flatC (Jvm.Cond.and given_1 narrow_1)
set_option maxRecDepth 1000000 in
theorem px_fL_S : (px_fL.drop 49).take 674 = (List.range 25).flatMap px_fS := by decide +kernel
theorem px_fS_mem {i : Nat} {w : Cond} (hi : i < 25) (hw : w ∈ px_fS i) : w ∈ px_fL := by
  have h : w ∈ (px_fL.drop 49).take 674 := by
    rw [px_fL_S]
    exact List.mem_flatMap.mpr ⟨i, List.mem_range.mpr hi, hw⟩
  exact List.mem_of_mem_drop (List.mem_of_mem_take h)
theorem px_tm7 {c idx a b : Nat} (h : px_lk c idx = some (7, a, b)) : a < 25 ∧ px_tm a = .string (px_cn c) idx := by
  have ha : a < 25 := of_decide_eq_true (px_link h).2
  refine ⟨ha, ?_⟩
  have key : ∀ c, c < 17 → ∀ q ∈ px_lkL.getD c [], q.2.1 = 7 → px_tmL.getD q.2.2.1 (0, 0) = (c, q.1) := by decide +kernel
  rcases Nat.lt_or_ge c 17 with hc | hc
  · unfold px_lk at h
    obtain ⟨l1, l2, h1, -⟩ := List.lookup_eq_some_iff.mp h
    have hm : (idx, (7, a, b)) ∈ px_lkL.getD c [] := by rw [h1]; simp
    have := key c hc _ hm rfl
    unfold px_tm
    rw [this]
  · rw [px_lk_out hc] at h
    cases h
theorem px_arrC {s : State} {args : Array Value} {ty : FieldType} (hty : ty = .int ∨ ty = .boolean ∨ ty = .long) (h : (Cond.arrayClass ty).before args s = true) : ∃ cA : ClassId, ArrOfT s cA ty ∧ va_RA s cA ty := by
  obtain ⟨cA, kA, comp, h1, h2, h3⟩ := Cond.arrayClass_spec h
  refine ⟨cA, fun n z => ⟨fun k h => (by cases h), kA, h2, comp, h3⟩, ?_⟩
  rcases hty with rfl | rfl | rfl <;> exact h1
def px_enW : List Cond := [.arrayClass .int, .arrayClass .boolean, .arrayClass .long, .laysStatic "WirePost$Law" "WITHOUT" "[I", .initialized "WirePost$Law", .laysStatic "java/lang/String" "COMPACT_STRINGS" "Z", .initialized "java/lang/String", .laysStatic "jdk/internal/util/Preconditions" "SIOOBE_FORMATTER" "Ljava/util/function/BiFunction;", .initialized "jdk/internal/util/Preconditions", .laysStatic Bundle.tN "UNASSIGNED_STACK" Bundle.steD, .laysStatic Bundle.tN "SUPPRESSED_SENTINEL" Bundle.listD, .initialized Bundle.tN]
set_option maxRecDepth 100000 in
theorem px_enW_ok : px_enW.all (fun w => decide (w ∈ lw_tbl)) = true := by decide +kernel
theorem px_enw {w : Cond} (h : w ∈ px_enW) : w ∈ lw_tbl := of_decide_eq_true (List.all_eq_true.mp px_enW_ok w h)
abbrev px_woT : Term := .static "WirePost$Law" "WITHOUT" "[I"
def px_woW : List Cond := [.arrayOf px_woT .int, .eq (.length px_woT) (.int (Int32.ofNat 7)), .isRef (.static Bundle.tN "UNASSIGNED_STACK" Bundle.steD), .isRef (.static Bundle.tN "SUPPRESSED_SENTINEL" Bundle.listD), .eq (.static "java/lang/String" "COMPACT_STRINGS" "Z") (.int 1), .isRef (.static "jdk/internal/util/Preconditions" "SIOOBE_FORMATTER" "Ljava/util/function/BiFunction;"), .not (.castable (px_en 0) (px_en 1)), .not (.castable (px_en 1) (px_en 0))] ++ (List.range 7).map (fun j => Cond.eq (.elem px_woT (.int (Int32.ofNat j))) (.int (px_wo.getD j 0)))
set_option maxRecDepth 100000 in
theorem px_woW_ok : px_woW.all (fun w => decide (w ∈ px_fL)) = true := by decide +kernel
theorem px_wow {w : Cond} (h : w ∈ px_woW) : w ∈ px_fL := of_decide_eq_true (List.all_eq_true.mp px_woW_ok w h)
theorem px_XofT {args : Array Value} {s : State} {tm : Term} {N : Nat} {f : Nat → Int32} (hN : N < 2 ^ 31) (harr : (Cond.arrayOf tm .int).before args s = true) (hlen : (Term.length tm).eval args s none [] s = some (.int (Int32.ofNat N))) (hel : ∀ j : Nat, j < N → (Term.elem tm (.int (Int32.ofNat j))).eval args s none [] s = some (.int (f j))) : ∃ t : Nat, tm.eval args s none [] s = some (.ref t) ∧ va_X t N f s s.heap ∧ t < s.heap.size := by
  obtain ⟨t, ht, cell, h1, h2, h3, h4, h5, h6, -⟩ := va_Tof (A := fun _ => False) hN harr hlen hel (fun _ _ h => h)
  refine ⟨t, ht, ⟨cell, h1, h2, h3, ?_, h6⟩, (Array.getElem?_eq_some_iff.mp h1).1⟩
  obtain ⟨t', cell', ht', hat, hv⟩ := Term.length_spec hlen
  cases ht.symm.trans ht'
  obtain ⟨hcell, -, -, -⟩ := State.arrayAt?_spec hat
  cases h1.symm.trans hcell
  have hsz : cell.slots.size < 2 ^ 31 := by
    simp only [Term.eval, ht, hat, Option.bind_eq_bind, Option.bind_some] at hlen
    by_cases hlt : cell.slots.size < 2147483648
    · exact hlt
    · simp [hlt] at hlen
  have e1 : (Int32.ofNat cell.slots.size).toInt = cell.slots.size := Int32.toInt_ofNat_of_lt hsz
  have e2 : (Int32.ofNat N).toInt = N := Int32.toInt_ofNat_of_lt hN
  have e3 : Int32.ofNat cell.slots.size = Int32.ofNat N := h5
  rw [e3, e2] at e1
  omega
theorem px_envOf {p : Program} {s : State} {m : MethodId} {meth : Method} {c : Code} {l : Launch} {b L : Nat} {xs : Nat → Int32} (hl : l.stackTraces = false) (hL : L ≤ 5120) (C0 : lw_At p s m meth c b L xs) : ∃ D cs adK adV wo ρ, px_Env l s b (L, xs) D cs adK adV wo ρ := by
  obtain ⟨hx, hb, hr, hml, hown, hts, hX, hbl, hlk, hgv⟩ := C0
  have hf := flat_of_before _ hgv
  have hA : ∀ a : Nat, a < s.heap.size → ¬ (fun q => s.heap.size ≤ q) a := fun a h1 h2 => Nat.not_lt.mpr h2 h1
  have hk : ∀ c : Nat, ∃ q : ClassId × (Nat → Nat), c < 13 → u_Kn s (px_cn c) (px_T c) (px_nf c) q.1 q.2 := by
    intro c
    by_cases hc : c < 13
    · obtain ⟨a, b, h⟩ := u_known (n := px_nf c) hts (fun w hw => (px_layA hc w hw).1) (hts _ (px_inA hc).1)
      exact ⟨(a, b), fun _ => h⟩
    · exact ⟨(0, fun _ => 0), fun h => absurd h hc⟩
  obtain ⟨DD, hDD⟩ := Classical.axiomOfChoice hk
  obtain ⟨cI, hI1, hI2⟩ := px_arrC (ty := .int) (Or.inl rfl) (hts _ (px_enw (by simp [px_enW])))
  obtain ⟨cB, hB1, hB2⟩ := px_arrC (ty := .boolean) (Or.inr (Or.inl rfl)) (hts _ (px_enw (by simp [px_enW])))
  obtain ⟨cL, hL1, hL2⟩ := px_arrC (ty := .long) (Or.inr (Or.inr rfl)) (hts _ (px_enw (by simp [px_enW])))
  obtain ⟨adK, adV, hS, hev⟩ := vk_Sof (args := #[Value.ref b]) (s := s) (N := 25) (tm := px_tm) (len := px_lens) (byt := px_byts) (A := fun q => s.heap.size ≤ q) (by decide +kernel)
    (fun i hi => hf _ (px_fS_mem hi (by simp [px_fS]))) (fun i hi => hf _ (px_fS_mem hi (by simp [px_fS]))) (fun i hi => hf _ (px_fS_mem hi (by simp [px_fS]))) (fun i hi => hf _ (px_fS_mem hi (by simp [px_fS])))
    (fun i hi j hj => hf _ (px_fS_mem hi (List.mem_append_left _ (List.mem_append_right _ (List.mem_map.mpr ⟨j, List.mem_range.mpr hj, rfl⟩)))))
    (fun i j hi hj hij => by
      rcases Nat.lt_or_gt_of_ne hij with h | h
      · exact Or.inl (hf _ (px_fS_mem hj (List.mem_append_right _ (List.mem_map.mpr ⟨i, List.mem_range.mpr h, rfl⟩))))
      · exact Or.inr (hf _ (px_fS_mem hi (List.mem_append_right _ (List.mem_map.mpr ⟨j, List.mem_range.mpr h, rfl⟩))))) hA
  obtain ⟨wo, hwo, hwX, hwl⟩ := px_XofT (args := #[Value.ref b]) (s := s) (tm := px_woT) (N := 7) (f := fun i => px_wo.getD i 0) (by decide) (hf _ (px_wow (by simp [px_woW]))) (va_eqt (hf _ (px_wow (by simp [px_woW])))) (fun j hj => va_eqt (hf _ (px_wow (List.mem_append_right _ (List.mem_map.mpr ⟨j, List.mem_range.mpr hj, rfl⟩)))))
  refine ⟨(fun c => (DD c).1, fun c => (DD c).2), (cI, cB, cL), adK, adV, wo, px_rho s.heap.size adK wo b, hl, rfl, hts, ⟨fun c q hq => ?_, fun k q hk => ?_⟩, hS, fun c idx a b' h => ?_, ⟨va_Zof (hts _ (px_enw (by simp [px_enW]))) (hts _ (px_enw (by simp [px_enW]))) hwo hA, hwX, hwl⟩, ⟨hX, hbl, hL⟩, ⟨vx_Zqof (hts _ (px_enw (by simp [px_enW]))) (hts _ (px_enw (by simp [px_enW]))) (hf _ (px_wow (by simp [px_woW]))) hA, vx_Zqof (hts _ (px_enw (by simp [px_enW]))) (hts _ (px_enw (by simp [px_enW]))) (hf _ (px_wow (by simp [px_woW]))) hA⟩, fun x y hx hy hxy => ?_, fun q hq => ?_, va_Zqof (hts _ (px_enw (by simp [px_enW]))) (hts _ (px_enw (by simp [px_enW]))) (hf _ (px_wow (by simp [px_woW]))) hA⟩
  · have hc : c < 13 := (List.getElem?_eq_some_iff.mp hq).1
    rw [px_vwA hc] at hq
    cases hq
    exact hDD c hc
  · match k, hk with
    | 0, hk => cases hk; exact ⟨hI1, hI2⟩
    | 1, hk => cases hk; exact ⟨hB1, hB2⟩
    | 2, hk => cases hk; exact ⟨hL1, hL2⟩
    | k + 3, hk => simp at hk
  · obtain ⟨ha, he⟩ := px_tm7 h
    have h1 := hev a ha
    rw [he] at h1
    exact vk_R.of (hts _ (px_link h).1) h1
  · have h01 : (x = 0 ∧ y = 1) ∨ (x = 1 ∧ y = 0) := by omega
    rcases h01 with ⟨rfl, rfl⟩ | ⟨rfl, rfl⟩
    · exact va_Nc.of (hf _ (px_wow (by simp [px_woW])))
    · exact va_Nc.of (hf _ (px_wow (by simp [px_woW])))
  · rw [List.mem_singleton] at hq
    subst hq
    exact va_Zof (hts _ (px_enw (by simp [px_enW]))) (hts _ (px_enw (by simp [px_enW]))) (va_eqt (hf _ (px_wow (by simp [px_woW])))) hA
