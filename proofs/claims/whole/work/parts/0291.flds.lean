/-! THE FIELDS OF EACH KIND (written by wip/whole/gen/meth.py) -/
abbrev vwCl : List vw_C := [(RX0, TX0, 5), (RX1, TX1, 15), (RX2, TX2, 3), (RX3, TX3, 2), (RX4, TX4, 5), (RX5, TX5, 6), (RX6, TX6, 4), (RX7, TX7, 9), (RX8, TX8, 6), (RX9, TX9, 7), (RX10, TX10, 6), (RX11, TX11, 17), (RX12, TX12, 67)]
def px_tyc (ty : FieldType) : Nat := match ty with
  | .int => 0
  | .long => 1
  | .object _ => 2
  | .array _ => 2
  | _ => 99
def px_fq (c j : Nat) : Bool := decide ((px_T c j).1 = px_cn c) && decide (parseFieldDescriptor (px_T c j).2.2.1 = some (px_ty c j)) && decide ((px_T c j).2.2.2 = decide (10 ≤ px_fty c j)) && decide (px_fty c j % 10 = px_tyc (px_ty c j)) && decide (defaultValue (px_ty c j) = px_dft (px_fty c j))
set_option maxRecDepth 100000 in
theorem px_lay0 : ∀ w ∈ u_ws (px_cn 0) (px_T 0) (px_nf 0), w ∈ lw_tbl ∧ goodWord w = true := by decide +kernel
set_option maxRecDepth 100000 in
theorem px_lay1 : ∀ w ∈ u_ws (px_cn 1) (px_T 1) (px_nf 1), w ∈ lw_tbl ∧ goodWord w = true := by decide +kernel
set_option maxRecDepth 100000 in
theorem px_lay2 : ∀ w ∈ u_ws (px_cn 2) (px_T 2) (px_nf 2), w ∈ lw_tbl ∧ goodWord w = true := by decide +kernel
set_option maxRecDepth 100000 in
theorem px_lay3 : ∀ w ∈ u_ws (px_cn 3) (px_T 3) (px_nf 3), w ∈ lw_tbl ∧ goodWord w = true := by decide +kernel
set_option maxRecDepth 100000 in
theorem px_lay4 : ∀ w ∈ u_ws (px_cn 4) (px_T 4) (px_nf 4), w ∈ lw_tbl ∧ goodWord w = true := by decide +kernel
set_option maxRecDepth 100000 in
theorem px_lay5 : ∀ w ∈ u_ws (px_cn 5) (px_T 5) (px_nf 5), w ∈ lw_tbl ∧ goodWord w = true := by decide +kernel
set_option maxRecDepth 100000 in
theorem px_lay6 : ∀ w ∈ u_ws (px_cn 6) (px_T 6) (px_nf 6), w ∈ lw_tbl ∧ goodWord w = true := by decide +kernel
set_option maxRecDepth 100000 in
theorem px_lay7 : ∀ w ∈ u_ws (px_cn 7) (px_T 7) (px_nf 7), w ∈ lw_tbl ∧ goodWord w = true := by decide +kernel
set_option maxRecDepth 100000 in
theorem px_lay8 : ∀ w ∈ u_ws (px_cn 8) (px_T 8) (px_nf 8), w ∈ lw_tbl ∧ goodWord w = true := by decide +kernel
set_option maxRecDepth 100000 in
theorem px_lay9 : ∀ w ∈ u_ws (px_cn 9) (px_T 9) (px_nf 9), w ∈ lw_tbl ∧ goodWord w = true := by decide +kernel
set_option maxRecDepth 100000 in
theorem px_lay10 : ∀ w ∈ u_ws (px_cn 10) (px_T 10) (px_nf 10), w ∈ lw_tbl ∧ goodWord w = true := by decide +kernel
set_option maxRecDepth 100000 in
theorem px_lay11 : ∀ w ∈ u_ws (px_cn 11) (px_T 11) (px_nf 11), w ∈ lw_tbl ∧ goodWord w = true := by decide +kernel
set_option maxRecDepth 100000 in
theorem px_lay12 : ∀ w ∈ u_ws (px_cn 12) (px_T 12) (px_nf 12), w ∈ lw_tbl ∧ goodWord w = true := by decide +kernel
set_option maxRecDepth 100000 in
theorem px_vw0 : vwCl[0]? = some (px_cn 0, px_T 0, px_nf 0) := rfl
set_option maxRecDepth 100000 in
theorem px_vw1 : vwCl[1]? = some (px_cn 1, px_T 1, px_nf 1) := rfl
set_option maxRecDepth 100000 in
theorem px_vw2 : vwCl[2]? = some (px_cn 2, px_T 2, px_nf 2) := rfl
set_option maxRecDepth 100000 in
theorem px_vw3 : vwCl[3]? = some (px_cn 3, px_T 3, px_nf 3) := rfl
set_option maxRecDepth 100000 in
theorem px_vw4 : vwCl[4]? = some (px_cn 4, px_T 4, px_nf 4) := rfl
set_option maxRecDepth 100000 in
theorem px_vw5 : vwCl[5]? = some (px_cn 5, px_T 5, px_nf 5) := rfl
set_option maxRecDepth 100000 in
theorem px_vw6 : vwCl[6]? = some (px_cn 6, px_T 6, px_nf 6) := rfl
set_option maxRecDepth 100000 in
theorem px_vw7 : vwCl[7]? = some (px_cn 7, px_T 7, px_nf 7) := rfl
set_option maxRecDepth 100000 in
theorem px_vw8 : vwCl[8]? = some (px_cn 8, px_T 8, px_nf 8) := rfl
set_option maxRecDepth 100000 in
theorem px_vw9 : vwCl[9]? = some (px_cn 9, px_T 9, px_nf 9) := rfl
set_option maxRecDepth 100000 in
theorem px_vw10 : vwCl[10]? = some (px_cn 10, px_T 10, px_nf 10) := rfl
set_option maxRecDepth 100000 in
theorem px_vw11 : vwCl[11]? = some (px_cn 11, px_T 11, px_nf 11) := rfl
set_option maxRecDepth 100000 in
theorem px_vw12 : vwCl[12]? = some (px_cn 12, px_T 12, px_nf 12) := rfl
set_option maxRecDepth 100000 in
theorem px_fq0 : (List.range (px_nf 0)).all (px_fq 0) = true := by decide +kernel
set_option maxRecDepth 100000 in
theorem px_fq1 : (List.range (px_nf 1)).all (px_fq 1) = true := by decide +kernel
set_option maxRecDepth 100000 in
theorem px_fq2 : (List.range (px_nf 2)).all (px_fq 2) = true := by decide +kernel
set_option maxRecDepth 100000 in
theorem px_fq3 : (List.range (px_nf 3)).all (px_fq 3) = true := by decide +kernel
set_option maxRecDepth 100000 in
theorem px_fq4 : (List.range (px_nf 4)).all (px_fq 4) = true := by decide +kernel
set_option maxRecDepth 100000 in
theorem px_fq5 : (List.range (px_nf 5)).all (px_fq 5) = true := by decide +kernel
set_option maxRecDepth 100000 in
theorem px_fq6 : (List.range (px_nf 6)).all (px_fq 6) = true := by decide +kernel
set_option maxRecDepth 100000 in
theorem px_fq7 : (List.range (px_nf 7)).all (px_fq 7) = true := by decide +kernel
set_option maxRecDepth 100000 in
theorem px_fq8 : (List.range (px_nf 8)).all (px_fq 8) = true := by decide +kernel
set_option maxRecDepth 100000 in
theorem px_fq9 : (List.range (px_nf 9)).all (px_fq 9) = true := by decide +kernel
set_option maxRecDepth 100000 in
theorem px_fq10 : (List.range (px_nf 10)).all (px_fq 10) = true := by decide +kernel
set_option maxRecDepth 100000 in
theorem px_fq11 : (List.range (px_nf 11)).all (px_fq 11) = true := by decide +kernel
set_option maxRecDepth 100000 in
theorem px_fq12 : (List.range (px_nf 12)).all (px_fq 12) = true := by decide +kernel
set_option maxRecDepth 100000 in
theorem px_nm0 : ∀ a, a < px_nf 0 → ∀ b, b < px_nf 0 → a ≠ b → (px_T 0 a).2.1 ≠ (px_T 0 b).2.1 := nmX0
set_option maxRecDepth 100000 in
theorem px_nm1 : ∀ a, a < px_nf 1 → ∀ b, b < px_nf 1 → a ≠ b → (px_T 1 a).2.1 ≠ (px_T 1 b).2.1 := nmX1
set_option maxRecDepth 100000 in
theorem px_nm2 : ∀ a, a < px_nf 2 → ∀ b, b < px_nf 2 → a ≠ b → (px_T 2 a).2.1 ≠ (px_T 2 b).2.1 := nmX2
set_option maxRecDepth 100000 in
theorem px_nm3 : ∀ a, a < px_nf 3 → ∀ b, b < px_nf 3 → a ≠ b → (px_T 3 a).2.1 ≠ (px_T 3 b).2.1 := nmX3
set_option maxRecDepth 100000 in
theorem px_nm4 : ∀ a, a < px_nf 4 → ∀ b, b < px_nf 4 → a ≠ b → (px_T 4 a).2.1 ≠ (px_T 4 b).2.1 := nmX4
set_option maxRecDepth 100000 in
theorem px_nm5 : ∀ a, a < px_nf 5 → ∀ b, b < px_nf 5 → a ≠ b → (px_T 5 a).2.1 ≠ (px_T 5 b).2.1 := nmX5
set_option maxRecDepth 100000 in
theorem px_nm6 : ∀ a, a < px_nf 6 → ∀ b, b < px_nf 6 → a ≠ b → (px_T 6 a).2.1 ≠ (px_T 6 b).2.1 := nmX6
set_option maxRecDepth 100000 in
theorem px_nm7 : ∀ a, a < px_nf 7 → ∀ b, b < px_nf 7 → a ≠ b → (px_T 7 a).2.1 ≠ (px_T 7 b).2.1 := nmX7
set_option maxRecDepth 100000 in
theorem px_nm8 : ∀ a, a < px_nf 8 → ∀ b, b < px_nf 8 → a ≠ b → (px_T 8 a).2.1 ≠ (px_T 8 b).2.1 := nmX8
set_option maxRecDepth 100000 in
theorem px_nm9 : ∀ a, a < px_nf 9 → ∀ b, b < px_nf 9 → a ≠ b → (px_T 9 a).2.1 ≠ (px_T 9 b).2.1 := nmX9
set_option maxRecDepth 100000 in
theorem px_nm10 : ∀ a, a < px_nf 10 → ∀ b, b < px_nf 10 → a ≠ b → (px_T 10 a).2.1 ≠ (px_T 10 b).2.1 := nmX10
set_option maxRecDepth 100000 in
theorem px_nm11 : ∀ a, a < px_nf 11 → ∀ b, b < px_nf 11 → a ≠ b → (px_T 11 a).2.1 ≠ (px_T 11 b).2.1 := nmX11
set_option maxRecDepth 100000 in
theorem px_nm12 : ∀ a, a < px_nf 12 → ∀ b, b < px_nf 12 → a ≠ b → (px_T 12 a).2.1 ≠ (px_T 12 b).2.1 := nmX12
set_option maxRecDepth 100000 in
theorem px_in0 : Cond.instantiable (px_cn 0) (px_nf 0) ∈ lw_tbl ∧ Cond.initialized (px_cn 0) ∈ lw_tbl := ⟨List.mem_of_getElem? (i := 303) (by decide +kernel), List.mem_of_getElem? (i := 118) (by decide +kernel)⟩
set_option maxRecDepth 100000 in
theorem px_in1 : Cond.instantiable (px_cn 1) (px_nf 1) ∈ lw_tbl ∧ Cond.initialized (px_cn 1) ∈ lw_tbl := ⟨List.mem_of_getElem? (i := 185) (by decide +kernel), List.mem_of_getElem? (i := 115) (by decide +kernel)⟩
set_option maxRecDepth 100000 in
theorem px_in2 : Cond.instantiable (px_cn 2) (px_nf 2) ∈ lw_tbl ∧ Cond.initialized (px_cn 2) ∈ lw_tbl := ⟨List.mem_of_getElem? (i := 282) (by decide +kernel), List.mem_of_getElem? (i := 116) (by decide +kernel)⟩
set_option maxRecDepth 100000 in
theorem px_in3 : Cond.instantiable (px_cn 3) (px_nf 3) ∈ lw_tbl ∧ Cond.initialized (px_cn 3) ∈ lw_tbl := ⟨List.mem_of_getElem? (i := 414) (by decide +kernel), List.mem_of_getElem? (i := 123) (by decide +kernel)⟩
set_option maxRecDepth 100000 in
theorem px_in4 : Cond.instantiable (px_cn 4) (px_nf 4) ∈ lw_tbl ∧ Cond.initialized (px_cn 4) ∈ lw_tbl := ⟨List.mem_of_getElem? (i := 455) (by decide +kernel), List.mem_of_getElem? (i := 125) (by decide +kernel)⟩
set_option maxRecDepth 100000 in
theorem px_in5 : Cond.instantiable (px_cn 5) (px_nf 5) ∈ lw_tbl ∧ Cond.initialized (px_cn 5) ∈ lw_tbl := ⟨List.mem_of_getElem? (i := 387) (by decide +kernel), List.mem_of_getElem? (i := 122) (by decide +kernel)⟩
set_option maxRecDepth 100000 in
theorem px_in6 : Cond.instantiable (px_cn 6) (px_nf 6) ∈ lw_tbl ∧ Cond.initialized (px_cn 6) ∈ lw_tbl := ⟨List.mem_of_getElem? (i := 367) (by decide +kernel), List.mem_of_getElem? (i := 121) (by decide +kernel)⟩
set_option maxRecDepth 100000 in
theorem px_in7 : Cond.instantiable (px_cn 7) (px_nf 7) ∈ lw_tbl ∧ Cond.initialized (px_cn 7) ∈ lw_tbl := ⟨List.mem_of_getElem? (i := 331) (by decide +kernel), List.mem_of_getElem? (i := 120) (by decide +kernel)⟩
set_option maxRecDepth 100000 in
theorem px_in8 : Cond.instantiable (px_cn 8) (px_nf 8) ∈ lw_tbl ∧ Cond.initialized (px_cn 8) ∈ lw_tbl := ⟨List.mem_of_getElem? (i := 478) (by decide +kernel), List.mem_of_getElem? (i := 126) (by decide +kernel)⟩
set_option maxRecDepth 100000 in
theorem px_in9 : Cond.instantiable (px_cn 9) (px_nf 9) ∈ lw_tbl ∧ Cond.initialized (px_cn 9) ∈ lw_tbl := ⟨List.mem_of_getElem? (i := 148) (by decide +kernel), List.mem_of_getElem? (i := 114) (by decide +kernel)⟩
set_option maxRecDepth 100000 in
theorem px_in10 : Cond.instantiable (px_cn 10) (px_nf 10) ∈ lw_tbl ∧ Cond.initialized (px_cn 10) ∈ lw_tbl := ⟨List.mem_of_getElem? (i := 427) (by decide +kernel), List.mem_of_getElem? (i := 124) (by decide +kernel)⟩
set_option maxRecDepth 100000 in
theorem px_in11 : Cond.instantiable (px_cn 11) (px_nf 11) ∈ lw_tbl ∧ Cond.initialized (px_cn 11) ∈ lw_tbl := ⟨List.mem_of_getElem? (i := 140) (by decide +kernel), List.mem_of_getElem? (i := 113) (by decide +kernel)⟩
set_option maxRecDepth 100000 in
theorem px_in12 : Cond.instantiable (px_cn 12) (px_nf 12) ∈ lw_tbl ∧ Cond.initialized (px_cn 12) ∈ lw_tbl := ⟨List.mem_of_getElem? (i := 1571) (by decide +kernel), List.mem_of_getElem? (i := 127) (by decide +kernel)⟩
set_option maxRecDepth 100000 in
theorem px_acI : Cond.arrayClass .int ∈ lw_tbl := List.mem_of_getElem? (i := 183) (by decide +kernel)
set_option maxRecDepth 100000 in
theorem px_acZ : Cond.arrayClass .boolean ∈ lw_tbl := List.mem_of_getElem? (i := 329) (by decide +kernel)
set_option maxRecDepth 100000 in
theorem px_acJ : Cond.arrayClass .long ∈ lw_tbl := List.mem_of_getElem? (i := 2256) (by decide +kernel)
set_option maxRecDepth 100000 in
theorem px_objw : Cond.instanceMethod Lib.objectInit ∈ lw_tbl ∧ Cond.code Lib.objectInit ⟨#[0xb1]⟩ 1 none ∈ lw_tbl := ⟨List.mem_of_getElem? (i := 145) (by decide +kernel), List.mem_of_getElem? (i := 146) (by decide +kernel)⟩
set_option maxRecDepth 100000 in
theorem px_sysw : Cond.native arraycopyName ∈ lw_tbl ∧ Cond.static arraycopyName ∈ lw_tbl ∧ Cond.initialized "java/lang/System" ∈ lw_tbl := ⟨List.mem_of_getElem? (i := 291) (by decide +kernel), List.mem_of_getElem? (i := 290) (by decide +kernel), List.mem_of_getElem? (i := 117) (by decide +kernel)⟩
theorem px_layA {c : Nat} (h : c < 13) : ∀ w ∈ u_ws (px_cn c) (px_T c) (px_nf c), w ∈ lw_tbl ∧ goodWord w = true := by
  have q : c = 0 ∨ c = 1 ∨ c = 2 ∨ c = 3 ∨ c = 4 ∨ c = 5 ∨ c = 6 ∨ c = 7 ∨ c = 8 ∨ c = 9 ∨ c = 10 ∨ c = 11 ∨ c = 12 := by omega
  rcases q with rfl | rfl | rfl | rfl | rfl | rfl | rfl | rfl | rfl | rfl | rfl | rfl | rfl
  · exact px_lay0
  · exact px_lay1
  · exact px_lay2
  · exact px_lay3
  · exact px_lay4
  · exact px_lay5
  · exact px_lay6
  · exact px_lay7
  · exact px_lay8
  · exact px_lay9
  · exact px_lay10
  · exact px_lay11
  · exact px_lay12
theorem px_vwA {c : Nat} (h : c < 13) : vwCl[c]? = some (px_cn c, px_T c, px_nf c) := by
  have q : c = 0 ∨ c = 1 ∨ c = 2 ∨ c = 3 ∨ c = 4 ∨ c = 5 ∨ c = 6 ∨ c = 7 ∨ c = 8 ∨ c = 9 ∨ c = 10 ∨ c = 11 ∨ c = 12 := by omega
  rcases q with rfl | rfl | rfl | rfl | rfl | rfl | rfl | rfl | rfl | rfl | rfl | rfl | rfl
  · exact px_vw0
  · exact px_vw1
  · exact px_vw2
  · exact px_vw3
  · exact px_vw4
  · exact px_vw5
  · exact px_vw6
  · exact px_vw7
  · exact px_vw8
  · exact px_vw9
  · exact px_vw10
  · exact px_vw11
  · exact px_vw12
theorem px_fqA {c : Nat} (h : c < 13) : (List.range (px_nf c)).all (px_fq c) = true := by
  have q : c = 0 ∨ c = 1 ∨ c = 2 ∨ c = 3 ∨ c = 4 ∨ c = 5 ∨ c = 6 ∨ c = 7 ∨ c = 8 ∨ c = 9 ∨ c = 10 ∨ c = 11 ∨ c = 12 := by omega
  rcases q with rfl | rfl | rfl | rfl | rfl | rfl | rfl | rfl | rfl | rfl | rfl | rfl | rfl
  · exact px_fq0
  · exact px_fq1
  · exact px_fq2
  · exact px_fq3
  · exact px_fq4
  · exact px_fq5
  · exact px_fq6
  · exact px_fq7
  · exact px_fq8
  · exact px_fq9
  · exact px_fq10
  · exact px_fq11
  · exact px_fq12
theorem px_nmA {c : Nat} (h : c < 13) : ∀ a, a < px_nf c → ∀ b, b < px_nf c → a ≠ b → (px_T c a).2.1 ≠ (px_T c b).2.1 := by
  have q : c = 0 ∨ c = 1 ∨ c = 2 ∨ c = 3 ∨ c = 4 ∨ c = 5 ∨ c = 6 ∨ c = 7 ∨ c = 8 ∨ c = 9 ∨ c = 10 ∨ c = 11 ∨ c = 12 := by omega
  rcases q with rfl | rfl | rfl | rfl | rfl | rfl | rfl | rfl | rfl | rfl | rfl | rfl | rfl
  · exact px_nm0
  · exact px_nm1
  · exact px_nm2
  · exact px_nm3
  · exact px_nm4
  · exact px_nm5
  · exact px_nm6
  · exact px_nm7
  · exact px_nm8
  · exact px_nm9
  · exact px_nm10
  · exact px_nm11
  · exact px_nm12
theorem px_inA {c : Nat} (h : c < 13) : Cond.instantiable (px_cn c) (px_nf c) ∈ lw_tbl ∧ Cond.initialized (px_cn c) ∈ lw_tbl := by
  have q : c = 0 ∨ c = 1 ∨ c = 2 ∨ c = 3 ∨ c = 4 ∨ c = 5 ∨ c = 6 ∨ c = 7 ∨ c = 8 ∨ c = 9 ∨ c = 10 ∨ c = 11 ∨ c = 12 := by omega
  rcases q with rfl | rfl | rfl | rfl | rfl | rfl | rfl | rfl | rfl | rfl | rfl | rfl | rfl
  · exact px_in0
  · exact px_in1
  · exact px_in2
  · exact px_in3
  · exact px_in4
  · exact px_in5
  · exact px_in6
  · exact px_in7
  · exact px_in8
  · exact px_in9
  · exact px_in10
  · exact px_in11
  · exact px_in12
theorem px_fqI {c j : Nat} (h : c < 13) (hj : j < px_nf c) : (px_T c j).1 = px_cn c ∧ parseFieldDescriptor (px_T c j).2.2.1 = some (px_ty c j) ∧ (px_T c j).2.2.2 = decide (10 ≤ px_fty c j) ∧ px_fty c j % 10 = px_tyc (px_ty c j) ∧ defaultValue (px_ty c j) = px_dft (px_fty c j) := by
  have q := List.all_eq_true.mp (px_fqA h) j (List.mem_range.mpr hj)
  unfold px_fq at q
  simp only [Bool.and_eq_true, decide_eq_true_eq] at q
  exact ⟨q.1.1.1.1, q.1.1.1.2, q.1.1.2, q.1.2, q.2⟩
