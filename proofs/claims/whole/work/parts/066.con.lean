/-! CALLS, exceptions that come back, their catching. -/
theorem px_lkz (c : Nat) : px_lk c 0 = none := by
  rcases Nat.lt_or_ge c 17 with h | h
  · have h17 : c = 0 ∨ c = 1 ∨ c = 2 ∨ c = 3 ∨ c = 4 ∨ c = 5 ∨ c = 6 ∨ c = 7 ∨ c = 8 ∨ c = 9 ∨ c = 10 ∨ c = 11 ∨ c = 12 ∨ c = 13 ∨ c = 14 ∨ c = 15 ∨ c = 16 := by omega
    rcases h17 with rfl | rfl | rfl | rfl | rfl | rfl | rfl | rfl | rfl | rfl | rfl | rfl | rfl | rfl | rfl | rfl | rfl <;> decide +kernel
  · exact px_lk_out h
/-- what a call needs, what it gives -/
def px_Pc (s0 : State) (D : va_G) (cs : ClassId × ClassId × ClassId) (ρ : Nat → Nat) (av : List Value) (V : px_V) : Array Value → State → Prop := fun a U =>
  a = (av.map (px_re ρ)).toArray ∧ s0.WarmedH U.vm ∧ s0.heap.size ≤ U.heap.size ∧ (∀ q, q < s0.heap.size → U.heap[q]? = s0.heap[q]?) ∧ px_n V ≤ 103 ∧ va_P D vwCl (px_ws s0.heap.size cs ρ V) U.heap ∧ (px_n V < 103 → U.heap.size ≤ s0.heap.size + px_n V)
def px_Qc (s0 : State) (D : va_G) (cs : ClassId × ClassId × ClassId) (ρ : Nat → Nat) (Q : px_Q) : Array Value → State → Outcome → State → Prop := fun _ st o t =>
  (∃ r V', o = .returned (r.map (px_re ρ)) ∧ Q (.inl r) V' ∧ px_n V' ≤ 103 ∧ va_P D vwCl (px_ws s0.heap.size cs ρ V') t.heap) ∧ va_F (fun q => s0.heap.size ≤ q) st t
def px_Xc (s0 : State) (D : va_G) (cs : ClassId × ClassId × ClassId) (ρ : Nat → Nat) (Q : px_Q) : String → State → State → Prop := fun E st t =>
  (∃ k V', E = px_en k ∧ k < 2 ∧ Q (.inr k) V' ∧ px_n V' ≤ 103 ∧ va_P D vwCl (px_ws s0.heap.size cs ρ V') t.heap) ∧ va_F (fun q => s0.heap.size ≤ q) st t
def px_rm (d mi : Nat) : Room := { frames := 8 + d, cells := (px_bud mi).1, slots := (px_bud mi).2, locals := 300 + 60 * d }
def px_Mt (l : Launch) (s0 : State) (D : va_G) (cs : ClassId × ClassId × ClassId) (ρ : Nat → Nat) (d mi : Nat) (av : List Value) (V : px_V) (Q : px_Q) : Prop :=
  vx_Met l (px_y mi) [px_codeW mi (px_prog mi).2.2.2.2.2.2] (px_rm d mi) (px_Pc s0 D cs ρ av V) (px_Qc s0 D cs ρ (fun r V' => (px_n V' < 103 → px_n V' = px_n V + (px_bud mi).1) ∧ Q r V')) (px_Xc s0 D cs ρ (fun r V' => (px_n V' < 103 → px_n V' = px_n V + (px_bud mi).1) ∧ Q r V')) (px_bud mi).1 (px_bud mi).2 (fun q => s0.heap.size ≤ q)
theorem px_toMet {l : Launch} {y : MethodName} {ws : List Cond} {rm : Room} {Pc : Array Value → State → Prop} {Qc : Array Value → State → Outcome → State → Prop} {XC : String → State → State → Prop} {mc ms : Nat} {free : Addr → Prop} (h : vx_Met l y ws rm Pc Qc XC mc ms free) (hx : ∀ E st t, ¬ XC E st t) : Met l y ws rm Pc Qc mc ms free := by
  intro p e h1 h2 h3 s m args below h4 h5 h6 h7
  obtain ⟨n, o, g1, g2, g3, g4⟩ := h p e h1 h2 h3 s m args below h4 h5 h6 h7
  refine ⟨n, o, g1, g2, g3, ?_⟩
  rcases g4 with g4 | ⟨q, -, E, ce, L, g5, -⟩
  · exact g4
  · exact absurd g5 (hx _ _ _)
/-- an exception that came back and that no row of the table takes -/
def px_ZP (s0 : State) (D : va_G) (cs : ClassId × ClassId × ClassId) (ρ : Nat → Nat) (p : Program) (l : Launch) (e : Env) (R : Room) (s : State) (m : MethodId) (args : Array Value) (below : List Frame) (meth : Method) (c : Code) (M : px_M) (Z : State → Prop) (Q : px_Q) : Prop :=
  ∀ (H : Heap) (locs : List Loc) (ls : Array Slot) (V : px_V) (u : Nat × Nat) (pc k : Nat) (q : Addr) (ce : Cell) (rest : List Value), M.2.2.2.2.2.2 = [] → k < 2 → H[q]? = some ce → ce.vm = .none → s.vm.findClass (px_en k) = some ce.cls →
    u.1 ≤ (px_bud M.1).1 → u.2 ≤ (px_bud M.1).2 → Q (.inr k) V → px_n V ≤ 103 → va_P D vwCl (px_ws s0.heap.size cs ρ V) H → va_S (fun q => s0.heap.size ≤ q) s.heap H locs → vx_W p l e R s m args below meth c H locs u.1 u.2 Z (F0 m pc ls rest) q
