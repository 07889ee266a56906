/-! WHAT THE PURE MACHINE SAYS HOLDS OF THE MACHINE: calls, exceptions that come back, their catching. -/
theorem px_lk0 (c : Nat) : px_lk c 0 = none := by
  have key : ∀ c, c < 17 → px_lk c 0 = none := by decide +kernel
  rcases Nat.lt_or_ge c 17 with h | h
  · exact key c h
  · exact px_lk_out h
theorem px_hh0 : ∀ k, k < 335 → px_stc k ≠ 1 → (px_prog k).2.2.2.2.2.2 = [] := by decide +kernel
/-- what a call needs, what it gives -/
def px_Pc (s0 : State) (D : va_G) (cs : ClassId × ClassId × ClassId) (ρ : Nat → Nat) (av : List Value) (V : px_V) : Array Value → State → Prop := fun a U =>
  a = (av.map (px_re ρ)).toArray ∧ s0.WarmedH U.vm ∧ s0.heap.size ≤ U.heap.size ∧ (∀ q, q < s0.heap.size → U.heap[q]? = s0.heap[q]?) ∧ px_n V ≤ 103 ∧ va_P D vwCl (px_ws s0.heap.size cs ρ V) U.heap ∧ (px_n V < 103 → U.heap.size ≤ s0.heap.size + px_n V)
def px_Qc (s0 : State) (D : va_G) (cs : ClassId × ClassId × ClassId) (ρ : Nat → Nat) (Q : px_Q) : Array Value → State → Outcome → State → Prop := fun _ st o t =>
  (∃ r V', o = .returned (r.map (px_re ρ)) ∧ Q (.inl r) V' ∧ px_n V' ≤ 103 ∧ va_P D vwCl (px_ws s0.heap.size cs ρ V') t.heap) ∧ va_F (fun q => s0.heap.size ≤ q) st t
def px_Xc (s0 : State) (D : va_G) (cs : ClassId × ClassId × ClassId) (ρ : Nat → Nat) (Q : px_Q) : String → State → State → Prop := fun E st t =>
  (∃ k V', E = px_en k ∧ k < 2 ∧ Q (.inr k) V' ∧ px_n V' ≤ 103 ∧ va_P D vwCl (px_ws s0.heap.size cs ρ V') t.heap) ∧ va_F (fun q => s0.heap.size ≤ q) st t
def px_rm (d mi : Nat) : Room := { frames := 8 + d, cells := (px_bud mi).1, slots := (px_bud mi).2, locals := 300 + 60 * d }
def px_Mt (l : Launch) (s0 : State) (D : va_G) (cs : ClassId × ClassId × ClassId) (ρ : Nat → Nat) (d mi : Nat) (av : List Value) (V : px_V) (Q : px_Q) : Prop :=
  vx_Met l (px_y mi) [px_codeW mi (px_prog mi).2.2.2.2.2.2] (px_rm d mi) (px_Pc s0 D cs ρ av V) (px_Qc s0 D cs ρ (fun r V' => (px_n V' < 103 → px_n V' = px_n V + (px_bud mi).1) ∧ Q r V')) (px_Xc s0 D cs ρ (fun r V' => (px_n V' < 103 → px_n V' = px_n V + (px_bud mi).1) ∧ Q r V')) (px_bud mi).1 (px_bud mi).2 (fun q => s0.heap.size ≤ q)
theorem px_toMet {l : Launch} {y : MethodName} {ws : List Cond} {rm : Room} {Pc : Array Value → State → Prop} {Qc : Array Value → State → Outcome → State → Prop} {XC : String → State → State → Prop} {mc ms : Nat} {free : Addr → Prop} (h : vx_Met l y ws rm Pc Qc XC mc ms free) (hx : ∀ E st t, ¬ XC E st t) : Met l y ws rm Pc Qc mc ms free := by
  intro p e h1 h2 h3 s m args below h4 h5 h6 h7
  obtain ⟨n, o, g1, g2, g3, g4⟩ := h p e h1 h2 h3 s m args below h4 h5 h6 h7
  refine ⟨n, o, g1, g2, g3, ?_⟩
  rcases g4 with g4 | ⟨q, -, E, ce, L, g5, -⟩
  · exact g4
  · exact absurd g5 (hx _ _ _)
/-- an exception that came back and that no row of the table takes -/
def px_ZP (s0 : State) (D : va_G) (cs : ClassId × ClassId × ClassId) (ρ : Nat → Nat) (p : Program) (l : Launch) (e : Env) (R : Room) (s : State) (m : MethodId) (args : Array Value) (below : List Frame) (meth : Method) (c : Code) (M : px_M) (Z : State → Prop) (Q : px_Q) : Prop :=
  ∀ (H : Heap) (locs : List Loc) (ls : Array Slot) (V : px_V) (u : Nat × Nat) (pc k : Nat) (q : Addr) (ce : Cell) (rest : List Value), M.2.2.2.2.2.2 = [] → k < 2 → H[q]? = some ce → ce.vm = .none → s.vm.findClass (px_en k) = some ce.cls →
    u.1 ≤ (px_bud M.1).1 → u.2 ≤ (px_bud M.1).2 → Q (.inr k) V → px_n V ≤ 103 → va_P D vwCl (px_ws s0.heap.size cs ρ V) H → va_S (fun q => s0.heap.size ≤ q) s.heap H locs → vx_W p l e R s m args below meth c H locs u.1 u.2 Z (F0 m pc ls rest) q
section PXC
variable {l : Launch} {s0 : State} {b0 : Nat} {X : Nat × (Nat → Int32)} {D : va_G} {cs : ClassId × ClassId × ClassId} {adK adV : Nat → Nat} {wo : Nat} {ρ : Nat → Nat}
variable {p : Program} {e : Env} {R : Room} {s : State} {m : MethodId} {args : Array Value} {below : List Frame} {meth : Method} {c : Code} {Z : State → Prop} {M : px_M}
/-- the search of a method's table -/
theorem px_go (hE : px_Env l s0 b0 X D cs adK adV wo ρ) {cI : Nat} {f : JFrame} (hown : s.vm.findClass (px_cn cI) = some f.method.cls) (hWm : s0.WarmedH s.vm) (hpl : e.platform.magicAccessors = ({} : Platform).magicAccessors) {a : Addr} {ce : Cell} {k : Nat} (hk : k < 2) (hv : ce.vm = .none) (hcl : s.vm.findClass (px_en k) = some ce.cls) :
    ∀ (hh : List (Nat × Nat × Nat × Nat)) (h : Nat) (st : State), s.WarmedH st.vm → st.heap[a]? = some ce → px_find cI f.pc k hh = some h →
      ∃ vm', s.WarmedH vm' ∧ ∀ (Q : Handler → Pre) (E : CtlPost) (d : Bool) (acts : List Action), wp (findHandler.go f a (tableOf hh)) Q E e d acts st ↔ Q (.found h) d acts (st.setVm vm')
  | [], h, st, hW, hc, hf => by cases hf
  | (s1, t1, h1, k1) :: r, h, st, hW, hc, hf => by
    unfold px_find at hf
    have hobj : ∀ z, ce.vm ≠ .statics z := fun z q => by rw [hv] at q; cases q
    obtain ⟨kE, hkE, -⟩ := Vm.findClass_spec hcl
    by_cases hr : s1 ≤ f.pc ∧ f.pc < t1
    · rw [if_pos hr] at hf
      have hx : covers ⟨s1, t1, h1, k1⟩ f.pc = true := by simp [covers, hr.1, hr.2]
      simp only [covers] at hx
      split at hf
      · rename_i k' b q
        have h0 : k1 ≠ 0 := by
          intro q0
          rw [q0, px_lk0] at q
          cases q
        obtain ⟨cT, hcT, hcl5⟩ := Cond.classLink_spec hown (px_word (a' := args) hE hWm (px_link q).1 rfl) e.platform hpl
        obtain ⟨dk, _, _, kt, hd, _, _, _, _, hkt, _, hopen⟩ := hcl5.here
        have hl := hW.classLinks hcl5
        have hWn : s.WarmedH (st.vm.noted f.method.cls k1 (.cls cT)) := hW.noted hd hopen (State.rightAt_cls hcl5)
        obtain ⟨ha, ht⟩ := (resolveClass_links e.toSetting hl).op (op := VmOp.resolveClass f.method.cls k1) rfl
        have hal := hWn.alike
        obtain ⟨k2', hk2', -⟩ := hal.2.2 _ _ hkE
        obtain ⟨k3', hk3', -⟩ := hal.2.2 _ _ hkt
        by_cases he : k' = k
        · rw [if_pos he] at hf
          cases hf
          subst he
          have hce : cT = ce.cls := Option.some.inj (hcT.symm.trans hcl)
          subst hce
          have hfit : (st.vm.noted f.method.cls k1 (.cls ce.cls)).assignable ce.cls ce.cls = true := va_asg _ _
          refine ⟨_, hWn, fun Q E d acts => ?_⟩
          simp [tableOf, findHandler.go, hx, h0, ha, ht, hc, hobj, hk2', hk3', hfit, VmOp.dirties, VmOp.acts]
        · rw [if_neg he] at hf
          have hk' : k' < 2 := of_decide_eq_true (px_link q).2
          have hfit : (st.vm.noted f.method.cls k1 (.cls cT)).assignable ce.cls cT = false := by
            obtain ⟨a8, b8, g1, g2, g3⟩ := hE.2.2.2.2.2.2.2.2.2.1 k k' hk hk' (fun q => he q.symm)
            have g1' := (hWm.alike.findClass (px_en k)).trans g1
            have g2' := (hWm.alike.findClass (px_en k')).trans g2
            cases Option.some.inj (g1'.symm.trans hcl)
            cases Option.some.inj (g2'.symm.trans hcT)
            rw [hal.assignable, hWm.alike.assignable]
            exact g3
          obtain ⟨vm', w1, w2⟩ := px_go hE hown hWm hpl hk hv hcl r h (st.setVm (st.vm.noted f.method.cls k1 (.cls cT))) hWn hc hf
          refine ⟨vm', w1, fun Q E d acts => ?_⟩
          have w3 := w2 Q E d acts
          have e1 : (st.setVm (st.vm.noted f.method.cls k1 (.cls cT))).setVm vm' = st.setVm vm' := rfl
          rw [e1] at w3
          rw [← w3]
          simp [tableOf, findHandler.go, hx, h0, ha, ht, hc, hobj, hk2', hk3', hfit, VmOp.dirties, VmOp.acts]
      · cases hf
    · rw [if_neg hr] at hf
      have hx : covers ⟨s1, t1, h1, k1⟩ f.pc = false := by
        simp only [covers, Bool.and_eq_false_imp, decide_eq_true_eq, decide_eq_false_iff_not]
        exact fun q1 q2 => hr ⟨q1, q2⟩
      obtain ⟨vm', w1, w2⟩ := px_go hE hown hWm hpl hk hv hcl r h st hW hc hf
      refine ⟨vm', w1, fun Q E d acts => ?_⟩
      rw [← w2 Q E d acts]
      exact W.findHandler_go_skip hx
/-- caught -/
theorem px_catch (hF : px_Fr s0 p s m meth c M) (hE : px_Env l s0 b0 X D cs adK adV wo ρ) {H : Heap} {locs : List Loc} {cells slots pc k h : Nat} {ls : Array Slot} {rest : List Value} {q : Addr} {ce : Cell} (hk : k < 2) (hc : H[q]? = some ce) (hv : ce.vm = .none) (hcl : s.vm.findClass (px_en k) = some ce.cls) (hf : px_find M.2.1 pc k M.2.2.2.2.2.2 = some h)
    (kk : W p l e R s m args below meth c H locs cells slots Z (F0 m h ls [.ref q])) : vx_W p l e R s m args below meth c H locs cells slots Z (F0 m pc ls rest) q := by
  intro T hT XX
  have hpl : e.platform.magicAccessors = ({} : Platform).magicAccessors := by rw [XX.admits.platform]
  obtain ⟨vm', w1, w2⟩ := px_go (args := args) (f := F0 m pc ls rest) (e := e) hE hF.2.2.2.1 hF.2.2.2.2.1 hpl hk hv hcl M.2.2.2.2.2.2 h ((T.setTop (F0 m pc ls rest)).pushFrame (.throwing q)) XX.warmed (by show T.heap[q]? = some ce; rw [hT]; exact hc) hf
  have X' : Stand p l e R s m args below meth c (T.setVm vm') locs cells slots := XX.noted w1
  obtain ⟨t, a1, b1⟩ := kk (T.setVm vm') hT X'
  refine ⟨t, ?_, b1⟩
  obtain ⟨hgo, hw⟩ := XX.here.throwing (g := F0 m pc ls rest) q
  refine Steps.head hgo hw ?_
  have hfin : ∀ (Q : Handler → Pre) (E : CtlPost) (d : Bool) (acts : List Action), wp (findHandler (F0 m pc ls rest) q) Q E e d acts ((T.setTop (F0 m pc ls rest)).pushFrame (.throwing q)) ↔ Q (.found h) d acts (((T.setTop (F0 m pc ls rest)).pushFrame (.throwing q)).setVm vm') := by
    intro Q E d acts
    rw [W.findHandler_eq (meth := meth) (code := c) XX.method' XX.code, hF.2.2.2.2.2.2.2.2.1]
    exact w2 Q E d acts
  have step : (stepThrowing e ((T.setTop (F0 m pc ls rest)).pushFrame (.throwing q)) q (.java (F0 m pc ls rest) :: T.frames.tail)).Is ((((T.setTop (F0 m pc ls rest)).pushFrame (.throwing q)).setVm vm').setFrames (.java { F0 m pc ls rest with pc := h, stack := [.ref q] } :: T.frames.tail)) [] := by
    simp only [stepThrowing, searchFrame, vmDo]
    generalize hr : Sem.go _ e false [] _ = res
    obtain ⟨as, rfl, ha⟩ := Sem.eq_ok_of hr (a := Handler.found h) (s' := ((T.setTop (F0 m pc ls rest)).pushFrame (.throwing q)).setVm vm') (acts' := []) (by simp [hfin _ _ _ _])
    exact ⟨rfl, ha⟩
  rw [stepThread_throwing (frames_entered XX.here.top _), step.1]
  obtain ⟨g₀, hg⟩ := Option.isSome_iff_exists.mp XX.here.top
  obtain ⟨r, hr⟩ := State.topJava?_eq_some.mp hg
  have hr' : (T.setVm vm').frames = .java g₀ :: r := hr
  rw [State.setTop_of_frames _ hr'] at a1
  have e2 : (((T.setTop (F0 m pc ls rest)).pushFrame (.throwing q)).setVm vm').setFrames (.java { F0 m pc ls rest with pc := h, stack := [.ref q] } :: T.frames.tail) = (T.setVm vm').setFrames (.java (F0 m h ls [.ref q]) :: r) := by
    have e3 : ((T.setTop (F0 m pc ls rest)).pushFrame (.throwing q)).setVm vm' = ((T.setVm vm').setTop (F0 m pc ls rest)).pushFrame (.throwing q) := rfl
    rw [e3, State.pushFrame, State.setFrames_setFrames, State.setTop_of_frames _ hr', State.setFrames_setFrames, hr]
    rfl
  rw [e2]
  exact a1
end PXC
section PXA
variable {l : Launch} {s0 : State} {b0 : Nat} {X : Nat × (Nat → Int32)} {D : va_G} {cs : ClassId × ClassId × ClassId} {adK adV : Nat → Nat} {wo : Nat} {ρ : Nat → Nat}
variable {p : Program} {e : Env} {R : Room} {s : State} {m : MethodId} {args : Array Value} {below : List Frame} {meth : Method} {c : Code} {Z : State → Prop} {M : px_M}
/-- behind a call that returns or throws -/
theorem px_after {H : Heap} {locs : List Loc} {u : Nat × Nat} {mc ms pc : Nat} {ls : Array Slot} {st0 rest : List Value} {Qw : px_Q} {a : Array Value}
    (hr : vx_Run p l e R s m args below meth c H locs u.1 u.2 mc ms (F0 m pc ls st0) rest (px_Qc s0 D cs ρ Qw a) (px_Xc s0 D cs ρ Qw) (fun q => s0.heap.size ≤ q)) (hS : va_S (fun q => s0.heap.size ≤ q) s.heap H locs)
    (kr : ∀ (r : Option Value) (V' : px_V) (H1 : Heap) (locs1 : List Loc), Qw (.inl r) V' → px_n V' ≤ 103 → va_P D vwCl (px_ws s0.heap.size cs ρ V') H1 → va_S (fun q => s0.heap.size ≤ q) s.heap H1 locs1 → W p l e R s m args below meth c H1 locs1 (u.1 + mc) (u.2 + ms) Z (F0 m (pc + 3) ls ((r.map (px_re ρ)).toList ++ rest)))
    (kx : ∀ (k : Nat) (V' : px_V) (q : Addr) (ce : Cell) (H1 : Heap) (locs1 : List Loc), k < 2 → H1[q]? = some ce → ce.vm = .none → s.vm.findClass (px_en k) = some ce.cls → Qw (.inr k) V' → px_n V' ≤ 103 → va_P D vwCl (px_ws s0.heap.size cs ρ V') H1 → va_S (fun q => s0.heap.size ≤ q) s.heap H1 locs1 → vx_W p l e R s m args below meth c H1 locs1 (u.1 + mc) (u.2 + ms) Z (F0 m pc ls rest) q) :
    W p l e R s m args below meth c H locs u.1 u.2 Z (F0 m pc ls st0) := by
  intro T hT XX
  rcases hr T hT XX with ⟨v, st₀, t, T', L, h0, X', hL, e1, e2, ⟨⟨r, V', hv, hq, hn, hP⟩, hF⟩, st⟩ | ⟨q, st₀, t, T', L, E, ce, h0, X', hL, e1, e2, ⟨⟨k, V', hEk, hk, hq, hn, hP⟩, hF⟩, hce, hcv, hcl, st⟩
  · cases hv
    obtain ⟨k1, k2, k3⟩ := vx_keep h0 e1 hS (fun q _ h => h) (fun q h => h) hL hF
    obtain ⟨t2, a1, b1⟩ := kr r V' T'.heap (locs ++ L) hq hn (by rw [e1]; exact hP) k3 T' rfl X'
    exact ⟨t2, st t2 a1, b1⟩
  · obtain ⟨k1, k2, k3⟩ := vx_keep h0 e1 hS (fun q _ h => h) (fun q h => h) hL hF
    subst hEk
    obtain ⟨t2, a1, b1⟩ := kx k V' q ce T'.heap (locs ++ L) hk (by rw [e1]; exact hce) hcv hcl hq hn (by rw [e1]; exact hP) k3 T' rfl X'
    exact ⟨t2, st.trans a1, b1⟩
/-- behind a call that returns -/
theorem px_afterN {H : Heap} {locs : List Loc} {u : Nat × Nat} {mc ms pc : Nat} {ls : Array Slot} {st0 rest : List Value} {Qw : px_Q} {a : Array Value}
    (hr : va_Run p l e R s m args below meth c H locs u.1 u.2 mc ms (F0 m pc ls st0) rest (px_Qc s0 D cs ρ Qw a) (fun q => s0.heap.size ≤ q)) (hS : va_S (fun q => s0.heap.size ≤ q) s.heap H locs)
    (kr : ∀ (r : Option Value) (V' : px_V) (H1 : Heap) (locs1 : List Loc), Qw (.inl r) V' → px_n V' ≤ 103 → va_P D vwCl (px_ws s0.heap.size cs ρ V') H1 → va_S (fun q => s0.heap.size ≤ q) s.heap H1 locs1 → W p l e R s m args below meth c H1 locs1 (u.1 + mc) (u.2 + ms) Z (F0 m (pc + 3) ls ((r.map (px_re ρ)).toList ++ rest))) :
    W p l e R s m args below meth c H locs u.1 u.2 Z (F0 m pc ls st0) := by
  intro T hT XX
  obtain ⟨v, st₀, t, T', L, h0, X', hL, e1, e2, ⟨⟨r, V', hv, hq, hn, hP⟩, hF⟩, st⟩ := hr T hT XX
  cases hv
  obtain ⟨k1, k2, k3⟩ := vx_keep h0 e1 hS (fun q _ h => h) (fun q h => h) hL hF
  obtain ⟨t2, a1, b1⟩ := kr r V' T'.heap (locs ++ L) hq hn (by rw [e1]; exact hP) k3 T' rfl X'
  exact ⟨t2, st t2 a1, b1⟩
theorem px_good_code (k : Nat) (hh : List (Nat × Nat × Nat × Nat)) : goodWord (px_codeW k hh) = true := by
  unfold px_codeW
  split <;> rfl
theorem px_blind {av : List Value} {V : px_V} : FrameBlind (px_Pc s0 D cs ρ av V) := fun a U g mk h => h
/-- a call's start -/
theorem px_pre (hF : px_Fr s0 p s m meth c M) {H : Heap} {locs : List Loc} {av : List Value} {V : px_V} (h1 : px_n V ≤ 103) (h2 : va_P D vwCl (px_ws s0.heap.size cs ρ V) H) (h3 : va_S (fun q => s0.heap.size ≤ q) s.heap H locs) (hz : px_n V < 103 → H.size ≤ s0.heap.size + px_n V) :
    ∀ U : State, U.heap = H → s.WarmedH U.vm → px_Pc s0 D cs ρ av V (av.map (px_re ρ)).toArray U := by
  intro U hU hW
  have hs0 := hF.2.2.2.2.2.1
  refine ⟨rfl, State.WarmedH.trans hF.2.2.2.2.1 hW, by rw [hU]; exact Nat.le_trans hs0 h3.1, fun q hq => ?_, h1, by rw [hU]; exact h2, by rw [hU]; exact hz⟩
  rw [hU, h3.2.1 q (Nat.lt_of_lt_of_le hq hs0) (Nat.not_le.mpr hq)]
  exact hF.2.2.2.2.2.2.1 q hq
/-- the words of a call of a method without a table -/
theorem px_cb (hF : px_Fr s0 p s m meth c M) (hE : px_Env l s0 b0 X D cs adK adV wo ρ) {d mi idx n : Nat} (hm : mi < 335) (hne : mi ≠ 332) (hh : (px_prog mi).2.2.2.2.2.2 = []) (hl : px_lk M.2.1 idx = some (2, mi, n)) (hR1 : 8 + (d + 1) ≤ R.frames) (hR2 : 300 + 60 * (d + 1) ≤ R.locals) :
    CallB R s args (px_cn M.2.1) idx (px_y mi) (px_by mi) (px_prog mi).2.2.2.2.1 (px_ret (px_prog mi).2.2.2.1) [px_codeW mi (px_prog mi).2.2.2.2.2.2] (px_rm d mi) (px_bud mi).1 (px_bud mi).2 n := by
  obtain ⟨q1, q2, q3, q4, q5, q6, q7, q8, q9, q10, q11, q12, q13, q14, q15⟩ := px_meth hm hne
  have hWm := hF.2.2.2.2.1
  have hcw : px_codeW mi (px_prog mi).2.2.2.2.2.2 = Cond.code (px_y mi) (px_by mi) (px_prog mi).2.2.2.2.1 (px_ret (px_prog mi).2.2.2.1) := by rw [hh]; rfl
  have hpar := (px_link hl).2
  have hpar2 : (parseMethodDescriptor (px_y mi).desc).map (fun d => d.parameters.length) = some n := of_decide_eq_true (Bool.and_eq_true_iff.mp hpar).2
  refine ⟨rfl, rfl, ?_, ?_, ?_, ?_, ?_, ?_, ⟨q12, q13⟩, ?_, ?_⟩
  · show 8 + d + 1 ≤ R.frames
    omega
  · show 8 + ((px_prog mi).2.2.2.2.1 + 11) + (300 + 60 * d) ≤ R.locals
    omega
  · intro w hw a' U hU
    rw [List.mem_singleton] at hw
    subst hw
    exact word_at (args := args) hU (good_of_word (px_good_code _ _)) (px_word hE hWm q1 (px_good_code _ _))
  · rw [hcw]; exact List.mem_singleton.mpr rfl
  · rw [← hcw]; exact px_word hE hWm q1 (px_good_code _ _)
  · rw [q6]; exact px_word hE hWm q2 rfl
  · intro sig hsig
    rw [hsig] at hpar2
    exact (Option.some.inj hpar2).symm
  · exact px_word hE hWm (px_link hl).1 rfl
end PXA
