section PXC
variable {l : Launch} {s0 : State} {b0 : Nat} {X : Nat × (Nat → Int32)} {D : va_G} {cs : ClassId × ClassId × ClassId} {adK adV : Nat → Nat} {wo : Nat} {ρ : Nat → Nat}
variable {p : Program} {e : Env} {R : Room} {s : State} {m : MethodId} {args : Array Value} {below : List Frame} {meth : Method} {c : Code} {Z : State → Prop} {M : px_M}
/-- the search of a method's table -/
theorem px_go (hE : px_Env l s0 b0 X D cs adK adV wo ρ) {cI : Nat} {f : JFrame} (hown : s.vm.findClass (px_cn cI) = some f.method.cls) (hWm : s0.WarmedH s.vm) (hpl : e.platform.magicAccessors = ({} : Platform).magicAccessors) {a : Addr} {ce : Cell} {k : Nat} (hk : k < 2) (hv : ce.vm = .none) (hcl : s.vm.findClass (px_en k) = some ce.cls) :
    ∀ (hh : List (Nat × Nat × Nat × Nat)) (h : Nat) (st : State), s.WarmedH st.vm → st.heap[a]? = some ce → px_find cI f.pc k hh = some h →
      ∃ vm', s.WarmedH vm' ∧ ∀ (Q : Handler → Pre) (E : CtlPost) (d : Bool) (acts : List Action), wp (findHandler.go f a (tableOf hh)) Q E e d acts st ↔ Q (.found h) d acts (st.setVm vm')
  | [], h, st, hW, hc, hf => by cases hf
  | (s1, t1, h1, k1) :: r, h, st, hW, hc, hf => by
    unfold px_find at hf
    have hobj : ∀ z, ce.vm ≠ .statics z := fun z q => by rw [hv] at q; cases q
    obtain ⟨kE, hkE, -⟩ := Vm.findClass_spec hcl
    by_cases hr : s1 ≤ f.pc ∧ f.pc < t1
    · rw [if_pos hr] at hf
      have hx : covers ⟨s1, t1, h1, k1⟩ f.pc = true := by simp [covers, hr.1, hr.2]
      simp only [covers] at hx
      split at hf
      · rename_i k' b q
        have h0 : k1 ≠ 0 := by
          intro q0
          rw [q0, px_lkz] at q
          cases q
        obtain ⟨cT, hcT, hcl5⟩ := Cond.classLink_spec hown (px_word (a' := #[]) hE hWm (px_link q).1 rfl) e.platform hpl
        obtain ⟨dk, _, _, kt, hd, _, _, _, _, hkt, _, hopen⟩ := hcl5.here
        have hl := hW.classLinks hcl5
        have hWn : s.WarmedH (st.vm.noted f.method.cls k1 (.cls cT)) := hW.noted hd hopen (State.rightAt_cls hcl5)
        obtain ⟨ha, ht⟩ := (resolveClass_links e.toSetting hl).op (op := VmOp.resolveClass f.method.cls k1) rfl
        have hal := hWn.alike
        obtain ⟨k2', hk2', -⟩ := hal.2.2 _ _ hkE
        obtain ⟨k3', hk3', -⟩ := hal.2.2 _ _ hkt
        by_cases he : k' = k
        · rw [if_pos he] at hf
          cases hf
          subst he
          have hce : cT = ce.cls := Option.some.inj (hcT.symm.trans hcl)
          subst hce
          have hfit : (st.vm.noted f.method.cls k1 (.cls ce.cls)).assignable ce.cls ce.cls = true := va_asg _ _
          refine ⟨_, hWn, fun Q E d acts => ?_⟩
          simp [tableOf, findHandler.go, hx, h0, ha, ht, hc, hobj, hk2', hk3', hfit, VmOp.dirties, VmOp.acts]
        · rw [if_neg he] at hf
          have hk' : k' < 2 := of_decide_eq_true (px_link q).2
          have hfit : (st.vm.noted f.method.cls k1 (.cls cT)).assignable ce.cls cT = false := by
            obtain ⟨a8, b8, g1, g2, g3⟩ := hE.2.2.2.2.2.2.2.2.2.1 k k' hk hk' (fun q => he q.symm)
            have g1' : s.vm.findClass (px_en k) = some a8 := by rw [hWm.alike.findClass]; exact g1
            have g2' : s.vm.findClass (px_en k') = some b8 := by rw [hWm.alike.findClass]; exact g2
            cases Option.some.inj (g1'.symm.trans hcl)
            cases Option.some.inj (g2'.symm.trans hcT)
            rw [hal.assignable, hWm.alike.assignable]
            exact g3
          obtain ⟨vm', w1, w2⟩ := px_go hE hown hWm hpl hk hv hcl r h (st.setVm (st.vm.noted f.method.cls k1 (.cls cT))) hWn hc hf
          refine ⟨vm', w1, fun Q E d acts => ?_⟩
          have w3 := w2 Q E d acts
          have e1 : (st.setVm (st.vm.noted f.method.cls k1 (.cls cT))).setVm vm' = st.setVm vm' := rfl
          rw [e1] at w3
          rw [← w3]
          simp [tableOf, findHandler.go, hx, h0, ha, ht, hc, hobj, hk2', hk3', hfit, VmOp.dirties, VmOp.acts]
      · cases hf
    · rw [if_neg hr] at hf
      have hx : covers ⟨s1, t1, h1, k1⟩ f.pc = false := by
        simp only [covers, Bool.and_eq_false_imp, decide_eq_true_eq, decide_eq_false_iff_not]
        exact fun q1 q2 => hr ⟨q1, q2⟩
      obtain ⟨vm', w1, w2⟩ := px_go hE hown hWm hpl hk hv hcl r h st hW hc hf
      refine ⟨vm', w1, fun Q E d acts => ?_⟩
      rw [← w2 Q E d acts]
      exact W.findHandler_go_skip hx
/-- caught -/
theorem px_catch (hF : px_Fr s0 p s m meth c M) (hE : px_Env l s0 b0 X D cs adK adV wo ρ) {H : Heap} {locs : List Loc} {cells slots pc k h : Nat} {ls : Array Slot} {rest : List Value} {q : Addr} {ce : Cell} (hk : k < 2) (hc : H[q]? = some ce) (hv : ce.vm = .none) (hcl : s.vm.findClass (px_en k) = some ce.cls) (hf : px_find M.2.1 pc k M.2.2.2.2.2.2 = some h)
    (kk : W p l e R s m args below meth c H locs cells slots Z (F0 m h ls [.ref q])) : vx_W p l e R s m args below meth c H locs cells slots Z (F0 m pc ls rest) q := by
  intro T hT XX
  have hpl : e.platform.magicAccessors = ({} : Platform).magicAccessors := by rw [XX.admits.platform]
  obtain ⟨vm', w1, w2⟩ := px_go (f := F0 m pc ls rest) (e := e) hE hF.2.2.2.1 hF.2.2.2.2.1 hpl hk hv hcl M.2.2.2.2.2.2 h ((T.setTop (F0 m pc ls rest)).pushFrame (.throwing q)) XX.warmed (by show T.heap[q]? = some ce; rw [hT]; exact hc) hf
  have X' : Stand p l e R s m args below meth c (T.setVm vm') locs cells slots := XX.noted w1
  obtain ⟨t, a1, b1⟩ := kk (T.setVm vm') hT X'
  refine ⟨t, ?_, b1⟩
  obtain ⟨hgo, hw⟩ := XX.here.throwing (g := F0 m pc ls rest) q
  refine Steps.head hgo hw ?_
  have hfin : ∀ (Q : Handler → Pre) (E : CtlPost) (d : Bool) (acts : List Action), wp (findHandler (F0 m pc ls rest) q) Q E e d acts ((T.setTop (F0 m pc ls rest)).pushFrame (.throwing q)) ↔ Q (.found h) d acts (((T.setTop (F0 m pc ls rest)).pushFrame (.throwing q)).setVm vm') := by
    intro Q E d acts
    rw [W.findHandler_eq (meth := meth) (code := c) XX.method' XX.code, hF.2.2.2.2.2.2.2.2.1]
    exact w2 Q E d acts
  have step : (stepThrowing e ((T.setTop (F0 m pc ls rest)).pushFrame (.throwing q)) q (.java (F0 m pc ls rest) :: T.frames.tail)).Is ((((T.setTop (F0 m pc ls rest)).pushFrame (.throwing q)).setVm vm').setFrames (.java { F0 m pc ls rest with pc := h, stack := [.ref q] } :: T.frames.tail)) [] := by
    simp only [stepThrowing, searchFrame, vmDo]
    generalize hr : Sem.go _ e false [] _ = res
    obtain ⟨as, rfl, ha⟩ := Sem.eq_ok_of hr (a := Handler.found h) (s' := ((T.setTop (F0 m pc ls rest)).pushFrame (.throwing q)).setVm vm') (acts' := []) (by simp [hfin _ _ _ _])
    exact ⟨rfl, ha⟩
  rw [stepThread_throwing (frames_entered XX.here.top _), step.1]
  obtain ⟨g₀, hg⟩ := Option.isSome_iff_exists.mp XX.here.top
  obtain ⟨r, hr⟩ := State.topJava?_eq_some.mp hg
  have hr' : (T.setVm vm').frames = .java g₀ :: r := hr
  rw [State.setTop_of_frames _ hr'] at a1
  have e2 : (((T.setTop (F0 m pc ls rest)).pushFrame (.throwing q)).setVm vm').setFrames (.java { F0 m pc ls rest with pc := h, stack := [.ref q] } :: T.frames.tail) = (T.setVm vm').setFrames (.java (F0 m h ls [.ref q]) :: r) := by
    have e3 : ((T.setTop (F0 m pc ls rest)).pushFrame (.throwing q)).setVm vm' = ((T.setVm vm').setTop (F0 m pc ls rest)).pushFrame (.throwing q) := rfl
    rw [e3, State.pushFrame, State.setFrames_setFrames, State.setTop_of_frames _ hr', State.setFrames_setFrames, hr]
    rfl
  rw [e2]
  exact a1
end PXC
