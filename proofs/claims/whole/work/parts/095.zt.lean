/-! THROWS of the class: needElement, needArgument. -/
def px_wg (w : Cond) : Bool := (goodWord w || (w.faceAtom && w.onTables)) && vx_ot w
theorem px_wordF {l : Launch} {s0 s : State} {b0 : Nat} {X : Nat × (Nat → Int32)} {D : va_G} {cs : ClassId × ClassId × ClassId} {adK adV : Nat → Nat} {wo : Nat} {ρ : Nat → Nat} {a' : Array Value} {w : Cond} (hE : px_Env l s0 b0 X D cs adK adV wo ρ) (hW : s0.WarmedH s.vm) (hw : w ∈ lw_tbl) (hg : px_wg w = true) : w.before a' s = true := by
  unfold px_wg at hg
  rw [Bool.and_eq_true, Bool.or_eq_true, Bool.and_eq_true] at hg
  rcases hg.1 with h | ⟨h1, h2⟩
  · exact px_word hE hW hw h
  · have h3 := Cond.faceAtom_setVm (args := #[Value.ref b0]) (s := s0) (vm' := s.vm) hW.alike w h1 (hE.2.2.1 w hw)
    exact va_tabs (u := s0.setVm s.vm) (U := s) h2 rfl h3
def px_atE : List Cond := .initialized (px_en 1) :: vx_atS (px_cn 11) 458 (px_en 1) ["java/lang/RuntimeException", "java/lang/Exception"]
set_option maxRecDepth 100000 in
theorem px_atE_ok : px_atE.all (fun w => decide (w ∈ lw_tbl) && px_wg w) = true := by decide +kernel
def px_atO : List Cond := .initialized px_nse :: (px_atN (px_cn 11) 451).filter vx_no
set_option maxRecDepth 100000 in
theorem px_atO_ok : px_atO.all (fun w => decide (w ∈ lw_tbl) && px_wg w) = true := by decide +kernel
theorem px_allW {L : List Cond} (h : L.all (fun w => decide (w ∈ lw_tbl) && px_wg w) = true) {w : Cond} (hw : w ∈ L) : w ∈ lw_tbl ∧ px_wg w = true := by
  have h1 := List.all_eq_true.mp h w hw
  rw [Bool.and_eq_true, decide_eq_true_eq] at h1
  exact h1
theorem px_wg_ot {w : Cond} (h : px_wg w = true) : vx_ot w = true := (Bool.and_eq_true_iff.mp h).2
section PXZ
variable {l : Launch} {p : Program} {e : Env} {R : Room} {s : State} {m : MethodId} {args : Array Value} {below : List Frame} {meth : Method} {c : Code} {H : Heap} {locs : List Loc} {cells slots : Nat} {ls : Array Slot} {rest : List Value} {Qc : Array Value → State → Outcome → State → Prop} {XC : String → State → State → Prop} {free : Addr → Prop}
set_option maxHeartbeats 4000000 in
theorem px_throwN {cc : ByteArray} {pc : Nat} (hexec : p.tables.exec = Jvm.exec) (hb : c.code = cc) (hl : l.stackTraces = false) {own text : String} {ik is ic mc ms sa : Nat} {A : Nat → Prop}
    (hown : s.vm.findClass own = some m.cls)
    (hk : (Cond.classLink own ik px_nse).before args s = true) (hini : (Cond.initialized px_nse).before args s = true) (hstr : vk_R own is text sa s) (hat : ∀ w ∈ (px_atN own ic).filter vx_no, w.before args s = true)
    (hgood : ∀ w ∈ Cond.classLink own ik px_nse :: Cond.initialized px_nse :: (px_atN own ic).filter vx_no, vx_ot w = true)
    (hU : vx_Zq Bundle.tN "UNASSIGNED_STACK" Bundle.steD A s s.heap) (hN : vx_Zq Bundle.tN "SUPPRESSED_SENTINEL" Bundle.listD A s s.heap) (hS : va_S A s.heap H locs) (hsize : ls.size = c.maxLocals)
    (d0 : decode cc pc = .ok (.new ik, 3)) (d3 : decode cc (pc + 3) = .ok (.dup, 1)) (d4 : decode cc (pc + 4) = .ok (.ldc_w is, 3)) (d7 : decode cc (pc + 7) = .ok (.invokespecial ic, 3)) (d10 : decode cc (pc + 10) = .ok (.athrow, 1))
    (hout : ∀ x ∈ c.exceptionTable.toList, covers x (pc + 10) = false)
    (hRframes : 5 < R.frames) (hRlocals : (rest.map fun v => v.category).sum + (13 * 3 + 43) ≤ R.locals) (hRcells : cells + 1 ≤ R.cells) (hRslots : slots + 6 ≤ R.slots) (hlocks : meth.locks = false)
    (hx : ∀ t : State, s.vm.Alike t.vm → H.size ≤ t.heap.size → (∀ q : Nat, q < H.size → t.heap[q]? = H[q]?) → XC px_nse s t)
    (hf : ∀ z ∈ locs, free z.base) (hc : cells + 1 ≤ mc) (hs : slots + 6 ≤ ms) :
    W p l e R s m args below meth c H locs cells slots (vx_MQ below Qc XC args s mc ms free) (F0 m pc ls rest) := by
  intro T hT X
  have htr : e.platform.stackTraces = false := (show e.platform.stackTraces = l.stackTraces by rw [X.admits.platform]).trans hl
  have Y := vx_rebase X (R' := { frames := R.frames, locals := R.locals, cells := 1, slots := 6 }) (Nat.le_refl _) (Nat.le_refl _) hRcells hRslots
  obtain ⟨s', hA⟩ : ∃ z, z = (T.setVm s.vm).setFrames (.invoking m args :: below) := ⟨_, rfl⟩
  rw [← hA] at Y
  have hvm : s'.vm = s.vm := by rw [hA]; rfl
  have hhp : s'.heap = H := by rw [hA]; exact hT
  have hW0 : s.WarmedH s'.vm := by rw [hvm]; exact State.WarmedH.refl s
  have hat' : ∀ w ∈ (px_atN own ic).filter vx_no, w.before args s' = true := fun w hw => vx_ot_at hW0 hvm.symm (hgood w (List.mem_cons_of_mem _ (List.mem_cons_of_mem _ hw))) (hat w hw)
  have hk' : (Cond.classLink own ik px_nse).before args s' = true := vx_ot_at hW0 hvm.symm (hgood _ List.mem_cons_self) hk
  have hini' : (Cond.initialized px_nse).before args s' = true := vx_ot_at hW0 hvm.symm (hgood _ (List.mem_cons_of_mem _ List.mem_cons_self)) hini
  have hU' : vx_Zq Bundle.tN "UNASSIGNED_STACK" Bundle.steD A s' s'.heap := by rw [hhp]; exact vx_Zq.moved hW0.alike (hU.kept hS.2.1)
  have hN' : vx_Zq Bundle.tN "SUPPRESSED_SENTINEL" Bundle.listD A s' s'.heap := by rw [hhp]; exact vx_Zq.moved hW0.alike (hN.kept hS.2.1)
  have h : ∀ w ∈ px_atN own ic, w.before args s' = true := vx_own hat' (vx_isRefq hU'.1) (vx_isRefq hN'.1) hU'.2.word hN'.2.word
  have hown' : s'.vm.findClass own = some m.cls := by rw [hvm]; exact hown
  have hins : (Cond.instantiable px_nse 6).before args s' = true := h _ (by simp [px_atN])
  obtain ⟨vm₁, cX, kX, hfX, hkX, -, -, X₁, st1⟩ := Y.newCold hexec (own := own) (C := px_nse) (index := ik) (n := 6) hown' hk' hins hini'
    (g := F0 m pc ls rest) rfl (by rw [hb]; exact d0) (Nat.le_refl _) (Nat.le_refl _)
  generalize hT1 : (T.setVm vm₁).pushCell { cls := cX, slots := kX.instanceTypes.map defaultValue, vm := .none } = T1 at X₁ st1
  have hcat : (Value.ref T.heap.size).category = 1 := rfl
  have hcellA : T1.heap[T.heap.size]? = some (freshCell cX kX) := by rw [← hT1]; exact State.heap_pushCell_size _ _
  have d3' : decode c.code (pc + 3) = .ok (.dup, 1) := by rw [hb]; exact d3
  have d4' : decode c.code (pc + 4) = .ok (.ldc_w is, 3) := by rw [hb]; exact d4
  have hstr' : vk_R own is text sa s' := vk_R.warm hW0 hstr
  obtain ⟨U, hsteps, hrun, hend, hW, hsame, ce, hce, hO1, hO2⟩ := px_ctorN X₁ hexec htr (own := own) (ic := ic) hown' h (fun x hx => nomatch hx) hfX hkX hcellA (by rw [hhp, hT]; exact Nat.le_refl _) (msg := .ref sa) rfl
    (g := { method := m, pc := pc + 7, locals := ls, stack := .ref sa :: .ref T.heap.size :: .ref T.heap.size :: rest, locked := none }) rfl hsize rfl rfl (rest := rest) rfl
    (by rw [hb]; exact d7) (by rw [hb]; exact d10) hout hRframes (by simp only [List.map_cons, List.sum_cons, hcat]; omega) hlocks
  obtain ⟨f1, f2⟩ := vx_frame hsame
  rw [hhp] at f1 f2
  have hWs : s.WarmedH U.vm := State.WarmedH.trans hW0 hW
  have hcl : s.vm.findClass px_nse = some ce.cls := by
    have h9 := hO1
    rw [hvm] at h9
    exact h9
  have hall : s.sameButNew ({ U with vm := s.vm } : State) locs mc ms := by
    subst hA
    obtain ⟨e1, e2⟩ := hsame
    rw [State.setFrames_setFrames] at e1
    have h2 : (T.setVm s.vm).sameButNew ({ U with vm := s.vm } : State) [] (0 + 1) (0 + 6) := ⟨e1, e2⟩
    have h3 := X.same.trans h2
    rw [List.append_nil] at h3
    exact h3.mono hc hs
  refine ⟨U, ?_, .threw T.heap.size, hrun, hend, Or.inr ⟨T.heap.size, rfl, px_nse, ce, locs, hx U hWs.alike f1 (fun q hq => f2 q hq (fun z hz => nomatch hz)), hce, hO2, hcl, hWs, hall, hf⟩⟩
  refine st1 _ ?_
  show Steps p.tables e below (T1.setTop { method := m, pc := pc + 3, locals := ls, stack := .ref T.heap.size :: rest, locked := none }) _
  jvm_step X₁.here [X₁.here.top, hexec, d3', Value.category]
  exact X₁.ldcStringW hexec (own := own) (text := text) (index := is) (a := sa) hown' hstr'.1 hstr'.2
    (g := { method := m, pc := pc + 4, locals := ls, stack := .ref T.heap.size :: .ref T.heap.size :: rest, locked := none }) rfl d4' _ hsteps
end PXZ
section PXZ2
variable {l : Launch} {s0 : State} {b0 : Nat} {X : Nat × (Nat → Int32)} {D : va_G} {cs : ClassId × ClassId × ClassId} {adK adV : Nat → Nat} {wo : Nat} {ρ : Nat → Nat}
variable {p : Program} {e : Env} {R : Room} {s : State} {m : MethodId} {args : Array Value} {below : List Frame} {meth : Method} {c : Code} {M : px_M}
theorem px_zqS {C n d : String} (hF : px_Fr s0 p s m meth c M) (h : vx_Zq C n d (fun q => s0.heap.size ≤ q) s0 s0.heap) : vx_Zq C n d (fun q => s0.heap.size ≤ q) s s.heap :=
  vx_Zq.moved hF.2.2.2.2.1.alike (h.kept (fun a ha _ => hF.2.2.2.2.2.2.1 a ha))
theorem px_PH {V : px_V} {H H' : Heap} (hz : H.size ≤ H'.size) (hq : ∀ q : Nat, q < H.size → H'[q]? = H[q]?) (h : va_P D vwCl (px_ws s0.heap.size cs ρ V) H) : va_P D vwCl (px_ws s0.heap.size cs ρ V) H' := by
  refine va_P.kept h (fun k q hk => hq _ ?_)
  have := (h k q hk).lt
  exact this
theorem px_zt (hF : px_Fr s0 p s m meth c M) (hE : px_Env l s0 b0 X D cs adK adV wo ρ) (hMp : M = px_prog M.1) (hml : c.maxLocals = M.2.2.2.2.1) (hR1 : 8 ≤ R.frames) (hR2 : 300 ≤ R.locals) (hRc : ∀ a b, a ≤ (px_bud M.1).1 → b ≤ (px_bud M.1).2 → a ≤ R.cells ∧ b ≤ R.slots) {Q : px_Q} : px_ZT s0 D cs ρ p l e R s m args below meth c M (vx_MQ below (px_Qc s0 D cs ρ Q) (px_Xc s0 D cs ρ Q) args s (px_bud M.1).1 (px_bud M.1).2 (fun q => s0.heap.size ≤ q)) Q := by
  intro H locs ls V u pc k st hk hk2 hcat hsz U1 U2 hQ hn hP hS
  have hx := hF.1
  have hb := hF.2.1
  have hown := hF.2.2.2.1
  have hWm := hF.2.2.2.2.1
  have hlocks := hF.2.2.2.2.2.2.2.1
  obtain ⟨B1, B2⟩ := hRc _ _ U1 U2
  have hxx : ∀ t : State, s.vm.Alike t.vm → H.size ≤ t.heap.size → (∀ q : Nat, q < H.size → t.heap[q]? = H[q]?) → px_Xc s0 D cs ρ Q (px_en k) s t := by
    intro t _ h1 h2
    refine ⟨⟨k, V, rfl, hk2, hQ, hn, px_PH h1 h2 hP⟩, Nat.le_trans hS.1 h1, fun q q1 q2 => ?_⟩
    rw [h2 q (Nat.lt_of_lt_of_le q1 hS.1)]
    exact hS.2.1 q q1 q2
  have hct : ((st.map (px_re ρ)).map fun v => v.category).sum ≤ 8 := by rw [px_cat_map]; exact hcat
  have h01 : k = 0 ∨ k = 1 := by omega
  rcases h01 with rfl | rfl
  · have e1 : M.1 = 160 := congrArg Prod.fst hk
    have e2 : pc = 21 := congrArg Prod.snd hk
    subst e2
    rw [e1] at hMp
    have hcl : px_cn M.2.1 = px_cn 11 := by rw [hMp]; rfl
    rw [e1] at hb
    have htab : M.2.2.2.2.2.2 = [] := by rw [hMp]; rfl
    rw [hcl] at hown
    have w1 : ∀ w ∈ px_atO, w.before args s = true := fun w hw => px_wordF hE hWm (px_allW px_atO_ok hw).1 (px_allW px_atO_ok hw).2
    refine px_throwN (cc := px_by 160) (own := px_cn 11) (text := px_txt 4) (ik := 447) (is := 449) (ic := 451) (sa := adK 4) (A := fun q => s0.heap.size ≤ q) hx hb hE.1 hown (px_word hE hWm (px_link (c := 11) (idx := 447) (k := 5) (a := 0) (b := 0) (by decide +kernel)).1 rfl) (w1 _ List.mem_cons_self) (vk_R.warm hWm (hE.2.2.2.2.2.1 11 449 4 0 (by decide +kernel))) (fun w hw => w1 w (List.mem_cons_of_mem _ hw)) ?_ (px_zqS hF hE.2.2.2.2.2.2.2.2.1.1) (px_zqS hF hE.2.2.2.2.2.2.2.2.1.2) hS (by rw [hml]; exact hsz) (px_dec (k := 160) (by omega) (by decide +kernel)).1 (px_dec (k := 160) (by omega) (by decide +kernel)).1 (px_dec (k := 160) (by omega) (by decide +kernel)).1 (px_dec (k := 160) (by omega) (by decide +kernel)).1 (px_dec (k := 160) (by omega) (by decide +kernel)).1 ?_ (by omega) (by omega) B1 B2 hlocks hxx hS.2.2 U1 U2
    · intro w hw
      rcases List.mem_cons.mp hw with rfl | hw
      · rfl
      · exact px_wg_ot (px_allW px_atO_ok hw).2
    · intro x hx
      rw [hF.2.2.2.2.2.2.2.2.1, htab] at hx
      cases hx
  · have e1 : M.1 = 154 := congrArg Prod.fst hk
    have e2 : pc = 14 := congrArg Prod.snd hk
    subst e2
    rw [e1] at hMp
    have hcl : px_cn M.2.1 = px_cn 11 := by rw [hMp]; rfl
    rw [e1] at hb
    have htab : M.2.2.2.2.2.2 = [] := by rw [hMp]; rfl
    rw [hcl] at hown
    have w1 : ∀ w ∈ px_atE, w.before args s = true := fun w hw => px_wordF hE hWm (px_allW px_atE_ok hw).1 (px_allW px_atE_ok hw).2
    refine vx_throwSW (cc := px_by 154) (own := px_cn 11) (cls := px_en 1) (names := ["java/lang/RuntimeException", "java/lang/Exception"]) (text := px_txt 0) (ik := 454) (is := 456) (ic := 458) (sa := adK 0) (A := fun q => s0.heap.size ≤ q) hx hb hE.1 hown (by decide +kernel) (by decide +kernel) (px_word hE hWm (px_link (c := 11) (idx := 454) (k := 5) (a := 1) (b := 0) (by decide +kernel)).1 rfl) (w1 _ List.mem_cons_self) (vk_R.warm hWm (hE.2.2.2.2.2.1 11 456 0 0 (by decide +kernel))) (fun w hw => w1 w (List.mem_cons_of_mem _ hw)) ?_ (px_zqS hF hE.2.2.2.2.2.2.2.2.1.1) (px_zqS hF hE.2.2.2.2.2.2.2.2.1.2) hS (by rw [hml]; exact hsz) (px_dec (k := 154) (by omega) (by decide +kernel)).1 (px_dec (k := 154) (by omega) (by decide +kernel)).1 (px_dec (k := 154) (by omega) (by decide +kernel)).1 (px_dec (k := 154) (by omega) (by decide +kernel)).1 (px_dec (k := 154) (by omega) (by decide +kernel)).1 ?_ (by show 2 + 3 < R.frames; omega) (by show _ + (13 * (2 + 1) + 43) ≤ R.locals; omega) B1 B2 hlocks hxx hS.2.2 U1 U2
    · intro w hw
      rcases List.mem_cons.mp hw with rfl | hw
      · rfl
      · exact px_wg_ot (px_allW px_atE_ok hw).2
    · intro x hx
      rw [hF.2.2.2.2.2.2.2.2.1, htab] at hx
      cases hx
end PXZ2
