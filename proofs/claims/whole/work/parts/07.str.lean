/-! TEXT CONSTANTS: length and charAt. -/
def px_Kw (s0 U : State) : Prop := s0.WarmedH U.vm ∧ s0.heap.size ≤ U.heap.size ∧ ∀ q, q < s0.heap.size → U.heap[q]? = s0.heap[q]?
def px_Pj (s0 : State) (av : List Value) : Array Value → State → Prop := fun a U => a = av.toArray ∧ px_Kw s0 U
def px_Qj (v : Option Value) : Array Value → State → Outcome → State → Prop := fun _ st o t => o = .returned v ∧ t.heap = st.heap
def px_rj (d : Nat) : Room := { frames := d, cells := 0, slots := 0, locals := 40 * d }
def px_Jt (l : Launch) (s0 : State) (d : Nat) (y : MethodName) (cc : ByteArray) (maxL : Nat) (ret : Option FieldType) (av : List Value) (v : Option Value) : Prop :=
  Met l y [Cond.code y cc maxL ret] (px_rj d) (px_Pj s0 av) (px_Qj v) 0 0 (fun _ => False)
section PXJ
variable {l : Launch} {s0 : State} {b0 : Nat} {X : Nat × (Nat → Int32)} {D : va_G} {cs : ClassId × ClassId × ClassId} {adK adV : Nat → Nat} {wo : Nat} {ρ : Nat → Nat}
theorem px_jbody {y : MethodName} {cc : ByteArray} {maxL d : Nat} {ret : Option FieldType} {av : List Value} {v : Option Value} (hpl : plainName y.cls = true) (hlen : (lg_sl av).length ≤ maxL)
    (body : ∀ (p : Program) (e : Env) (s : State) (m : MethodId) (args : Array Value) (below : List Frame) (meth : Method) (c : Code) (ls : Array Slot), p.tables.exec = Jvm.exec → c.code = cc → c.maxLocals = maxL → s.vm.findClass y.cls = some m.cls → meth.locks = false → meth.sig.returnType = ret → px_Kw s0 s → (∀ q ∈ lv_args 0 av, ls[q.1]? = some (.val q.2)) → ls.size = maxL →
      W p l e (px_rj d) s m args below meth c s.heap [] 0 0 (MQ below (px_Qj v) args s 0 0 (fun _ => False)) (F0 m 0 ls [])) : px_Jt l s0 d y cc maxL ret av v := by
  refine Met.ofW hpl (ws' := []) rfl ?_
  intro p e s m args below meth c s₁ B hml hP
  obtain ⟨hA, hK⟩ := hP
  have h1 := lv_entry av (n := maxL) hlen
  have k := body p e s m args below meth c _ B.exec B.bytes hml (findClass_of_methodNamed B.named) B.notSynchronized B.returns hK h1.2.2 h1.1
  rw [hA] at k ⊢
  rw [lg_entry_eq]
  exact k
theorem px_jblind {av : List Value} : FrameBlind (px_Pj s0 av) := fun a U g mk h => h
variable {p : Program} {e : Env} {R : Room} {s : State} {m : MethodId} {args : Array Value} {below : List Frame} {meth : Method} {c : Code} {Z : State → Prop} {H : Heap} {locs : List Loc} {cells slots : Nat} {pc : Nat} {ls : Array Slot}
theorem px_jpre (hK : px_Kw s0 s) (hS : va_S (fun q => s0.heap.size ≤ q) s.heap H locs) {av : List Value} : ∀ U : State, U.heap = H → s.WarmedH U.vm → px_Pj s0 av av.toArray U := by
  intro U hU hW
  refine ⟨rfl, State.WarmedH.trans hK.1 hW, by rw [hU]; exact Nat.le_trans hK.2.1 hS.1, fun q hq => ?_⟩
  rw [hU, hS.2.1 q (Nat.lt_of_lt_of_le hq hK.2.1) (Nat.not_le.mpr hq)]
  exact hK.2.2 q hq
theorem px_jcw (hE : px_Env l s0 b0 X D cs adK adV wo ρ) (hK : px_Kw s0 s) {own : String} {idx d n maxL : Nat} {y : MethodName} {cc : ByteArray} {ret : Option FieldType} (w1 : Cond.code y cc maxL ret ∈ lw_tbl) (w2 : Cond.initialized y.cls ∈ lw_tbl) (w3 : Cond.methodLink own idx y ∈ lw_tbl) (hy : y.cls ≠ "java/lang/invoke/MethodHandle" ∧ y.cls ≠ "java/lang/invoke/VarHandle") (hn : (parseMethodDescriptor y.desc).map (fun d => d.parameters.length) = some n) (hm3 : maxL ≤ 3) (hR1 : d + 1 ≤ R.frames) (hR2 : 40 * (d + 1) ≤ R.locals) :
    CallB R s args own idx y cc maxL ret [Cond.code y cc maxL ret] (px_rj d) 0 0 n := by
  refine ⟨rfl, rfl, hR1, ?_, ?_, List.mem_singleton.mpr rfl, px_word hE hK.1 w1 rfl, px_word hE hK.1 w2 rfl, hy, ?_, px_word hE hK.1 w3 rfl⟩
  · show 8 + (maxL + 11) + 40 * d ≤ R.locals
    omega
  · intro w hw a' U hU
    rw [List.mem_singleton] at hw
    subst hw
    exact word_at (args := args) hU (good_of_word rfl) (px_word hE hK.1 w1 rfl)
  · intro sig hsig
    rw [hsig] at hn
    exact (Option.some.inj hn).symm
theorem px_jafter {v : Option Value} {st0 rest : List Value} {a : Array Value} (hr : va_Run p l e R s m args below meth c H locs cells slots 0 0 (F0 m pc ls st0) rest (px_Qj v a) (fun _ => False))
    (kk : W p l e R s m args below meth c H locs cells slots Z (F0 m (pc + 3) ls (v.toList ++ rest))) : W p l e R s m args below meth c H locs cells slots Z (F0 m pc ls st0) := by
  intro T hT XX
  obtain ⟨v', st₀, t, T', L, h0, X', hL, e1, e2, ⟨hv, hh⟩, st⟩ := hr T hT XX
  cases hv
  have hL0 : L = [] := by
    cases L with
    | nil => rfl
    | cons q r => exact (hL q List.mem_cons_self).elim
  subst hL0
  rw [List.append_nil] at X'
  obtain ⟨t2, a1, b1⟩ := kk T' (by rw [e1, hh, h0]) X'
  exact ⟨t2, st t2 a1, b1⟩
/-- a static call of the library -/
theorem px_jS (hE : px_Env l s0 b0 X D cs adK adV wo ρ) (hK : px_Kw s0 s) (hx : p.tables.exec = Jvm.exec) {cc : ByteArray} (hb : c.code = cc) (hml : c.maxLocals = ls.size) {own : String} (hown : s.vm.findClass own = some m.cls) {idx d maxL : Nat} {y : MethodName} {bc : ByteArray} {ret : Option FieldType} {av rest : List Value} {v : Option Value} (hM : px_Jt l s0 d y bc maxL ret av v)
    (w1 : Cond.code y bc maxL ret ∈ lw_tbl) (w2 : Cond.initialized y.cls ∈ lw_tbl) (w3 : Cond.methodLink own idx y ∈ lw_tbl) (w4 : Cond.static y ∈ lw_tbl) (hy : y.cls ≠ "java/lang/invoke/MethodHandle" ∧ y.cls ≠ "java/lang/invoke/VarHandle") (hn : (parseMethodDescriptor y.desc).map (fun d => d.parameters.length) = some av.length) (hm3 : maxL ≤ 3) (hR1 : d + 1 ≤ R.frames) (hR2 : 40 * (d + 1) ≤ R.locals)
    (hS : va_S (fun q => s0.heap.size ≤ q) s.heap H locs) (hct : (rest.map fun v => v.category).sum ≤ 8) (hc : cells ≤ R.cells) (hs : slots ≤ R.slots) (hd : decode cc pc = .ok (.invokestatic idx, 3))
    (kk : W p l e R s m args below meth c H locs cells slots Z (F0 m (pc + 3) ls (v.toList ++ rest))) : W p l e R s m args below meth c H locs cells slots Z (F0 m pc ls (av.reverse ++ rest)) := by
  refine px_jafter (v := v) (rest := rest) (va_runS (nL := ls.size) (Ts := []) (g := F0 m pc ls (av.reverse ++ rest)) ⟨hx, hb, hml, hown, fun w hw => by cases hw⟩ hM ⟨px_jcw hE hK w1 w2 w3 hy hn hm3 hR1 hR2, px_word hE hK.1 w4 rfl⟩ ⟨px_jblind, px_jpre hK hS⟩ rfl rfl rfl rfl (lv_room hct) hd ⟨hc, hs⟩) kk
theorem px_vkS (hE : px_Env l s0 b0 X D cs adK adV wo ρ) (hK : px_Kw s0 s) : vk_S 25 px_lens px_byts adK adV (fun q => s0.heap.size ≤ q) s s.heap := vk_S.moved hK.1.alike (hE.2.2.2.2.1.kept (fun a ha _ => hK.2.2 a ha))
/-- a call of a text constant's method -/
theorem px_jV (hE : px_Env l s0 b0 X D cs adK adV wo ρ) (hK : px_Kw s0 s) (hx : p.tables.exec = Jvm.exec) {cc : ByteArray} (hb : c.code = cc) (hml : c.maxLocals = ls.size) {own : String} (hown : s.vm.findClass own = some m.cls) {idx d maxL i : Nat} {y : MethodName} {bc : ByteArray} {ret : Option FieldType} {av rest : List Value} {v : Option Value} (hi : i < 25) (hM : px_Jt l s0 d y bc maxL ret (.ref (adK i) :: av) v)
    (w1 : Cond.code y bc maxL ret ∈ lw_tbl) (w2 : Cond.initialized y.cls ∈ lw_tbl) (w3 : Cond.methodLink own idx y ∈ lw_tbl) (w4 : Cond.instanceMethod y ∈ lw_tbl) (w5 : Cond.selects "java/lang/String" y y ∈ lw_tbl) (hy : y.cls ≠ "java/lang/invoke/MethodHandle" ∧ y.cls ≠ "java/lang/invoke/VarHandle") (hn : (parseMethodDescriptor y.desc).map (fun d => d.parameters.length) = some av.length) (hm3 : maxL ≤ 3) (hR1 : d + 1 ≤ R.frames) (hR2 : 40 * (d + 1) ≤ R.locals)
    (hS : va_S (fun q => s0.heap.size ≤ q) s.heap H locs) (hct : (rest.map fun v => v.category).sum ≤ 8) (hc : cells ≤ R.cells) (hs : slots ≤ R.slots) (hd : decode cc pc = .ok (.invokevirtual idx, 3))
    (kk : W p l e R s m args below meth c H locs cells slots Z (F0 m (pc + 3) ls (v.toList ++ rest))) : W p l e R s m args below meth c H locs cells slots Z (F0 m pc ls (av.reverse ++ .ref (adK i) :: rest)) := by
  refine px_jafter (v := v) (rest := rest) (va_runV (nL := ls.size) (Ts := []) (C := "java/lang/String") (b := adK i) (As := av) (g := F0 m pc ls (av.reverse ++ .ref (adK i) :: rest)) ⟨hx, hb, hml, hown, fun w hw => by cases hw⟩ hM ⟨px_jcw hE hK w1 w2 w3 hy hn hm3 hR1 hR2, px_word hE hK.1 w4 rfl, px_word hE hK.1 w5 rfl⟩ ⟨px_jblind, vk_recv (px_vkS hE hK) hi hS, px_jpre hK hS⟩ rfl rfl rfl rfl (lv_room hct) hd ⟨hc, hs⟩) kk
end PXJ
def px_stW : List Cond := [Cond.initialized RJ0, Cond.initialized RJ1, Cond.initialized RJ3, Cond.code yJ0_length_8abf5 cJ0_length_8abf5 1 (some .int), Cond.code yJ0_charAt_5068e cJ0_charAt_5068e 2 (some .char), Cond.code yJ0_coder_7d493 cJ0_coder_7d493 1 (some .byte), Cond.code yJ0_isLatin1_aae02 cJ0_isLatin1_aae02 1 (some .boolean), Cond.code yJ0_checkIndex_df160 cJ0_checkIndex_df160 2 none, Cond.code yJ1_charAt_3b067 cJ1_charAt_3b067 2 (some .char), Cond.code yJ3_checkIndex_8e157 cJ3_checkIndex_8e157 3 (some .int),
  Cond.instanceMethod yJ0_length_8abf5, Cond.instanceMethod yJ0_charAt_5068e, Cond.instanceMethod yJ0_coder_7d493, Cond.instanceMethod yJ0_isLatin1_aae02, Cond.static yJ0_checkIndex_df160, Cond.static yJ1_charAt_3b067, Cond.static yJ3_checkIndex_8e157,
  Cond.selects "java/lang/String" yJ0_length_8abf5 yJ0_length_8abf5, Cond.selects "java/lang/String" yJ0_charAt_5068e yJ0_charAt_5068e, Cond.selects "java/lang/String" yJ0_coder_7d493 yJ0_coder_7d493, Cond.selects "java/lang/String" yJ0_isLatin1_aae02 yJ0_isLatin1_aae02,
  Cond.methodLink RJ0 335 yJ0_coder_7d493, Cond.methodLink RJ0 492 yJ0_isLatin1_aae02, Cond.methodLink RJ0 495 yJ1_charAt_3b067, Cond.methodLink RJ1 9 yJ0_checkIndex_df160, Cond.methodLink RJ0 1059 yJ3_checkIndex_8e157,
  Cond.fieldLink RJ0 9 "java/lang/String" "value" "[B", Cond.fieldLink RJ0 15 "java/lang/String" "coder" "B", Cond.fieldLink RJ0 38 "java/lang/String" "COMPACT_STRINGS" "Z", Cond.fieldLink RJ0 1053 "jdk/internal/util/Preconditions" "SIOOBE_FORMATTER" "Ljava/util/function/BiFunction;"]
set_option maxRecDepth 100000 in
theorem px_stW_ok : px_stW.all (fun w => decide (w ∈ lw_tbl)) = true := by decide +kernel
theorem px_stw {w : Cond} (h : w ∈ px_stW) : w ∈ lw_tbl := of_decide_eq_true (List.all_eq_true.mp px_stW_ok w h)
theorem px_str128 : ∀ i, i < 25 → ∀ j, j < (px_str.getD i []).length → (px_str.getD i []).getD j 0 < 128 := by decide +kernel
theorem px_i2c128 : ∀ x, x < 128 → ((Int32.ofNat x &&& (Int16.ofInt 255).toInt32).toUInt32 % 65536).toInt32 = Int32.ofNat x ∧ narrow .char (.int (Int32.ofNat x)) = .int (Int32.ofNat x) := by decide +kernel
theorem px_lens_at : ∀ i, i < 25 → px_lens.getD i 0 = (px_str.getD i []).length ∧ (px_str.getD i []).length < 100 := by decide +kernel
theorem px_byts_at : ∀ i, i < 25 → ∀ j, j < (px_str.getD i []).length → (px_byts.getD i []).getD j 0 = Int32.ofNat ((px_str.getD i []).getD j 0) := by decide +kernel
theorem px_jd_coder_0 : decode cJ0_coder_7d493 0 = .ok (.getstatic 38, 3) := by decide +kernel
theorem px_jd_coder_3 : decode cJ0_coder_7d493 3 = .ok (.ifCond .eq 10, 3) := by decide +kernel
theorem px_jd_coder_6 : decode cJ0_coder_7d493 6 = .ok (.aload_n 0, 1) := by decide +kernel
theorem px_jd_coder_7 : decode cJ0_coder_7d493 7 = .ok (.getfield 15, 3) := by decide +kernel
theorem px_jd_coder_10 : decode cJ0_coder_7d493 10 = .ok (.goto 4, 3) := by decide +kernel
theorem px_jd_coder_14 : decode cJ0_coder_7d493 14 = .ok (.ireturn, 1) := by decide +kernel
theorem px_jd_lat_0 : decode cJ0_isLatin1_aae02 0 = .ok (.getstatic 38, 3) := by decide +kernel
theorem px_jd_lat_3 : decode cJ0_isLatin1_aae02 3 = .ok (.ifCond .eq 14, 3) := by decide +kernel
theorem px_jd_lat_6 : decode cJ0_isLatin1_aae02 6 = .ok (.aload_n 0, 1) := by decide +kernel
theorem px_jd_lat_7 : decode cJ0_isLatin1_aae02 7 = .ok (.getfield 15, 3) := by decide +kernel
theorem px_jd_lat_10 : decode cJ0_isLatin1_aae02 10 = .ok (.ifCond .ne 7, 3) := by decide +kernel
theorem px_jd_lat_13 : decode cJ0_isLatin1_aae02 13 = .ok (.iconst 1, 1) := by decide +kernel
theorem px_jd_lat_14 : decode cJ0_isLatin1_aae02 14 = .ok (.goto 4, 3) := by decide +kernel
theorem px_jd_lat_18 : decode cJ0_isLatin1_aae02 18 = .ok (.ireturn, 1) := by decide +kernel
theorem px_jd_len_0 : decode cJ0_length_8abf5 0 = .ok (.aload_n 0, 1) := by decide +kernel
theorem px_jd_len_1 : decode cJ0_length_8abf5 1 = .ok (.getfield 9, 3) := by decide +kernel
theorem px_jd_len_4 : decode cJ0_length_8abf5 4 = .ok (.arraylength, 1) := by decide +kernel
theorem px_jd_len_5 : decode cJ0_length_8abf5 5 = .ok (.aload_n 0, 1) := by decide +kernel
theorem px_jd_len_6 : decode cJ0_length_8abf5 6 = .ok (.invokevirtual 335, 3) := by decide +kernel
theorem px_jd_len_9 : decode cJ0_length_8abf5 9 = .ok (.ishr, 1) := by decide +kernel
theorem px_jd_len_10 : decode cJ0_length_8abf5 10 = .ok (.ireturn, 1) := by decide +kernel
theorem px_jd_pre_0 : decode cJ3_checkIndex_8e157 0 = .ok (.iload_n 0, 1) := by decide +kernel
theorem px_jd_pre_1 : decode cJ3_checkIndex_8e157 1 = .ok (.ifCond .lt 8, 3) := by decide +kernel
theorem px_jd_pre_4 : decode cJ3_checkIndex_8e157 4 = .ok (.iload_n 0, 1) := by decide +kernel
theorem px_jd_pre_5 : decode cJ3_checkIndex_8e157 5 = .ok (.iload_n 1, 1) := by decide +kernel
theorem px_jd_pre_6 : decode cJ3_checkIndex_8e157 6 = .ok (.if_icmp .lt 10, 3) := by decide +kernel
theorem px_jd_pre_16 : decode cJ3_checkIndex_8e157 16 = .ok (.iload_n 0, 1) := by decide +kernel
theorem px_jd_pre_17 : decode cJ3_checkIndex_8e157 17 = .ok (.ireturn, 1) := by decide +kernel
theorem px_jd_chk_0 : decode cJ0_checkIndex_df160 0 = .ok (.iload_n 0, 1) := by decide +kernel
theorem px_jd_chk_1 : decode cJ0_checkIndex_df160 1 = .ok (.iload_n 1, 1) := by decide +kernel
theorem px_jd_chk_2 : decode cJ0_checkIndex_df160 2 = .ok (.getstatic 1053, 3) := by decide +kernel
theorem px_jd_chk_5 : decode cJ0_checkIndex_df160 5 = .ok (.invokestatic 1059, 3) := by decide +kernel
theorem px_jd_chk_8 : decode cJ0_checkIndex_df160 8 = .ok (.pop, 1) := by decide +kernel
theorem px_jd_chk_9 : decode cJ0_checkIndex_df160 9 = .ok (.return_, 1) := by decide +kernel
theorem px_jd_lch_0 : decode cJ1_charAt_3b067 0 = .ok (.iload_n 1, 1) := by decide +kernel
theorem px_jd_lch_1 : decode cJ1_charAt_3b067 1 = .ok (.aload_n 0, 1) := by decide +kernel
theorem px_jd_lch_2 : decode cJ1_charAt_3b067 2 = .ok (.arraylength, 1) := by decide +kernel
theorem px_jd_lch_3 : decode cJ1_charAt_3b067 3 = .ok (.invokestatic 9, 3) := by decide +kernel
theorem px_jd_lch_6 : decode cJ1_charAt_3b067 6 = .ok (.aload_n 0, 1) := by decide +kernel
theorem px_jd_lch_7 : decode cJ1_charAt_3b067 7 = .ok (.iload_n 1, 1) := by decide +kernel
theorem px_jd_lch_8 : decode cJ1_charAt_3b067 8 = .ok (.baload, 1) := by decide +kernel
theorem px_jd_lch_9 : decode cJ1_charAt_3b067 9 = .ok (.sipush 255, 3) := by decide +kernel
theorem px_jd_lch_12 : decode cJ1_charAt_3b067 12 = .ok (.iand, 1) := by decide +kernel
theorem px_jd_lch_13 : decode cJ1_charAt_3b067 13 = .ok (.i2c, 1) := by decide +kernel
theorem px_jd_lch_14 : decode cJ1_charAt_3b067 14 = .ok (.ireturn, 1) := by decide +kernel
theorem px_jd_chr_0 : decode cJ0_charAt_5068e 0 = .ok (.aload_n 0, 1) := by decide +kernel
theorem px_jd_chr_1 : decode cJ0_charAt_5068e 1 = .ok (.invokevirtual 492, 3) := by decide +kernel
theorem px_jd_chr_4 : decode cJ0_charAt_5068e 4 = .ok (.ifCond .eq 12, 3) := by decide +kernel
theorem px_jd_chr_7 : decode cJ0_charAt_5068e 7 = .ok (.aload_n 0, 1) := by decide +kernel
theorem px_jd_chr_8 : decode cJ0_charAt_5068e 8 = .ok (.getfield 9, 3) := by decide +kernel
theorem px_jd_chr_11 : decode cJ0_charAt_5068e 11 = .ok (.iload_n 1, 1) := by decide +kernel
theorem px_jd_chr_12 : decode cJ0_charAt_5068e 12 = .ok (.invokestatic 495, 3) := by decide +kernel
theorem px_jd_chr_15 : decode cJ0_charAt_5068e 15 = .ok (.ireturn, 1) := by decide +kernel
section PXL
variable {l : Launch} {s0 : State} {b0 : Nat} {X : Nat × (Nat → Int32)} {D : va_G} {cs : ClassId × ClassId × ClassId} {adK adV : Nat → Nat} {wo : Nat} {ρ : Nat → Nat}
theorem px_cmpS {s : State} (hE : px_Env l s0 b0 X D cs adK adV wo ρ) (hK : px_Kw s0 s) : va_Z "java/lang/String" "COMPACT_STRINGS" "Z" (.int 1) (fun q => s0.heap.size ≤ q) s s.heap := va_Z.moved hK.1.alike (va_Z.kept (hE.2.2.2.2.2.2.2.2.2.2.1 ("java/lang/String", "COMPACT_STRINGS", "Z", (1 : Int32)) List.mem_cons_self) (fun a ha _ => hK.2.2 a ha))
theorem px_sioS {s : State} (hE : px_Env l s0 b0 X D cs adK adV wo ρ) (hK : px_Kw s0 s) : va_Zq "jdk/internal/util/Preconditions" "SIOOBE_FORMATTER" "Ljava/util/function/BiFunction;" (fun q => s0.heap.size ≤ q) s s.heap := va_Zq.moved hK.1.alike (va_Zq.kept hE.2.2.2.2.2.2.2.2.2.2.2 (fun a ha _ => hK.2.2 a ha))
theorem px_jcoder (hE : px_Env l s0 b0 X D cs adK adV wo ρ) {i : Nat} (hi : i < 25) : px_Jt l s0 1 yJ0_coder_7d493 cJ0_coder_7d493 1 (some .byte) [.ref (adK i)] (some (.int 0)) := by
  refine px_jbody (by decide) (Nat.le_refl 1) ?_
  intro p e s m args below meth c ls hx hb hml hown hlk hret hK hls hsz
  have hS : va_S (fun q => s0.heap.size ≤ q) s.heap s.heap [] := va_S.rf
  refine va_gets hx hb (px_cmpS hE hK) hS hown (px_word hE hK.1 (px_stw (w := Cond.fieldLink RJ0 38 "java/lang/String" "COMPACT_STRINGS" "Z") (by simp [px_stW])) rfl) (fun x h => h) px_jd_coder_0 ?_
  refine lv_if_eq hx hb px_jd_coder_3 (tgt := 13) rfl (fun q => absurd q (by decide)) (fun _ => ?_)
  refine lv_aload_n hx hb px_jd_coder_6 rfl (hls (0, _) List.mem_cons_self) ?_
  refine vk_getf hx hb ((px_vkS hE hK).1 i hi).2.1 hS hown (px_word hE hK.1 (px_stw (w := Cond.fieldLink RJ0 15 "java/lang/String" "coder" "B") (by simp [px_stW])) rfl) (fun x h => h) px_jd_coder_7 ?_
  refine lv_goto hx hb px_jd_coder_10 (tgt := 14) rfl ?_
  exact W.zret (ty := .byte) hx hb hret (by decide) (fun t ht _ => ⟨rfl, ht⟩) (fun q hq => by cases hq) px_jd_coder_14 hlk
theorem px_jlat (hE : px_Env l s0 b0 X D cs adK adV wo ρ) {i : Nat} (hi : i < 25) : px_Jt l s0 1 yJ0_isLatin1_aae02 cJ0_isLatin1_aae02 1 (some .boolean) [.ref (adK i)] (some (.int 1)) := by
  refine px_jbody (by decide) (Nat.le_refl 1) ?_
  intro p e s m args below meth c ls hx hb hml hown hlk hret hK hls hsz
  have hS : va_S (fun q => s0.heap.size ≤ q) s.heap s.heap [] := va_S.rf
  refine va_gets hx hb (px_cmpS hE hK) hS hown (px_word hE hK.1 (px_stw (w := Cond.fieldLink RJ0 38 "java/lang/String" "COMPACT_STRINGS" "Z") (by simp [px_stW])) rfl) (fun x h => h) px_jd_lat_0 ?_
  refine lv_if_eq hx hb px_jd_lat_3 (tgt := 17) rfl (fun q => absurd q (by decide)) (fun _ => ?_)
  refine lv_aload_n hx hb px_jd_lat_6 rfl (hls (0, _) List.mem_cons_self) ?_
  refine vk_getf hx hb ((px_vkS hE hK).1 i hi).2.1 hS hown (px_word hE hK.1 (px_stw (w := Cond.fieldLink RJ0 15 "java/lang/String" "coder" "B") (by simp [px_stW])) rfl) (fun x h => h) px_jd_lat_7 ?_
  refine lv_if_ne hx hb px_jd_lat_10 (tgt := 17) rfl (fun q => absurd rfl q) (fun _ => ?_)
  refine lv_iconst hx hb px_jd_lat_13 (v := 1) (by decide) ?_
  refine lv_goto hx hb px_jd_lat_14 (tgt := 18) rfl ?_
  exact W.zret (ty := .boolean) hx hb hret (by decide) (fun t ht _ => ⟨rfl, ht⟩) (fun q hq => by cases hq) px_jd_lat_18 hlk
theorem px_jlen (hE : px_Env l s0 b0 X D cs adK adV wo ρ) {i : Nat} (hi : i < 25) : px_Jt l s0 2 yJ0_length_8abf5 cJ0_length_8abf5 1 (some .int) [.ref (adK i)] (some (.int (Int32.ofNat (px_str.getD i []).length))) := by
  refine px_jbody (by decide) (Nat.le_refl 1) ?_
  intro p e s m args below meth c ls hx hb hml hown hlk hret hK hls hsz
  have hS : va_S (fun q => s0.heap.size ≤ q) s.heap s.heap [] := va_S.rf
  refine lv_aload_n hx hb px_jd_len_0 rfl (hls (0, _) List.mem_cons_self) ?_
  refine vk_getf hx hb ((px_vkS hE hK).1 i hi).2.2.1 hS hown (px_word hE hK.1 (px_stw (w := Cond.fieldLink RJ0 9 "java/lang/String" "value" "[B") (by simp [px_stW])) rfl) (fun x h => h) px_jd_len_1 ?_
  refine va_tlen hx hb ((px_vkS hE hK).1 i hi).2.2.2 hS rfl px_jd_len_4 ?_
  refine lv_aload_n hx hb px_jd_len_5 rfl (hls (0, _) List.mem_cons_self) ?_
  refine px_jV hE hK hx hb (hml.trans hsz.symm) hown hi (av := []) (px_jcoder hE hi) (px_stw (by simp [px_stW])) (px_stw (w := Cond.initialized RJ0) (by simp [px_stW])) (px_stw (w := Cond.methodLink RJ0 335 yJ0_coder_7d493) (by simp [px_stW])) (px_stw (by simp [px_stW])) (px_stw (by simp [px_stW])) (by decide) (by decide) (by decide) (Nat.le_refl 2) (Nat.le_refl 80) hS (show 1 + 0 ≤ 8 by decide) (Nat.zero_le _) (Nat.zero_le _) px_jd_len_6 ?_
  refine lv_ishr hx hb px_jd_len_9 ?_
  have e1 : ∀ x : Int32, x >>> ((0 : Int32) &&& 31) = x := fun x => by
    have : (0 : Int32) &&& 31 = 0 := by decide
    rw [this]
    simp
  rw [e1, (px_lens_at i hi).1]
  exact W.iret hx hb hret (fun t ht _ => ⟨rfl, ht⟩) (fun q hq => by cases hq) px_jd_len_10 hlk
theorem px_jprec (hE : px_Env l s0 b0 X D cs adK adV wo ρ) {j : Int32} {n : Nat} (hn : n < 100) (hin : vp_in j n) {w : Value} (hw : w.category = 1) : px_Jt l s0 1 yJ3_checkIndex_8e157 cJ3_checkIndex_8e157 3 (some .int) [.int j, .int (Int32.ofNat n), w] (some (.int j)) := by
  refine px_jbody (by decide) ?_ ?_
  · have e1 : (Value.int j).category = 1 := rfl
    have e2 : (Value.int (Int32.ofNat n)).category = 1 := rfl
    simp [lg_sl, hw, e1, e2]
  intro p e s m args below meth c ls hx hb hml hown hlk hret hK hls hsz
  have hS : va_S (fun q => s0.heap.size ≤ q) s.heap s.heap [] := va_S.rf
  have a0 := hls (0, .int j) List.mem_cons_self
  have a1 := hls (1, .int (Int32.ofNat n)) (List.mem_cons_of_mem _ List.mem_cons_self)
  refine lv_iload_n hx hb px_jd_pre_0 rfl a0 ?_
  refine lv_if_lt hx hb px_jd_pre_1 (tgt := 9) rfl (fun q => (hin (Or.inl q)).elim) (fun _ => ?_)
  refine lv_iload_n hx hb px_jd_pre_4 rfl a0 ?_
  refine lv_iload_n hx hb px_jd_pre_5 rfl a1 ?_
  refine lv_icmp_lt hx hb px_jd_pre_6 (tgt := 16) rfl (fun _ => ?_) (fun q => absurd ?_ q)
  · refine lv_iload_n hx hb px_jd_pre_16 rfl a0 ?_
    exact W.iret hx hb hret (fun t ht _ => ⟨rfl, ht⟩) (fun q hq => by cases hq) px_jd_pre_17 hlk
  · obtain ⟨g1, g2⟩ := vp_in_iff.mp hin
    apply Int32.lt_iff_toInt_lt.mpr
    have e : (Int32.ofNat n).toInt = n := Int32.toInt_ofNat_of_lt (by omega)
    rw [e]
    exact g2
theorem px_jchk (hE : px_Env l s0 b0 X D cs adK adV wo ρ) {j : Int32} {n : Nat} (hn : n < 100) (hin : vp_in j n) : px_Jt l s0 2 yJ0_checkIndex_df160 cJ0_checkIndex_df160 2 none [.int j, .int (Int32.ofNat n)] none := by
  refine px_jbody (by decide) (Nat.le_refl 2) ?_
  intro p e s m args below meth c ls hx hb hml hown hlk hret hK hls hsz
  have hS : va_S (fun q => s0.heap.size ≤ q) s.heap s.heap [] := va_S.rf
  have a0 := hls (0, .int j) List.mem_cons_self
  have a1 := hls (1, .int (Int32.ofNat n)) (List.mem_cons_of_mem _ List.mem_cons_self)
  have key : ∀ w : Value, w.category = 1 → W p l e (px_rj 2) s m args below meth c s.heap [] 0 0 (MQ below (px_Qj none) args s 0 0 (fun _ => False)) (F0 m 5 ls [w, .int (Int32.ofNat n), .int j]) := by
    intro w hw
    refine px_jS hE hK hx hb (hml.trans hsz.symm) hown (av := [.int j, .int (Int32.ofNat n), w]) (rest := []) (px_jprec hE hn hin hw) (px_stw (by simp [px_stW])) (px_stw (w := Cond.initialized RJ3) (by simp [px_stW])) (px_stw (w := Cond.methodLink RJ0 1059 yJ3_checkIndex_8e157) (by simp [px_stW])) (px_stw (by simp [px_stW])) (by decide) (show _ = some 3 by decide) (by decide) (Nat.le_refl 2) (Nat.le_refl 80) hS (by decide) (Nat.zero_le _) (Nat.zero_le _) px_jd_chk_5 ?_
    refine lv_pop hx hb px_jd_chk_8 rfl ?_
    exact W.vret hx hb hret (fun t ht _ => ⟨rfl, ht⟩) (fun q hq => by cases hq) px_jd_chk_9 hlk
  refine lv_iload_n hx hb px_jd_chk_0 rfl a0 ?_
  refine lv_iload_n hx hb px_jd_chk_1 rfl a1 ?_
  have hlw := px_word (a' := args) hE hK.1 (px_stw (w := Cond.fieldLink RJ0 1053 "jdk/internal/util/Preconditions" "SIOOBE_FORMATTER" "Ljava/util/function/BiFunction;") (by simp [px_stW])) rfl
  rcases px_sioS hE hK with hz | ⟨t, hz⟩
  · exact va_gets hx hb hz hS hown hlw (fun x h => h) px_jd_chk_2 (key _ rfl)
  · exact va_gets hx hb hz hS hown hlw (fun x h => h) px_jd_chk_2 (key _ rfl)
theorem px_jlch (hE : px_Env l s0 b0 X D cs adK adV wo ρ) {i : Nat} (hi : i < 25) {j : Int32} (hin : vp_in j (px_str.getD i []).length) : px_Jt l s0 3 yJ1_charAt_3b067 cJ1_charAt_3b067 2 (some .char) [.ref (adV i), .int j] (some (.int (Int32.ofNat ((px_str.getD i []).getD j.toNatClampNeg 0)))) := by
  refine px_jbody (by decide) (Nat.le_refl 2) ?_
  intro p e s m args below meth c ls hx hb hml hown hlk hret hK hls hsz
  have hS : va_S (fun q => s0.heap.size ≤ q) s.heap s.heap [] := va_S.rf
  have a0 := hls (0, .ref (adV i)) List.mem_cons_self
  have a1 := hls (1, .int j) (List.mem_cons_of_mem _ List.mem_cons_self)
  have hlen := px_lens_at i hi
  have hT := ((px_vkS hE hK).1 i hi).2.2.2
  rw [hlen.1] at hT
  have hj : j.toNatClampNeg < (px_str.getD i []).length := Nat.lt_of_not_le (fun q => hin (Or.inr q))
  have hc := px_i2c128 _ (px_str128 i hi _ hj)
  refine lv_iload_n hx hb px_jd_lch_0 rfl a1 ?_
  refine lv_aload_n hx hb px_jd_lch_1 rfl a0 ?_
  refine va_tlen hx hb hT hS rfl px_jd_lch_2 ?_
  refine px_jS hE hK hx hb (hml.trans hsz.symm) hown (av := [.int j, .int (Int32.ofNat (px_str.getD i []).length)]) (rest := []) (px_jchk hE hlen.2 hin) (px_stw (by simp [px_stW])) (px_stw (w := Cond.initialized RJ0) (by simp [px_stW])) (px_stw (w := Cond.methodLink RJ1 9 yJ0_checkIndex_df160) (by simp [px_stW])) (px_stw (by simp [px_stW])) (by decide) (show _ = some 2 by decide) (by decide) (Nat.le_refl 3) (Nat.le_refl 120) hS (by decide) (Nat.zero_le _) (Nat.zero_le _) px_jd_lch_3 ?_
  refine lv_aload_n hx hb px_jd_lch_6 rfl a0 ?_
  refine lv_iload_n hx hb px_jd_lch_7 rfl a1 ?_
  refine va_tb hx hb hT hS hin (by rw [px_byts_at i hi _ hj]) px_jd_lch_8 ?_
  refine lv_sipush hx hb px_jd_lch_9 rfl ?_
  refine lv_iand hx hb px_jd_lch_12 ?_
  refine lv_i2c hx hb px_jd_lch_13 hc.1 ?_
  exact W.zret (ty := .char) hx hb hret hc.2 (fun t ht _ => ⟨rfl, ht⟩) (fun q hq => by cases hq) px_jd_lch_14 hlk
theorem px_jchr (hE : px_Env l s0 b0 X D cs adK adV wo ρ) {i : Nat} (hi : i < 25) {j : Int32} (hin : vp_in j (px_str.getD i []).length) : px_Jt l s0 4 yJ0_charAt_5068e cJ0_charAt_5068e 2 (some .char) [.ref (adK i), .int j] (some (.int (Int32.ofNat ((px_str.getD i []).getD j.toNatClampNeg 0)))) := by
  refine px_jbody (by decide) (Nat.le_refl 2) ?_
  intro p e s m args below meth c ls hx hb hml hown hlk hret hK hls hsz
  have hS : va_S (fun q => s0.heap.size ≤ q) s.heap s.heap [] := va_S.rf
  have a0 := hls (0, .ref (adK i)) List.mem_cons_self
  have a1 := hls (1, .int j) (List.mem_cons_of_mem _ List.mem_cons_self)
  have hj : j.toNatClampNeg < (px_str.getD i []).length := Nat.lt_of_not_le (fun q => hin (Or.inr q))
  have hc := px_i2c128 _ (px_str128 i hi _ hj)
  refine lv_aload_n hx hb px_jd_chr_0 rfl a0 ?_
  refine px_jV hE hK hx hb (hml.trans hsz.symm) hown hi (av := []) (px_jlat hE hi) (px_stw (by simp [px_stW])) (px_stw (w := Cond.initialized RJ0) (by simp [px_stW])) (px_stw (w := Cond.methodLink RJ0 492 yJ0_isLatin1_aae02) (by simp [px_stW])) (px_stw (by simp [px_stW])) (px_stw (by simp [px_stW])) (by decide) (by decide) (by decide) (by decide) (by decide) hS (by decide) (Nat.zero_le _) (Nat.zero_le _) px_jd_chr_1 ?_
  refine lv_if_eq hx hb px_jd_chr_4 (tgt := 16) rfl (fun q => absurd q (by decide)) (fun _ => ?_)
  refine lv_aload_n hx hb px_jd_chr_7 rfl a0 ?_
  refine vk_getf hx hb ((px_vkS hE hK).1 i hi).2.2.1 hS hown (px_word hE hK.1 (px_stw (w := Cond.fieldLink RJ0 9 "java/lang/String" "value" "[B") (by simp [px_stW])) rfl) (fun x h => h) px_jd_chr_8 ?_
  refine lv_iload_n hx hb px_jd_chr_11 rfl a1 ?_
  refine px_jS hE hK hx hb (hml.trans hsz.symm) hown (av := [.ref (adV i), .int j]) (rest := []) (px_jlch hE hi hin) (px_stw (by simp [px_stW])) (px_stw (w := Cond.initialized RJ1) (by simp [px_stW])) (px_stw (w := Cond.methodLink RJ0 495 yJ1_charAt_3b067) (by simp [px_stW])) (px_stw (by simp [px_stW])) (by decide) (show _ = some 2 by decide) (by decide) (Nat.le_refl 4) (Nat.le_refl 160) hS (by decide) (Nat.zero_le _) (Nat.zero_le _) px_jd_chr_12 ?_
  exact W.zret (ty := .char) hx hb hret hc.2 (fun t ht _ => ⟨rfl, ht⟩) (fun q hq => by cases hq) px_jd_chr_15 hlk
variable {p : Program} {e : Env} {R : Room} {s : State} {m : MethodId} {args : Array Value} {below : List Frame} {meth : Method} {c : Code} {Z : State → Prop} {M : px_M}
theorem px_rhoS (hE : px_Env l s0 b0 X D cs adK adV wo ρ) {k : Nat} (k1 : 1000 ≤ k) (k2 : k < 1000 + px_str.length) : ρ k = adK (k - 1000) ∧ k - 1000 < 25 := by
  have h25 : px_str.length = 25 := by decide
  rw [h25] at k2
  refine ⟨?_, by omega⟩
  have e : k = 1000 + (k - 1000) := by omega
  rw [hE.2.1]
  rw [e, px_rho_s (by omega), Nat.add_sub_cancel_left]
theorem px_rlen (hF : px_Fr s0 p s m meth c M) (hE : px_Env l s0 b0 X D cs adK adV wo ρ) {d idx pc k : Nat} {ls : Array Slot} {st : List Value} {H : Heap} {locs : List Loc} {u : Nat × Nat} (hR1 : 8 + (d + 1) ≤ R.frames) (hR2 : 300 + 60 * (d + 1) ≤ R.locals) (hsz : ls.size = M.2.2.2.2.1) (k1 : 1000 ≤ k) (k2 : k < 1000 + px_str.length) (hct : px_cat st ≤ 8) (r1 : u.1 ≤ R.cells) (r2 : u.2 ≤ R.slots) {a b : Nat} (hl : px_wd M.2.1 idx 11 a b ∈ lw_tbl) (hd : decode (px_by M.1) pc = .ok (.invokevirtual idx, 3)) (h3 : va_S (fun q => s0.heap.size ≤ q) s.heap H locs)
    (kk : W p l e R s m args below meth c H locs u.1 u.2 Z (F0 m (pc + 3) ls ((Value.int (Int32.ofNat (px_str.getD (k - 1000) []).length) :: st).map (px_re ρ)))) : W p l e R s m args below meth c H locs u.1 u.2 Z (F0 m pc ls ((Value.ref k :: st).map (px_re ρ))) := by
  obtain ⟨e1, hi⟩ := px_rhoS hE k1 k2
  have hK : px_Kw s0 s := ⟨hF.2.2.2.2.1, hF.2.2.2.2.2.1, hF.2.2.2.2.2.2.1⟩
  have e2 : (Value.ref k :: st).map (px_re ρ) = [].reverse ++ Value.ref (adK (k - 1000)) :: st.map (px_re ρ) := by rw [← e1]; rfl
  rw [e2]
  exact px_jV hE hK hF.1 hF.2.1 (hF.2.2.1.trans hsz.symm) hF.2.2.2.1 hi (av := []) (px_jlen hE hi) (px_stw (by simp [px_stW])) (px_stw (w := Cond.initialized RJ0) (by simp [px_stW])) hl (px_stw (by simp [px_stW])) (px_stw (by simp [px_stW])) (by decide) (by decide) (by decide) (by omega) (by omega) h3 (by rw [px_cat_map]; exact hct) r1 r2 hd kk
theorem px_rchr (hF : px_Fr s0 p s m meth c M) (hE : px_Env l s0 b0 X D cs adK adV wo ρ) {d idx pc k : Nat} {j : Int32} {ls : Array Slot} {st : List Value} {H : Heap} {locs : List Loc} {u : Nat × Nat} (hR1 : 8 + (d + 1) ≤ R.frames) (hR2 : 300 + 60 * (d + 1) ≤ R.locals) (hsz : ls.size = M.2.2.2.2.1) (k1 : 1000 ≤ k) (k2 : k < 1000 + px_str.length) (hct : px_cat st ≤ 8) (hin : vp_in j (px_str.getD (k - 1000) []).length) (r1 : u.1 ≤ R.cells) (r2 : u.2 ≤ R.slots) {a b : Nat} (hl : px_wd M.2.1 idx 12 a b ∈ lw_tbl) (hd : decode (px_by M.1) pc = .ok (.invokevirtual idx, 3)) (h3 : va_S (fun q => s0.heap.size ≤ q) s.heap H locs)
    (kk : W p l e R s m args below meth c H locs u.1 u.2 Z (F0 m (pc + 3) ls ((Value.int (Int32.ofNat ((px_str.getD (k - 1000) []).getD j.toNatClampNeg 0)) :: st).map (px_re ρ)))) : W p l e R s m args below meth c H locs u.1 u.2 Z (F0 m pc ls ((Value.int j :: Value.ref k :: st).map (px_re ρ))) := by
  obtain ⟨e1, hi⟩ := px_rhoS hE k1 k2
  have hK : px_Kw s0 s := ⟨hF.2.2.2.2.1, hF.2.2.2.2.2.1, hF.2.2.2.2.2.2.1⟩
  have e2 : (Value.int j :: Value.ref k :: st).map (px_re ρ) = [Value.int j].reverse ++ Value.ref (adK (k - 1000)) :: st.map (px_re ρ) := by rw [← e1]; rfl
  rw [e2]
  exact px_jV hE hK hF.1 hF.2.1 (hF.2.2.1.trans hsz.symm) hF.2.2.2.1 hi (av := [.int j]) (px_jchr hE hi hin) (px_stw (by simp [px_stW])) (px_stw (w := Cond.initialized RJ0) (by simp [px_stW])) hl (px_stw (by simp [px_stW])) (px_stw (by simp [px_stW])) (by decide) (show _ = some 1 by decide) (by decide) (by omega) (by omega) h3 (by rw [px_cat_map]; exact hct) r1 r2 hd kk
end PXL
