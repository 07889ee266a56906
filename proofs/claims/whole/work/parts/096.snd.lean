/-! px_snd: every call. -/
section PXSN
variable {l : Launch} {s0 : State} {b0 : Nat} {X : Nat × (Nat → Int32)} {D : va_G} {cs : ClassId × ClassId × ClassId} {adK adV : Nat → Nat} {wo : Nat} {ρ : Nat → Nat}
theorem px_init_name {s : State} {x : MethodName} {m : MethodId} {meth : Method} (hn : s.methodNamed? x = some m) (hm : s.vm.method? m = some meth) : meth.name = x.name := (name_of_methodNamed hn hm).1
set_option maxHeartbeats 4000000 in
theorem px_body (hE : px_Env l s0 b0 X D cs adK adV wo ρ) {d mi : Nat} (hm : mi < 335) (hne : mi ≠ 332) (hIH : ∀ mi av V Q, mi < 335 → mi ≠ 332 → px_C X d mi av V Q → px_Mt l s0 D cs ρ d mi av V Q) {av : List Value} {V : px_V} {Q : px_Q} (h : px_C X (d + 1) mi av V Q)
    {p : Program} {e : Env} {s : State} {m : MethodId} {args : Array Value} {below : List Frame} {meth : Method} {c : Code} {s₁ : State} {ws : List Cond}
    (B : BodyLoose p l (px_y mi) (headSpec ws (px_rm (d + 1) mi)) (px_by mi) (px_prog mi).2.2.2.2.1 (px_ret (px_prog mi).2.2.2.1) e s m args below meth c s₁) (hml : c.maxLocals = (px_prog mi).2.2.2.2.1) (htab : c.exceptionTable.toList = tableOf (px_prog mi).2.2.2.2.2.2) (hP : px_Pc s0 D cs ρ av V args s) :
    W p l e (px_rm (d + 1) mi) s m args below meth c s.heap [] 0 0 (vx_MQ below (px_Qc s0 D cs ρ (fun r V' => (px_n V' < 103 → px_n V' = px_n V + (px_bud mi).1) ∧ Q r V')) (px_Xc s0 D cs ρ (fun r V' => (px_n V' < 103 → px_n V' = px_n V + (px_bud mi).1) ∧ Q r V')) args s (px_bud mi).1 (px_bud mi).2 (fun q => s0.heap.size ≤ q)) (entryFrame m args (px_prog mi).2.2.2.2.1) := by
  obtain ⟨q1, q2, q3, q4, q5, q6, q7, q8, q9, q10, q11, q12, q13, q14, q15⟩ := px_meth hm hne
  obtain ⟨hA, hWm, hz1, hz2, hn, hPP, hz3⟩ := hP
  obtain ⟨hlay, hW⟩ := h
  have hF : px_Fr s0 p s m meth c (px_prog mi) := by
    refine ⟨B.exec, ?_, hml, ?_, hWm, hz1, hz2, B.notSynchronized, htab, ?_, B.returns⟩
    · rw [q8]; exact B.bytes
    · rw [← q7, ← q6]; exact findClass_of_methodNamed B.named
    · intro h1
      rw [px_init_name B.named B.method]
      exact q11.mp (q10.mpr h1)
  have hRc : ∀ a b, a ≤ (px_bud (px_prog mi).1).1 → b ≤ (px_bud (px_prog mi).1).2 → a ≤ (px_rm (d + 1) mi).cells ∧ b ≤ (px_rm (d + 1) mi).slots := by
    rw [q8]; exact fun a b h1 h2 => ⟨h1, h2⟩
  have hMp : px_prog mi = px_prog (px_prog mi).1 := by rw [q8]
  have hzr := px_zr (D := D) (cs := cs) (ρ := ρ) (l := l) (e := e) (R := px_rm (d + 1) mi) (args := args) (below := below) hF (Q := fun r V' => (px_n V' < 103 → px_n V' = px_n V + (px_bud mi).1) ∧ Q r V')
  have hzt := px_zt (l := l) (e := e) (R := px_rm (d + 1) mi) (args := args) (below := below) hF hE hMp hml (by show 8 ≤ 8 + (d + 1); omega) (by show 300 ≤ 300 + 60 * (d + 1); omega) hRc (Q := fun r V' => (px_n V' < 103 → px_n V' = px_n V + (px_bud mi).1) ∧ Q r V')
  have hzp := px_zp (D := D) (cs := cs) (ρ := ρ) (l := l) (e := e) (R := px_rm (d + 1) mi) (args := args) (below := below) hF (Q := fun r V' => (px_n V' < 103 → px_n V' = px_n V + (px_bud mi).1) ∧ Q r V')
  have key := hW _ (px_step hF hE hMp (by rw [q8]; omega) hIH (by show 8 + (d + 1) ≤ 8 + (d + 1); omega) (by show 300 + 60 * (d + 1) ≤ 300 + 60 * (d + 1); omega) hRc hzr hzt hzp)
  have k2 := key s.heap [] _ hn hPP va_S.rf (px_ent_LR ρ hlay) (fun h => by show s.heap.size + 0 ≤ _; exact hz3 h)
  rw [q8] at k2
  rw [hA, lg_entry_eq]
  rw [hA] at k2
  exact k2
theorem px_snd (hE : px_Env l s0 b0 X D cs adK adV wo ρ) : ∀ (d mi : Nat) (av : List Value) (V : px_V) (Q : px_Q), mi < 335 → mi ≠ 332 → px_C X d mi av V Q → px_Mt l s0 D cs ρ d mi av V Q
  | 0, mi, av, V, Q, _, _, h => h.elim
  | d + 1, mi, av, V, Q, hm, hne, h => by
    obtain ⟨q1, q2, q3, q4, q5, q6, q7, q8, q9, q10, q11, q12, q13, q14, q15⟩ := px_meth hm hne
    have hpl : plainName (px_y mi).cls = true := by rw [q6]; exact q5
    unfold px_Mt
    by_cases hh : (px_prog mi).2.2.2.2.2.2 = []
    · refine vx_ofW hpl (ws' := []) (cc := px_by mi) (maxL := (px_prog mi).2.2.2.2.1) (ret := px_ret (px_prog mi).2.2.2.1) (by rw [hh]; rfl) ?_
      intro p e s m args below meth c s₁ B hml ht hP
      refine px_body hE hm hne (px_snd hE d) h B hml ?_ hP
      rw [hh]
      cases he : c.exceptionTable.toList with
      | nil => rfl
      | cons x r => exact (ht x (by rw [he]; exact List.mem_cons_self)).elim
    · have hw : px_codeW mi (px_prog mi).2.2.2.2.2.2 = Cond.codeWith (px_y mi) (px_by mi) (px_prog mi).2.2.2.2.1 (px_ret (px_prog mi).2.2.2.1) (px_prog mi).2.2.2.2.2.2 := by
        unfold px_codeW
        rw [if_neg hh]
      refine vx_ofWH hpl (ws' := []) (cc := px_by mi) (maxL := (px_prog mi).2.2.2.2.1) (ret := px_ret (px_prog mi).2.2.2.1) (hh := (px_prog mi).2.2.2.2.2.2) (by rw [hw]) ?_
      intro p e s m args below meth c s₁ B hml hP
      refine px_body hE hm hne (px_snd hE d) h B hml ?_ hP
      exact vx_table (x := px_y mi) B (atoms_spec (ws := [px_codeW mi (px_prog mi).2.2.2.2.2.2]) B.pre _ (by rw [hw]; exact List.mem_cons_self))
end PXSN
