/-! WHAT THE PURE MACHINE SAYS OF A CALL HOLDS OF THE MACHINE. -/
section PXE
variable {l : Launch} {s0 : State} {b0 : Nat} {X : Nat × (Nat → Int32)} {D : va_G} {cs : ClassId × ClassId × ClassId} {adK adV : Nat → Nat} {wo : Nat} {ρ : Nat → Nat}
variable {p : Program} {e : Env} {R : Room} {s : State} {m : MethodId} {args : Array Value} {below : List Frame} {meth : Method} {c : Code} {Z : State → Prop} {M : px_M}
/-- one step -/
theorem px_step (hF : px_Fr s0 p s m meth c M) (hE : px_Env l s0 b0 X D cs adK adV wo ρ) (hMp : M = px_prog M.1) (hMl : M.1 < 338) {d : Nat} (hIH : ∀ mi av V Q, mi < 335 → mi ≠ 332 → px_C X d mi av V Q → px_Mt l s0 D cs ρ d mi av V Q) (hR1 : 8 + (d + 1) ≤ R.frames) (hR2 : 300 + 60 * (d + 1) ≤ R.locals) (hRc : ∀ a b, a ≤ (px_bud M.1).1 → b ≤ (px_bud M.1).2 → a ≤ R.cells ∧ b ≤ R.slots) {Q : px_Q}
    (hR : px_ZR s0 D cs ρ p l e R s m args below meth c M Z Q) (hX : px_ZT s0 D cs ρ p l e R s m args below meth c M Z Q) (hZP : px_ZP s0 D cs ρ p l e R s m args below meth c M Z Q) :
    ∀ σ : px_S, px_act X (px_C X d) M σ (px_G s0 D cs ρ p l e R s m args below meth c M Z) Q → px_G s0 D cs ρ p l e R s m args below meth c M Z σ := by
  intro σ h
  unfold px_act at h
  split at h
  · rename_i i len hi
    have hi2 : px_ins (px_prog M.1) σ.1 = some (i, len) := by rw [← hMp]; exact hi
    obtain ⟨hd, hg⟩ := px_dec hMl hi2
    unfold px_do at h
    split at h
    · exact px_s1 (pc := σ.1) (L := σ.2.1) (st := σ.2.2.1) (V := σ.2.2.2.1) (u := σ.2.2.2.2) hF hE hd hg h (fun _ q => q)
    · exact px_s2 (pc := σ.1) (L := σ.2.1) (st := σ.2.2.1) (V := σ.2.2.2.1) (u := σ.2.2.2.2) hF hd hg h (fun _ q => q)
    · exact px_s3 (pc := σ.1) (L := σ.2.1) (st := σ.2.2.1) (V := σ.2.2.2.1) (u := σ.2.2.2.2) hF hE hd hg hRc hR hX h (fun _ q => q)
    · exact px_s4 (pc := σ.1) (L := σ.2.1) (st := σ.2.2.1) (V := σ.2.2.2.1) (u := σ.2.2.2.2) hF hE hMp hMl hIH hR1 hR2 hd hg hRc hZP h (fun _ q => q)
  · exact h.elim
theorem px_lay_args (ρ : Nat → Nat) : ∀ (av : List Value) (b : Nat) (q : Nat × Value), (∃ v, (px_lay av)[q.1]? = some (some v) ∧ q.2 = px_re ρ v) → (b + q.1, q.2) ∈ lv_args b (av.map (px_re ρ))
  | [], b, q, ⟨v, h, _⟩ => by simp [px_lay] at h
  | w :: r, b, (i, x), ⟨v, h, hx⟩ => by
    have ih := px_lay_args ρ r
    cases w with
    | long y =>
      simp only [px_lay] at h
      match i, h with
      | 0, h =>
        simp at h
        subst h
        subst hx
        simp [lv_args, px_re]
      | 1, h => simp at h
      | i + 2, h =>
        have q := ih (b + 2) (i, x) ⟨v, by simpa using h, hx⟩
        rw [show b + (i + 2) = b + 2 + i by omega]
        have e : lv_args b ((Value.long y :: r).map (px_re ρ)) = (b, .long y) :: lv_args (b + 2) (r.map (px_re ρ)) := rfl
        rw [e]
        exact List.mem_cons_of_mem _ q
    | double y =>
      simp only [px_lay] at h
      match i, h with
      | 0, h =>
        simp at h
        subst h
        subst hx
        simp [lv_args, px_re]
      | i + 1, h => sorry
    | _ => sorry
end PXE
