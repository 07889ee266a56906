/-! WHAT THE PURE MACHINE SAYS OF A CALL HOLDS OF THE MACHINE. -/
section PXE
variable {l : Launch} {s0 : State} {b0 : Nat} {X : Nat × (Nat → Int32)} {D : va_G} {cs : ClassId × ClassId × ClassId} {adK adV : Nat → Nat} {wo : Nat} {ρ : Nat → Nat}
variable {p : Program} {e : Env} {R : Room} {s : State} {m : MethodId} {args : Array Value} {below : List Frame} {meth : Method} {c : Code} {Z : State → Prop} {M : px_M}
/-- one step -/
theorem px_step (hF : px_Fr s0 p s m meth c M) (hE : px_Env l s0 b0 X D cs adK adV wo ρ) (hMp : M = px_prog M.1) (hMl : M.1 < 338) {d : Nat} (hIH : ∀ mi av V Q, mi < 335 → mi ≠ 332 → px_C X d mi av V Q → px_Mt l s0 D cs ρ d mi av V Q) (hR1 : 8 + (d + 1) ≤ R.frames) (hR2 : 300 + 60 * (d + 1) ≤ R.locals) (hRc : ∀ a b, a ≤ (px_bud M.1).1 → b ≤ (px_bud M.1).2 → a ≤ R.cells ∧ b ≤ R.slots) {Q : px_Q}
    (hR : px_ZR s0 D cs ρ p l e R s m args below meth c M Z Q) (hX : px_ZT s0 D cs ρ p l e R s m args below meth c M Z Q) (hZP : px_ZP s0 D cs ρ p l e R s m args below meth c M Z Q) :
    ∀ σ : px_S, (∃ K : px_S → Prop, (∀ b, K b → px_G s0 D cs ρ p l e R s m args below meth c M Z b) ∧ px_act X (px_C X d) M σ K Q) → px_G s0 D cs ρ p l e R s m args below meth c M Z σ := by
  rintro σ ⟨K, hK, h⟩
  unfold px_act at h
  split at h
  · rename_i i len hi
    have hi2 : px_ins (px_prog M.1) σ.1 = some (i, len) := by rw [← hMp]; exact hi
    obtain ⟨hd, hg⟩ := px_dec hMl hi2
    unfold px_do at h
    split at h
    · exact px_s1 (pc := σ.1) (L := σ.2.1) (st := σ.2.2.1) (V := σ.2.2.2.1) (u := σ.2.2.2.2) hF hE hd hg h hK
    · exact px_s2 (pc := σ.1) (L := σ.2.1) (st := σ.2.2.1) (V := σ.2.2.2.1) (u := σ.2.2.2.2) hF hd hg h hK
    · exact px_s3 (pc := σ.1) (L := σ.2.1) (st := σ.2.2.1) (V := σ.2.2.2.1) (u := σ.2.2.2.2) hF hE hd hg hRc hR hX h hK
    · exact px_s4 (pc := σ.1) (L := σ.2.1) (st := σ.2.2.1) (V := σ.2.2.2.1) (u := σ.2.2.2.2) hF hE hMp hMl hIH hR1 hR2 hd hg hRc hZP h hK
  · exact h.elim
theorem px_lay_args (ρ : Nat → Nat) : ∀ (av : List Value) (b i : Nat) (v : Value), (px_lay av)[i]? = some (some v) → (b + i, px_re ρ v) ∈ lv_args b (av.map (px_re ρ))
  | [], b, i, v, h => by simp [px_lay] at h
  | w :: r, b, i, v, h => by
    have e : lv_args b ((w :: r).map (px_re ρ)) = (b, px_re ρ w) :: lv_args (if (px_re ρ w).category = 2 then b + 2 else b + 1) (r.map (px_re ρ)) := rfl
    rw [e, px_re_cat]
    unfold px_lay at h
    by_cases hc : w.category = 2
    · rw [if_pos hc] at h ⊢
      match i, h with
      | 0, h =>
        simp at h
        subst h
        exact List.mem_cons_self
      | 1, h => simp at h
      | i + 2, h =>
        have q := px_lay_args ρ r (b + 2) i v (by simpa using h)
        rw [show b + (i + 2) = b + 2 + i by omega]
        exact List.mem_cons_of_mem _ q
    · rw [if_neg hc] at h ⊢
      match i, h with
      | 0, h =>
        simp at h
        subst h
        exact List.mem_cons_self
      | i + 1, h =>
        have q := px_lay_args ρ r (b + 1) i v (by simpa using h)
        rw [show b + (i + 1) = b + 1 + i by omega]
        exact List.mem_cons_of_mem _ q
theorem px_lay_len (ρ : Nat → Nat) : ∀ av : List Value, (lg_sl (av.map (px_re ρ))).length = (px_lay av).length
  | [] => rfl
  | w :: r => by
    have ih := px_lay_len ρ r
    have e : lg_sl ((w :: r).map (px_re ρ)) = (if (px_re ρ w).category = 2 then [.val (px_re ρ w), .second] else [.val (px_re ρ w)]) ++ lg_sl (r.map (px_re ρ)) := by simp [lg_sl]
    rw [e, px_re_cat]
    unfold px_lay
    by_cases hc : w.category = 2
    · rw [if_pos hc, if_pos hc]
      simp [ih]
    · rw [if_neg hc, if_neg hc]
      simp [ih]
theorem px_ent_LR (ρ : Nat → Nat) {av : List Value} {n : Nat} (h : (px_lay av).length ≤ n) : px_LR ρ ((lg_sl (av.map (px_re ρ)) ++ List.replicate (n - (lg_sl (av.map (px_re ρ))).length) Slot.unset).toArray) n (px_ent n av) := by
  have h1 := lv_entry (av.map (px_re ρ)) (n := n) (by rw [px_lay_len]; exact h)
  refine ⟨⟨h1.1, h1.2.1, fun q hq => ?_⟩, by unfold px_ent; simp; omega⟩
  obtain ⟨v, g1, g2⟩ := px_as_mem.mp hq
  have g3 := px_ld_at.mp g1
  unfold px_ent at g3
  have hl : q.1 < (px_lay av).length := by
    by_cases hq : q.1 < (px_lay av).length
    · exact hq
    · rw [List.getElem?_append_right (by omega)] at g3
      have := List.eq_of_mem_replicate (List.mem_of_getElem? g3)
      cases this
  rw [List.getElem?_append_left hl] at g3
  have g4 := px_lay_args ρ av 0 q.1 v g3
  rw [Nat.zero_add, ← g2] at g4
  exact h1.2.2 q g4
/-- the ends of a method that is called -/
theorem px_zr (hF : px_Fr s0 p s m meth c M) {Q : px_Q} : px_ZR s0 D cs ρ p l e R s m args below meth c M (vx_MQ below (px_Qc s0 D cs ρ Q) (px_Xc s0 D cs ρ Q) args s (px_bud M.1).1 (px_bud M.1).2 (fun q => s0.heap.size ≤ q)) Q := by
  intro H locs ls V u pc i r hd hor U1 U2 hQ hn hP hS
  have hx := hF.1
  have hb := hF.2.1
  have hlocks := hF.2.2.2.2.2.2.2.1
  have hret := hF.2.2.2.2.2.2.2.2.2.2
  have hq : ∀ t : State, t.heap = H → s.WarmedH t.vm → px_Qc s0 D cs ρ Q args s (.returned (r.map (px_re ρ))) t := fun t ht _ => ⟨⟨r, V, rfl, hQ, hn, by rw [ht]; exact hP⟩, hS.F ht⟩
  refine W.widen U1 U2 (vx_ret ?_)
  rcases hor with ⟨rfl, rfl, hr⟩ | ⟨x, rfl, rfl, hr⟩ | ⟨x, rfl, rfl, hr⟩
  · rw [hr] at hret
    exact W.vret hx hb hret hq hS.2.2 hd hlocks
  · rcases hr with hr | ⟨hr, hx1⟩
    · rw [hr] at hret
      exact W.iret hx hb hret hq hS.2.2 hd hlocks
    · rw [hr] at hret
      exact W.zret (ty := .boolean) hx hb hret (by rcases hx1 with rfl | rfl <;> rfl) hq hS.2.2 hd hlocks
  · rw [hr] at hret
    exact W.lret hx hb hret hq hS.2.2 hd hlocks
theorem px_zp (hF : px_Fr s0 p s m meth c M) {Q : px_Q} : px_ZP s0 D cs ρ p l e R s m args below meth c M (vx_MQ below (px_Qc s0 D cs ρ Q) (px_Xc s0 D cs ρ Q) args s (px_bud M.1).1 (px_bud M.1).2 (fun q => s0.heap.size ≤ q)) Q := by
  intro H locs ls V u pc k q ce rest hh hk hce hcv hcl U1 U2 hQ hn hP hS
  refine vx_out (E := px_en k) ?_ hF.2.2.2.2.2.2.2.1 hce hcv hcl (fun t ht _ => ⟨⟨k, V, rfl, hk, hQ, hn, by rw [ht]; exact hP⟩, hS.F ht⟩) hS.2.2 U1 U2
  intro x hx
  rw [hF.2.2.2.2.2.2.2.2.1, hh] at hx
  cases hx
end PXE
