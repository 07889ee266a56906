/-! THE LAW'S BODY OUT OF THE PURE MACHINE. -/
def px_V0 : px_V := fun a _ => if a = 2000 then .ref 0 else .int 0
theorem px_locs {p : Program} {l : Launch} {e : Env} {R : Room} {s : State} {m : MethodId} {args : Array Value} {below : List Frame} {meth : Method} {c : Code} {H : Heap} {locs : List Loc} {cells slots : Nat} {Z : State → Prop} {g : JFrame} (hl : ∀ z ∈ locs, s.heap.size ≤ z.base) (k : W p l e R s m args below meth c H [] cells slots Z g) : W p l e R s m args below meth c H locs cells slots Z g := by
  intro T hT X
  exact k T hT { X with same := X.same.weaken (fun y hy hlt => absurd (hl y hy) (Nat.not_le.mpr hlt)) (Nat.le_refl _) (Nat.le_refl _) }
theorem px_by332 : px_by 332 = code := rfl
set_option maxHeartbeats 4000000 in
theorem px_top {p : Program} {e : Env} {s : State} {m : MethodId} {below : List Frame} {meth : Method} {c : Code} {l : Launch} {b L : Nat} {xs : Nat → Int32} (hl : l.stackTraces = false) (hL : L ≤ 5120) (C0 : lw_At p s m meth c b L xs) (htab : c.exceptionTable.toList = [])
    (h : px_W (L, xs) (px_C (L, xs) 1000) (px_prog 332) (fun r _ => r = .inl (some (.int 1))) (0, px_ent 8 [.ref 1200], [], px_V0, (0, 0))) :
    W p l e room_1 s m #[Value.ref b] below meth c s.heap [] 0 0 (lw_Z below #[Value.ref b] s) (entryFrame m ([Value.ref b] : List Value).toArray 8) := by
  obtain ⟨D, cs, adK, adV, wo, ρ, hE⟩ := px_envOf hl hL C0
  obtain ⟨hx, hb, hr, hml, hown, hts, hX, hbl, hlk, hgv⟩ := C0
  have e1 : (px_prog 332).1 = 332 := rfl
  have e2 : (px_prog 332).2.2.2.2.1 = 8 := rfl
  have e3 : (px_prog 332).2.2.2.1 = 2 := rfl
  have hF : px_Fr s p s m meth c (px_prog 332) := by
    refine ⟨hx, ?_, ?_, ?_, State.WarmedH.refl s, Nat.le_refl _, fun _ _ => rfl, hlk, ?_, ?_, ?_⟩
    · rw [e1, px_by332]; exact hb
    · rw [e2]; exact hml
    · exact hown
    · rw [htab]; rfl
    · intro h1; exact absurd h1 (by decide)
    · rw [e3]; exact hr
  have hRc : ∀ a b, a ≤ (px_bud (px_prog 332).1).1 → b ≤ (px_bud (px_prog 332).1).2 → a ≤ room_1.cells ∧ b ≤ room_1.slots := by
    rw [e1]; exact fun a b h1 h2 => ⟨h1, h2⟩
  have hzr : px_ZR s D cs ρ p l e room_1 s m #[Value.ref b] below meth c (px_prog 332) (lw_Z below #[Value.ref b] s) (fun r _ => r = .inl (some (.int 1))) := by
    intro H locs ls V u pc i r hd hor U1 U2 hQ hn hP hS
    refine px_locs hS.2.2 (W.widen U1 U2 ?_)
    cases hQ
    rcases hor with ⟨rfl, h9, hr9⟩ | ⟨x, rfl, h9, hr9⟩ | ⟨x, rfl, h9, hr9⟩
    · cases h9
    · cases h9
      exact lw_ret hx hb hr hlk (by rw [← px_by332]; exact hd)
    · cases h9
  have hzt : px_ZT s D cs ρ p l e room_1 s m #[Value.ref b] below meth c (px_prog 332) (lw_Z below #[Value.ref b] s) (fun r _ => r = .inl (some (.int 1))) := by
    intro H locs ls V u pc k st hk hk2 hcat hsz U1 U2 hQ
    cases hQ
  have hzp : px_ZP s D cs ρ p l e room_1 s m #[Value.ref b] below meth c (px_prog 332) (lw_Z below #[Value.ref b] s) (fun r _ => r = .inl (some (.int 1))) := by
    intro H locs ls V u pc k q ce rest hh hk hce hcv hcl U1 U2 hQ
    cases hQ
  have key := h _ (px_step hF hE rfl (by rw [e1]; decide) (px_snd hE 1000) (by decide) (by decide) hRc hzr hzt hzp)
  have hlay : (px_lay [Value.ref 1200]).length ≤ 8 := by decide
  have hws : va_P D vwCl (px_ws s.heap.size cs ρ px_V0) s.heap := fun k q hk => by cases hk
  have k2 := key s.heap [] _ (by decide) hws va_S.rf (by rw [e2]; exact px_ent_LR ρ hlay) (fun h => by show s.heap.size + 0 ≤ _; exact Nat.le_add_right _ _)
  have e4 : [Value.ref 1200].map (px_re ρ) = [Value.ref b] := by
    show [Value.ref (ρ 1200)] = _
    rw [px_r1200 hE]
  rw [e4] at k2
  rw [lg_entry_eq]
  exact k2
