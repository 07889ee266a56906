section PXA
variable {l : Launch} {s0 : State} {b0 : Nat} {X : Nat × (Nat → Int32)} {D : va_G} {cs : ClassId × ClassId × ClassId} {adK adV : Nat → Nat} {wo : Nat} {ρ : Nat → Nat}
variable {p : Program} {e : Env} {R : Room} {s : State} {m : MethodId} {args : Array Value} {below : List Frame} {meth : Method} {c : Code} {Z : State → Prop} {M : px_M}
/-- behind a call that returns or throws -/
theorem px_after {H : Heap} {locs : List Loc} {u : Nat × Nat} {mc ms pc : Nat} {ls : Array Slot} {st0 rest : List Value} {Qw : px_Q} {a : Array Value}
    (hr : vx_Run p l e R s m args below meth c H locs u.1 u.2 mc ms (F0 m pc ls st0) rest (px_Qc s0 D cs ρ Qw a) (px_Xc s0 D cs ρ Qw) (fun q => s0.heap.size ≤ q)) (hS : va_S (fun q => s0.heap.size ≤ q) s.heap H locs)
    (kr : ∀ (r : Option Value) (V' : px_V) (H1 : Heap) (locs1 : List Loc), Qw (.inl r) V' → px_n V' ≤ 103 → va_P D vwCl (px_ws s0.heap.size cs ρ V') H1 → va_S (fun q => s0.heap.size ≤ q) s.heap H1 locs1 → W p l e R s m args below meth c H1 locs1 (u.1 + mc) (u.2 + ms) Z (F0 m (pc + 3) ls ((r.map (px_re ρ)).toList ++ rest)))
    (kx : ∀ (k : Nat) (V' : px_V) (q : Addr) (ce : Cell) (H1 : Heap) (locs1 : List Loc), k < 2 → H1[q]? = some ce → ce.vm = .none → s.vm.findClass (px_en k) = some ce.cls → Qw (.inr k) V' → px_n V' ≤ 103 → va_P D vwCl (px_ws s0.heap.size cs ρ V') H1 → va_S (fun q => s0.heap.size ≤ q) s.heap H1 locs1 → vx_W p l e R s m args below meth c H1 locs1 (u.1 + mc) (u.2 + ms) Z (F0 m pc ls rest) q) :
    W p l e R s m args below meth c H locs u.1 u.2 Z (F0 m pc ls st0) := by
  intro T hT XX
  rcases hr T hT XX with ⟨v, st₀, t, T', L, h0, X', hL, e1, e2, ⟨⟨r, V', hv, hq, hn, hP⟩, hF⟩, st⟩ | ⟨q, st₀, t, T', L, E, ce, h0, X', hL, e1, e2, ⟨⟨k, V', hEk, hk, hq, hn, hP⟩, hF⟩, hce, hcv, hcl, st⟩
  · cases hv
    obtain ⟨k1, k2, k3⟩ := vx_keep h0 e1 hS (fun q _ h => h) (fun q h => h) hL hF
    obtain ⟨t2, a1, b1⟩ := kr r V' T'.heap (locs ++ L) hq hn (by rw [e1]; exact hP) k3 T' rfl X'
    exact ⟨t2, st t2 a1, b1⟩
  · obtain ⟨k1, k2, k3⟩ := vx_keep h0 e1 hS (fun q _ h => h) (fun q h => h) hL hF
    subst hEk
    obtain ⟨t2, a1, b1⟩ := kx k V' q ce T'.heap (locs ++ L) hk (by rw [e1]; exact hce) hcv hcl hq hn (by rw [e1]; exact hP) k3 T' rfl X'
    exact ⟨t2, st.trans a1, b1⟩
/-- behind a call that returns -/
theorem px_afterN {H : Heap} {locs : List Loc} {u : Nat × Nat} {mc ms pc : Nat} {ls : Array Slot} {st0 rest : List Value} {Qw : px_Q} {a : Array Value}
    (hr : va_Run p l e R s m args below meth c H locs u.1 u.2 mc ms (F0 m pc ls st0) rest (px_Qc s0 D cs ρ Qw a) (fun q => s0.heap.size ≤ q)) (hS : va_S (fun q => s0.heap.size ≤ q) s.heap H locs)
    (kr : ∀ (r : Option Value) (V' : px_V) (H1 : Heap) (locs1 : List Loc), Qw (.inl r) V' → px_n V' ≤ 103 → va_P D vwCl (px_ws s0.heap.size cs ρ V') H1 → va_S (fun q => s0.heap.size ≤ q) s.heap H1 locs1 → W p l e R s m args below meth c H1 locs1 (u.1 + mc) (u.2 + ms) Z (F0 m (pc + 3) ls ((r.map (px_re ρ)).toList ++ rest))) :
    W p l e R s m args below meth c H locs u.1 u.2 Z (F0 m pc ls st0) := by
  intro T hT XX
  obtain ⟨v, st₀, t, T', L, h0, X', hL, e1, e2, ⟨⟨r, V', hv, hq, hn, hP⟩, hF⟩, st⟩ := hr T hT XX
  cases hv
  obtain ⟨k1, k2, k3⟩ := vx_keep h0 e1 hS (fun q _ h => h) (fun q h => h) hL hF
  obtain ⟨t2, a1, b1⟩ := kr r V' T'.heap (locs ++ L) hq hn (by rw [e1]; exact hP) k3 T' rfl X'
  exact ⟨t2, st t2 a1, b1⟩
theorem px_good_code (k : Nat) (hh : List (Nat × Nat × Nat × Nat)) : goodWord (px_codeW k hh) = true := by
  unfold px_codeW
  split <;> rfl
theorem px_blind {av : List Value} {V : px_V} : FrameBlind (px_Pc s0 D cs ρ av V) := fun a U g mk h => h
/-- a call's start -/
theorem px_pre (hF : px_Fr s0 p s m meth c M) {H : Heap} {locs : List Loc} {av : List Value} {V : px_V} (h1 : px_n V ≤ 103) (h2 : va_P D vwCl (px_ws s0.heap.size cs ρ V) H) (h3 : va_S (fun q => s0.heap.size ≤ q) s.heap H locs) (hz : px_n V < 103 → H.size ≤ s0.heap.size + px_n V) :
    ∀ U : State, U.heap = H → s.WarmedH U.vm → px_Pc s0 D cs ρ av V (av.map (px_re ρ)).toArray U := by
  intro U hU hW
  have hs0 := hF.2.2.2.2.2.1
  refine ⟨rfl, State.WarmedH.trans hF.2.2.2.2.1 hW, by rw [hU]; exact Nat.le_trans hs0 h3.1, fun q hq => ?_, h1, by rw [hU]; exact h2, by rw [hU]; exact hz⟩
  rw [hU, h3.2.1 q (Nat.lt_of_lt_of_le hq hs0) (Nat.not_le.mpr hq)]
  exact hF.2.2.2.2.2.2.1 q hq
/-- the words of a call of a method without a table -/
theorem px_cb (hF : px_Fr s0 p s m meth c M) (hE : px_Env l s0 b0 X D cs adK adV wo ρ) {d mi idx n : Nat} (hm : mi < 335) (hne : mi ≠ 332) (hh : (px_prog mi).2.2.2.2.2.2 = []) (hl : px_lk M.2.1 idx = some (2, mi, n)) (hR1 : 8 + (d + 1) ≤ R.frames) (hR2 : 300 + 60 * (d + 1) ≤ R.locals) :
    CallB R s args (px_cn M.2.1) idx (px_y mi) (px_by mi) (px_prog mi).2.2.2.2.1 (px_ret (px_prog mi).2.2.2.1) [px_codeW mi (px_prog mi).2.2.2.2.2.2] (px_rm d mi) (px_bud mi).1 (px_bud mi).2 n := by
  obtain ⟨q1, q2, q3, q4, q5, q6, q7, q8, q9, q10, q11, q12, q13, q14, q15⟩ := px_meth hm hne
  have hWm := hF.2.2.2.2.1
  have hcw : px_codeW mi (px_prog mi).2.2.2.2.2.2 = Cond.code (px_y mi) (px_by mi) (px_prog mi).2.2.2.2.1 (px_ret (px_prog mi).2.2.2.1) := by rw [hh]; rfl
  have hpar := (px_link hl).2
  have hpar2 : (parseMethodDescriptor (px_y mi).desc).map (fun d => d.parameters.length) = some n := of_decide_eq_true (Bool.and_eq_true_iff.mp hpar).2
  refine ⟨rfl, rfl, ?_, ?_, ?_, ?_, ?_, ?_, ⟨q12, q13⟩, ?_, ?_⟩
  · show 8 + d + 1 ≤ R.frames
    omega
  · show 8 + ((px_prog mi).2.2.2.2.1 + 11) + (300 + 60 * d) ≤ R.locals
    omega
  · intro w hw a' U hU
    rw [List.mem_singleton] at hw
    subst hw
    exact word_at (args := args) hU (good_of_word (px_good_code _ _)) (px_word hE hWm q1 (px_good_code _ _))
  · rw [hcw]; exact List.mem_singleton.mpr rfl
  · rw [← hcw]; exact px_word hE hWm q1 (px_good_code _ _)
  · rw [q6]; exact px_word hE hWm q2 rfl
  · intro sig hsig
    rw [hsig] at hpar2
    exact (Option.some.inj hpar2).symm
  · exact px_word hE hWm (px_link hl).1 rfl
end PXA
