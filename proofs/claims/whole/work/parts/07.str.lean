/-! TEXT CONSTANTS: length and charAt. -/
section PXL
variable {l : Launch} {s0 : State} {b0 : Nat} {X : Nat × (Nat → Int32)} {D : va_G} {cs : ClassId × ClassId × ClassId} {adK adV : Nat → Nat} {wo : Nat} {ρ : Nat → Nat}
variable {p : Program} {e : Env} {R : Room} {s : State} {m : MethodId} {args : Array Value} {below : List Frame} {meth : Method} {c : Code} {Z : State → Prop} {M : px_M}
theorem px_rlen (hF : px_Fr s0 p s m meth c M) (hE : px_Env l s0 b0 X D cs adK adV wo ρ) {d idx pc k : Nat} {ls : Array Slot} {st : List Value} {H : Heap} {locs : List Loc} {u : Nat × Nat} (hR1 : 8 + (d + 1) ≤ R.frames) (hR2 : 300 + 60 * (d + 1) ≤ R.locals) (hsz : ls.size = M.2.2.2.2.1) (k1 : 1000 ≤ k) (k2 : k < 1000 + px_str.length) (hct : px_cat st ≤ 8) (r1 : u.1 ≤ R.cells) (r2 : u.2 ≤ R.slots) {a b : Nat} (hl : px_wd M.2.1 idx 11 a b ∈ lw_tbl) (hd : decode (px_by M.1) pc = .ok (.invokevirtual idx, 3)) (h3 : va_S (fun q => s0.heap.size ≤ q) s.heap H locs)
    (kk : W p l e R s m args below meth c H locs u.1 u.2 Z (F0 m (pc + 3) ls ((Value.int (Int32.ofNat (px_str.getD (k - 1000) []).length) :: st).map (px_re ρ)))) : W p l e R s m args below meth c H locs u.1 u.2 Z (F0 m pc ls ((Value.ref k :: st).map (px_re ρ))) := by
  sorry
theorem px_rchr (hF : px_Fr s0 p s m meth c M) (hE : px_Env l s0 b0 X D cs adK adV wo ρ) {d idx pc k : Nat} {j : Int32} {ls : Array Slot} {st : List Value} {H : Heap} {locs : List Loc} {u : Nat × Nat} (hR1 : 8 + (d + 1) ≤ R.frames) (hR2 : 300 + 60 * (d + 1) ≤ R.locals) (hsz : ls.size = M.2.2.2.2.1) (k1 : 1000 ≤ k) (k2 : k < 1000 + px_str.length) (hct : px_cat st ≤ 8) (hin : vp_in j (px_str.getD (k - 1000) []).length) (r1 : u.1 ≤ R.cells) (r2 : u.2 ≤ R.slots) {a b : Nat} (hl : px_wd M.2.1 idx 12 a b ∈ lw_tbl) (hd : decode (px_by M.1) pc = .ok (.invokevirtual idx, 3)) (h3 : va_S (fun q => s0.heap.size ≤ q) s.heap H locs)
    (kk : W p l e R s m args below meth c H locs u.1 u.2 Z (F0 m (pc + 3) ls ((Value.int (Int32.ofNat ((px_str.getD (k - 1000) []).getD j.toNatClampNeg 0)) :: st).map (px_re ρ)))) : W p l e R s m args below meth c H locs u.1 u.2 Z (F0 m pc ls ((Value.int j :: Value.ref k :: st).map (px_re ρ))) := by
  sorry
end PXL
