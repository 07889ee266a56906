/-! what is still to prove (written by wip/whole/gen/ops.py) -/
theorem sy_3 {m : jm} {x0 : Int} (hx0 : jg x0) (h : Inv m) : kSy (fun m => jf_306 x0 m) (fun m => jf_222 x0 m) m := by
  sorry
theorem k_init : jo ((jf_188 (jM1 jm140)).bind jf_189) (fun p => p.2 = (fun _ _ => 0) ∧ Inv p) := k_init1 (Z := jm0) (fun _ _ => rfl) rfl
