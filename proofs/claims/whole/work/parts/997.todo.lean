/-! the start -/
theorem k_init : jo ((jf_188 (jM1 jm140)).bind jf_189) (fun p => p.2 = (fun _ _ => 0) ∧ Inv p) := k_init1 (Z := jm0) (fun _ _ => rfl) rfl
