/-! types of the pure machine, its code, its fields -/
/-- a method: its number, its owner's number, 1 if it is a constructor, what it gives back (0 nothing, 1 int, 2 boolean, 3 long), its locals, its code, its table -/
abbrev px_M : Type := Nat × Nat × Nat × Nat × Nat × List (List (Option (Instr × Nat))) × List (Nat × Nat × Nat × Nat)
/-- the fields: 0 int, 1 long, 2 a reference; 10 more: final -/
def px_fty (c j : Nat) : Nat := (px_ftL.getD c []).getD j 99
def px_dft (t : Nat) : Value := if t % 10 = 0 then .int 0 else if t % 10 = 1 then .long 0 else .null
def px_ins (M : px_M) (pc : Nat) : Option (Instr × Nat) := (M.2.2.2.2.2.1.getD (pc / 32) []).getD (pc % 32) none
