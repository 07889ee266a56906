/-! DEV (written by wip/whole/gen/dev.py) -/
/-- a row filled with one number -/
def jfl (m : jm) (a : Nat) (x : Int) : jm := (fun k j => if k = a ∧ j < px_ln a then Int32.ofInt x else m.1 k j, m.2)
theorem jln_le {a : Nat} : px_ln a ≤ 4096 := by
  unfold px_ln
  rw [List.getD_eq_getElem?_getD]
  cases e : px_lnL[a]? with
  | none => exact Nat.zero_le _
  | some n => exact jln_all n (List.mem_of_getElem? e)
theorem jlp_fr {α β : Type} {body : α → Option (α ⊕ β)} {c : β} {a : α} (k : Nat) (I : Nat → α) (hk : k < 4000000) (h0 : I 0 = a) (hs : ∀ i, i < k → body (I i) = some (Sum.inl (I (i + 1)))) (he : body (I k) = some (Sum.inr c)) : jlp body jfu a = some c := by
  subst h0; exact jlp_for k jfu I (jfu_lt hk) hs he
theorem sp_334 {a : Nat} {x : Int} {m : jm} : jf_334 a x m = some (jfl m a x) := by
  unfold jf_334
  have hl := jln_le (a := a)
  rw [jlp_fr (c := jfl m a x) (px_ln a) (fun i => ((i : Int), ((fun k j => if k = a ∧ j < i then Int32.ofInt x else m.1 k j, m.2) : jm))) (by omega) ?_ (fun i hi => ?_) ?_]
  · rfl
  · refine Prod.ext rfl (Prod.ext ?_ rfl)
    funext k j
    show (if k = a ∧ j < 0 then Int32.ofInt x else m.1 k j) = m.1 k j
    rw [if_neg (by omega)]
  · show (if ((px_ln a : Nat) : Int) < (px_ln a : Int) then _ else _) = _
    rw [if_neg (by omega)]
    rfl
  · show (if (i : Int) < (px_ln a : Int) then _ else _) = _
    rw [if_pos (by omega), if_pos (by omega), jle_eq]
    have e1 : jw ((i : Int) + 1) = ((i + 1 : Nat) : Int) := by rw [jwi (by omega) (by omega)]; omega
    rw [e1]
    refine congrArg (fun z => some (Sum.inl (((i + 1 : Nat) : Int), z))) ?_
    unfold js
    refine Prod.ext ?_ rfl
    funext k j
    show (if k = a ∧ j = (i : Int).toNat then Int32.ofInt x else if k = a ∧ j < i then Int32.ofInt x else m.1 k j) = if k = a ∧ j < i + 1 then Int32.ofInt x else m.1 k j
    by_cases h1 : k = a ∧ j = (i : Int).toNat
    · rw [if_pos h1, if_pos (by omega)]
    · rw [if_neg h1]
      by_cases h2 : k = a ∧ j < i
      · rw [if_pos h2, if_pos (by omega)]
      · rw [if_neg h2, if_neg (by omega)]
