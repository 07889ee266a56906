/-! WORDS on the tape, in the class. -/
def kWm (f : Nat → Int) (s a i t : Nat) : Bool := decide (jsc s ((a + t : Nat) : Int) = f (i + t))
/-- the word from i to j is what stands in string s from a to e -/
def kWq (f : Nat → Int) (s a e i j : Nat) : Bool := decide (e - a = j - i ∧ kWh (kWm f s a i) (e - a) 0 = e - a)
theorem sl_119 {m : jm} {f : Nat → Int} {n i j s a e : Nat} (H : kTc m f n j) (h4 : ja m 1 4 = (i : Int)) (hij : i ≤ j) (hae : a ≤ e) (he : (e : Int) ≤ jsl_ s) (hs : jsl_ s ≤ 4096) : jo (jf_119 s a e m) (fun b => b = b2i (kWq f s a e i j)) := by
  obtain ⟨h1, h2, h3⟩ := H.1
  unfold jf_119 kWq
  rw [H.2.2.2, h4, show jw ((e : Int) - (a : Int)) = ((e - a : Nat) : Int) by rw [jwi (by omega) (by omega)]; omega, show jw ((j : Int) - (i : Int)) = ((j - i : Nat) : Int) by rw [jwi (by omega) (by omega)]; omega]
  by_cases hl : e - a = j - i
  · rw [if_pos (show ((e - a : Nat) : Int) = ((j - i : Nat) : Int) by omega)]
    have hle := kWh_le (P := kWm f s a i) (n := e - a) (i := 0) (Nat.zero_le _)
    refine jo_scan (P := kWm f s a i) (n := e - a) (i := 0) (I := fun t (x : Int) => x = (t : Int)) (by omega) (Nat.zero_le _) (fun t x ht0 ht hp hx => ?_) (fun x hx => ?_) rfl
    · have hp' : jsc s ((a + t : Nat) : Int) = f (i + t) := of_decide_eq_true hp
      rw [hx, if_pos (show (t : Int) < ((e - a : Nat) : Int) by omega), show jw ((a : Int) + (t : Int)) = ((a + t : Nat) : Int) by rw [jwi (by omega) (by omega)]; omega, if_pos (show 0 ≤ ((a + t : Nat) : Int) ∧ ((a + t : Nat) : Int) < jsl_ s by omega), show jw ((i : Int) + (t : Int)) = ((i + t : Nat) : Int) by rw [jwi (by omega) (by omega)]; omega, if_pos (show 0 ≤ ((i + t : Nat) : Int) ∧ ((i + t : Nat) : Int) < 600 by omega), Int.toNat_natCast, H.2.1 (i + t) (by omega), if_pos hp', jwn (by omega)]
      exact rfl
    · rw [hx]
      by_cases hw : kWh (kWm f s a i) (e - a) 0 = e - a
      · rw [if_neg (show ¬ ((kWh (kWm f s a i) (e - a) 0 : Nat) : Int) < ((e - a : Nat) : Int) by omega), decide_eq_true ⟨hl, hw⟩]; exact rfl
      · have hlt : kWh (kWm f s a i) (e - a) 0 < e - a := by omega
        have hno : ¬ jsc s ((a + kWh (kWm f s a i) (e - a) 0 : Nat) : Int) = f (i + kWh (kWm f s a i) (e - a) 0) := of_decide_eq_false (kWh_no hlt)
        rw [decide_eq_false (fun z => hw z.2)]
        generalize kWh (kWm f s a i) (e - a) 0 = t at hlt hno
        rw [if_pos (show (t : Int) < ((e - a : Nat) : Int) by omega), show jw ((a : Int) + (t : Int)) = ((a + t : Nat) : Int) by rw [jwi (by omega) (by omega)]; omega, if_pos (show 0 ≤ ((a + t : Nat) : Int) ∧ ((a + t : Nat) : Int) < jsl_ s by omega), show jw ((i : Int) + (t : Int)) = ((i + t : Nat) : Int) by rw [jwi (by omega) (by omega)]; omega, if_pos (show 0 ≤ ((i + t : Nat) : Int) ∧ ((i + t : Nat) : Int) < 600 by omega), Int.toNat_natCast, H.2.1 (i + t) (by omega), if_neg hno]
        exact rfl
  · rw [if_neg (show ¬ ((e - a : Nat) : Int) = ((j - i : Nat) : Int) by omega), decide_eq_false (fun z => hl z.1)]
    exact rfl
