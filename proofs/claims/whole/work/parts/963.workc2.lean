/-! WORK: the class reads it all. -/
noncomputable def wCb (s3 : Int × jm) : Option ((Int × jm) ⊕ (Int × jm)) := if s3.1 < (150 : Int) then Option.bind (α := Int × jm) (jf_116 s3.2) fun p8 => if p8.1 = (-1 : Int) then if (ja p8.2 41 6) = 0 then some (Sum.inr ((1 : Int), p8.2)) else Option.bind (α := Int × jm) (if p8.1 = (93 : Int) then if 0 < (ja p8.2 41 6) then Option.bind (α := Int × jm) (jf_100 p8.2) fun p11 => some (p11.1, p11.2) else Option.bind (α := Int × jm) (jf_102 p8.2) fun p12 => some (p12.1, p12.2) else Option.bind (α := Int × jm) (jf_102 p8.2) fun p13 => some (p13.1, p13.2)) fun t9 => if t9.1 = 0 then some (Sum.inr ((0 : Int), t9.2)) else some (Sum.inl (jw (s3.1 + 1), t9.2)) else Option.bind (α := Int × jm) (if p8.1 = (93 : Int) then if 0 < (ja p8.2 41 6) then Option.bind (α := Int × jm) (jf_100 p8.2) fun p27 => some (p27.1, p27.2) else Option.bind (α := Int × jm) (jf_102 p8.2) fun p28 => some (p28.1, p28.2) else Option.bind (α := Int × jm) (jf_102 p8.2) fun p29 => some (p29.1, p29.2)) fun t25 => if t25.1 = 0 then some (Sum.inr ((0 : Int), t25.2)) else some (Sum.inl (jw (s3.1 + 1), t25.2)) else some (Sum.inr ((1 : Int), s3.2))
theorem jf_99_e {m : jm} : jf_99 m = jlp wCb jfu ((0 : Int), js (js m 41 5 0) 41 6 0) := rfl
theorem jo_stp {α β : Type} {body : α → Option (α ⊕ β)} {Q : β → Prop} {N : Nat} {a : α} (h : jo (body a) (jcase (fun a' => jo (jlp body N a') Q) Q)) : jo (jlp body (N + 1) a) Q := by
  show jo ((body a).bind _) Q
  rw [jo_bind]
  refine jo_mono h (fun x hx => ?_)
  cases x with
  | inl b => exact hx
  | inr c => exact hx
def wW99 (k j : Nat) : Bool := decide (k = 41 ∧ (j = 5 ∨ j = 6)) || decide (k = 1 ∧ 3 ≤ j ∧ j ≤ 6) || decide (42 ≤ k ∧ k ≤ 44) || decide (k = 46)
theorem jW_99_i {k j : Nat} (h : wW99 k j = true) : jW_99 k j := by
  unfold wW99 at h
  rw [Bool.or_eq_true, Bool.or_eq_true, Bool.or_eq_true, decide_eq_true_eq, decide_eq_true_eq, decide_eq_true_eq, decide_eq_true_eq] at h
  unfold jW_99
  rcases h with ((⟨rfl, h | h⟩ | ⟨rfl, h1, h2⟩) | ⟨h1, h2⟩) | rfl
  · subst h; simp
  · subst h; simp
  · have : j = 3 ∨ j = 4 ∨ j = 5 ∨ j = 6 := by omega
    rcases this with rfl | rfl | rfl | rfl <;> simp
  · have : k = 42 ∨ k = 43 ∨ k = 44 := by omega
    rcases this with rfl | rfl | rfl <;> simp
  · simp
theorem jW_99_o {k j : Nat} (h : jW_99 k j) : (k = 41 ∧ (j = 5 ∨ j = 6)) ∨ (k = 1 ∧ 3 ≤ j ∧ j ≤ 6) ∨ (42 ≤ k ∧ k ≤ 44) ∨ k = 46 := by
  unfold jW_99 at h
  rcases h with ⟨rfl, rfl⟩ | ⟨rfl, rfl⟩ | ⟨rfl, rfl⟩ | rfl | rfl | rfl | ⟨rfl, rfl⟩ | ⟨rfl, rfl⟩ | ⟨rfl, rfl⟩ | rfl <;> simp
theorem jW_102i {k j : Nat} (h : jW_102 k j) : jW_99 k j := by
  refine jW_99_i ?_
  unfold jW_102 at h
  unfold wW99
  rcases h with ⟨rfl, rfl⟩ | ⟨rfl, rfl⟩ | ⟨rfl, rfl⟩ | ⟨rfl, rfl⟩ | rfl | rfl | rfl | ⟨rfl, rfl⟩ | rfl | ⟨rfl, rfl⟩ <;> simp
theorem jW_100i {k j : Nat} (h : jW_100 k j) : jW_99 k j := by
  refine jW_99_i ?_
  unfold jW_100 at h
  unfold wW99
  rcases h with ⟨rfl, rfl⟩ | ⟨rfl, rfl⟩ | rfl | rfl | rfl | ⟨rfl, rfl⟩ | ⟨rfl, rfl⟩ | ⟨rfl, rfl⟩ <;> simp
theorem jW_116i {k j : Nat} (h : jW_116 k j) : jW_99 k j := jW_99_i (by unfold jW_116 at h; unfold wW99; simp [h])
/-- where the class stands while it reads -/
def qCr (m0 : jm) (f : Nat → Int) (n : Nat) (M : jm) (i : Nat) (L : List wE) (o : Nat) (st : Nat → Nat) : Prop := kTc M f n i ∧ kCw M L ∧ ja M 41 6 = (o : Int) ∧ (∀ u, u < o → ja M 46 u = (st u : Int)) ∧ ja M 1 6 = ja m0 1 6 ∧ jfr true jW_99 m0 M
def qFa (m0 : jm) (e : Int × Nat) (b : Int × jm) : Prop := b.1 = 0 ∧ ja b.2 1 5 = e.1 ∧ ja b.2 1 6 = (e.2 : Int) ∧ e.2 ≤ 600 ∧ jfr true jW_99 m0 b.2
/-- a turn that reads a step -/
theorem wCb_s {m0 M : jm} {f : Nat → Int} {n i o t : Nat} {L : List wE} {st : Nat → Nat} {P : (Int × jm) ⊕ (Int × jm) → Prop} (H : qCr m0 f n M i L o st) (ht : t < 150) (h0 : o = 0 → kSkp f n i < n) (h1 : 0 < o → kGb f n i 93 = false) (k : ∀ M1, qCr m0 f n M1 (kSkp f n i) L o st → jo (Option.bind (α := Int × jm) (jf_102 M1) fun p => if p.1 = 0 then some (Sum.inr ((0 : Int), p.2)) else some (Sum.inl (((t + 1 : Nat) : Int), p.2))) P) : jo (wCb ((t : Int), M)) P := by
  have a1 := H.1
  have a2 := H.2.1
  have a3 := H.2.2.1
  have a4 := H.2.2.2.1
  have a5 := H.2.2.2.2.1
  have a6 := H.2.2.2.2.2
  unfold wCb
  dsimp only
  rw [if_pos (show (t : Int) < 150 by omega), jwn (by omega)]
  obtain ⟨p8, e8, b1, b2, b3⟩ := jo_ex.1 (sl_116 a1)
  have e6 : ja p8.2 41 6 = (o : Int) := by rw [ja_fr b3 (by unfold jW_116; omega)]; exact a3
  have K := k p8.2 ⟨b2, kCw_fr a2 b3 (fun a b h => by unfold jW_116 at h; omega), e6, fun u hu => by rw [ja_fr b3 (by unfold jW_116; omega)]; exact a4 u hu, by rw [ja_fr b3 (by unfold jW_116; omega)]; exact a5, jfr_t a6 b3 (fun e => e) (fun k j h => jW_116i h)⟩
  have K2 : jo (Option.bind (α := Int × jm) (Option.bind (α := Int × jm) (jf_102 p8.2) fun p13 => some (p13.1, p13.2)) fun t9 => if t9.1 = 0 then some (Sum.inr ((0 : Int), t9.2)) else some (Sum.inl (((t + 1 : Nat) : Int), t9.2))) P := by
    rw [jo_bind] at K
    rw [jo_bind, jo_bind]
    exact K
  rw [e8, jsb, e6, b1]
  by_cases y : kSkp f n i < n
  · have hb := a1.1.2.2 _ y
    rw [if_pos y, if_neg (show ¬ f (kSkp f n i) = -1 by omega)]
    by_cases y93 : f (kSkp f n i) = 93
    · have o0 : ¬ 0 < o := fun z => by
        have := h1 z
        rw [show kGb f n i 93 = true from decide_eq_true ⟨y, y93⟩] at this; cases this
      rw [if_pos y93, if_neg (show ¬ (0 : Int) < (o : Int) by omega)]
      exact K2
    · rw [if_neg y93]
      exact K2
  · have o0 : o ≠ 0 := fun z => y (h0 z)
    rw [if_neg y, if_pos rfl, if_neg (show ¬ (o : Int) = 0 by omega), if_neg (show ¬ (-1 : Int) = 93 by decide)]
    exact K2
/-- a turn that closes -/
theorem wCb_c {m0 M : jm} {f : Nat → Int} {n i o t : Nat} {L : List wE} {st : Nat → Nat} {P : (Int × jm) ⊕ (Int × jm) → Prop} (H : qCr m0 f n M i L o st) (ht : t < 150) (h0 : 0 < o) (h1 : kGb f n i 93 = true) (k : ∀ M1, qCr m0 f n M1 (kSkp f n i) L o st → jo (Option.bind (α := Int × jm) (jf_100 M1) fun p => if p.1 = 0 then some (Sum.inr ((0 : Int), p.2)) else some (Sum.inl (((t + 1 : Nat) : Int), p.2))) P) : jo (wCb ((t : Int), M)) P := by
  have a1 := H.1
  have a2 := H.2.1
  have a3 := H.2.2.1
  have a4 := H.2.2.2.1
  have a5 := H.2.2.2.2.1
  have a6 := H.2.2.2.2.2
  have hl := kGb_l h1
  unfold wCb
  dsimp only
  rw [if_pos (show (t : Int) < 150 by omega), jwn (by omega)]
  obtain ⟨p8, e8, b1, b2, b3⟩ := jo_ex.1 (sl_116 a1)
  have e6 : ja p8.2 41 6 = (o : Int) := by rw [ja_fr b3 (by unfold jW_116; omega)]; exact a3
  have K := k p8.2 ⟨b2, kCw_fr a2 b3 (fun a b h => by unfold jW_116 at h; omega), e6, fun u hu => by rw [ja_fr b3 (by unfold jW_116; omega)]; exact a4 u hu, by rw [ja_fr b3 (by unfold jW_116; omega)]; exact a5, jfr_t a6 b3 (fun e => e) (fun k j h => jW_116i h)⟩
  rw [e8, jsb, e6, b1, if_pos hl.2, kGb_v h1, if_neg (show ¬ (93 : Int) = -1 by decide), if_pos rfl, if_pos (show (0 : Int) < (o : Int) by omega)]
  rw [jo_bind] at K
  rw [jo_bind, jo_bind]
  exact K
/-- one entry changed -/
theorem kCw_2 {m : jm} {L R : List wE} {k x y : Int} (H : kCw m (L ++ (7, k, x) :: R)) (hy : jg y) : kCw (js m 44 L.length y) (L ++ (7, k, y) :: R) := by
  have hlen : (L ++ (7, k, y) :: R).length = (L ++ (7, k, x) :: R).length := by simp
  refine ⟨by rw [hlen, ja_jsk (by decide)]; exact H.1, fun t ht => ?_⟩
  rw [hlen] at ht
  have h := H.2 t ht
  by_cases e : t = L.length
  · subst e
    have e1 : ∀ z : Int, (L ++ (7, k, z) :: R).getD L.length (0, 0, 0) = (7, k, z) := fun z => by
      rw [List.getD_eq_getElem?_getD, List.getElem?_append_right (Nat.le_refl _), Nat.sub_self]; rfl
    rw [e1] at h
    rw [e1, ja_jsk (by decide), ja_jsk (by decide), ja_js1]
    exact ⟨h.1, h.2.1, jw_id hy⟩
  · have e1 : (L ++ (7, k, y) :: R).getD t (0, 0, 0) = (L ++ (7, k, x) :: R).getD t (0, 0, 0) := by
      by_cases e2 : t < L.length
      · rw [List.getD_eq_getElem?_getD, List.getElem?_append_left e2, List.getD_eq_getElem?_getD, List.getElem?_append_left e2]
      · rw [List.getD_eq_getElem?_getD, List.getElem?_append_right (by omega), List.getD_eq_getElem?_getD, List.getElem?_append_right (by omega)]
        obtain ⟨u, hu⟩ : ∃ u, t - L.length = u + 1 := ⟨t - L.length - 1, by omega⟩
        rw [hu]; rfl
    rw [e1, ja_jsk (by decide), ja_jsk (by decide), ja_jsj e]
    exact h
