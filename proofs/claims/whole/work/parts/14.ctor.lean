/-! CONSTRUCTORS (written by wip/whole/gen/wctor.py): memory while it is being made: cells below N, the first t reference fields -/
def jpoL : List (List Nat) := [[1, 13, 25, 28, 31, 35, 39, 45, 50, 55, 58, 63, 69, 76, 999, 999, 999], [0, 999, 999, 999, 999, 999, 999], [], [999, 999, 999, 999, 2, 3, 4, 5, 6, 7, 8, 9, 10, 11, 12], [], [], [], [], [], [], [], [], [], [], [], [999, 999, 999, 999, 14, 15, 16, 17, 18, 19, 20, 21, 22, 23, 24], [], [], [], [], [], [], [], [], [], [], [], [26, 999, 27], [], [], [29, 999, 30], [], [], [32, 999, 33, 999, 34], [], [], [], [36, 999, 37, 999, 38], [], [], [], [40, 41, 42, 43, 44, 999, 999, 999, 999], [], [], [], [], [], [48, 49, 46, 47], [], [], [51, 999, 52, 53, 54, 999], [], [], [], [], [56, 57], [61, 62, 59, 60, 999, 999], [], [], [67, 68, 64, 65, 66], [], [], [], [74, 75, 999, 999, 999, 999], [72, 73, 70, 71], [], [], [999, 77, 999, 999, 999, 999, 999, 999, 999, 78, 79, 80, 81, 82, 83, 84, 85, 86, 87, 88, 999, 999, 999, 999, 999, 999, 999, 999, 89, 90, 91, 92, 93, 999, 999, 94, 95, 96, 999, 999, 999, 999, 999, 999, 97, 98, 99, 999, 999, 999, 100, 101, 999, 102, 103, 104, 105, 106, 107, 108, 109, 999, 999, 999, 999, 110, 999], [], [], [], [], [], [], [], [], [], [], [], [], [], [], [], [], [], [], [], [], [], [], [], [], [], [], [], [], [], [], [], [], [], [], []]
def jpo (k j : Nat) : Nat := (jpoL.getD k []).getD j 999
def jpiL : List (Nat × Nat) := [(1, 0), (0, 0), (3, 4), (3, 5), (3, 6), (3, 7), (3, 8), (3, 9), (3, 10), (3, 11), (3, 12), (3, 13), (3, 14), (0, 1), (15, 4), (15, 5), (15, 6), (15, 7), (15, 8), (15, 9), (15, 10), (15, 11), (15, 12), (15, 13), (15, 14), (0, 2), (27, 0), (27, 2), (0, 3), (30, 0), (30, 2), (0, 4), (33, 0), (33, 2), (33, 4), (0, 5), (37, 0), (37, 2), (37, 4), (0, 6), (41, 0), (41, 1), (41, 2), (41, 3), (41, 4), (0, 7), (47, 2), (47, 3), (47, 0), (47, 1), (0, 8), (50, 0), (50, 2), (50, 3), (50, 4), (0, 9), (55, 0), (55, 1), (0, 10), (56, 2), (56, 3), (56, 0), (56, 1), (0, 11), (59, 2), (59, 3), (59, 4), (59, 0), (59, 1), (0, 12), (64, 2), (64, 3), (64, 0), (64, 1), (63, 0), (63, 1), (0, 13), (67, 1), (67, 9), (67, 10), (67, 11), (67, 12), (67, 13), (67, 14), (67, 15), (67, 16), (67, 17), (67, 18), (67, 19), (67, 28), (67, 29), (67, 30), (67, 31), (67, 32), (67, 35), (67, 36), (67, 37), (67, 44), (67, 45), (67, 46), (67, 50), (67, 51), (67, 53), (67, 54), (67, 55), (67, 56), (67, 57), (67, 58), (67, 59), (67, 60), (67, 65)]
def jpi (i : Nat) : Nat × Nat := jpiL.getD i (0, 0)
theorem jpo_inv : ∀ a, a < 103 → ∀ b, b < 70 → jtk a b = 2 → jpi (jpo a b) = (a, b) ∧ jpo a b < 111 := by decide +kernel
theorem jtk_70 : ∀ a, a < 103 → px_kd a < 13 → (px_ftL.getD (px_kd a) []).length ≤ 70 := by decide +kernel
theorem jtk_2 {a b : Nat} (ha : a < 103) (h : jtk a b = 2) : b < 70 := by
  by_cases hb : b < 70
  · exact hb
  · exfalso
    unfold jtk at h
    by_cases hk : px_kd a < 13
    · rw [if_pos hk] at h
      have := jtk_70 a ha hk
      have e : px_fty (px_kd a) b = 99 := by
        unfold px_fty
        rw [List.getD_eq_getElem?_getD, List.getElem?_eq_none (by omega)]; rfl
      rw [e] at h; exact absurd h (by decide)
    · rw [if_neg hk] at h
      by_cases h2 : px_kd a = 22
      · rw [if_pos h2] at h; exact absurd h (by decide)
      · rw [if_neg h2] at h; exact absurd h (by decide)
def jmc (N t : Nat) (m : jm) : px_V := fun k j => if k = 2000 then (if j = 0 then .ref N else .ref 0) else if N ≤ k then .int 0 else match jtk k j with
  | 0 => .int (m.1 k j)
  | 1 => .long (m.2 k j)
  | 2 => if jpo k j < t then .ref (jrf k j) else .null
  | _ => .null
theorem jmc_mem {m : jm} : jmc 102 111 m = jmem 102 m := by
  funext k j
  unfold jmc jmem
  by_cases h1 : k = 2000
  · rw [if_pos h1, if_pos h1]
  · rw [if_neg h1, if_neg h1]
    by_cases h2 : 102 ≤ k
    · rw [if_pos h2, if_pos h2]
    · rw [if_neg h2, if_neg h2]
      have hq : jtk k j = 2 → jpo k j < 111 := fun h => (jpo_inv k (by omega) j (jtk_2 (by omega) h) h).2
      generalize jtk k j = n at hq ⊢
      match n, hq with
      | 0, _ => rfl
      | 1, _ => rfl
      | 2, h => exact if_pos (h rfl)
      | n + 3, _ => rfl
def jz (N : Nat) (m : jm) : Prop := ∀ k, N ≤ k → ∀ j, m.1 k j = 0 ∧ m.2 k j = 0
theorem jz_s {N : Nat} {m : jm} (h : jz N m) : jz (N + 1) m := fun k hk j => h k (by omega) j
theorem jz_js {N k j : Nat} {m : jm} {x : Int} (hk : k < N) (h : jz N m) : jz N (js m k j x) := fun a ha b => by
  unfold js
  refine ⟨?_, (h a ha b).2⟩
  show (if a = k ∧ b = j then Int32.ofInt x else m.1 a b) = 0
  rw [if_neg (by omega)]; exact (h a ha b).1
theorem jz_jcp {N d sp dp n : Nat} {f : Nat → Int32} {m : jm} (hk : d < N) (h : jz N m) : jz N (jcp m f d sp dp n) := fun a ha b => by
  unfold jcp
  refine ⟨?_, (h a ha b).2⟩
  show (if a = d ∧ dp ≤ b ∧ b < dp + n then f (sp + (b - dp)) else m.1 a b) = 0
  rw [if_neg (by omega)]; exact (h a ha b).1
theorem jzN {N t : Nat} {m : jm} : px_n (jmc N t m) = N := rfl
theorem jzI {N t k j : Nat} {m : jm} (hk : k < 103) (hkN : k < N) (ht : jtk k j = 0) : jmc N t m k j = jv (ja m k j) := by
  unfold jmc
  rw [if_neg (by omega), if_neg (by omega), ht]
  exact jv_a
theorem jzR {N t k j : Nat} {m : jm} (hk : k < 103) (hkN : k < N) (ht : jtk k j = 2) (hp : jpo k j < t) : jmc N t m k j = .ref (jrf k j) := by
  unfold jmc
  rw [if_neg (by omega), if_neg (by omega), ht]
  show (if jpo k j < t then Value.ref (jrf k j) else Value.null) = _
  rw [if_pos hp]
theorem jzset {N t k j : Nat} {m : jm} {x : Int} (hk : k < 103) (hkN : k < N) (ht : jtk k j = 0) : px_set (jmc N t m) k j (jv x) = jmc N t (js m k j x) := by
  funext a b
  unfold px_set
  by_cases h : a = k ∧ b = j
  · rw [if_pos h, h.1, h.2]
    unfold jmc js
    rw [if_neg (by omega), if_neg (by omega), ht]
    show jv x = Value.int (if k = k ∧ j = j then Int32.ofInt x else m.1 k j)
    rw [if_pos ⟨rfl, rfl⟩]
  · rw [if_neg h]
    unfold jmc js
    show _ = if a = 2000 then _ else if N ≤ a then _ else match jtk a b with
      | 0 => Value.int (if a = k ∧ b = j then Int32.ofInt x else m.1 a b)
      | 1 => _
      | 2 => _
      | _ => _
    rw [if_neg h]
theorem jzsetr {N t k j r : Nat} {m : jm} (hk : k < 103) (hN3 : N ≤ 103) (hkN : k < N) (ht : jtk k j = 2) (hp : jpo k j = t) (hr : jrf k j = r) : px_set (jmc N t m) k j (.ref r) = jmc N (t + 1) m := by
  funext a b
  unfold px_set
  by_cases h : a = k ∧ b = j
  · rw [if_pos h, h.1, h.2]
    unfold jmc
    rw [if_neg (by omega), if_neg (by omega), ht]
    show _ = if jpo k j < t + 1 then Value.ref (jrf k j) else Value.null
    rw [if_pos (by omega), hr]
  · rw [if_neg h]
    unfold jmc
    by_cases h1 : a = 2000
    · rw [if_pos h1, if_pos h1]
    · rw [if_neg h1, if_neg h1]
      by_cases h2 : N ≤ a
      · rw [if_pos h2, if_pos h2]
      · rw [if_neg h2, if_neg h2]
        have hq : jtk a b = 2 → jpo a b ≠ t := fun h3 e => by
          have i1 := (jpo_inv a (by omega) b (jtk_2 (by omega) h3) h3).1
          have i2 := (jpo_inv k (by omega) j (jtk_2 (by omega) ht) ht).1
          rw [e] at i1; rw [hp] at i2; rw [i1] at i2
          exact h ⟨congrArg Prod.fst i2, congrArg Prod.snd i2⟩
        generalize jtk a b = n at hq ⊢
        match n, hq with
        | 0, _ => rfl
        | 1, _ => rfl
        | 2, h5 =>
          have := h5 rfl
          show (if jpo a b < t then Value.ref (jrf a b) else Value.null) = if jpo a b < t + 1 then Value.ref (jrf a b) else Value.null
          by_cases h4 : jpo a b < t
          · rw [if_pos h4, if_pos (by omega)]
          · rw [if_neg h4, if_neg (by omega)]
        | n + 3, _ => rfl
theorem jznew {N t : Nat} {m : jm} {row : Nat → Value} (hN3 : N < 103) (hz : jz N m) (hp : ∀ j, jtk N j = 2 → t ≤ jpo N j) (hr : ∀ j, row j = match jtk N j with
  | 0 => .int 0
  | 1 => .long 0
  | _ => .null) : px_new (jmc N t m) N row = jmc (N + 1) t m := by
  funext a b
  unfold px_new
  by_cases h : a = N
  · rw [if_pos h, h, hr]
    unfold jmc
    rw [if_neg (by omega), if_neg (by omega)]
    have hzz := hz N (Nat.le_refl _) b
    rw [hzz.1, hzz.2]
    have hq := hp b
    generalize jtk N b = n at hq ⊢
    match n, hq with
    | 0, _ => rfl
    | 1, _ => rfl
    | 2, h5 =>
      have := h5 rfl
      show Value.null = if jpo N b < t then Value.ref (jrf N b) else Value.null
      rw [if_neg (by omega)]
    | n + 3, _ => rfl
  · rw [if_neg h]
    unfold jmc
    by_cases h1 : a = 2000 ∧ b = 0
    · rw [if_pos h1, if_pos h1.1, if_pos h1.2]
    · rw [if_neg h1]
      by_cases h2 : a = 2000
      · rw [if_pos h2, if_pos h2, if_neg (fun e => h1 ⟨h2, e⟩), if_neg (fun e => h1 ⟨h2, e⟩)]
      · rw [if_neg h2, if_neg h2]
        by_cases h3 : N ≤ a
        · rw [if_pos h3, if_pos (by omega)]
        · rw [if_neg h3, if_neg (show ¬ N + 1 ≤ a by omega)]
theorem jzarr {X : Nat × (Nat → Int32)} {N t k : Nat} {m : jm} (hk : k < 102) (hN : k < N) (hd : px_kd k = 20) : px_arr X (jmc N t m) k = some (px_ln k, jmc N t m k) := by
  unfold px_arr
  rw [if_neg (by omega), if_neg (by omega), jzN, if_pos ⟨hN, hd⟩]
def jk_ (X : Nat × (Nat → Int32)) (C : Nat → List Value → px_V → px_Q → Prop) (M : px_M) (Q : px_Q) (N t pc : Nat) (L : px_L) (st : List Value) (m : jm) (u : Nat × Nat) : Prop := px_W X C M Q (pc, L, st, jmc N t m, u)
section
variable {X : Nat × (Nat → Int32)} {C : Nat → List Value → px_V → px_Q → Prop} {M : px_M} {Q : px_Q} {N t pc pc' pa pb l : Nat} {L L' : px_L} {st : List Value} {m : jm} {u : Nat × Nat} {x y : Int} {α : Type} {A B : Option α} {P : α → Prop}
theorem jzr {i : Instr} (hi : px_ins M pc = some (i, l)) (h : px_do X C M i (pc, L, st, jmc N t m, u) (px_W X C M Q) Q) : jk_ X C M Q N t pc L st m u := by
  intro P hP
  refine hP _ ⟨px_W X C M Q, fun b hb => hb P hP, ?_⟩
  unfold px_act
  rw [show px_ins M (pc, L, st, jmc N t m, u).1 = some (i, l) from hi]
  exact h
theorem jz_ic {n : Int} (hi : px_ins M pc = some (.iconst n, l)) (hp : pc + 1 = pc') (k : jk_ X C M Q N t pc' L (jv n :: st) m u) : jk_ X C M Q N t pc L st m u := by
  subst hp; exact jzr hi k
theorem jz_bi {n : Int} (hi : px_ins M pc = some (.bipush n, l)) (hp : pc + 2 = pc') (hx : (Int8.ofInt n).toInt32 = Int32.ofInt n) (k : jk_ X C M Q N t pc' L (jv n :: st) m u) : jk_ X C M Q N t pc L st m u := by
  subst hp; refine jzr hi ?_
  show px_W X C M Q (pc + 2, L, .int (Int8.ofInt n).toInt32 :: st, jmc N t m, u)
  rw [hx]; exact k
theorem jz_si {n : Int} (hi : px_ins M pc = some (.sipush n, l)) (hp : pc + 3 = pc') (hx : (Int16.ofInt n).toInt32 = Int32.ofInt n) (k : jk_ X C M Q N t pc' L (jv n :: st) m u) : jk_ X C M Q N t pc L st m u := by
  subst hp; refine jzr hi ?_
  show px_W X C M Q (pc + 3, L, .int (Int16.ofInt n).toInt32 :: st, jmc N t m, u)
  rw [hx]; exact k
theorem jz_al_n {n : Fin 4} {r : Nat} (hi : px_ins M pc = some (.aload_n n, l)) (hp : pc + 1 = pc') (hl : px_ld L n = some (.ref r)) (k : jk_ X C M Q N t pc' L (.ref r :: st) m u) : jk_ X C M Q N t pc L st m u := by
  subst hp; refine jzr hi ?_
  show (match px_ld L n with
    | some (.ref x) => px_W X C M Q (pc + 1, L, .ref x :: st, jmc N t m, u)
    | _ => False)
  rw [hl]; exact k
theorem jz_is_n {n : Fin 4} (hi : px_ins M pc = some (.istore_n n, l)) (hp : pc + 1 = pc') (hn : (n : Nat) < L.length) (hk : px_kill L n = L) (hL : L.set n (some (jv x)) = L') (k : jk_ X C M Q N t pc' L' st m u) : jk_ X C M Q N t pc L (jv x :: st) m u := by
  subst hp; subst hL; refine jzr hi ?_
  refine ⟨hn, ?_⟩
  show px_W X C M Q (pc + 1, (px_kill L n).set n (some (jv x)), st, jmc N t m, u)
  rw [hk]; exact k
theorem jz_is {n : Nat} (hi : px_ins M pc = some (.istore n, l)) (hp : pc + 2 = pc') (hn : n < L.length) (hk : px_kill L n = L) (hL : L.set n (some (jv x)) = L') (k : jk_ X C M Q N t pc' L' st m u) : jk_ X C M Q N t pc L (jv x :: st) m u := by
  subst hp; subst hL; refine jzr hi ?_
  refine ⟨hn, ?_⟩
  show px_W X C M Q (pc + 2, (px_kill L n).set n (some (jv x)), st, jmc N t m, u)
  rw [hk]; exact k
theorem jz_as_n {n : Fin 4} {r : Nat} (hi : px_ins M pc = some (.astore_n n, l)) (hp : pc + 1 = pc') (hn : (n : Nat) < L.length) (hk : px_kill L n = L) (hL : L.set n (some (.ref r)) = L') (k : jk_ X C M Q N t pc' L' st m u) : jk_ X C M Q N t pc L (.ref r :: st) m u := by
  subst hp; subst hL; refine jzr hi ?_
  refine ⟨hn, ?_⟩
  show px_W X C M Q (pc + 1, (px_kill L n).set n (some (.ref r)), st, jmc N t m, u)
  rw [hk]; exact k
theorem jz_il_n {n : Fin 4} (hi : px_ins M pc = some (.iload_n n, l)) (hp : pc + 1 = pc') (hl : px_ld L n = some (jv x)) (k : jk_ X C M Q N t pc' L (jv x :: st) m u) : jk_ X C M Q N t pc L st m u := by
  subst hp; refine jzr hi ?_
  show (match px_ld L n with
    | some (.int x) => px_W X C M Q (pc + 1, L, .int x :: st, jmc N t m, u)
    | _ => False)
  rw [hl]; exact k
theorem jz_inc {n : Nat} {d : Int} (hi : px_ins M pc = some (.iinc n d, l)) (hp : pc + 3 = pc') (hl : px_ld L n = some (jv x)) (hn : n < L.length) (hk : px_kill L n = L) (hL : L.set n (some (jv (jw (x + d)))) = L') (k : jk_ X C M Q N t pc' L' st m u) : jk_ X C M Q N t pc L st m u := by
  subst hp; subst hL; refine jzr hi ?_
  show (match px_ld L n with
    | some (.int x) => n < L.length ∧ px_W X C M Q (pc + 3, px_st1 L n (some (.int (x + Int32.ofInt d))), st, jmc N t m, u)
    | _ => False)
  rw [hl]
  refine ⟨hn, ?_⟩
  show px_W X C M Q (pc + 3, (px_kill L n).set n (some (.int (Int32.ofInt x + Int32.ofInt d))), st, jmc N t m, u)
  rw [hk, ← Int32.ofInt_add, ← jo_w]; exact k
theorem jz_goto {o : Int} (hi : px_ins M pc = some (.goto o, l)) (hp : px_tg pc o = pc') (k : jk_ X C M Q N t pc' L st m u) : jk_ X C M Q N t pc L st m u := by
  subst hp; exact jzr hi k
theorem jz_dup {v : Value} (hi : px_ins M pc = some (.dup, l)) (hp : pc + 1 = pc') (hv : v.category = 1) (k : jk_ X C M Q N t pc' L (v :: v :: st) m u) : jk_ X C M Q N t pc L (v :: st) m u := by
  subst hp; exact jzr hi ⟨hv, k⟩
theorem jz_cge {o : Int} (hi : px_ins M pc = some (.if_icmp .ge o, l)) (hpa : pc + 3 = pa) (hpb : px_tg pc o = pb) (hx : jg x) (hy : jg y) (h : jo (if x < y then A else B) P) (ka : x < y → jo A P → jk_ X C M Q N t pa L st m u) (kb : ¬ x < y → jo B P → jk_ X C M Q N t pb L st m u) : jk_ X C M Q N t pc L (jv y :: jv x :: st) m u := by
  subst hpa; subst hpb; refine jzr hi ?_
  show if Int32.ofInt x < Int32.ofInt y then px_W X C M Q (pc + 3, L, st, jmc N t m, u) else px_W X C M Q (px_tg pc o, L, st, jmc N t m, u)
  simp only [je_lt hx hy]
  refine jo_i h (fun hc h => ?_) (fun hc h => ?_)
  · rw [if_pos hc]; exact ka hc h
  · rw [if_neg hc]; exact kb hc h
theorem jz_gs {n a b : Nat} (hi : px_ins M pc = some (.getstatic n, l)) (hp : pc + 3 = pc') (hlk : px_lk M.2.1 n = some (8, a, b)) (kk : jk_ X C M Q N t pc' L (.ref 1100 :: st) m u) : jk_ X C M Q N t pc L st m u := by
  subst hp; refine jzr hi ?_
  show (match px_lk M.2.1 n with
    | some (8, _, _) => px_W X C M Q (pc + 3, L, .ref 1100 :: st, jmc N t m, u)
    | _ => False)
  rw [hlk]; exact kk
theorem jz_len {k : Nat} {b : Int} (hi : px_ins M pc = some (.arraylength, l)) (hp : pc + 1 = pc') (hk : k < 102) (hN : k < N) (hd : px_kd k = 20) (hb : ((px_ln k : Nat) : Int) = b) (kk : jk_ X C M Q N t pc' L (jv b :: st) m u) : jk_ X C M Q N t pc L (.ref k :: st) m u := by
  subst hp; refine jzr hi ?_
  show (match px_arr X (jmc N t m) k with
    | some (n, _) => px_W X C M Q (pc + 1, L, .int (Int32.ofNat n) :: st, jmc N t m, u)
    | none => False)
  rw [jzarr hk hN hd]
  show px_W X C M Q (pc + 1, L, .int (Int32.ofNat (px_ln k)) :: st, jmc N t m, u)
  rw [← Int32.ofInt_eq_ofNat, hb]; exact kk
theorem jz_lenW (hi : px_ins M pc = some (.arraylength, l)) (hp : pc + 1 = pc') (kk : jk_ X C M Q N t pc' L (jv 7 :: st) m u) : jk_ X C M Q N t pc L (.ref 1100 :: st) m u := by
  subst hp; exact jzr hi kk
theorem jz_ist {k : Nat} {b : Int} (hi : px_ins M pc = some (.iastore, l)) (hp : pc + 1 = pc') (hk : k < 102) (hN : k < N) (hd : px_kd k = 20) (hb : ((px_ln k : Nat) : Int) = b) (hx : jg x) (h : jo (if 0 ≤ x ∧ x < b then A else none) P) (kk : 0 ≤ x ∧ x < b → jo A P → jk_ X C M Q N t pc' L st (js m k x.toNat y) u) : jk_ X C M Q N t pc L (jv y :: jv x :: .ref k :: st) m u := by
  subst hp; refine jzr hi ?_
  obtain ⟨hc, h⟩ := jo_g h
  refine ⟨⟨by rw [jzN]; omega, hd⟩, jin hx (by rw [hb]; exact hc), ?_⟩
  show px_W X C M Q (pc + 1, L, st, px_set (jmc N t m) k (Int32.ofInt x).toNatClampNeg (jv y), u)
  rw [jn_c hx, jzset (by omega) (by omega) (jtk_a (Or.inl hd))]; exact kk hc h
theorem jz_le {v : jm} {f : jm → Option α} (h : jo (jle v f) P) (k : ∀ m', jo (f m') P → jk_ X C M Q N t pc L st m' u) : jk_ X C M Q N t pc L st v u := k v h
theorem jz_rv (hi : px_ins M pc = some (.return_, l)) (hu : ju M u) (ht : M.2.2.2.1 = 0) (hq : Q (.inl none) (jmc N t m)) : jk_ X C M Q N t pc L [] m u := jzr hi ⟨hu.1, hu.2, ht, hq⟩
theorem jz_o {n a b k : Nat} (hi : px_ins M pc = some (.invokespecial n, l)) (hp : pc + 3 = pc') (hlk : px_lk M.2.1 n = some (9, a, b)) (hc : px_cat st ≤ 8) (kk : jk_ X C M Q N t pc' L st m u) : jk_ X C M Q N t pc L (.ref k :: st) m u := by
  subst hp; refine jzr hi ?_
  unfold px_do px_act4
  simp only [px_sort, hlk]
  exact ⟨hc, kk⟩
theorem jz_gr {n k c j t' r : Nat} (hi : px_ins M pc = some (.getfield n, l)) (hp : pc + 3 = pc') (hlk : px_lk M.2.1 n = some (t', c, j)) (ht : t' = 0 ∨ t' = 1) (hk : Nat.blt k 102 = true) (hkN : k < N) (hd : px_kd k = c) (hc : Nat.blt c 13 = true) (hf : px_fty c j % 10 = 2) (hpo : jpo k j < t) (hr : jrf k j = r) (kk : jk_ X C M Q N t pc' L (.ref r :: st) m u) : jk_ X C M Q N t pc L (.ref k :: st) m u := by
  subst hp; refine jzr hi ?_
  show (match px_lk M.2.1 n with
    | some (0, c, j) => px_live (jmc N t m) k c ∧ px_W X C M Q (pc + 3, L, jmc N t m k j :: st, jmc N t m, u)
    | some (1, c, j) => px_live (jmc N t m) k c ∧ px_W X C M Q (pc + 3, L, jmc N t m k j :: st, jmc N t m, u)
    | _ => False)
  have hk' : k < 102 := by simpa using hk
  have hc' : c < 13 := by simpa using hc
  have e : jmc N t m k j = .ref r := by rw [jzR (by omega) hkN (by rw [jtk_f hd hc', hf]) hpo, hr]
  rcases ht with rfl | rfl
  · rw [hlk]; refine ⟨⟨by rw [jzN]; omega, hd⟩, ?_⟩; show px_W X C M Q (pc + 3, L, jmc N t m k j :: st, jmc N t m, u); rw [e]; exact kk
  · rw [hlk]; refine ⟨⟨by rw [jzN]; omega, hd⟩, ?_⟩; show px_W X C M Q (pc + 3, L, jmc N t m k j :: st, jmc N t m, u); rw [e]; exact kk
theorem jz_pi {n k c j : Nat} (hi : px_ins M pc = some (.putfield n, l)) (hp : pc + 3 = pc') (hlk : px_lk M.2.1 n = some (0, c, j)) (hk : Nat.blt k 102 = true) (hkN : k < N) (hd : px_kd k = c) (hc : Nat.blt c 13 = true) (hf : px_fty c j = 0) (kk : jk_ X C M Q N t pc' L st (js m k j x) u) : jk_ X C M Q N t pc L (jv x :: .ref k :: st) m u := by
  subst hp; refine jzr hi ?_
  have hk' : k < 102 := by simpa using hk
  have hc' : c < 13 := by simpa using hc
  have e : px_set (jmc N t m) k j (jv x) = jmc N t (js m k j x) := jzset (by omega) hkN (by rw [jtk_f hd hc', hf])
  have hfit : px_fit (px_fty c j) (jv x) := by rw [hf]; exact (rfl : 0 % 10 = 0)
  unfold px_do px_act3
  simp only [px_sort, hlk]
  refine ⟨⟨by rw [jzN]; omega, hd⟩, hfit, Or.inl (by omega), ?_⟩
  rw [e]; exact kk
theorem jz_pr {n k c j r : Nat} (hi : px_ins M pc = some (.putfield n, l)) (hp : pc + 3 = pc') (hlk : px_lk M.2.1 n = some (0, c, j)) (hk : Nat.blt k 102 = true) (hN3 : Nat.ble N 103 = true) (hkN : k < N) (hd : px_kd k = c) (hc : Nat.blt c 13 = true) (hf : px_fty c j % 10 = 2) (hM : M.2.2.1 = 1 ∧ M.2.1 = c) (hpo : jpo k j = t) (hr : jrf k j = r) (kk : jk_ X C M Q N (t + 1) pc' L st m u) : jk_ X C M Q N t pc L (.ref r :: .ref k :: st) m u := by
  subst hp; refine jzr hi ?_
  have hk' : k < 102 := by simpa using hk
  have hc' : c < 13 := by simpa using hc
  have hN3' : N ≤ 103 := by simpa using hN3
  have e : px_set (jmc N t m) k j (.ref r) = jmc N (t + 1) m := jzsetr (by omega) hN3' hkN (by rw [jtk_f hd hc', hf]) hpo hr
  have hfit : px_fit (px_fty c j) (.ref r) := hf
  unfold px_do px_act3
  simp only [px_sort, hlk]
  refine ⟨⟨by rw [jzN]; omega, hd⟩, hfit, Or.inr hM, ?_⟩
  rw [e]; exact kk
theorem jz_na {ty : ArrayType} {u' : Nat × Nat} (hi : px_ins M pc = some (.newarray ty, l)) (hp : pc + 2 = pc') (hN3 : Nat.blt N 103 = true) (hz : jz N m) (hn : Int32.ofInt x = Int32.ofNat (px_ln N)) (hln : Nat.blt (px_ln N) 4096 = true) (ht : (ty = .int ∧ px_kd N = 20) ∨ (ty = .boolean ∧ px_kd N = 21)) (hu1 : u.1 + 1 ≤ (px_bud M.1).1) (hu2 : u.2 + px_ln N ≤ (px_bud M.1).2) (hu : (u.1 + 1, u.2 + px_ln N) = u') (kk : jk_ X C M Q (N + 1) t pc' L (.ref N :: st) m u') : jk_ X C M Q N t pc L (jv x :: st) m u := by
  subst hp; subst hu; refine jzr hi ?_
  have hN3' : N < 103 := by simpa using hN3
  have hln' : px_ln N < 4096 := by simpa using hln
  have hd : px_kd N = 20 ∨ px_kd N = 21 := by
    rcases ht with h | h
    · exact Or.inl h.2
    · exact Or.inr h.2
  have e : px_new (jmc N t m) N (fun _ => .int 0) = jmc (N + 1) t m := jznew hN3' hz (fun j h => by rw [jtk_a hd] at h; exact absurd h (by decide)) (fun j => by rw [jtk_a hd]; rfl)
  unfold px_do px_act3
  simp only [px_sort, jzN]
  refine ⟨hN3', hn, hln', hu1, hu2, ?_⟩
  rcases ht with h | h
  · refine Or.inl ⟨h.1, h.2, ?_⟩; rw [e]; exact kk
  · refine Or.inr (Or.inl ⟨h.1, h.2, ?_⟩); rw [e]; exact kk
theorem jz_new {n c b : Nat} {u' : Nat × Nat} (hi : px_ins M pc = some (.new n, l)) (hp : pc + 3 = pc') (hlk : px_lk M.2.1 n = some (4, c, b)) (hN3 : Nat.blt N 103 = true) (hz : jz N m) (hd : px_kd N = c) (hc : Nat.blt c 13 = true) (hpo : ∀ j, j < 70 → t ≤ jpo N j) (hu1 : u.1 + 1 ≤ (px_bud M.1).1) (hu2 : u.2 + px_nf c ≤ (px_bud M.1).2) (hu : (u.1 + 1, u.2 + px_nf c) = u') (kk : jk_ X C M Q (N + 1) t pc' L (.ref N :: st) m u') : jk_ X C M Q N t pc L st m u := by
  subst hp; subst hu; refine jzr hi ?_
  have hN3' : N < 103 := by simpa using hN3
  have hc' : c < 13 := by simpa using hc
  have e : px_new (jmc N t m) N (fun j => px_dft (px_fty c j)) = jmc (N + 1) t m := jznew hN3' hz (fun j h => hpo j (jtk_2 (by omega) h)) (fun j => by
    rw [jtk_f hd hc']
    unfold px_dft
    by_cases h0 : px_fty c j % 10 = 0
    · rw [if_pos h0, h0]; rfl
    · rw [if_neg h0]
      by_cases h1 : px_fty c j % 10 = 1
      · rw [if_pos h1, h1]; rfl
      · rw [if_neg h1]
        split
        · rename_i h; exact absurd h h0
        · rename_i h; exact absurd h h1
        · rfl)
  unfold px_do px_act3
  simp only [px_sort, hlk, jzN]
  refine ⟨hN3', hd, hc', hu1, hu2, ?_⟩
  rw [e]; exact kk
theorem jz_cpW {n d a b : Nat} (hi : px_ins M pc = some (.invokestatic n, l)) (hp : pc + 3 = pc') (hlk : px_lk M.2.1 n = some (10, a, b)) (hd : d < 102) (hN : d < N) (hkd : px_kd d = 20) (hbd : 7 ≤ px_ln d) (hc : px_cat st ≤ 8) (kk : jk_ X C M Q N t pc' L st (jcp m jwo d 0 0 7) u) : jk_ X C M Q N t pc L (jv 7 :: jv 0 :: .ref d :: jv 0 :: .ref 1100 :: st) m u := by
  subst hp; refine jzr hi ?_
  unfold px_do px_act4
  simp only [px_sort, hlk, px_arr, if_true]
  have e7 : (Int32.ofInt 7).toNatClampNeg = 7 := by decide
  have e0 : (Int32.ofInt 0).toNatClampNeg = 0 := by decide
  refine ⟨hc, by unfold px_nS; omega, ⟨by rw [jzN]; omega, hkd⟩, by decide, by decide, by decide, by rw [e7, e0]; omega, by rw [e7, e0]; omega, ?_⟩
  rw [e7, e0]
  have e : px_cpy (jmc N t m) (fun i => .int (px_wo.getD i 0)) d 0 0 7 = jmc N t (jcp m jwo d 0 0 7) := by
    funext a b
    unfold px_cpy
    by_cases h : a = d ∧ 0 ≤ b ∧ b < 0 + 7
    · rw [if_pos h, h.1]
      unfold jmc jcp
      rw [if_neg (by omega), if_neg (by omega), jtk_a (Or.inl hkd)]
      show _ = Value.int (if d = d ∧ 0 ≤ b ∧ b < 0 + 7 then jwo (0 + (b - 0)) else m.1 d b)
      rw [if_pos ⟨rfl, h.2⟩]; rfl
    · rw [if_neg h]
      unfold jmc jcp
      show _ = if a = 2000 then _ else if N ≤ a then _ else match jtk a b with
        | 0 => Value.int (if a = d ∧ 0 ≤ b ∧ b < 0 + 7 then jwo (0 + (b - 0)) else m.1 a b)
        | 1 => _
        | 2 => _
        | _ => _
      rw [if_neg h]
  rw [e]; exact kk
theorem jz_cc {n mi a t1 N1 t' b1 b2 : Nat} {u' : Nat × Nat} {m1 : jm} {k : Nat} (rest : List Value) (hi : px_ins M pc = some (.invokespecial n, l)) (hp : pc + 3 = pc') (hlk : px_lk M.2.1 n = some (t1, mi, a)) (ht : t1 = 2 ∨ t1 = 3) (hq : px_stc mi = 2 ∧ mi < 335 ∧ mi ≠ 332 ∧ (px_prog mi).2.2.2.2.2.2 = []) (hb : px_bud mi = (b1, b2)) (hu : (u.1 + b1, u.2 + b2) = u') (hu1 : u.1 + b1 ≤ (px_bud M.1).1) (hu2 : u.2 + b2 ≤ (px_bud M.1).2) (hk : (st.drop a).head? = some (.ref k)) (hl : a + 1 ≤ st.length) (hr : st.drop (a + 1) = rest) (hc : px_cat rest ≤ 8) (hcc : ∀ Q' : px_Q, Q' (.inl none) (jmc N1 t' m1) → C mi (st.take (a + 1)).reverse (jmc N t m) Q') (kk : jk_ X C M Q N1 t' pc' L rest m1 u') : jk_ X C M Q N t pc L st m u := by
  subst hp; subst hr; subst hu; refine jzr hi ?_
  show px_act4 X C M (.invokespecial n) pc L st (jmc N t m) u (px_W X C M Q) Q
  have e : px_callN C M mi (a + 1) pc L st (jmc N t m) u (px_W X C M Q) := by
    unfold px_callN
    rw [hb]
    exact ⟨hl, hc, hu1, hu2, hcc _ kk⟩
  unfold px_act4
  rcases ht with rfl | rfl
  · simp only [hlk]; exact ⟨hq.1, hq.2.1, hq.2.2.1, hq.2.2.2, ⟨k, hk⟩, e⟩
  · simp only [hlk]; exact ⟨hq.1, hq.2.1, hq.2.2.1, hq.2.2.2, ⟨k, hk⟩, e⟩
theorem jz_cs {n mi a : Nat} {F R : jm → Prop} (rest : List Value) (hi : px_ins M pc = some (.invokestatic n, l)) (hp : pc + 3 = pc') (hlk : px_lk M.2.1 n = some (2, mi, a)) (hq : jq mi 1) (hb : px_bud mi = (0, 0)) (hl : a ≤ st.length) (hr : st.drop a = rest) (hc : px_cat rest ≤ 8) (hu : ju M u) (hcc : ∀ Q' : px_Q, (∀ p : jm, F p → R p → Q' (.inl none) (jmc N t p)) → C mi (st.take a).reverse (jmc N t m) Q') (kk : ∀ p : jm, F p → R p → jk_ X C M Q N t pc' L rest p u) : jk_ X C M Q N t pc L st m u := by
  subst hp; subst hr; refine jzr hi ?_
  show px_act4 X C M (.invokestatic n) pc L st (jmc N t m) u (px_W X C M Q) Q
  obtain ⟨q1, q2, q3, q4, q5⟩ := hq
  have e : px_act4 X C M (.invokestatic n) pc L st (jmc N t m) u (px_W X C M Q) Q = (px_stc mi = 1 ∧ mi < 335 ∧ mi ≠ 332 ∧ px_call C M mi a pc L st (jmc N t m) u (px_W X C M Q) Q) := by
    unfold px_act4
    simp only [hlk]
    split
    · rename_i h; cases h; omega
    · rename_i h; cases h; omega
    · rename_i h; cases h; omega
    · rename_i h; cases h; rfl
    · rename_i h; cases h
    · rename_i h; cases h
    · rename_i h1 h2 h3 h4 h5 h6; exact absurd rfl (h4 mi a)
  rw [e]
  refine ⟨q1, q2, q3, ?_⟩
  unfold px_call
  rw [hb]
  exact ⟨hl, hc, hu.1, hu.2, hcc _ (fun p hp hr => kk p hp hr)⟩
end
theorem jz_in {X : Nat × (Nat → Int32)} {M : px_M} {Q : px_Q} {N t mi d lev : Nat} {av : List Value} {L : px_L} {m : jm} (hd : lev + 1 ≤ d) (hM : px_prog mi = M) (hb : px_bud mi = (0, 0)) (hl : (px_lay av).length ≤ M.2.2.2.2.1) (hL : px_ent M.2.2.2.2.1 av = L) (k : ∀ d', lev ≤ d' → ∀ Q' : px_Q, (∀ r m', Q r (jmc N t m') → Q' r (jmc N t m')) → jk_ X (px_C X d') M Q' N t 0 L [] m (0, 0)) : px_C X d mi av (jmc N t m) Q := by
  subst hM; subst hL
  cases d with
  | zero => omega
  | succ d => exact ⟨hl, k d (by omega) _ (fun r m' hq => ⟨fun _ => by rw [jzN, jzN, hb]; rfl, hq⟩)⟩
theorem jz_inC {X : Nat × (Nat → Int32)} {M : px_M} {Q : px_Q} {N t N1 t' mi d lev b1 b2 : Nat} {av : List Value} {L : px_L} {m m1 : jm} (hd : lev + 1 ≤ d) (hM : px_prog mi = M) (hb : px_bud mi = (b1, b2)) (hN1 : N1 = N + b1) (hl : (px_lay av).length ≤ M.2.2.2.2.1) (hL : px_ent M.2.2.2.2.1 av = L) (hq : Q (.inl none) (jmc N1 t' m1)) (k : ∀ d', lev ≤ d' → ∀ Q' : px_Q, (Q' (.inl none) (jmc N1 t' m1)) → jk_ X (px_C X d') M Q' N t 0 L [] m (0, 0)) : px_C X d mi av (jmc N t m) Q := by
  subst hM; subst hL
  cases d with
  | zero => omega
  | succ d => exact ⟨hl, k d (by omega) _ ⟨fun _ => by rw [jzN, jzN, hb, hN1], hq⟩⟩
set_option maxRecDepth 20000 in
set_option maxHeartbeats 1000000 in
theorem jcz_334 {X : Nat × (Nat → Int32)} {N t d : Nat} {a0 : Nat} {x1 : Int} (hN : a0 < N) (hd : 1 ≤ d) (ha0 : a0 < 102 ∧ px_kd a0 = 20) (hx1 : jg x1) {m : jm} {P : jm → Prop} {Q : px_Q} (h : jo (jf_334 a0 x1 m) P) (hQ : ∀ p : jm, True → P p → Q (.inl (none)) (jmc N t p)) : px_C X d 334 [.ref a0, jv x1] (jmc N t m) Q := by
  unfold jf_334 at h
  have hu : ju px_m334 (0, 0) := ju_0
  refine jz_in (M := px_m334) (lev := 0) (L := [some (.ref a0), some (jv x1), none, none]) hd rfl jbd_334 (jl rfl) rfl (fun d hd Q' hQ' => ?_)
  refine jz_ic (pc' := 1) rfl rfl (jz_is_n (pc' := 2) (L' := [_, _, _, _]) rfl rfl (jl rfl) rfl rfl (jz_al_n (pc' := 3) rfl rfl rfl (jz_len (pc' := 4) rfl rfl ha0.1 hN ha0.2 rfl (jz_is_n (pc' := 5) (L' := [_, _, _, _]) rfl rfl (jl rfl) rfl rfl ?_))))
  refine jr_reg (fun t4 => True) (fun t4 => ∀ o5, jn o5 → jk_ X (px_C X d) px_m334 Q' N t 20 [some (.ref a0), some (jv x1), o5, some (jv (px_ln a0 : Int))] [] t4 (0, 0)) h (fun t4 ht4 h o5 ho5 => ?_) (fun R7 k6 h => ?_)
  · exact jz_rv rfl hu rfl (hQ' _ _ (hQ t4 trivial h))
  · refine jr_lp (fun s1 => jg s1.1) (fun s1 => jk_ X (px_C X d) px_m334 Q' N t 5 [some (.ref a0), some (jv x1), some (jv s1.1), some (jv (px_ln a0 : Int))] [] s1.2 (0, 0)) h jgc_0 (fun s1 hs1 R3 k2 h => ?_)
    refine jz_il_n (pc' := 6) rfl rfl rfl (jz_il_n (pc' := 7) rfl rfl rfl ?_)
    refine jz_cge (pa := 10) (pb := 20) rfl rfl rfl hs1 (jg_ln ha0.1) h (fun hc h => ?_) (fun hc h => ?_)
    · refine jz_al_n (pc' := 11) rfl rfl rfl (jz_il_n (pc' := 12) rfl rfl rfl (jz_il_n (pc' := 13) rfl rfl rfl ?_))
      refine jz_ist (pc' := 14) rfl rfl ha0.1 hN ha0.2 rfl hs1 h (fun hc h => ?_)
      refine jz_le h (fun m8 h => ?_)
      refine jz_inc (pc' := 17) (L' := [_, _, _, _]) rfl rfl rfl (jl rfl) rfl rfl (jz_goto (pc' := 5) rfl rfl ?_)
      exact k2 (jw (s1.1 + 1), m8) jg_w h
    · exact k6 (s1.2) trivial h _ jn_i
/-- a row filled with one number -/
def jfl (m : jm) (a : Nat) (x : Int) : jm := (fun k j => if k = a ∧ j < px_ln a then Int32.ofInt x else m.1 k j, m.2)
theorem jz_fl {N a : Nat} {m : jm} {x : Int} (hk : a < N) (h : jz N m) : jz N (jfl m a x) := fun k hk' j => by
  unfold jfl
  refine ⟨?_, (h k hk' j).2⟩
  show (if k = a ∧ j < px_ln a then Int32.ofInt x else m.1 k j) = 0
  rw [if_neg (by omega)]; exact (h k hk' j).1
theorem jln_le {a : Nat} : px_ln a ≤ 4096 := by
  unfold px_ln
  rw [List.getD_eq_getElem?_getD]
  cases e : px_lnL[a]? with
  | none => exact Nat.zero_le _
  | some n => exact jln_all n (List.mem_of_getElem? e)
theorem jlp_fr {α β : Type} {body : α → Option (α ⊕ β)} {c : β} {a : α} (k : Nat) (I : Nat → α) (hk : k < 4000000) (h0 : I 0 = a) (hs : ∀ i, i < k → body (I i) = some (Sum.inl (I (i + 1)))) (he : body (I k) = some (Sum.inr c)) : jlp body jfu a = some c := by
  subst h0; exact jlp_for k jfu I (jfu_lt hk) hs he
theorem sp_334 {a : Nat} {x : Int} {m : jm} : jf_334 a x m = some (jfl m a x) := by
  unfold jf_334
  have hl := jln_le (a := a)
  rw [jlp_fr (c := jfl m a x) (px_ln a) (fun i => ((i : Int), ((fun k j => if k = a ∧ j < i then Int32.ofInt x else m.1 k j, m.2) : jm))) (by omega) ?_ (fun i hi => ?_) ?_]
  · rfl
  · refine Prod.ext rfl (Prod.ext ?_ rfl)
    funext k j
    show (if k = a ∧ j < 0 then Int32.ofInt x else m.1 k j) = m.1 k j
    rw [if_neg (by omega)]
  · show (if ((px_ln a : Nat) : Int) < (px_ln a : Int) then _ else _) = _
    rw [if_neg (by omega)]
    rfl
  · show (if (i : Int) < (px_ln a : Int) then _ else _) = _
    rw [if_pos (by omega), if_pos (by omega), jle_eq]
    have e1 : jw ((i : Int) + 1) = ((i + 1 : Nat) : Int) := by rw [jwi (by omega) (by omega)]; omega
    rw [e1]
    refine congrArg (fun z => some (Sum.inl (((i + 1 : Nat) : Int), z))) ?_
    unfold js
    refine Prod.ext ?_ rfl
    funext k j
    show (if k = a ∧ j = (i : Int).toNat then Int32.ofInt x else if k = a ∧ j < i then Int32.ofInt x else m.1 k j) = if k = a ∧ j < i + 1 then Int32.ofInt x else m.1 k j
    by_cases h1 : k = a ∧ j = (i : Int).toNat
    · rw [if_pos h1, if_pos (by omega)]
    · rw [if_neg h1]
      by_cases h2 : k = a ∧ j < i
      · rw [if_pos h2, if_pos (by omega)]
      · rw [if_neg h2, if_neg (by omega)]
set_option maxRecDepth 20000 in
set_option maxHeartbeats 1000000 in
theorem jk_113_1 {X : Nat × (Nat → Int32)} {d : Nat} (hd : 1 ≤ d) {m : jm} (hz : jz 2 m) {Q : px_Q} (hQ : Q (.inl none) (jmc 3 1 (js m 1 6 (-1)))) : px_C X d 113 [.ref 1] (jmc 2 0 m) Q := by
  refine jz_inC (M := px_m113) (lev := 0) (b1 := 1) (b2 := 600) (L := [some (.ref 1)]) hd rfl rfl rfl (jl rfl) rfl hQ (fun d hd Q' hQ' => ?_)
  refine jz_al_n (pc' := 1) rfl rfl rfl ?_
  refine jz_o (pc' := 4) rfl rfl (rfl : px_lk 9 3 = some (9, 0, 0)) (jl rfl) ?_
  refine jz_al_n (pc' := 5) rfl rfl rfl ?_
  refine jz_si (pc' := 8) rfl rfl rfl ?_
  refine jz_na (pc' := 10) (u' := (1, 600)) rfl rfl rfl hz (by decide) rfl (.inl ⟨rfl, rfl⟩) (jl rfl) (jl rfl) rfl ?_
  refine jz_pr (pc' := 13) rfl rfl (rfl : px_lk 9 9 = some (0, 9, 0)) rfl rfl (jl rfl) (rfl : px_kd 1 = 9) rfl rfl ⟨rfl, rfl⟩ rfl rfl ?_
  refine jz_al_n (pc' := 14) rfl rfl rfl ?_
  refine jz_ic (pc' := 15) rfl rfl ?_
  refine jz_pi (pc' := 18) rfl rfl (rfl : px_lk 9 15 = some (0, 9, 6)) rfl (jl rfl) (rfl : px_kd 1 = 9) rfl rfl ?_
  exact jz_rv rfl (ju_l rfl rfl) rfl hQ'
theorem jk_113_1_z {m : jm} (hz : jz 2 m) : jz 3 (js m 1 6 (-1)) := (jz_js (jl rfl) (jz_s hz))
set_option maxRecDepth 20000 in
set_option maxHeartbeats 1000000 in
theorem jk_9_3 {X : Nat × (Nat → Int32)} {d : Nat} (hd : 1 ≤ d) {m : jm} (hz : jz 4 m) {Q : px_Q} (hQ : Q (.inl none) (jmc 15 13 m)) : px_C X d 9 [.ref 3] (jmc 4 2 m) Q := by
  refine jz_inC (M := px_m9) (lev := 0) (b1 := 11) (b2 := 94) (L := [some (.ref 3)]) hd rfl rfl rfl (jl rfl) rfl hQ (fun d hd Q' hQ' => ?_)
  refine jz_al_n (pc' := 1) rfl rfl rfl ?_
  refine jz_o (pc' := 4) rfl rfl (rfl : px_lk 1 3 = some (9, 0, 0)) (jl rfl) ?_
  refine jz_al_n (pc' := 5) rfl rfl rfl ?_
  refine jz_bi (pc' := 7) rfl rfl rfl ?_
  refine jz_na (pc' := 9) (u' := (1, 8)) rfl rfl rfl hz (by decide) rfl (.inl ⟨rfl, rfl⟩) (jl rfl) (jl rfl) rfl ?_
  refine jz_pr (pc' := 12) rfl rfl (rfl : px_lk 1 9 = some (0, 1, 4)) rfl rfl (jl rfl) (rfl : px_kd 3 = 1) rfl rfl ⟨rfl, rfl⟩ rfl rfl ?_
  refine jz_al_n (pc' := 13) rfl rfl rfl ?_
  refine jz_bi (pc' := 15) rfl rfl rfl ?_
  refine jz_na (pc' := 17) (u' := (2, 20)) rfl rfl rfl (jz_s hz) (by decide) rfl (.inl ⟨rfl, rfl⟩) (jl rfl) (jl rfl) rfl ?_
  refine jz_pr (pc' := 20) rfl rfl (rfl : px_lk 1 15 = some (0, 1, 5)) rfl rfl (jl rfl) (rfl : px_kd 3 = 1) rfl rfl ⟨rfl, rfl⟩ rfl rfl ?_
  refine jz_al_n (pc' := 21) rfl rfl rfl ?_
  refine jz_bi (pc' := 23) rfl rfl rfl ?_
  refine jz_na (pc' := 25) (u' := (3, 32)) rfl rfl rfl (jz_s (jz_s hz)) (by decide) rfl (.inl ⟨rfl, rfl⟩) (jl rfl) (jl rfl) rfl ?_
  refine jz_pr (pc' := 28) rfl rfl (rfl : px_lk 1 18 = some (0, 1, 6)) rfl rfl (jl rfl) (rfl : px_kd 3 = 1) rfl rfl ⟨rfl, rfl⟩ rfl rfl ?_
  refine jz_al_n (pc' := 29) rfl rfl rfl ?_
  refine jz_bi (pc' := 31) rfl rfl rfl ?_
  refine jz_na (pc' := 33) (u' := (4, 44)) rfl rfl rfl (jz_s (jz_s (jz_s hz))) (by decide) rfl (.inl ⟨rfl, rfl⟩) (jl rfl) (jl rfl) rfl ?_
  refine jz_pr (pc' := 36) rfl rfl (rfl : px_lk 1 21 = some (0, 1, 7)) rfl rfl (jl rfl) (rfl : px_kd 3 = 1) rfl rfl ⟨rfl, rfl⟩ rfl rfl ?_
  refine jz_al_n (pc' := 37) rfl rfl rfl ?_
  refine jz_bi (pc' := 39) rfl rfl rfl ?_
  refine jz_na (pc' := 41) (u' := (5, 50)) rfl rfl rfl (jz_s (jz_s (jz_s (jz_s hz)))) (by decide) rfl (.inl ⟨rfl, rfl⟩) (jl rfl) (jl rfl) rfl ?_
  refine jz_pr (pc' := 44) rfl rfl (rfl : px_lk 1 24 = some (0, 1, 8)) rfl rfl (jl rfl) (rfl : px_kd 3 = 1) rfl rfl ⟨rfl, rfl⟩ rfl rfl ?_
  refine jz_al_n (pc' := 45) rfl rfl rfl ?_
  refine jz_bi (pc' := 47) rfl rfl rfl ?_
  refine jz_na (pc' := 49) (u' := (6, 56)) rfl rfl rfl (jz_s (jz_s (jz_s (jz_s (jz_s hz))))) (by decide) rfl (.inl ⟨rfl, rfl⟩) (jl rfl) (jl rfl) rfl ?_
  refine jz_pr (pc' := 52) rfl rfl (rfl : px_lk 1 27 = some (0, 1, 9)) rfl rfl (jl rfl) (rfl : px_kd 3 = 1) rfl rfl ⟨rfl, rfl⟩ rfl rfl ?_
  refine jz_al_n (pc' := 53) rfl rfl rfl ?_
  refine jz_bi (pc' := 55) rfl rfl rfl ?_
  refine jz_na (pc' := 57) (u' := (7, 62)) rfl rfl rfl (jz_s (jz_s (jz_s (jz_s (jz_s (jz_s hz)))))) (by decide) rfl (.inl ⟨rfl, rfl⟩) (jl rfl) (jl rfl) rfl ?_
  refine jz_pr (pc' := 60) rfl rfl (rfl : px_lk 1 30 = some (0, 1, 10)) rfl rfl (jl rfl) (rfl : px_kd 3 = 1) rfl rfl ⟨rfl, rfl⟩ rfl rfl ?_
  refine jz_al_n (pc' := 61) rfl rfl rfl ?_
  refine jz_bi (pc' := 63) rfl rfl rfl ?_
  refine jz_na (pc' := 65) (u' := (8, 70)) rfl rfl rfl (jz_s (jz_s (jz_s (jz_s (jz_s (jz_s (jz_s hz))))))) (by decide) rfl (.inl ⟨rfl, rfl⟩) (jl rfl) (jl rfl) rfl ?_
  refine jz_pr (pc' := 68) rfl rfl (rfl : px_lk 1 33 = some (0, 1, 11)) rfl rfl (jl rfl) (rfl : px_kd 3 = 1) rfl rfl ⟨rfl, rfl⟩ rfl rfl ?_
  refine jz_al_n (pc' := 69) rfl rfl rfl ?_
  refine jz_bi (pc' := 71) rfl rfl rfl ?_
  refine jz_na (pc' := 73) (u' := (9, 78)) rfl rfl rfl (jz_s (jz_s (jz_s (jz_s (jz_s (jz_s (jz_s (jz_s hz)))))))) (by decide) rfl (.inl ⟨rfl, rfl⟩) (jl rfl) (jl rfl) rfl ?_
  refine jz_pr (pc' := 76) rfl rfl (rfl : px_lk 1 36 = some (0, 1, 12)) rfl rfl (jl rfl) (rfl : px_kd 3 = 1) rfl rfl ⟨rfl, rfl⟩ rfl rfl ?_
  refine jz_al_n (pc' := 77) rfl rfl rfl ?_
  refine jz_bi (pc' := 79) rfl rfl rfl ?_
  refine jz_na (pc' := 81) (u' := (10, 86)) rfl rfl rfl (jz_s (jz_s (jz_s (jz_s (jz_s (jz_s (jz_s (jz_s (jz_s hz))))))))) (by decide) rfl (.inl ⟨rfl, rfl⟩) (jl rfl) (jl rfl) rfl ?_
  refine jz_pr (pc' := 84) rfl rfl (rfl : px_lk 1 39 = some (0, 1, 13)) rfl rfl (jl rfl) (rfl : px_kd 3 = 1) rfl rfl ⟨rfl, rfl⟩ rfl rfl ?_
  refine jz_al_n (pc' := 85) rfl rfl rfl ?_
  refine jz_bi (pc' := 87) rfl rfl rfl ?_
  refine jz_na (pc' := 89) (u' := (11, 94)) rfl rfl rfl (jz_s (jz_s (jz_s (jz_s (jz_s (jz_s (jz_s (jz_s (jz_s (jz_s hz)))))))))) (by decide) rfl (.inl ⟨rfl, rfl⟩) (jl rfl) (jl rfl) rfl ?_
  refine jz_pr (pc' := 92) rfl rfl (rfl : px_lk 1 42 = some (0, 1, 14)) rfl rfl (jl rfl) (rfl : px_kd 3 = 1) rfl rfl ⟨rfl, rfl⟩ rfl rfl ?_
  exact jz_rv rfl (ju_l rfl rfl) rfl hQ'
theorem jk_9_3_z {m : jm} (hz : jz 4 m) : jz 15 m := (jz_s (jz_s (jz_s (jz_s (jz_s (jz_s (jz_s (jz_s (jz_s (jz_s (jz_s hz)))))))))))
set_option maxRecDepth 20000 in
set_option maxHeartbeats 1000000 in
theorem jk_9_15 {X : Nat × (Nat → Int32)} {d : Nat} (hd : 1 ≤ d) {m : jm} (hz : jz 16 m) {Q : px_Q} (hQ : Q (.inl none) (jmc 27 25 m)) : px_C X d 9 [.ref 15] (jmc 16 14 m) Q := by
  refine jz_inC (M := px_m9) (lev := 0) (b1 := 11) (b2 := 94) (L := [some (.ref 15)]) hd rfl rfl rfl (jl rfl) rfl hQ (fun d hd Q' hQ' => ?_)
  refine jz_al_n (pc' := 1) rfl rfl rfl ?_
  refine jz_o (pc' := 4) rfl rfl (rfl : px_lk 1 3 = some (9, 0, 0)) (jl rfl) ?_
  refine jz_al_n (pc' := 5) rfl rfl rfl ?_
  refine jz_bi (pc' := 7) rfl rfl rfl ?_
  refine jz_na (pc' := 9) (u' := (1, 8)) rfl rfl rfl hz (by decide) rfl (.inl ⟨rfl, rfl⟩) (jl rfl) (jl rfl) rfl ?_
  refine jz_pr (pc' := 12) rfl rfl (rfl : px_lk 1 9 = some (0, 1, 4)) rfl rfl (jl rfl) (rfl : px_kd 15 = 1) rfl rfl ⟨rfl, rfl⟩ rfl rfl ?_
  refine jz_al_n (pc' := 13) rfl rfl rfl ?_
  refine jz_bi (pc' := 15) rfl rfl rfl ?_
  refine jz_na (pc' := 17) (u' := (2, 20)) rfl rfl rfl (jz_s hz) (by decide) rfl (.inl ⟨rfl, rfl⟩) (jl rfl) (jl rfl) rfl ?_
  refine jz_pr (pc' := 20) rfl rfl (rfl : px_lk 1 15 = some (0, 1, 5)) rfl rfl (jl rfl) (rfl : px_kd 15 = 1) rfl rfl ⟨rfl, rfl⟩ rfl rfl ?_
  refine jz_al_n (pc' := 21) rfl rfl rfl ?_
  refine jz_bi (pc' := 23) rfl rfl rfl ?_
  refine jz_na (pc' := 25) (u' := (3, 32)) rfl rfl rfl (jz_s (jz_s hz)) (by decide) rfl (.inl ⟨rfl, rfl⟩) (jl rfl) (jl rfl) rfl ?_
  refine jz_pr (pc' := 28) rfl rfl (rfl : px_lk 1 18 = some (0, 1, 6)) rfl rfl (jl rfl) (rfl : px_kd 15 = 1) rfl rfl ⟨rfl, rfl⟩ rfl rfl ?_
  refine jz_al_n (pc' := 29) rfl rfl rfl ?_
  refine jz_bi (pc' := 31) rfl rfl rfl ?_
  refine jz_na (pc' := 33) (u' := (4, 44)) rfl rfl rfl (jz_s (jz_s (jz_s hz))) (by decide) rfl (.inl ⟨rfl, rfl⟩) (jl rfl) (jl rfl) rfl ?_
  refine jz_pr (pc' := 36) rfl rfl (rfl : px_lk 1 21 = some (0, 1, 7)) rfl rfl (jl rfl) (rfl : px_kd 15 = 1) rfl rfl ⟨rfl, rfl⟩ rfl rfl ?_
  refine jz_al_n (pc' := 37) rfl rfl rfl ?_
  refine jz_bi (pc' := 39) rfl rfl rfl ?_
  refine jz_na (pc' := 41) (u' := (5, 50)) rfl rfl rfl (jz_s (jz_s (jz_s (jz_s hz)))) (by decide) rfl (.inl ⟨rfl, rfl⟩) (jl rfl) (jl rfl) rfl ?_
  refine jz_pr (pc' := 44) rfl rfl (rfl : px_lk 1 24 = some (0, 1, 8)) rfl rfl (jl rfl) (rfl : px_kd 15 = 1) rfl rfl ⟨rfl, rfl⟩ rfl rfl ?_
  refine jz_al_n (pc' := 45) rfl rfl rfl ?_
  refine jz_bi (pc' := 47) rfl rfl rfl ?_
  refine jz_na (pc' := 49) (u' := (6, 56)) rfl rfl rfl (jz_s (jz_s (jz_s (jz_s (jz_s hz))))) (by decide) rfl (.inl ⟨rfl, rfl⟩) (jl rfl) (jl rfl) rfl ?_
  refine jz_pr (pc' := 52) rfl rfl (rfl : px_lk 1 27 = some (0, 1, 9)) rfl rfl (jl rfl) (rfl : px_kd 15 = 1) rfl rfl ⟨rfl, rfl⟩ rfl rfl ?_
  refine jz_al_n (pc' := 53) rfl rfl rfl ?_
  refine jz_bi (pc' := 55) rfl rfl rfl ?_
  refine jz_na (pc' := 57) (u' := (7, 62)) rfl rfl rfl (jz_s (jz_s (jz_s (jz_s (jz_s (jz_s hz)))))) (by decide) rfl (.inl ⟨rfl, rfl⟩) (jl rfl) (jl rfl) rfl ?_
  refine jz_pr (pc' := 60) rfl rfl (rfl : px_lk 1 30 = some (0, 1, 10)) rfl rfl (jl rfl) (rfl : px_kd 15 = 1) rfl rfl ⟨rfl, rfl⟩ rfl rfl ?_
  refine jz_al_n (pc' := 61) rfl rfl rfl ?_
  refine jz_bi (pc' := 63) rfl rfl rfl ?_
  refine jz_na (pc' := 65) (u' := (8, 70)) rfl rfl rfl (jz_s (jz_s (jz_s (jz_s (jz_s (jz_s (jz_s hz))))))) (by decide) rfl (.inl ⟨rfl, rfl⟩) (jl rfl) (jl rfl) rfl ?_
  refine jz_pr (pc' := 68) rfl rfl (rfl : px_lk 1 33 = some (0, 1, 11)) rfl rfl (jl rfl) (rfl : px_kd 15 = 1) rfl rfl ⟨rfl, rfl⟩ rfl rfl ?_
  refine jz_al_n (pc' := 69) rfl rfl rfl ?_
  refine jz_bi (pc' := 71) rfl rfl rfl ?_
  refine jz_na (pc' := 73) (u' := (9, 78)) rfl rfl rfl (jz_s (jz_s (jz_s (jz_s (jz_s (jz_s (jz_s (jz_s hz)))))))) (by decide) rfl (.inl ⟨rfl, rfl⟩) (jl rfl) (jl rfl) rfl ?_
  refine jz_pr (pc' := 76) rfl rfl (rfl : px_lk 1 36 = some (0, 1, 12)) rfl rfl (jl rfl) (rfl : px_kd 15 = 1) rfl rfl ⟨rfl, rfl⟩ rfl rfl ?_
  refine jz_al_n (pc' := 77) rfl rfl rfl ?_
  refine jz_bi (pc' := 79) rfl rfl rfl ?_
  refine jz_na (pc' := 81) (u' := (10, 86)) rfl rfl rfl (jz_s (jz_s (jz_s (jz_s (jz_s (jz_s (jz_s (jz_s (jz_s hz))))))))) (by decide) rfl (.inl ⟨rfl, rfl⟩) (jl rfl) (jl rfl) rfl ?_
  refine jz_pr (pc' := 84) rfl rfl (rfl : px_lk 1 39 = some (0, 1, 13)) rfl rfl (jl rfl) (rfl : px_kd 15 = 1) rfl rfl ⟨rfl, rfl⟩ rfl rfl ?_
  refine jz_al_n (pc' := 85) rfl rfl rfl ?_
  refine jz_bi (pc' := 87) rfl rfl rfl ?_
  refine jz_na (pc' := 89) (u' := (11, 94)) rfl rfl rfl (jz_s (jz_s (jz_s (jz_s (jz_s (jz_s (jz_s (jz_s (jz_s (jz_s hz)))))))))) (by decide) rfl (.inl ⟨rfl, rfl⟩) (jl rfl) (jl rfl) rfl ?_
  refine jz_pr (pc' := 92) rfl rfl (rfl : px_lk 1 42 = some (0, 1, 14)) rfl rfl (jl rfl) (rfl : px_kd 15 = 1) rfl rfl ⟨rfl, rfl⟩ rfl rfl ?_
  exact jz_rv rfl (ju_l rfl rfl) rfl hQ'
theorem jk_9_15_z {m : jm} (hz : jz 16 m) : jz 27 m := (jz_s (jz_s (jz_s (jz_s (jz_s (jz_s (jz_s (jz_s (jz_s (jz_s (jz_s hz)))))))))))
set_option maxRecDepth 20000 in
set_option maxHeartbeats 1000000 in
theorem jk_22_27 {X : Nat × (Nat → Int32)} {d : Nat} (hd : 1 ≤ d) {m : jm} (hz : jz 28 m) {Q : px_Q} (hQ : Q (.inl none) (jmc 30 28 (jcp (js m 27 1 (7)) jwo 28 0 0 7))) : px_C X d 22 [.ref 27] (jmc 28 26 m) Q := by
  refine jz_inC (M := px_m22) (lev := 0) (b1 := 2) (b2 := 171) (L := [some (.ref 27)]) hd rfl rfl rfl (jl rfl) rfl hQ (fun d hd Q' hQ' => ?_)
  refine jz_al_n (pc' := 1) rfl rfl rfl ?_
  refine jz_o (pc' := 4) rfl rfl (rfl : px_lk 2 3 = some (9, 0, 0)) (jl rfl) ?_
  refine jz_al_n (pc' := 5) rfl rfl rfl ?_
  refine jz_si (pc' := 8) rfl rfl rfl ?_
  refine jz_na (pc' := 10) (u' := (1, 150)) rfl rfl rfl hz (by decide) rfl (.inl ⟨rfl, rfl⟩) (jl rfl) (jl rfl) rfl ?_
  refine jz_pr (pc' := 13) rfl rfl (rfl : px_lk 2 9 = some (0, 2, 0)) rfl rfl (jl rfl) (rfl : px_kd 27 = 2) rfl rfl ⟨rfl, rfl⟩ rfl rfl ?_
  refine jz_al_n (pc' := 14) rfl rfl rfl ?_
  refine jz_gs (pc' := 17) rfl rfl (rfl : px_lk 2 15 = some (8, 0, 0)) ?_
  refine jz_lenW (pc' := 18) rfl rfl ?_
  refine jz_pi (pc' := 21) rfl rfl (rfl : px_lk 2 18 = some (0, 2, 1)) rfl (jl rfl) (rfl : px_kd 27 = 2) rfl rfl ?_
  refine jz_al_n (pc' := 22) rfl rfl rfl ?_
  refine jz_bi (pc' := 24) rfl rfl rfl ?_
  refine jz_na (pc' := 26) (u' := (2, 171)) rfl rfl rfl (jz_js (jl rfl) (jz_s hz)) (by decide) rfl (.inl ⟨rfl, rfl⟩) (jl rfl) (jl rfl) rfl ?_
  refine jz_pr (pc' := 29) rfl rfl (rfl : px_lk 2 22 = some (0, 2, 2)) rfl rfl (jl rfl) (rfl : px_kd 27 = 2) rfl rfl ⟨rfl, rfl⟩ rfl rfl ?_
  refine jz_gs (pc' := 32) rfl rfl (rfl : px_lk 2 15 = some (8, 0, 0)) ?_
  refine jz_ic (pc' := 33) rfl rfl ?_
  refine jz_al_n (pc' := 34) rfl rfl rfl ?_
  refine jz_gr (pc' := 37) (r := 28) rfl rfl (rfl : px_lk 2 9 = some (0, 2, 0)) (.inl rfl) rfl (jl rfl) (rfl : px_kd 27 = 2) rfl rfl (jl rfl) rfl ?_
  refine jz_ic (pc' := 38) rfl rfl ?_
  refine jz_gs (pc' := 41) rfl rfl (rfl : px_lk 2 15 = some (8, 0, 0)) ?_
  refine jz_lenW (pc' := 42) rfl rfl ?_
  refine jz_cpW (pc' := 45) rfl rfl (rfl : px_lk 2 25 = some (10, 0, 5)) (jl rfl) (jl rfl) (rfl : px_kd 28 = 20) (jl rfl) (jl rfl) ?_
  exact jz_rv rfl (ju_l rfl rfl) rfl hQ'
theorem jk_22_27_z {m : jm} (hz : jz 28 m) : jz 30 (jcp (js m 27 1 (7)) jwo 28 0 0 7) := (jz_jcp (jl rfl) (jz_s (jz_js (jl rfl) (jz_s hz))))
set_option maxRecDepth 20000 in
set_option maxHeartbeats 1000000 in
theorem jk_22_30 {X : Nat × (Nat → Int32)} {d : Nat} (hd : 1 ≤ d) {m : jm} (hz : jz 31 m) {Q : px_Q} (hQ : Q (.inl none) (jmc 33 31 (jcp (js m 30 1 (7)) jwo 31 0 0 7))) : px_C X d 22 [.ref 30] (jmc 31 29 m) Q := by
  refine jz_inC (M := px_m22) (lev := 0) (b1 := 2) (b2 := 171) (L := [some (.ref 30)]) hd rfl rfl rfl (jl rfl) rfl hQ (fun d hd Q' hQ' => ?_)
  refine jz_al_n (pc' := 1) rfl rfl rfl ?_
  refine jz_o (pc' := 4) rfl rfl (rfl : px_lk 2 3 = some (9, 0, 0)) (jl rfl) ?_
  refine jz_al_n (pc' := 5) rfl rfl rfl ?_
  refine jz_si (pc' := 8) rfl rfl rfl ?_
  refine jz_na (pc' := 10) (u' := (1, 150)) rfl rfl rfl hz (by decide) rfl (.inl ⟨rfl, rfl⟩) (jl rfl) (jl rfl) rfl ?_
  refine jz_pr (pc' := 13) rfl rfl (rfl : px_lk 2 9 = some (0, 2, 0)) rfl rfl (jl rfl) (rfl : px_kd 30 = 2) rfl rfl ⟨rfl, rfl⟩ rfl rfl ?_
  refine jz_al_n (pc' := 14) rfl rfl rfl ?_
  refine jz_gs (pc' := 17) rfl rfl (rfl : px_lk 2 15 = some (8, 0, 0)) ?_
  refine jz_lenW (pc' := 18) rfl rfl ?_
  refine jz_pi (pc' := 21) rfl rfl (rfl : px_lk 2 18 = some (0, 2, 1)) rfl (jl rfl) (rfl : px_kd 30 = 2) rfl rfl ?_
  refine jz_al_n (pc' := 22) rfl rfl rfl ?_
  refine jz_bi (pc' := 24) rfl rfl rfl ?_
  refine jz_na (pc' := 26) (u' := (2, 171)) rfl rfl rfl (jz_js (jl rfl) (jz_s hz)) (by decide) rfl (.inl ⟨rfl, rfl⟩) (jl rfl) (jl rfl) rfl ?_
  refine jz_pr (pc' := 29) rfl rfl (rfl : px_lk 2 22 = some (0, 2, 2)) rfl rfl (jl rfl) (rfl : px_kd 30 = 2) rfl rfl ⟨rfl, rfl⟩ rfl rfl ?_
  refine jz_gs (pc' := 32) rfl rfl (rfl : px_lk 2 15 = some (8, 0, 0)) ?_
  refine jz_ic (pc' := 33) rfl rfl ?_
  refine jz_al_n (pc' := 34) rfl rfl rfl ?_
  refine jz_gr (pc' := 37) (r := 31) rfl rfl (rfl : px_lk 2 9 = some (0, 2, 0)) (.inl rfl) rfl (jl rfl) (rfl : px_kd 30 = 2) rfl rfl (jl rfl) rfl ?_
  refine jz_ic (pc' := 38) rfl rfl ?_
  refine jz_gs (pc' := 41) rfl rfl (rfl : px_lk 2 15 = some (8, 0, 0)) ?_
  refine jz_lenW (pc' := 42) rfl rfl ?_
  refine jz_cpW (pc' := 45) rfl rfl (rfl : px_lk 2 25 = some (10, 0, 5)) (jl rfl) (jl rfl) (rfl : px_kd 31 = 20) (jl rfl) (jl rfl) ?_
  exact jz_rv rfl (ju_l rfl rfl) rfl hQ'
theorem jk_22_30_z {m : jm} (hz : jz 31 m) : jz 33 (jcp (js m 30 1 (7)) jwo 31 0 0 7) := (jz_jcp (jl rfl) (jz_s (jz_js (jl rfl) (jz_s hz))))
set_option maxRecDepth 20000 in
set_option maxHeartbeats 1000000 in
theorem jk_0_33 {X : Nat × (Nat → Int32)} {d : Nat} (hd : 2 ≤ d) {m : jm} (hz : jz 34 m) {Q : px_Q} (hQ : Q (.inl none) (jmc 37 35 (jfl m 34 (-1)))) : px_C X d 0 [.ref 33] (jmc 34 32 m) Q := by
  refine jz_inC (M := px_m0) (lev := 1) (b1 := 3) (b2 := 166) (L := [some (.ref 33)]) hd rfl rfl rfl (jl rfl) rfl hQ (fun d hd Q' hQ' => ?_)
  refine jz_al_n (pc' := 1) rfl rfl rfl ?_
  refine jz_o (pc' := 4) rfl rfl (rfl : px_lk 0 3 = some (9, 0, 0)) (jl rfl) ?_
  refine jz_al_n (pc' := 5) rfl rfl rfl ?_
  refine jz_bi (pc' := 7) rfl rfl rfl ?_
  refine jz_na (pc' := 9) (u' := (1, 12)) rfl rfl rfl hz (by decide) rfl (.inl ⟨rfl, rfl⟩) (jl rfl) (jl rfl) rfl ?_
  refine jz_pr (pc' := 12) rfl rfl (rfl : px_lk 0 9 = some (0, 0, 0)) rfl rfl (jl rfl) (rfl : px_kd 33 = 0) rfl rfl ⟨rfl, rfl⟩ rfl rfl ?_
  refine jz_al_n (pc' := 13) rfl rfl rfl ?_
  refine jz_bi (pc' := 15) rfl rfl rfl ?_
  refine jz_na (pc' := 17) (u' := (2, 66)) rfl rfl rfl (jz_s hz) (by decide) rfl (.inr ⟨rfl, rfl⟩) (jl rfl) (jl rfl) rfl ?_
  refine jz_pr (pc' := 20) rfl rfl (rfl : px_lk 0 15 = some (0, 0, 2)) rfl rfl (jl rfl) (rfl : px_kd 33 = 0) rfl rfl ⟨rfl, rfl⟩ rfl rfl ?_
  refine jz_al_n (pc' := 21) rfl rfl rfl ?_
  refine jz_bi (pc' := 23) rfl rfl rfl ?_
  refine jz_na (pc' := 25) (u' := (3, 166)) rfl rfl rfl (jz_s (jz_s hz)) (by decide) rfl (.inl ⟨rfl, rfl⟩) (jl rfl) (jl rfl) rfl ?_
  refine jz_pr (pc' := 28) rfl rfl (rfl : px_lk 0 19 = some (0, 0, 4)) rfl rfl (jl rfl) (rfl : px_kd 33 = 0) rfl rfl ⟨rfl, rfl⟩ rfl rfl ?_
  refine jz_al_n (pc' := 29) rfl rfl rfl ?_
  refine jz_gr (pc' := 32) (r := 34) rfl rfl (rfl : px_lk 0 9 = some (0, 0, 0)) (.inl rfl) rfl (jl rfl) (rfl : px_kd 33 = 0) rfl rfl (jl rfl) rfl ?_
  refine jz_ic (pc' := 33) rfl rfl ?_
  refine jz_cs (pc' := 36) (F := fun _ => True) (R := fun p => p = jfl m 34 (-1)) [] rfl rfl (rfl : px_lk 0 22 = some (2, 334, 2)) jq_334 jbd_334 (jl rfl) rfl (jl rfl) (ju_l rfl rfl) (fun Q' hq => jcz_334 (jl rfl) (Nat.le_trans (jl rfl) hd) ⟨jl rfl, (rfl : px_kd 34 = 20)⟩ jgc_m1 (jo_of (P := fun p => p = jfl m 34 (-1)) sp_334 rfl) hq) (fun p _ hp => ?_)
  subst hp
  exact jz_rv rfl (ju_l rfl rfl) rfl hQ'
theorem jk_0_33_z {m : jm} (hz : jz 34 m) : jz 37 (jfl m 34 (-1)) := (jz_fl (jl rfl) (jz_s (jz_s (jz_s hz))))
set_option maxRecDepth 20000 in
set_option maxHeartbeats 1000000 in
theorem jk_0_37 {X : Nat × (Nat → Int32)} {d : Nat} (hd : 2 ≤ d) {m : jm} (hz : jz 38 m) {Q : px_Q} (hQ : Q (.inl none) (jmc 41 39 (jfl m 38 (-1)))) : px_C X d 0 [.ref 37] (jmc 38 36 m) Q := by
  refine jz_inC (M := px_m0) (lev := 1) (b1 := 3) (b2 := 166) (L := [some (.ref 37)]) hd rfl rfl rfl (jl rfl) rfl hQ (fun d hd Q' hQ' => ?_)
  refine jz_al_n (pc' := 1) rfl rfl rfl ?_
  refine jz_o (pc' := 4) rfl rfl (rfl : px_lk 0 3 = some (9, 0, 0)) (jl rfl) ?_
  refine jz_al_n (pc' := 5) rfl rfl rfl ?_
  refine jz_bi (pc' := 7) rfl rfl rfl ?_
  refine jz_na (pc' := 9) (u' := (1, 12)) rfl rfl rfl hz (by decide) rfl (.inl ⟨rfl, rfl⟩) (jl rfl) (jl rfl) rfl ?_
  refine jz_pr (pc' := 12) rfl rfl (rfl : px_lk 0 9 = some (0, 0, 0)) rfl rfl (jl rfl) (rfl : px_kd 37 = 0) rfl rfl ⟨rfl, rfl⟩ rfl rfl ?_
  refine jz_al_n (pc' := 13) rfl rfl rfl ?_
  refine jz_bi (pc' := 15) rfl rfl rfl ?_
  refine jz_na (pc' := 17) (u' := (2, 66)) rfl rfl rfl (jz_s hz) (by decide) rfl (.inr ⟨rfl, rfl⟩) (jl rfl) (jl rfl) rfl ?_
  refine jz_pr (pc' := 20) rfl rfl (rfl : px_lk 0 15 = some (0, 0, 2)) rfl rfl (jl rfl) (rfl : px_kd 37 = 0) rfl rfl ⟨rfl, rfl⟩ rfl rfl ?_
  refine jz_al_n (pc' := 21) rfl rfl rfl ?_
  refine jz_bi (pc' := 23) rfl rfl rfl ?_
  refine jz_na (pc' := 25) (u' := (3, 166)) rfl rfl rfl (jz_s (jz_s hz)) (by decide) rfl (.inl ⟨rfl, rfl⟩) (jl rfl) (jl rfl) rfl ?_
  refine jz_pr (pc' := 28) rfl rfl (rfl : px_lk 0 19 = some (0, 0, 4)) rfl rfl (jl rfl) (rfl : px_kd 37 = 0) rfl rfl ⟨rfl, rfl⟩ rfl rfl ?_
  refine jz_al_n (pc' := 29) rfl rfl rfl ?_
  refine jz_gr (pc' := 32) (r := 38) rfl rfl (rfl : px_lk 0 9 = some (0, 0, 0)) (.inl rfl) rfl (jl rfl) (rfl : px_kd 37 = 0) rfl rfl (jl rfl) rfl ?_
  refine jz_ic (pc' := 33) rfl rfl ?_
  refine jz_cs (pc' := 36) (F := fun _ => True) (R := fun p => p = jfl m 38 (-1)) [] rfl rfl (rfl : px_lk 0 22 = some (2, 334, 2)) jq_334 jbd_334 (jl rfl) rfl (jl rfl) (ju_l rfl rfl) (fun Q' hq => jcz_334 (jl rfl) (Nat.le_trans (jl rfl) hd) ⟨jl rfl, (rfl : px_kd 38 = 20)⟩ jgc_m1 (jo_of (P := fun p => p = jfl m 38 (-1)) sp_334 rfl) hq) (fun p _ hp => ?_)
  subst hp
  exact jz_rv rfl (ju_l rfl rfl) rfl hQ'
theorem jk_0_37_z {m : jm} (hz : jz 38 m) : jz 41 (jfl m 38 (-1)) := (jz_fl (jl rfl) (jz_s (jz_s (jz_s hz))))
set_option maxRecDepth 20000 in
set_option maxHeartbeats 1000000 in
theorem jk_98_41 {X : Nat × (Nat → Int32)} {d : Nat} (hd : 1 ≤ d) {m : jm} (hz : jz 42 m) {Q : px_Q} (hQ : Q (.inl none) (jmc 47 45 m)) : px_C X d 98 [.ref 41] (jmc 42 40 m) Q := by
  refine jz_inC (M := px_m98) (lev := 0) (b1 := 5) (b2 := 606) (L := [some (.ref 41)]) hd rfl rfl rfl (jl rfl) rfl hQ (fun d hd Q' hQ' => ?_)
  refine jz_al_n (pc' := 1) rfl rfl rfl ?_
  refine jz_o (pc' := 4) rfl rfl (rfl : px_lk 7 3 = some (9, 0, 0)) (jl rfl) ?_
  refine jz_al_n (pc' := 5) rfl rfl rfl ?_
  refine jz_si (pc' := 8) rfl rfl rfl ?_
  refine jz_na (pc' := 10) (u' := (1, 150)) rfl rfl rfl hz (by decide) rfl (.inl ⟨rfl, rfl⟩) (jl rfl) (jl rfl) rfl ?_
  refine jz_pr (pc' := 13) rfl rfl (rfl : px_lk 7 9 = some (0, 7, 0)) rfl rfl (jl rfl) (rfl : px_kd 41 = 7) rfl rfl ⟨rfl, rfl⟩ rfl rfl ?_
  refine jz_al_n (pc' := 14) rfl rfl rfl ?_
  refine jz_si (pc' := 17) rfl rfl rfl ?_
  refine jz_na (pc' := 19) (u' := (2, 300)) rfl rfl rfl (jz_s hz) (by decide) rfl (.inl ⟨rfl, rfl⟩) (jl rfl) (jl rfl) rfl ?_
  refine jz_pr (pc' := 22) rfl rfl (rfl : px_lk 7 15 = some (0, 7, 1)) rfl rfl (jl rfl) (rfl : px_kd 41 = 7) rfl rfl ⟨rfl, rfl⟩ rfl rfl ?_
  refine jz_al_n (pc' := 23) rfl rfl rfl ?_
  refine jz_si (pc' := 26) rfl rfl rfl ?_
  refine jz_na (pc' := 28) (u' := (3, 450)) rfl rfl rfl (jz_s (jz_s hz)) (by decide) rfl (.inl ⟨rfl, rfl⟩) (jl rfl) (jl rfl) rfl ?_
  refine jz_pr (pc' := 31) rfl rfl (rfl : px_lk 7 18 = some (0, 7, 2)) rfl rfl (jl rfl) (rfl : px_kd 41 = 7) rfl rfl ⟨rfl, rfl⟩ rfl rfl ?_
  refine jz_al_n (pc' := 32) rfl rfl rfl ?_
  refine jz_si (pc' := 35) rfl rfl rfl ?_
  refine jz_na (pc' := 37) (u' := (4, 600)) rfl rfl rfl (jz_s (jz_s (jz_s hz))) (by decide) rfl (.inl ⟨rfl, rfl⟩) (jl rfl) (jl rfl) rfl ?_
  refine jz_pr (pc' := 40) rfl rfl (rfl : px_lk 7 21 = some (0, 7, 3)) rfl rfl (jl rfl) (rfl : px_kd 41 = 7) rfl rfl ⟨rfl, rfl⟩ rfl rfl ?_
  refine jz_al_n (pc' := 41) rfl rfl rfl ?_
  refine jz_bi (pc' := 43) rfl rfl rfl ?_
  refine jz_na (pc' := 45) (u' := (5, 606)) rfl rfl rfl (jz_s (jz_s (jz_s (jz_s hz)))) (by decide) rfl (.inl ⟨rfl, rfl⟩) (jl rfl) (jl rfl) rfl ?_
  refine jz_pr (pc' := 48) rfl rfl (rfl : px_lk 7 24 = some (0, 7, 4)) rfl rfl (jl rfl) (rfl : px_kd 41 = 7) rfl rfl ⟨rfl, rfl⟩ rfl rfl ?_
  exact jz_rv rfl (ju_l rfl rfl) rfl hQ'
theorem jk_98_41_z {m : jm} (hz : jz 42 m) : jz 47 m := (jz_s (jz_s (jz_s (jz_s (jz_s hz)))))
set_option maxRecDepth 20000 in
set_option maxHeartbeats 1000000 in
theorem jk_56_47 {X : Nat × (Nat → Int32)} {d : Nat} (hd : 1 ≤ d) {m : jm} (hz : jz 48 m) {Q : px_Q} (hQ : Q (.inl none) (jmc 50 50 m)) : px_C X d 56 [.ref 47, .ref 3, .ref 27] (jmc 48 46 m) Q := by
  refine jz_inC (M := px_m56) (lev := 0) (b1 := 2) (b2 := 61) (L := [some (.ref 47), some (.ref 3), some (.ref 27)]) hd rfl rfl rfl (jl rfl) rfl hQ (fun d hd Q' hQ' => ?_)
  refine jz_al_n (pc' := 1) rfl rfl rfl ?_
  refine jz_o (pc' := 4) rfl rfl (rfl : px_lk 6 5 = some (9, 0, 0)) (jl rfl) ?_
  refine jz_al_n (pc' := 5) rfl rfl rfl ?_
  refine jz_bi (pc' := 7) rfl rfl rfl ?_
  refine jz_na (pc' := 9) (u' := (1, 52)) rfl rfl rfl hz (by decide) rfl (.inl ⟨rfl, rfl⟩) (jl rfl) (jl rfl) rfl ?_
  refine jz_pr (pc' := 12) rfl rfl (rfl : px_lk 6 11 = some (0, 6, 2)) rfl rfl (jl rfl) (rfl : px_kd 47 = 6) rfl rfl ⟨rfl, rfl⟩ rfl rfl ?_
  refine jz_al_n (pc' := 13) rfl rfl rfl ?_
  refine jz_bi (pc' := 15) rfl rfl rfl ?_
  refine jz_na (pc' := 17) (u' := (2, 61)) rfl rfl rfl (jz_s hz) (by decide) rfl (.inl ⟨rfl, rfl⟩) (jl rfl) (jl rfl) rfl ?_
  refine jz_pr (pc' := 20) rfl rfl (rfl : px_lk 6 17 = some (0, 6, 3)) rfl rfl (jl rfl) (rfl : px_kd 47 = 6) rfl rfl ⟨rfl, rfl⟩ rfl rfl ?_
  refine jz_al_n (pc' := 21) rfl rfl rfl ?_
  refine jz_al_n (pc' := 22) rfl rfl rfl ?_
  refine jz_pr (pc' := 25) rfl rfl (rfl : px_lk 6 20 = some (0, 6, 0)) rfl rfl (jl rfl) (rfl : px_kd 47 = 6) rfl rfl ⟨rfl, rfl⟩ rfl rfl ?_
  refine jz_al_n (pc' := 26) rfl rfl rfl ?_
  refine jz_al_n (pc' := 27) rfl rfl rfl ?_
  refine jz_pr (pc' := 30) rfl rfl (rfl : px_lk 6 24 = some (0, 6, 1)) rfl rfl (jl rfl) (rfl : px_kd 47 = 6) rfl rfl ⟨rfl, rfl⟩ rfl rfl ?_
  exact jz_rv rfl (ju_l rfl rfl) rfl hQ'
theorem jk_56_47_z {m : jm} (hz : jz 48 m) : jz 50 m := (jz_s (jz_s hz))
set_option maxRecDepth 20000 in
set_option maxHeartbeats 1000000 in
theorem jk_49_50 {X : Nat × (Nat → Int32)} {d : Nat} (hd : 1 ≤ d) {m : jm} (hz : jz 51 m) {Q : px_Q} (hQ : Q (.inl none) (jmc 55 55 m)) : px_C X d 49 [.ref 50] (jmc 51 51 m) Q := by
  refine jz_inC (M := px_m49) (lev := 0) (b1 := 4) (b2 := 3487) (L := [some (.ref 50)]) hd rfl rfl rfl (jl rfl) rfl hQ (fun d hd Q' hQ' => ?_)
  refine jz_al_n (pc' := 1) rfl rfl rfl ?_
  refine jz_o (pc' := 4) rfl rfl (rfl : px_lk 5 5 = some (9, 0, 0)) (jl rfl) ?_
  refine jz_al_n (pc' := 5) rfl rfl rfl ?_
  refine jz_si (pc' := 8) rfl rfl rfl ?_
  refine jz_na (pc' := 10) (u' := (1, 832)) rfl rfl rfl hz (by decide) rfl (.inl ⟨rfl, rfl⟩) (jl rfl) (jl rfl) rfl ?_
  refine jz_pr (pc' := 13) rfl rfl (rfl : px_lk 5 13 = some (0, 5, 0)) rfl rfl (jl rfl) (rfl : px_kd 50 = 5) rfl rfl ⟨rfl, rfl⟩ rfl rfl ?_
  refine jz_al_n (pc' := 14) rfl rfl rfl ?_
  refine jz_si (pc' := 17) rfl rfl rfl ?_
  refine jz_na (pc' := 19) (u' := (2, 3328)) rfl rfl rfl (jz_s hz) (by decide) rfl (.inl ⟨rfl, rfl⟩) (jl rfl) (jl rfl) rfl ?_
  refine jz_pr (pc' := 22) rfl rfl (rfl : px_lk 5 17 = some (0, 5, 2)) rfl rfl (jl rfl) (rfl : px_kd 50 = 5) rfl rfl ⟨rfl, rfl⟩ rfl rfl ?_
  refine jz_al_n (pc' := 23) rfl rfl rfl ?_
  refine jz_si (pc' := 26) rfl rfl rfl ?_
  refine jz_na (pc' := 28) (u' := (3, 3484)) rfl rfl rfl (jz_s (jz_s hz)) (by decide) rfl (.inl ⟨rfl, rfl⟩) (jl rfl) (jl rfl) rfl ?_
  refine jz_pr (pc' := 31) rfl rfl (rfl : px_lk 5 20 = some (0, 5, 3)) rfl rfl (jl rfl) (rfl : px_kd 50 = 5) rfl rfl ⟨rfl, rfl⟩ rfl rfl ?_
  refine jz_al_n (pc' := 32) rfl rfl rfl ?_
  refine jz_ic (pc' := 33) rfl rfl ?_
  refine jz_na (pc' := 35) (u' := (4, 3487)) rfl rfl rfl (jz_s (jz_s (jz_s hz))) (by decide) rfl (.inl ⟨rfl, rfl⟩) (jl rfl) (jl rfl) rfl ?_
  refine jz_pr (pc' := 38) rfl rfl (rfl : px_lk 5 23 = some (0, 5, 4)) rfl rfl (jl rfl) (rfl : px_kd 50 = 5) rfl rfl ⟨rfl, rfl⟩ rfl rfl ?_
  exact jz_rv rfl (ju_l rfl rfl) rfl hQ'
theorem jk_49_50_z {m : jm} (hz : jz 51 m) : jz 55 m := (jz_s (jz_s (jz_s (jz_s hz))))
set_option maxRecDepth 20000 in
set_option maxHeartbeats 1000000 in
theorem jk_34_55 {X : Nat × (Nat → Int32)} {d : Nat} (hd : 1 ≤ d) {m : jm} (hz : jz 56 m) {Q : px_Q} (hQ : Q (.inl none) (jmc 56 58 m)) : px_C X d 34 [.ref 55, .ref 3, .ref 47] (jmc 56 56 m) Q := by
  refine jz_inC (M := px_m34) (lev := 0) (b1 := 0) (b2 := 0) (L := [some (.ref 55), some (.ref 3), some (.ref 47)]) hd rfl rfl rfl (jl rfl) rfl hQ (fun d hd Q' hQ' => ?_)
  refine jz_al_n (pc' := 1) rfl rfl rfl ?_
  refine jz_o (pc' := 4) rfl rfl (rfl : px_lk 3 3 = some (9, 0, 0)) (jl rfl) ?_
  refine jz_al_n (pc' := 5) rfl rfl rfl ?_
  refine jz_al_n (pc' := 6) rfl rfl rfl ?_
  refine jz_pr (pc' := 9) rfl rfl (rfl : px_lk 3 9 = some (0, 3, 0)) rfl rfl (jl rfl) (rfl : px_kd 55 = 3) rfl rfl ⟨rfl, rfl⟩ rfl rfl ?_
  refine jz_al_n (pc' := 10) rfl rfl rfl ?_
  refine jz_al_n (pc' := 11) rfl rfl rfl ?_
  refine jz_pr (pc' := 14) rfl rfl (rfl : px_lk 3 15 = some (0, 3, 1)) rfl rfl (jl rfl) (rfl : px_kd 55 = 3) rfl rfl ⟨rfl, rfl⟩ rfl rfl ?_
  exact jz_rv rfl (ju_l rfl rfl) rfl hQ'
theorem jk_34_55_z {m : jm} (hz : jz 56 m) : jz 56 m := hz
set_option maxRecDepth 20000 in
set_option maxHeartbeats 1000000 in
theorem jk_125_56 {X : Nat × (Nat → Int32)} {d : Nat} (hd : 1 ≤ d) {m : jm} (hz : jz 57 m) {Q : px_Q} (hQ : Q (.inl none) (jmc 59 63 m)) : px_C X d 125 [.ref 56, .ref 3, .ref 47] (jmc 57 59 m) Q := by
  refine jz_inC (M := px_m125) (lev := 0) (b1 := 2) (b2 := 16) (L := [some (.ref 56), some (.ref 3), some (.ref 47)]) hd rfl rfl rfl (jl rfl) rfl hQ (fun d hd Q' hQ' => ?_)
  refine jz_al_n (pc' := 1) rfl rfl rfl ?_
  refine jz_o (pc' := 4) rfl rfl (rfl : px_lk 10 3 = some (9, 0, 0)) (jl rfl) ?_
  refine jz_al_n (pc' := 5) rfl rfl rfl ?_
  refine jz_bi (pc' := 7) rfl rfl rfl ?_
  refine jz_na (pc' := 9) (u' := (1, 8)) rfl rfl rfl hz (by decide) rfl (.inl ⟨rfl, rfl⟩) (jl rfl) (jl rfl) rfl ?_
  refine jz_pr (pc' := 12) rfl rfl (rfl : px_lk 10 9 = some (0, 10, 2)) rfl rfl (jl rfl) (rfl : px_kd 56 = 10) rfl rfl ⟨rfl, rfl⟩ rfl rfl ?_
  refine jz_al_n (pc' := 13) rfl rfl rfl ?_
  refine jz_bi (pc' := 15) rfl rfl rfl ?_
  refine jz_na (pc' := 17) (u' := (2, 16)) rfl rfl rfl (jz_s hz) (by decide) rfl (.inl ⟨rfl, rfl⟩) (jl rfl) (jl rfl) rfl ?_
  refine jz_pr (pc' := 20) rfl rfl (rfl : px_lk 10 15 = some (0, 10, 3)) rfl rfl (jl rfl) (rfl : px_kd 56 = 10) rfl rfl ⟨rfl, rfl⟩ rfl rfl ?_
  refine jz_al_n (pc' := 21) rfl rfl rfl ?_
  refine jz_al_n (pc' := 22) rfl rfl rfl ?_
  refine jz_pr (pc' := 25) rfl rfl (rfl : px_lk 10 18 = some (0, 10, 0)) rfl rfl (jl rfl) (rfl : px_kd 56 = 10) rfl rfl ⟨rfl, rfl⟩ rfl rfl ?_
  refine jz_al_n (pc' := 26) rfl rfl rfl ?_
  refine jz_al_n (pc' := 27) rfl rfl rfl ?_
  refine jz_pr (pc' := 30) rfl rfl (rfl : px_lk 10 22 = some (0, 10, 1)) rfl rfl (jl rfl) (rfl : px_kd 56 = 10) rfl rfl ⟨rfl, rfl⟩ rfl rfl ?_
  exact jz_rv rfl (ju_l rfl rfl) rfl hQ'
theorem jk_125_56_z {m : jm} (hz : jz 57 m) : jz 59 m := (jz_s (jz_s hz))
set_option maxRecDepth 20000 in
set_option maxHeartbeats 1000000 in
theorem jk_42_59 {X : Nat × (Nat → Int32)} {d : Nat} (hd : 1 ≤ d) {m : jm} (hz : jz 60 m) {Q : px_Q} (hQ : Q (.inl none) (jmc 63 69 m)) : px_C X d 42 [.ref 59, .ref 3, .ref 56] (jmc 60 64 m) Q := by
  refine jz_inC (M := px_m42) (lev := 0) (b1 := 3) (b2 := 592) (L := [some (.ref 59), some (.ref 3), some (.ref 56)]) hd rfl rfl rfl (jl rfl) rfl hQ (fun d hd Q' hQ' => ?_)
  refine jz_al_n (pc' := 1) rfl rfl rfl ?_
  refine jz_o (pc' := 4) rfl rfl (rfl : px_lk 4 3 = some (9, 0, 0)) (jl rfl) ?_
  refine jz_al_n (pc' := 5) rfl rfl rfl ?_
  refine jz_bi (pc' := 7) rfl rfl rfl ?_
  refine jz_na (pc' := 9) (u' := (1, 8)) rfl rfl rfl hz (by decide) rfl (.inl ⟨rfl, rfl⟩) (jl rfl) (jl rfl) rfl ?_
  refine jz_pr (pc' := 12) rfl rfl (rfl : px_lk 4 9 = some (0, 4, 2)) rfl rfl (jl rfl) (rfl : px_kd 59 = 4) rfl rfl ⟨rfl, rfl⟩ rfl rfl ?_
  refine jz_al_n (pc' := 13) rfl rfl rfl ?_
  refine jz_si (pc' := 16) rfl rfl rfl ?_
  refine jz_na (pc' := 18) (u' := (2, 584)) rfl rfl rfl (jz_s hz) (by decide) rfl (.inl ⟨rfl, rfl⟩) (jl rfl) (jl rfl) rfl ?_
  refine jz_pr (pc' := 21) rfl rfl (rfl : px_lk 4 15 = some (0, 4, 3)) rfl rfl (jl rfl) (rfl : px_kd 59 = 4) rfl rfl ⟨rfl, rfl⟩ rfl rfl ?_
  refine jz_al_n (pc' := 22) rfl rfl rfl ?_
  refine jz_bi (pc' := 24) rfl rfl rfl ?_
  refine jz_na (pc' := 26) (u' := (3, 592)) rfl rfl rfl (jz_s (jz_s hz)) (by decide) rfl (.inl ⟨rfl, rfl⟩) (jl rfl) (jl rfl) rfl ?_
  refine jz_pr (pc' := 29) rfl rfl (rfl : px_lk 4 18 = some (0, 4, 4)) rfl rfl (jl rfl) (rfl : px_kd 59 = 4) rfl rfl ⟨rfl, rfl⟩ rfl rfl ?_
  refine jz_al_n (pc' := 30) rfl rfl rfl ?_
  refine jz_al_n (pc' := 31) rfl rfl rfl ?_
  refine jz_pr (pc' := 34) rfl rfl (rfl : px_lk 4 21 = some (0, 4, 0)) rfl rfl (jl rfl) (rfl : px_kd 59 = 4) rfl rfl ⟨rfl, rfl⟩ rfl rfl ?_
  refine jz_al_n (pc' := 35) rfl rfl rfl ?_
  refine jz_al_n (pc' := 36) rfl rfl rfl ?_
  refine jz_pr (pc' := 39) rfl rfl (rfl : px_lk 4 25 = some (0, 4, 1)) rfl rfl (jl rfl) (rfl : px_kd 59 = 4) rfl rfl ⟨rfl, rfl⟩ rfl rfl ?_
  exact jz_rv rfl (ju_l rfl rfl) rfl hQ'
theorem jk_42_59_z {m : jm} (hz : jz 60 m) : jz 63 m := (jz_s (jz_s (jz_s hz)))
set_option maxRecDepth 20000 in
set_option maxHeartbeats 1000000 in
theorem jk_56_64 {X : Nat × (Nat → Int32)} {d : Nat} (hd : 1 ≤ d) {m : jm} (hz : jz 65 m) {Q : px_Q} (hQ : Q (.inl none) (jmc 67 74 m)) : px_C X d 56 [.ref 64, .ref 3, .ref 27] (jmc 65 70 m) Q := by
  refine jz_inC (M := px_m56) (lev := 0) (b1 := 2) (b2 := 61) (L := [some (.ref 64), some (.ref 3), some (.ref 27)]) hd rfl rfl rfl (jl rfl) rfl hQ (fun d hd Q' hQ' => ?_)
  refine jz_al_n (pc' := 1) rfl rfl rfl ?_
  refine jz_o (pc' := 4) rfl rfl (rfl : px_lk 6 5 = some (9, 0, 0)) (jl rfl) ?_
  refine jz_al_n (pc' := 5) rfl rfl rfl ?_
  refine jz_bi (pc' := 7) rfl rfl rfl ?_
  refine jz_na (pc' := 9) (u' := (1, 52)) rfl rfl rfl hz (by decide) rfl (.inl ⟨rfl, rfl⟩) (jl rfl) (jl rfl) rfl ?_
  refine jz_pr (pc' := 12) rfl rfl (rfl : px_lk 6 11 = some (0, 6, 2)) rfl rfl (jl rfl) (rfl : px_kd 64 = 6) rfl rfl ⟨rfl, rfl⟩ rfl rfl ?_
  refine jz_al_n (pc' := 13) rfl rfl rfl ?_
  refine jz_bi (pc' := 15) rfl rfl rfl ?_
  refine jz_na (pc' := 17) (u' := (2, 61)) rfl rfl rfl (jz_s hz) (by decide) rfl (.inl ⟨rfl, rfl⟩) (jl rfl) (jl rfl) rfl ?_
  refine jz_pr (pc' := 20) rfl rfl (rfl : px_lk 6 17 = some (0, 6, 3)) rfl rfl (jl rfl) (rfl : px_kd 64 = 6) rfl rfl ⟨rfl, rfl⟩ rfl rfl ?_
  refine jz_al_n (pc' := 21) rfl rfl rfl ?_
  refine jz_al_n (pc' := 22) rfl rfl rfl ?_
  refine jz_pr (pc' := 25) rfl rfl (rfl : px_lk 6 20 = some (0, 6, 0)) rfl rfl (jl rfl) (rfl : px_kd 64 = 6) rfl rfl ⟨rfl, rfl⟩ rfl rfl ?_
  refine jz_al_n (pc' := 26) rfl rfl rfl ?_
  refine jz_al_n (pc' := 27) rfl rfl rfl ?_
  refine jz_pr (pc' := 30) rfl rfl (rfl : px_lk 6 24 = some (0, 6, 1)) rfl rfl (jl rfl) (rfl : px_kd 64 = 6) rfl rfl ⟨rfl, rfl⟩ rfl rfl ?_
  exact jz_rv rfl (ju_l rfl rfl) rfl hQ'
theorem jk_56_64_z {m : jm} (hz : jz 65 m) : jz 67 m := (jz_s (jz_s hz))
set_option maxRecDepth 20000 in
set_option maxHeartbeats 1000000 in
theorem jk_108_63 {X : Nat × (Nat → Int32)} {d : Nat} (hd : 1 ≤ d) {m : jm} (hz : jz 67 m) {Q : px_Q} (hQ : Q (.inl none) (jmc 67 76 m)) : px_C X d 108 [.ref 63, .ref 3, .ref 64] (jmc 67 74 m) Q := by
  refine jz_inC (M := px_m108) (lev := 0) (b1 := 0) (b2 := 0) (L := [some (.ref 63), some (.ref 3), some (.ref 64)]) hd rfl rfl rfl (jl rfl) rfl hQ (fun d hd Q' hQ' => ?_)
  refine jz_al_n (pc' := 1) rfl rfl rfl ?_
  refine jz_o (pc' := 4) rfl rfl (rfl : px_lk 8 3 = some (9, 0, 0)) (jl rfl) ?_
  refine jz_al_n (pc' := 5) rfl rfl rfl ?_
  refine jz_al_n (pc' := 6) rfl rfl rfl ?_
  refine jz_pr (pc' := 9) rfl rfl (rfl : px_lk 8 9 = some (0, 8, 0)) rfl rfl (jl rfl) (rfl : px_kd 63 = 8) rfl rfl ⟨rfl, rfl⟩ rfl rfl ?_
  refine jz_al_n (pc' := 10) rfl rfl rfl ?_
  refine jz_al_n (pc' := 11) rfl rfl rfl ?_
  refine jz_pr (pc' := 14) rfl rfl (rfl : px_lk 8 15 = some (0, 8, 1)) rfl rfl (jl rfl) (rfl : px_kd 63 = 8) rfl rfl ⟨rfl, rfl⟩ rfl rfl ?_
  exact jz_rv rfl (ju_l rfl rfl) rfl hQ'
theorem jk_108_63_z {m : jm} (hz : jz 67 m) : jz 67 m := hz
set_option maxRecDepth 20000 in
set_option maxHeartbeats 1000000 in
theorem jk_140_0 {X : Nat × (Nat → Int32)} {d : Nat} (hd : 3 ≤ d) {m : jm} (hz : jz 1 m) {Q : px_Q} (hQ : Q (.inl none) (jmc 67 77 (jfl (jfl (jcp (js (jcp (js (js m 1 6 (-1)) 27 1 (7)) jwo 28 0 0 7) 30 1 (7)) jwo 31 0 0 7) 34 (-1)) 38 (-1)))) : px_C X d 140 [.ref 0] (jmc 1 0 m) Q := by
  refine jz_inC (M := px_m140) (lev := 2) (b1 := 66) (b2 := 6380) (L := [some (.ref 0)]) hd rfl rfl rfl (jl rfl) rfl hQ (fun d hd Q' hQ' => ?_)
  refine jz_al_n (pc' := 1) rfl rfl rfl ?_
  refine jz_o (pc' := 4) rfl rfl (rfl : px_lk 11 1 = some (9, 0, 0)) (jl rfl) ?_
  refine jz_al_n (pc' := 5) rfl rfl rfl ?_
  refine jz_new (pc' := 8) (u' := (1, 7)) rfl rfl (rfl : px_lk 11 7 = some (4, 9, 0)) rfl hz (rfl : px_kd 1 = 9) rfl (by decide) (jl rfl) (jl rfl) rfl ?_
  refine jz_dup (pc' := 9) rfl rfl rfl ?_
  refine jz_cc (pc' := 12) (N1 := 3) (t' := 1) (b1 := 1) (b2 := 600) (u' := (2, 607)) (m1 := (js m 1 6 (-1))) [_, _] rfl rfl (rfl : px_lk 11 9 = some (3, 113, 0)) (.inr rfl) ⟨rfl, jl rfl, by decide, rfl⟩ rfl rfl (jl rfl) (jl rfl) rfl (jl rfl) rfl (jl rfl) (fun Q' hq => jk_113_1 (Nat.le_trans (jl rfl) hd) (jz_s hz) hq) ?_
  refine jz_pr (pc' := 15) rfl rfl (rfl : px_lk 11 10 = some (0, 11, 0)) rfl rfl (jl rfl) (rfl : px_kd 0 = 11) rfl rfl ⟨rfl, rfl⟩ rfl rfl ?_
  refine jz_al_n (pc' := 16) rfl rfl rfl ?_
  refine jz_new (pc' := 19) (u' := (3, 622)) rfl rfl (rfl : px_lk 11 16 = some (4, 1, 0)) rfl (jk_113_1_z (jz_s hz)) (rfl : px_kd 3 = 1) rfl (by decide) (jl rfl) (jl rfl) rfl ?_
  refine jz_dup (pc' := 20) rfl rfl rfl ?_
  refine jz_cc (pc' := 23) (N1 := 15) (t' := 13) (b1 := 11) (b2 := 94) (u' := (14, 716)) (m1 := (js m 1 6 (-1))) [_, _] rfl rfl (rfl : px_lk 11 18 = some (3, 9, 0)) (.inr rfl) ⟨rfl, jl rfl, by decide, rfl⟩ rfl rfl (jl rfl) (jl rfl) rfl (jl rfl) rfl (jl rfl) (fun Q' hq => jk_9_3 (Nat.le_trans (jl rfl) hd) (jz_s (jk_113_1_z (jz_s hz))) hq) ?_
  refine jz_pr (pc' := 26) rfl rfl (rfl : px_lk 11 19 = some (0, 11, 1)) rfl rfl (jl rfl) (rfl : px_kd 0 = 11) rfl rfl ⟨rfl, rfl⟩ rfl rfl ?_
  refine jz_al_n (pc' := 27) rfl rfl rfl ?_
  refine jz_new (pc' := 30) (u' := (15, 731)) rfl rfl (rfl : px_lk 11 16 = some (4, 1, 0)) rfl (jk_9_3_z (jz_s (jk_113_1_z (jz_s hz)))) (rfl : px_kd 15 = 1) rfl (by decide) (jl rfl) (jl rfl) rfl ?_
  refine jz_dup (pc' := 31) rfl rfl rfl ?_
  refine jz_cc (pc' := 34) (N1 := 27) (t' := 25) (b1 := 11) (b2 := 94) (u' := (26, 825)) (m1 := (js m 1 6 (-1))) [_, _] rfl rfl (rfl : px_lk 11 18 = some (3, 9, 0)) (.inr rfl) ⟨rfl, jl rfl, by decide, rfl⟩ rfl rfl (jl rfl) (jl rfl) rfl (jl rfl) rfl (jl rfl) (fun Q' hq => jk_9_15 (Nat.le_trans (jl rfl) hd) (jz_s (jk_9_3_z (jz_s (jk_113_1_z (jz_s hz))))) hq) ?_
  refine jz_pr (pc' := 37) rfl rfl (rfl : px_lk 11 23 = some (0, 11, 2)) rfl rfl (jl rfl) (rfl : px_kd 0 = 11) rfl rfl ⟨rfl, rfl⟩ rfl rfl ?_
  refine jz_al_n (pc' := 38) rfl rfl rfl ?_
  refine jz_new (pc' := 41) (u' := (27, 828)) rfl rfl (rfl : px_lk 11 26 = some (4, 2, 0)) rfl (jk_9_15_z (jz_s (jk_9_3_z (jz_s (jk_113_1_z (jz_s hz)))))) (rfl : px_kd 27 = 2) rfl (by decide) (jl rfl) (jl rfl) rfl ?_
  refine jz_dup (pc' := 42) rfl rfl rfl ?_
  refine jz_cc (pc' := 45) (N1 := 30) (t' := 28) (b1 := 2) (b2 := 171) (u' := (29, 999)) (m1 := (jcp (js (js m 1 6 (-1)) 27 1 (7)) jwo 28 0 0 7)) [_, _] rfl rfl (rfl : px_lk 11 28 = some (2, 22, 0)) (.inl rfl) ⟨rfl, jl rfl, by decide, rfl⟩ rfl rfl (jl rfl) (jl rfl) rfl (jl rfl) rfl (jl rfl) (fun Q' hq => jk_22_27 (Nat.le_trans (jl rfl) hd) (jz_s (jk_9_15_z (jz_s (jk_9_3_z (jz_s (jk_113_1_z (jz_s hz))))))) hq) ?_
  refine jz_pr (pc' := 48) rfl rfl (rfl : px_lk 11 29 = some (0, 11, 3)) rfl rfl (jl rfl) (rfl : px_kd 0 = 11) rfl rfl ⟨rfl, rfl⟩ rfl rfl ?_
  refine jz_al_n (pc' := 49) rfl rfl rfl ?_
  refine jz_new (pc' := 52) (u' := (30, 1002)) rfl rfl (rfl : px_lk 11 26 = some (4, 2, 0)) rfl (jk_22_27_z (jz_s (jk_9_15_z (jz_s (jk_9_3_z (jz_s (jk_113_1_z (jz_s hz)))))))) (rfl : px_kd 30 = 2) rfl (by decide) (jl rfl) (jl rfl) rfl ?_
  refine jz_dup (pc' := 53) rfl rfl rfl ?_
  refine jz_cc (pc' := 56) (N1 := 33) (t' := 31) (b1 := 2) (b2 := 171) (u' := (32, 1173)) (m1 := (jcp (js (jcp (js (js m 1 6 (-1)) 27 1 (7)) jwo 28 0 0 7) 30 1 (7)) jwo 31 0 0 7)) [_, _] rfl rfl (rfl : px_lk 11 28 = some (2, 22, 0)) (.inl rfl) ⟨rfl, jl rfl, by decide, rfl⟩ rfl rfl (jl rfl) (jl rfl) rfl (jl rfl) rfl (jl rfl) (fun Q' hq => jk_22_30 (Nat.le_trans (jl rfl) hd) (jz_s (jk_22_27_z (jz_s (jk_9_15_z (jz_s (jk_9_3_z (jz_s (jk_113_1_z (jz_s hz))))))))) hq) ?_
  refine jz_pr (pc' := 59) rfl rfl (rfl : px_lk 11 33 = some (0, 11, 4)) rfl rfl (jl rfl) (rfl : px_kd 0 = 11) rfl rfl ⟨rfl, rfl⟩ rfl rfl ?_
  refine jz_al_n (pc' := 60) rfl rfl rfl ?_
  refine jz_new (pc' := 63) (u' := (33, 1178)) rfl rfl (rfl : px_lk 11 36 = some (4, 0, 0)) rfl (jk_22_30_z (jz_s (jk_22_27_z (jz_s (jk_9_15_z (jz_s (jk_9_3_z (jz_s (jk_113_1_z (jz_s hz)))))))))) (rfl : px_kd 33 = 0) rfl (by decide) (jl rfl) (jl rfl) rfl ?_
  refine jz_dup (pc' := 64) rfl rfl rfl ?_
  refine jz_cc (pc' := 67) (N1 := 37) (t' := 35) (b1 := 3) (b2 := 166) (u' := (36, 1344)) (m1 := (jfl (jcp (js (jcp (js (js m 1 6 (-1)) 27 1 (7)) jwo 28 0 0 7) 30 1 (7)) jwo 31 0 0 7) 34 (-1))) [_, _] rfl rfl (rfl : px_lk 11 38 = some (2, 0, 0)) (.inl rfl) ⟨rfl, jl rfl, by decide, rfl⟩ rfl rfl (jl rfl) (jl rfl) rfl (jl rfl) rfl (jl rfl) (fun Q' hq => jk_0_33 (Nat.le_trans (jl rfl) hd) (jz_s (jk_22_30_z (jz_s (jk_22_27_z (jz_s (jk_9_15_z (jz_s (jk_9_3_z (jz_s (jk_113_1_z (jz_s hz))))))))))) hq) ?_
  refine jz_pr (pc' := 70) rfl rfl (rfl : px_lk 11 39 = some (0, 11, 5)) rfl rfl (jl rfl) (rfl : px_kd 0 = 11) rfl rfl ⟨rfl, rfl⟩ rfl rfl ?_
  refine jz_al_n (pc' := 71) rfl rfl rfl ?_
  refine jz_new (pc' := 74) (u' := (37, 1349)) rfl rfl (rfl : px_lk 11 36 = some (4, 0, 0)) rfl (jk_0_33_z (jz_s (jk_22_30_z (jz_s (jk_22_27_z (jz_s (jk_9_15_z (jz_s (jk_9_3_z (jz_s (jk_113_1_z (jz_s hz)))))))))))) (rfl : px_kd 37 = 0) rfl (by decide) (jl rfl) (jl rfl) rfl ?_
  refine jz_dup (pc' := 75) rfl rfl rfl ?_
  refine jz_cc (pc' := 78) (N1 := 41) (t' := 39) (b1 := 3) (b2 := 166) (u' := (40, 1515)) (m1 := (jfl (jfl (jcp (js (jcp (js (js m 1 6 (-1)) 27 1 (7)) jwo 28 0 0 7) 30 1 (7)) jwo 31 0 0 7) 34 (-1)) 38 (-1))) [_, _] rfl rfl (rfl : px_lk 11 38 = some (2, 0, 0)) (.inl rfl) ⟨rfl, jl rfl, by decide, rfl⟩ rfl rfl (jl rfl) (jl rfl) rfl (jl rfl) rfl (jl rfl) (fun Q' hq => jk_0_37 (Nat.le_trans (jl rfl) hd) (jz_s (jk_0_33_z (jz_s (jk_22_30_z (jz_s (jk_22_27_z (jz_s (jk_9_15_z (jz_s (jk_9_3_z (jz_s (jk_113_1_z (jz_s hz))))))))))))) hq) ?_
  refine jz_pr (pc' := 81) rfl rfl (rfl : px_lk 11 43 = some (0, 11, 6)) rfl rfl (jl rfl) (rfl : px_kd 0 = 11) rfl rfl ⟨rfl, rfl⟩ rfl rfl ?_
  refine jz_al_n (pc' := 82) rfl rfl rfl ?_
  refine jz_new (pc' := 85) (u' := (41, 1524)) rfl rfl (rfl : px_lk 11 46 = some (4, 7, 0)) rfl (jk_0_37_z (jz_s (jk_0_33_z (jz_s (jk_22_30_z (jz_s (jk_22_27_z (jz_s (jk_9_15_z (jz_s (jk_9_3_z (jz_s (jk_113_1_z (jz_s hz)))))))))))))) (rfl : px_kd 41 = 7) rfl (by decide) (jl rfl) (jl rfl) rfl ?_
  refine jz_dup (pc' := 86) rfl rfl rfl ?_
  refine jz_cc (pc' := 89) (N1 := 47) (t' := 45) (b1 := 5) (b2 := 606) (u' := (46, 2130)) (m1 := (jfl (jfl (jcp (js (jcp (js (js m 1 6 (-1)) 27 1 (7)) jwo 28 0 0 7) 30 1 (7)) jwo 31 0 0 7) 34 (-1)) 38 (-1))) [_, _] rfl rfl (rfl : px_lk 11 48 = some (3, 98, 0)) (.inr rfl) ⟨rfl, jl rfl, by decide, rfl⟩ rfl rfl (jl rfl) (jl rfl) rfl (jl rfl) rfl (jl rfl) (fun Q' hq => jk_98_41 (Nat.le_trans (jl rfl) hd) (jz_s (jk_0_37_z (jz_s (jk_0_33_z (jz_s (jk_22_30_z (jz_s (jk_22_27_z (jz_s (jk_9_15_z (jz_s (jk_9_3_z (jz_s (jk_113_1_z (jz_s hz))))))))))))))) hq) ?_
  refine jz_pr (pc' := 92) rfl rfl (rfl : px_lk 11 49 = some (0, 11, 7)) rfl rfl (jl rfl) (rfl : px_kd 0 = 11) rfl rfl ⟨rfl, rfl⟩ rfl rfl ?_
  refine jz_al_n (pc' := 93) rfl rfl rfl ?_
  refine jz_new (pc' := 96) (u' := (47, 2134)) rfl rfl (rfl : px_lk 11 53 = some (4, 6, 0)) rfl (jk_98_41_z (jz_s (jk_0_37_z (jz_s (jk_0_33_z (jz_s (jk_22_30_z (jz_s (jk_22_27_z (jz_s (jk_9_15_z (jz_s (jk_9_3_z (jz_s (jk_113_1_z (jz_s hz)))))))))))))))) (rfl : px_kd 47 = 6) rfl (by decide) (jl rfl) (jl rfl) rfl ?_
  refine jz_dup (pc' := 97) rfl rfl rfl ?_
  refine jz_al_n (pc' := 98) rfl rfl rfl ?_
  refine jz_gr (pc' := 101) (r := 3) rfl rfl (rfl : px_lk 11 19 = some (0, 11, 1)) (.inl rfl) rfl (jl rfl) (rfl : px_kd 0 = 11) rfl rfl (jl rfl) rfl ?_
  refine jz_al_n (pc' := 102) rfl rfl rfl ?_
  refine jz_gr (pc' := 105) (r := 27) rfl rfl (rfl : px_lk 11 29 = some (0, 11, 3)) (.inl rfl) rfl (jl rfl) (rfl : px_kd 0 = 11) rfl rfl (jl rfl) rfl ?_
  refine jz_cc (pc' := 108) (N1 := 50) (t' := 50) (b1 := 2) (b2 := 61) (u' := (49, 2195)) (m1 := (jfl (jfl (jcp (js (jcp (js (js m 1 6 (-1)) 27 1 (7)) jwo 28 0 0 7) 30 1 (7)) jwo 31 0 0 7) 34 (-1)) 38 (-1))) [_, _] rfl rfl (rfl : px_lk 11 55 = some (2, 56, 2)) (.inl rfl) ⟨rfl, jl rfl, by decide, rfl⟩ rfl rfl (jl rfl) (jl rfl) rfl (jl rfl) rfl (jl rfl) (fun Q' hq => jk_56_47 (Nat.le_trans (jl rfl) hd) (jz_s (jk_98_41_z (jz_s (jk_0_37_z (jz_s (jk_0_33_z (jz_s (jk_22_30_z (jz_s (jk_22_27_z (jz_s (jk_9_15_z (jz_s (jk_9_3_z (jz_s (jk_113_1_z (jz_s hz))))))))))))))))) hq) ?_
  refine jz_pr (pc' := 111) rfl rfl (rfl : px_lk 11 58 = some (0, 11, 8)) rfl rfl (jl rfl) (rfl : px_kd 0 = 11) rfl rfl ⟨rfl, rfl⟩ rfl rfl ?_
  refine jz_al_n (pc' := 112) rfl rfl rfl ?_
  refine jz_new (pc' := 115) (u' := (50, 2201)) rfl rfl (rfl : px_lk 11 62 = some (4, 5, 0)) rfl (jk_56_47_z (jz_s (jk_98_41_z (jz_s (jk_0_37_z (jz_s (jk_0_33_z (jz_s (jk_22_30_z (jz_s (jk_22_27_z (jz_s (jk_9_15_z (jz_s (jk_9_3_z (jz_s (jk_113_1_z (jz_s hz)))))))))))))))))) (rfl : px_kd 50 = 5) rfl (by decide) (jl rfl) (jl rfl) rfl ?_
  refine jz_dup (pc' := 116) rfl rfl rfl ?_
  refine jz_cc (pc' := 119) (N1 := 55) (t' := 55) (b1 := 4) (b2 := 3487) (u' := (54, 5688)) (m1 := (jfl (jfl (jcp (js (jcp (js (js m 1 6 (-1)) 27 1 (7)) jwo 28 0 0 7) 30 1 (7)) jwo 31 0 0 7) 34 (-1)) 38 (-1))) [_, _] rfl rfl (rfl : px_lk 11 64 = some (3, 49, 0)) (.inr rfl) ⟨rfl, jl rfl, by decide, rfl⟩ rfl rfl (jl rfl) (jl rfl) rfl (jl rfl) rfl (jl rfl) (fun Q' hq => jk_49_50 (Nat.le_trans (jl rfl) hd) (jz_s (jk_56_47_z (jz_s (jk_98_41_z (jz_s (jk_0_37_z (jz_s (jk_0_33_z (jz_s (jk_22_30_z (jz_s (jk_22_27_z (jz_s (jk_9_15_z (jz_s (jk_9_3_z (jz_s (jk_113_1_z (jz_s hz))))))))))))))))))) hq) ?_
  refine jz_pr (pc' := 122) rfl rfl (rfl : px_lk 11 65 = some (0, 11, 9)) rfl rfl (jl rfl) (rfl : px_kd 0 = 11) rfl rfl ⟨rfl, rfl⟩ rfl rfl ?_
  refine jz_al_n (pc' := 123) rfl rfl rfl ?_
  refine jz_new (pc' := 126) (u' := (55, 5690)) rfl rfl (rfl : px_lk 11 69 = some (4, 3, 0)) rfl (jk_49_50_z (jz_s (jk_56_47_z (jz_s (jk_98_41_z (jz_s (jk_0_37_z (jz_s (jk_0_33_z (jz_s (jk_22_30_z (jz_s (jk_22_27_z (jz_s (jk_9_15_z (jz_s (jk_9_3_z (jz_s (jk_113_1_z (jz_s hz)))))))))))))))))))) (rfl : px_kd 55 = 3) rfl (by decide) (jl rfl) (jl rfl) rfl ?_
  refine jz_dup (pc' := 127) rfl rfl rfl ?_
  refine jz_al_n (pc' := 128) rfl rfl rfl ?_
  refine jz_gr (pc' := 131) (r := 3) rfl rfl (rfl : px_lk 11 19 = some (0, 11, 1)) (.inl rfl) rfl (jl rfl) (rfl : px_kd 0 = 11) rfl rfl (jl rfl) rfl ?_
  refine jz_al_n (pc' := 132) rfl rfl rfl ?_
  refine jz_gr (pc' := 135) (r := 47) rfl rfl (rfl : px_lk 11 58 = some (0, 11, 8)) (.inl rfl) rfl (jl rfl) (rfl : px_kd 0 = 11) rfl rfl (jl rfl) rfl ?_
  refine jz_cc (pc' := 138) (N1 := 56) (t' := 58) (b1 := 0) (b2 := 0) (u' := (55, 5690)) (m1 := (jfl (jfl (jcp (js (jcp (js (js m 1 6 (-1)) 27 1 (7)) jwo 28 0 0 7) 30 1 (7)) jwo 31 0 0 7) 34 (-1)) 38 (-1))) [_, _] rfl rfl (rfl : px_lk 11 71 = some (2, 34, 2)) (.inl rfl) ⟨rfl, jl rfl, by decide, rfl⟩ rfl rfl (jl rfl) (jl rfl) rfl (jl rfl) rfl (jl rfl) (fun Q' hq => jk_34_55 (Nat.le_trans (jl rfl) hd) (jz_s (jk_49_50_z (jz_s (jk_56_47_z (jz_s (jk_98_41_z (jz_s (jk_0_37_z (jz_s (jk_0_33_z (jz_s (jk_22_30_z (jz_s (jk_22_27_z (jz_s (jk_9_15_z (jz_s (jk_9_3_z (jz_s (jk_113_1_z (jz_s hz))))))))))))))))))))) hq) ?_
  refine jz_pr (pc' := 141) rfl rfl (rfl : px_lk 11 74 = some (0, 11, 10)) rfl rfl (jl rfl) (rfl : px_kd 0 = 11) rfl rfl ⟨rfl, rfl⟩ rfl rfl ?_
  refine jz_al_n (pc' := 142) rfl rfl rfl ?_
  refine jz_new (pc' := 145) (u' := (56, 5696)) rfl rfl (rfl : px_lk 11 78 = some (4, 10, 0)) rfl (jk_34_55_z (jz_s (jk_49_50_z (jz_s (jk_56_47_z (jz_s (jk_98_41_z (jz_s (jk_0_37_z (jz_s (jk_0_33_z (jz_s (jk_22_30_z (jz_s (jk_22_27_z (jz_s (jk_9_15_z (jz_s (jk_9_3_z (jz_s (jk_113_1_z (jz_s hz)))))))))))))))))))))) (rfl : px_kd 56 = 10) rfl (by decide) (jl rfl) (jl rfl) rfl ?_
  refine jz_dup (pc' := 146) rfl rfl rfl ?_
  refine jz_al_n (pc' := 147) rfl rfl rfl ?_
  refine jz_gr (pc' := 150) (r := 3) rfl rfl (rfl : px_lk 11 19 = some (0, 11, 1)) (.inl rfl) rfl (jl rfl) (rfl : px_kd 0 = 11) rfl rfl (jl rfl) rfl ?_
  refine jz_al_n (pc' := 151) rfl rfl rfl ?_
  refine jz_gr (pc' := 154) (r := 47) rfl rfl (rfl : px_lk 11 58 = some (0, 11, 8)) (.inl rfl) rfl (jl rfl) (rfl : px_kd 0 = 11) rfl rfl (jl rfl) rfl ?_
  refine jz_cc (pc' := 157) (N1 := 59) (t' := 63) (b1 := 2) (b2 := 16) (u' := (58, 5712)) (m1 := (jfl (jfl (jcp (js (jcp (js (js m 1 6 (-1)) 27 1 (7)) jwo 28 0 0 7) 30 1 (7)) jwo 31 0 0 7) 34 (-1)) 38 (-1))) [_, _] rfl rfl (rfl : px_lk 11 80 = some (2, 125, 2)) (.inl rfl) ⟨rfl, jl rfl, by decide, rfl⟩ rfl rfl (jl rfl) (jl rfl) rfl (jl rfl) rfl (jl rfl) (fun Q' hq => jk_125_56 (Nat.le_trans (jl rfl) hd) (jz_s (jk_34_55_z (jz_s (jk_49_50_z (jz_s (jk_56_47_z (jz_s (jk_98_41_z (jz_s (jk_0_37_z (jz_s (jk_0_33_z (jz_s (jk_22_30_z (jz_s (jk_22_27_z (jz_s (jk_9_15_z (jz_s (jk_9_3_z (jz_s (jk_113_1_z (jz_s hz))))))))))))))))))))))) hq) ?_
  refine jz_pr (pc' := 160) rfl rfl (rfl : px_lk 11 81 = some (0, 11, 11)) rfl rfl (jl rfl) (rfl : px_kd 0 = 11) rfl rfl ⟨rfl, rfl⟩ rfl rfl ?_
  refine jz_al_n (pc' := 161) rfl rfl rfl ?_
  refine jz_new (pc' := 164) (u' := (59, 5717)) rfl rfl (rfl : px_lk 11 85 = some (4, 4, 0)) rfl (jk_125_56_z (jz_s (jk_34_55_z (jz_s (jk_49_50_z (jz_s (jk_56_47_z (jz_s (jk_98_41_z (jz_s (jk_0_37_z (jz_s (jk_0_33_z (jz_s (jk_22_30_z (jz_s (jk_22_27_z (jz_s (jk_9_15_z (jz_s (jk_9_3_z (jz_s (jk_113_1_z (jz_s hz)))))))))))))))))))))))) (rfl : px_kd 59 = 4) rfl (by decide) (jl rfl) (jl rfl) rfl ?_
  refine jz_dup (pc' := 165) rfl rfl rfl ?_
  refine jz_al_n (pc' := 166) rfl rfl rfl ?_
  refine jz_gr (pc' := 169) (r := 3) rfl rfl (rfl : px_lk 11 19 = some (0, 11, 1)) (.inl rfl) rfl (jl rfl) (rfl : px_kd 0 = 11) rfl rfl (jl rfl) rfl ?_
  refine jz_al_n (pc' := 170) rfl rfl rfl ?_
  refine jz_gr (pc' := 173) (r := 56) rfl rfl (rfl : px_lk 11 81 = some (0, 11, 11)) (.inl rfl) rfl (jl rfl) (rfl : px_kd 0 = 11) rfl rfl (jl rfl) rfl ?_
  refine jz_cc (pc' := 176) (N1 := 63) (t' := 69) (b1 := 3) (b2 := 592) (u' := (62, 6309)) (m1 := (jfl (jfl (jcp (js (jcp (js (js m 1 6 (-1)) 27 1 (7)) jwo 28 0 0 7) 30 1 (7)) jwo 31 0 0 7) 34 (-1)) 38 (-1))) [_, _] rfl rfl (rfl : px_lk 11 87 = some (2, 42, 2)) (.inl rfl) ⟨rfl, jl rfl, by decide, rfl⟩ rfl rfl (jl rfl) (jl rfl) rfl (jl rfl) rfl (jl rfl) (fun Q' hq => jk_42_59 (Nat.le_trans (jl rfl) hd) (jz_s (jk_125_56_z (jz_s (jk_34_55_z (jz_s (jk_49_50_z (jz_s (jk_56_47_z (jz_s (jk_98_41_z (jz_s (jk_0_37_z (jz_s (jk_0_33_z (jz_s (jk_22_30_z (jz_s (jk_22_27_z (jz_s (jk_9_15_z (jz_s (jk_9_3_z (jz_s (jk_113_1_z (jz_s hz))))))))))))))))))))))))) hq) ?_
  refine jz_pr (pc' := 179) rfl rfl (rfl : px_lk 11 90 = some (0, 11, 12)) rfl rfl (jl rfl) (rfl : px_kd 0 = 11) rfl rfl ⟨rfl, rfl⟩ rfl rfl ?_
  refine jz_al_n (pc' := 180) rfl rfl rfl ?_
  refine jz_new (pc' := 183) (u' := (63, 6315)) rfl rfl (rfl : px_lk 11 94 = some (4, 8, 0)) rfl (jk_42_59_z (jz_s (jk_125_56_z (jz_s (jk_34_55_z (jz_s (jk_49_50_z (jz_s (jk_56_47_z (jz_s (jk_98_41_z (jz_s (jk_0_37_z (jz_s (jk_0_33_z (jz_s (jk_22_30_z (jz_s (jk_22_27_z (jz_s (jk_9_15_z (jz_s (jk_9_3_z (jz_s (jk_113_1_z (jz_s hz)))))))))))))))))))))))))) (rfl : px_kd 63 = 8) rfl (by decide) (jl rfl) (jl rfl) rfl ?_
  refine jz_dup (pc' := 184) rfl rfl rfl ?_
  refine jz_al_n (pc' := 185) rfl rfl rfl ?_
  refine jz_gr (pc' := 188) (r := 3) rfl rfl (rfl : px_lk 11 19 = some (0, 11, 1)) (.inl rfl) rfl (jl rfl) (rfl : px_kd 0 = 11) rfl rfl (jl rfl) rfl ?_
  refine jz_new (pc' := 191) (u' := (64, 6319)) rfl rfl (rfl : px_lk 11 53 = some (4, 6, 0)) rfl (jz_s (jk_42_59_z (jz_s (jk_125_56_z (jz_s (jk_34_55_z (jz_s (jk_49_50_z (jz_s (jk_56_47_z (jz_s (jk_98_41_z (jz_s (jk_0_37_z (jz_s (jk_0_33_z (jz_s (jk_22_30_z (jz_s (jk_22_27_z (jz_s (jk_9_15_z (jz_s (jk_9_3_z (jz_s (jk_113_1_z (jz_s hz))))))))))))))))))))))))))) (rfl : px_kd 64 = 6) rfl (by decide) (jl rfl) (jl rfl) rfl ?_
  refine jz_dup (pc' := 192) rfl rfl rfl ?_
  refine jz_al_n (pc' := 193) rfl rfl rfl ?_
  refine jz_gr (pc' := 196) (r := 3) rfl rfl (rfl : px_lk 11 19 = some (0, 11, 1)) (.inl rfl) rfl (jl rfl) (rfl : px_kd 0 = 11) rfl rfl (jl rfl) rfl ?_
  refine jz_al_n (pc' := 197) rfl rfl rfl ?_
  refine jz_gr (pc' := 200) (r := 27) rfl rfl (rfl : px_lk 11 29 = some (0, 11, 3)) (.inl rfl) rfl (jl rfl) (rfl : px_kd 0 = 11) rfl rfl (jl rfl) rfl ?_
  refine jz_cc (pc' := 203) (N1 := 67) (t' := 74) (b1 := 2) (b2 := 61) (u' := (66, 6380)) (m1 := (jfl (jfl (jcp (js (jcp (js (js m 1 6 (-1)) 27 1 (7)) jwo 28 0 0 7) 30 1 (7)) jwo 31 0 0 7) 34 (-1)) 38 (-1))) [_, _, _, _, _] rfl rfl (rfl : px_lk 11 55 = some (2, 56, 2)) (.inl rfl) ⟨rfl, jl rfl, by decide, rfl⟩ rfl rfl (jl rfl) (jl rfl) rfl (jl rfl) rfl (jl rfl) (fun Q' hq => jk_56_64 (Nat.le_trans (jl rfl) hd) (jz_s (jz_s (jk_42_59_z (jz_s (jk_125_56_z (jz_s (jk_34_55_z (jz_s (jk_49_50_z (jz_s (jk_56_47_z (jz_s (jk_98_41_z (jz_s (jk_0_37_z (jz_s (jk_0_33_z (jz_s (jk_22_30_z (jz_s (jk_22_27_z (jz_s (jk_9_15_z (jz_s (jk_9_3_z (jz_s (jk_113_1_z (jz_s hz)))))))))))))))))))))))))))) hq) ?_
  refine jz_cc (pc' := 206) (N1 := 67) (t' := 76) (b1 := 0) (b2 := 0) (u' := (66, 6380)) (m1 := (jfl (jfl (jcp (js (jcp (js (js m 1 6 (-1)) 27 1 (7)) jwo 28 0 0 7) 30 1 (7)) jwo 31 0 0 7) 34 (-1)) 38 (-1))) [_, _] rfl rfl (rfl : px_lk 11 96 = some (2, 108, 2)) (.inl rfl) ⟨rfl, jl rfl, by decide, rfl⟩ rfl rfl (jl rfl) (jl rfl) rfl (jl rfl) rfl (jl rfl) (fun Q' hq => jk_108_63 (Nat.le_trans (jl rfl) hd) (jk_56_64_z (jz_s (jz_s (jk_42_59_z (jz_s (jk_125_56_z (jz_s (jk_34_55_z (jz_s (jk_49_50_z (jz_s (jk_56_47_z (jz_s (jk_98_41_z (jz_s (jk_0_37_z (jz_s (jk_0_33_z (jz_s (jk_22_30_z (jz_s (jk_22_27_z (jz_s (jk_9_15_z (jz_s (jk_9_3_z (jz_s (jk_113_1_z (jz_s hz))))))))))))))))))))))))))))) hq) ?_
  refine jz_pr (pc' := 209) rfl rfl (rfl : px_lk 11 97 = some (0, 11, 13)) rfl rfl (jl rfl) (rfl : px_kd 0 = 11) rfl rfl ⟨rfl, rfl⟩ rfl rfl ?_
  exact jz_rv rfl (ju_l rfl rfl) rfl hQ'
theorem jk_140_0_z {m : jm} (hz : jz 1 m) : jz 67 (jfl (jfl (jcp (js (jcp (js (js m 1 6 (-1)) 27 1 (7)) jwo 28 0 0 7) 30 1 (7)) jwo 31 0 0 7) 34 (-1)) 38 (-1)) := (jk_108_63_z (jk_56_64_z (jz_s (jz_s (jk_42_59_z (jz_s (jk_125_56_z (jz_s (jk_34_55_z (jz_s (jk_49_50_z (jz_s (jk_56_47_z (jz_s (jk_98_41_z (jz_s (jk_0_37_z (jz_s (jk_0_33_z (jz_s (jk_22_30_z (jz_s (jk_22_27_z (jz_s (jk_9_15_z (jz_s (jk_9_3_z (jz_s (jk_113_1_z (jz_s hz))))))))))))))))))))))))))))))
