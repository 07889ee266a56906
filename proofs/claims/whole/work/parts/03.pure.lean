/-! A PURE MACHINE over a small memory, in the form of a weakest precondition. Cells are numbers 0, 1, ..; V k i is what place i of cell k holds; V 2000 0 = .ref (how many cells live). References are cell numbers; 1000 + i is the i-th String constant, 1100 the static row of the law, 1200 the script. -/
abbrev px_V : Type := Nat → Nat → Value
abbrev px_L : Type := List (Option Value)
abbrev px_R : Type := Option Value ⊕ Nat
abbrev px_S : Type := Nat × px_L × List Value × px_V × (Nat × Nat)
abbrev px_Q : Type := px_R → px_V → Prop
def px_n (V : px_V) : Nat := match V 2000 0 with
  | .ref n => n
  | _ => 0
def px_i (v : Value) : Int32 := match v with
  | .int x => x
  | _ => 0
def px_l (v : Value) : Int64 := match v with
  | .long x => x
  | _ => 0
def px_set (V : px_V) (k i : Nat) (v : Value) : px_V := fun a b => if a = k ∧ b = i then v else V a b
def px_cpy (V : px_V) (src : Nat → Value) (d sp dp n : Nat) : px_V := fun a b => if a = d ∧ dp ≤ b ∧ b < dp + n then src (sp + (b - dp)) else V a b
def px_new (V : px_V) (N : Nat) (row : Nat → Value) : px_V := fun a b => if a = N then row b else if a = 2000 ∧ b = 0 then .ref (N + 1) else V a b
def px_ld (L : px_L) (i : Nat) : Option Value := match L[i]? with
  | some (some v) => some v
  | _ => none
def px_kill (L : px_L) (i : Nat) : px_L := match i with
  | 0 => L
  | j + 1 => match L[j]? with
    | some (some v) => if v.category = 2 then L.set j none else L
    | _ => L
def px_st1 (L : px_L) (i : Nat) (v : Option Value) : px_L := (px_kill L i).set i v
def px_st2 (L : px_L) (i : Nat) (v : Value) : px_L := ((px_kill L i).set i (some v)).set (i + 1) none
def px_tg (pc : Nat) (off : Int) : Nat := ((pc : Int) + off).toNat
def px_cat (st : List Value) : Nat := (st.map fun v => v.category).sum
def px_lay : List Value → px_L
  | [] => []
  | v :: r => if v.category = 2 then some v :: none :: px_lay r else some v :: px_lay r
def px_ent (maxL : Nat) (args : List Value) : px_L := px_lay args ++ List.replicate (maxL - (px_lay args).length) none
def px_look (ps : List (Int × Int)) (d : Int) (x : Int) : Int := match ps with
  | [] => d
  | (a, o) :: r => if x = a then o else px_look r d x
/-- the kinds of the cells, by their numbers: below 20 an object of that class, 20 int[], 21 boolean[], 22 long[]; the lengths of the rows -/
def px_kd (k : Nat) : Nat := px_kdL.getD k 99
def px_ln (k : Nat) : Nat := px_lnL.getD k 0
/-- the links of a class: (place, (kind, a, b)) -/
def px_lk (c idx : Nat) : Option (Nat × Nat × Nat) := (px_lkL.getD c []).lookup idx
/-- what a method makes at most: cells, places -/
def px_budN : List (Nat × Nat) := [(3, 166), (0, 0), (0, 0), (0, 0), (0, 0), (0, 0), (0, 0), (0, 0), (0, 0), (11, 94), (0, 0), (0, 0), (0, 0), (0, 0), (0, 0), (0, 0), (0, 0), (0, 0), (0, 0), (0, 0), (0, 0), (0, 0), (2, 171), (0, 0), (0, 0), (0, 0), (0, 0), (0, 0), (0, 0), (0, 0), (0, 0), (0, 0), (0, 0), (0, 0), (0, 0), (0, 0), (0, 0), (0, 0), (0, 0), (0, 0), (0, 0), (0, 0), (3, 592), (0, 0), (0, 0), (0, 0), (0, 0), (0, 0), (0, 0), (4, 3487), (0, 0), (0, 0), (0, 0), (0, 0), (0, 0), (0, 0), (2, 61), (0, 0), (0, 0), (0, 0), (0, 0), (0, 0), (0, 0), (0, 0), (0, 0), (0, 0), (0, 0), (0, 0), (0, 0), (0, 0), (0, 0), (0, 0), (0, 0), (0, 0), (0, 0), (0, 0), (0, 0), (0, 0), (0, 0), (0, 0), (0, 0), (0, 0), (0, 0), (0, 0), (0, 0), (0, 0), (0, 0), (0, 0), (0, 0), (0, 0), (0, 0), (0, 0), (0, 0), (0, 0), (0, 0), (0, 0), (0, 0), (0, 0), (5, 606), (0, 0), (0, 0), (0, 0), (0, 0), (0, 0), (0, 0), (0, 0), (0, 0), (0, 0), (0, 0), (0, 0), (0, 0), (0, 0), (0, 0), (1, 600), (0, 0), (0, 0), (0, 0), (0, 0), (0, 0), (0, 0), (0, 0), (0, 0), (0, 0), (0, 0), (0, 0), (2, 16), (0, 0), (0, 0), (0, 0), (0, 0), (0, 0), (0, 0), (0, 0), (0, 0), (0, 0), (0, 0), (0, 0), (0, 0), (0, 0), (0, 0), (66, 6380), (0, 0), (0, 0), (0, 0), (0, 0), (0, 0), (0, 0), (0, 0), (0, 0), (0, 0), (1, 6), (1, 6), (1, 6), (0, 0), (1, 6), (1, 6), (1, 6), (1, 6), (1, 6), (2, 12), (1, 6), (2, 12), (2, 12), (2, 12), (2, 12), (2, 12), (3, 18), (1, 6), (3, 18), (1, 6), (3, 18), (2, 12), (3, 18), (1, 6), (1, 6), (2, 12), (2, 12), (1, 6), (3, 18), (1, 6), (0, 0), (2, 12), (1, 6), (2, 12), (1, 6), (3, 18), (0, 0), (34, 7378), (0, 0), (0, 0), (0, 0), (0, 0), (0, 0), (0, 0), (0, 0), (0, 0), (0, 0), (0, 0), (0, 0), (0, 0), (0, 0), (0, 0), (0, 0), (0, 0), (0, 0), (0, 0), (0, 0), (0, 0), (0, 0), (0, 0), (0, 0), (0, 0), (0, 0), (0, 0), (0, 0), (0, 0), (0, 0), (0, 0), (0, 0), (0, 0), (0, 0), (0, 0), (0, 0), (0, 0), (0, 0), (0, 0), (0, 0), (0, 0), (0, 0), (0, 0), (0, 0), (0, 0), (0, 0), (0, 0), (0, 0), (0, 0), (0, 0), (0, 0), (0, 0), (0, 0), (0, 0), (0, 0), (0, 0), (0, 0), (0, 0), (0, 0), (0, 0), (0, 0), (0, 0), (0, 0), (0, 0), (0, 0), (0, 0), (0, 0), (0, 0), (0, 0), (0, 0), (0, 0), (0, 0), (0, 0), (0, 0), (0, 0), (0, 0), (0, 0), (0, 0), (0, 0), (0, 0), (0, 0), (0, 0), (0, 0), (0, 0), (0, 0), (0, 0), (0, 0), (0, 0), (0, 0), (0, 0), (0, 0), (0, 0), (0, 0), (0, 0), (0, 0), (0, 0), (0, 0), (0, 0), (0, 0), (0, 0), (0, 0), (0, 0), (0, 0), (0, 0), (0, 0), (0, 0), (0, 0), (0, 0), (0, 0), (0, 0), (0, 0), (0, 0), (0, 0), (0, 0), (0, 0), (0, 0), (0, 0), (1, 6), (1, 6), (1, 6), (1, 6), (1, 6), (2, 12), (2, 12), (2, 12), (2, 12), (2, 12), (3, 18), (1, 6), (3, 18), (1, 6), (3, 18), (2, 12), (3, 18), (1, 6), (1, 6), (2, 12), (2, 12), (1, 6), (3, 18), (1, 6), (2, 12), (1, 6), (2, 12), (3, 18), (601024, 7293034), (0, 0), (0, 0), (0, 0), (0, 0), (0, 0)]
def px_bud (m : Nat) : Nat × Nat := px_budN.getD m (0, 0)
def px_fit (t : Nat) (v : Value) : Prop := match v with
  | .int _ => t % 10 = 0
  | .long _ => t % 10 = 1
  | .ref _ => t % 10 = 2
  | _ => False
def px_live (V : px_V) (k c : Nat) : Prop := k < px_n V ∧ px_kd k = c
def px_isS (k : Nat) : Prop := 1000 ≤ k ∧ k < 1000 + px_str.length
def px_nS (k : Nat) : Prop := ¬ k = 1200
/-- an array to read ints from: the static row, the script, or a live cell -/
def px_arr (X : Nat × (Nat → Int32)) (V : px_V) (k : Nat) : Option (Nat × (Nat → Value)) :=
  if k = 1100 then some (7, fun i => .int (px_wo.getD i 0)) else if k = 1200 then some (X.1, fun i => .int (X.2 i)) else if k < px_n V ∧ px_kd k = 20 then some (px_ln k, V k) else none
/-- loads, constants, arithmetic -/
def px_act1 (M : px_M) (i : Instr) (pc : Nat) (L : px_L) (st : List Value) (V : px_V) (u : Nat × Nat) (K : px_S → Prop) : Prop := match i, st with
  | .iconst n, st => K (pc + 1, L, .int (Int32.ofInt n) :: st, V, u)
  | .bipush n, st => K (pc + 2, L, .int (Int8.ofInt n).toInt32 :: st, V, u)
  | .sipush n, st => K (pc + 3, L, .int (Int16.ofInt n).toInt32 :: st, V, u)
  | .lconst n, st => K (pc + 1, L, .long (Int64.ofNat (n : Nat)) :: st, V, u)
  | .iload_n n, st => match px_ld L n with
    | some (.int x) => K (pc + 1, L, .int x :: st, V, u)
    | _ => False
  | .iload n, st => match px_ld L n with
    | some (.int x) => K (pc + 2, L, .int x :: st, V, u)
    | _ => False
  | .lload_n n, st => match px_ld L n with
    | some (.long x) => K (pc + 1, L, .long x :: st, V, u)
    | _ => False
  | .lload n, st => match px_ld L n with
    | some (.long x) => K (pc + 2, L, .long x :: st, V, u)
    | _ => False
  | .aload_n n, st => match px_ld L n with
    | some (.ref x) => K (pc + 1, L, .ref x :: st, V, u)
    | _ => False
  | .aload n, st => match px_ld L n with
    | some (.ref x) => K (pc + 2, L, .ref x :: st, V, u)
    | _ => False
  | .istore_n n, .int x :: st => (n : Nat) < L.length ∧ K (pc + 1, px_st1 L n (some (.int x)), st, V, u)
  | .istore n, .int x :: st => n < L.length ∧ K (pc + 2, px_st1 L n (some (.int x)), st, V, u)
  | .astore_n n, .ref x :: st => (n : Nat) < L.length ∧ K (pc + 1, px_st1 L n (some (.ref x)), st, V, u)
  | .astore n, .ref x :: st => n < L.length ∧ K (pc + 2, px_st1 L n (some (.ref x)), st, V, u)
  | .lstore n, .long x :: st => n + 1 < L.length ∧ K (pc + 2, px_st2 L n (.long x), st, V, u)
  | .iinc n d, st => match px_ld L n with
    | some (.int x) => n < L.length ∧ K (pc + 3, px_st1 L n (some (.int (x + Int32.ofInt d))), st, V, u)
    | _ => False
  | .iadd, .int y :: .int x :: st => K (pc + 1, L, .int (x + y) :: st, V, u)
  | .isub, .int y :: .int x :: st => K (pc + 1, L, .int (x - y) :: st, V, u)
  | .imul, .int y :: .int x :: st => K (pc + 1, L, .int (x * y) :: st, V, u)
  | .idiv, .int y :: .int x :: st => ¬ y = 0 ∧ K (pc + 1, L, .int (x / y) :: st, V, u)
  | .irem, .int y :: .int x :: st => ¬ y = 0 ∧ K (pc + 1, L, .int (x - x / y * y) :: st, V, u)
  | .ineg, .int x :: st => K (pc + 1, L, .int (-x) :: st, V, u)
  | .iand, .int y :: .int x :: st => K (pc + 1, L, .int (x &&& y) :: st, V, u)
  | .ior, .int y :: .int x :: st => K (pc + 1, L, .int (x ||| y) :: st, V, u)
  | .ixor, .int y :: .int x :: st => K (pc + 1, L, .int (x ^^^ y) :: st, V, u)
  | .ishl, .int y :: .int x :: st => K (pc + 1, L, .int (x <<< (y &&& 31)) :: st, V, u)
  | .ishr, .int y :: .int x :: st => K (pc + 1, L, .int (x >>> (y &&& 31)) :: st, V, u)
  | .iushr, .int y :: .int x :: st => K (pc + 1, L, .int (x.toUInt32 >>> (y.toUInt32 &&& Int32.toUInt32 31)).toInt32 :: st, V, u)
  | .i2l, .int x :: st => K (pc + 1, L, .long x.toInt64 :: st, V, u)
  | .lmul, .long y :: .long x :: st => K (pc + 1, L, .long (x * y) :: st, V, u)
  | .ldiv, .long y :: .long x :: st => ¬ y = 0 ∧ K (pc + 1, L, .long (x / y) :: st, V, u)
  | .lrem, .long y :: .long x :: st => ¬ y = 0 ∧ K (pc + 1, L, .long (x - x / y * y) :: st, V, u)
  | .lcmp, .long y :: .long x :: st => K (pc + 1, L, .int (lg_cmp x y) :: st, V, u)
  | .dup, v :: st => v.category = 1 ∧ K (pc + 1, L, v :: v :: st, V, u)
  | .dup2, v :: w :: st => v.category = 1 ∧ w.category = 1 ∧ K (pc + 1, L, v :: w :: v :: w :: st, V, u)
  | .pop, v :: st => v.category = 1 ∧ K (pc + 1, L, st, V, u)
  | .ldc n, st => match px_lk M.2.1 n with
    | some (6, a, _) => K (pc + 2, L, .int (Int32.ofNat a) :: st, V, u)
    | some (7, a, _) => K (pc + 2, L, .ref (1000 + a) :: st, V, u)
    | _ => False
  | .ldc_w n, st => match px_lk M.2.1 n with
    | some (6, a, _) => K (pc + 3, L, .int (Int32.ofNat a) :: st, V, u)
    | some (7, a, _) => K (pc + 3, L, .ref (1000 + a) :: st, V, u)
    | _ => False
  | .ldc2_w n, st => match px_lk M.2.1 n with
    | some (13, a, _) => K (pc + 3, L, .long (Int64.ofNat a) :: st, V, u)
    | _ => False
  | _, _ => False
/-- branches -/
def px_act2 (i : Instr) (pc : Nat) (L : px_L) (st : List Value) (V : px_V) (u : Nat × Nat) (K : px_S → Prop) : Prop := match i, st with
  | .goto o, st => K (px_tg pc o, L, st, V, u)
  | .ifCond .eq o, .int x :: st => if x = 0 then K (px_tg pc o, L, st, V, u) else K (pc + 3, L, st, V, u)
  | .ifCond .ne o, .int x :: st => if x = 0 then K (pc + 3, L, st, V, u) else K (px_tg pc o, L, st, V, u)
  | .ifCond .lt o, .int x :: st => if x < 0 then K (px_tg pc o, L, st, V, u) else K (pc + 3, L, st, V, u)
  | .ifCond .ge o, .int x :: st => if x < 0 then K (pc + 3, L, st, V, u) else K (px_tg pc o, L, st, V, u)
  | .ifCond .gt o, .int x :: st => if 0 < x then K (px_tg pc o, L, st, V, u) else K (pc + 3, L, st, V, u)
  | .ifCond .le o, .int x :: st => if 0 < x then K (pc + 3, L, st, V, u) else K (px_tg pc o, L, st, V, u)
  | .if_icmp .eq o, .int y :: .int x :: st => if x = y then K (px_tg pc o, L, st, V, u) else K (pc + 3, L, st, V, u)
  | .if_icmp .ne o, .int y :: .int x :: st => if x = y then K (pc + 3, L, st, V, u) else K (px_tg pc o, L, st, V, u)
  | .if_icmp .lt o, .int y :: .int x :: st => if x < y then K (px_tg pc o, L, st, V, u) else K (pc + 3, L, st, V, u)
  | .if_icmp .ge o, .int y :: .int x :: st => if x < y then K (pc + 3, L, st, V, u) else K (px_tg pc o, L, st, V, u)
  | .if_icmp .gt o, .int y :: .int x :: st => if y < x then K (px_tg pc o, L, st, V, u) else K (pc + 3, L, st, V, u)
  | .if_icmp .le o, .int y :: .int x :: st => if y < x then K (pc + 3, L, st, V, u) else K (px_tg pc o, L, st, V, u)
  | .tableswitch d lo hi offs, .int x :: st => if x.toInt < lo ∨ hi < x.toInt then K (px_tg pc d, L, st, V, u) else match offs.toList[(x.toInt - lo).toNat]? with
    | some o => K (px_tg pc o, L, st, V, u)
    | none => False
  | .lookupswitch d ps, .int x :: st => K (px_tg pc (px_look ps.toList d x.toInt), L, st, V, u)
  | _, _ => False
/-- memory -/
def px_act3 (X : Nat × (Nat → Int32)) (M : px_M) (i : Instr) (pc : Nat) (L : px_L) (st : List Value) (V : px_V) (u : Nat × Nat) (K : px_S → Prop) (Q : px_Q) : Prop := match i, st with
  | .getfield n, .ref k :: st => match px_lk M.2.1 n with
    | some (0, c, j) => px_live V k c ∧ K (pc + 3, L, V k j :: st, V, u)
    | some (1, c, j) => px_live V k c ∧ K (pc + 3, L, V k j :: st, V, u)
    | _ => False
  | .putfield n, v :: .ref k :: st => match px_lk M.2.1 n with
    | some (0, c, j) => px_live V k c ∧ px_fit (px_fty c j) v ∧ (px_fty c j < 10 ∨ (M.2.2.1 = 1 ∧ M.2.1 = c)) ∧ K (pc + 3, L, st, px_set V k j v, u)
    | some (1, c, j) => px_live V k c ∧ px_fit (px_fty c j) v ∧ px_fty c j < 10 ∧ K (pc + 3, L, st, px_set V k j v, u)
    | _ => False
  | .getstatic n, st => match px_lk M.2.1 n with
    | some (8, _, _) => K (pc + 3, L, .ref 1100 :: st, V, u)
    | _ => False
  | .arraylength, .ref k :: st => match px_arr X V k with
    | some (n, _) => K (pc + 1, L, .int (Int32.ofNat n) :: st, V, u)
    | none => False
  | .iaload, .int j :: .ref k :: st => match px_arr X V k with
    | some (n, f) => vp_in j n ∧ K (pc + 1, L, .int (px_i (f j.toNatClampNeg)) :: st, V, u)
    | none => False
  | .baload, .int j :: .ref k :: st => px_live V k 21 ∧ vp_in j (px_ln k) ∧ K (pc + 1, L, .int (px_i (V k j.toNatClampNeg)) :: st, V, u)
  | .laload, .int j :: .ref k :: st => px_live V k 22 ∧ vp_in j (px_ln k) ∧ K (pc + 1, L, .long (px_l (V k j.toNatClampNeg)) :: st, V, u)
  | .iastore, .int x :: .int j :: .ref k :: st => px_live V k 20 ∧ vp_in j (px_ln k) ∧ K (pc + 1, L, st, px_set V k j.toNatClampNeg (.int x), u)
  | .bastore, .int x :: .int j :: .ref k :: st => px_live V k 21 ∧ vp_in j (px_ln k) ∧ K (pc + 1, L, st, px_set V k j.toNatClampNeg (.int (vp_nar .boolean x)), u)
  | .lastore, .long x :: .int j :: .ref k :: st => px_live V k 22 ∧ vp_in j (px_ln k) ∧ K (pc + 1, L, st, px_set V k j.toNatClampNeg (.long x), u)
  | .new n, st => match px_lk M.2.1 n with
    | some (4, c, _) => px_n V < 103 ∧ px_kd (px_n V) = c ∧ c < 13 ∧ u.1 + 1 ≤ (px_bud M.1).1 ∧ u.2 + px_nf c ≤ (px_bud M.1).2 ∧ K (pc + 3, L, .ref (px_n V) :: st, px_new V (px_n V) (fun j => px_dft (px_fty c j)), (u.1 + 1, u.2 + px_nf c))
    | some (5, e, _) => (M.1, pc) = px_thr e ∧ px_cat st ≤ 8 ∧ u.1 + 1 ≤ (px_bud M.1).1 ∧ u.2 + 6 ≤ (px_bud M.1).2 ∧ Q (.inr e) V
    | _ => False
  | .newarray t, .int n :: st => px_n V < 103 ∧ n = Int32.ofNat (px_ln (px_n V)) ∧ px_ln (px_n V) < 4096 ∧ u.1 + 1 ≤ (px_bud M.1).1 ∧ u.2 + px_ln (px_n V) ≤ (px_bud M.1).2 ∧ ((t = .int ∧ px_kd (px_n V) = 20 ∧ K (pc + 2, L, .ref (px_n V) :: st, px_new V (px_n V) (fun _ => .int 0), (u.1 + 1, u.2 + px_ln (px_n V)))) ∨ (t = .boolean ∧ px_kd (px_n V) = 21 ∧ K (pc + 2, L, .ref (px_n V) :: st, px_new V (px_n V) (fun _ => .int 0), (u.1 + 1, u.2 + px_ln (px_n V)))) ∨ (t = .long ∧ px_kd (px_n V) = 22 ∧ K (pc + 2, L, .ref (px_n V) :: st, px_new V (px_n V) (fun _ => .long 0), (u.1 + 1, u.2 + px_ln (px_n V)))))
  | .ireturn, [.int x] => u.1 ≤ (px_bud M.1).1 ∧ u.2 ≤ (px_bud M.1).2 ∧ (M.2.2.2.1 = 1 ∨ (M.2.2.2.1 = 2 ∧ (x = 0 ∨ x = 1))) ∧ Q (.inl (some (.int x))) V
  | .lreturn, [.long x] => u.1 ≤ (px_bud M.1).1 ∧ u.2 ≤ (px_bud M.1).2 ∧ M.2.2.2.1 = 3 ∧ Q (.inl (some (.long x))) V
  | .return_, [] => u.1 ≤ (px_bud M.1).1 ∧ u.2 ≤ (px_bud M.1).2 ∧ M.2.2.2.1 = 0 ∧ Q (.inl none) V
  | _, _ => False
/-- where a thrown exception of kind e goes in a method: the first row of its table that covers pc and takes it -/
def px_find (c : Nat) (pc e : Nat) : List (Nat × Nat × Nat × Nat) → Option Nat
  | [] => none
  | (s, t, h, k) :: r => if s ≤ pc ∧ pc < t then match px_lk c k with
      | some (5, e', _) => if e' = e then some h else px_find c pc e r
      | _ => none
    else px_find c pc e r
def px_hand (M : px_M) (pc e : Nat) (L : px_L) (V : px_V) (u : Nat × Nat) (K : px_S → Prop) (Q : px_Q) : Prop := match M.2.2.2.2.2.2 with
  | [] => u.1 ≤ (px_bud M.1).1 ∧ u.2 ≤ (px_bud M.1).2 ∧ Q (.inr e) V
  | hh => match px_find M.2.1 pc e hh with
    | some h => match px_ins M h with
      | some (.astore_n n, 1) => (n : Nat) < L.length ∧ K (h + 1, px_st1 L n none, [], V, u)
      | some (.astore n, 2) => n < L.length ∧ K (h + 2, px_st1 L n none, [], V, u)
      | _ => False
    | none => False
/-- a call of method mi with n things on the stack -/
def px_call (C : Nat → List Value → px_V → px_Q → Prop) (M : px_M) (mi n pc : Nat) (L : px_L) (st : List Value) (V : px_V) (u : Nat × Nat) (K : px_S → Prop) (Q : px_Q) : Prop :=
  n ≤ st.length ∧ px_cat (st.drop n) ≤ 8 ∧ u.1 + (px_bud mi).1 ≤ (px_bud M.1).1 ∧ u.2 + (px_bud mi).2 ≤ (px_bud M.1).2 ∧ C mi (st.take n).reverse V (fun r V' => match r with
    | .inl v => K (pc + 3, L, v.toList ++ st.drop n, V', (u.1 + (px_bud mi).1, u.2 + (px_bud mi).2))
    | .inr e => px_hand M pc e L V' (u.1 + (px_bud mi).1, u.2 + (px_bud mi).2) K Q)
/-- a call of a method that does not throw -/
def px_callN (C : Nat → List Value → px_V → px_Q → Prop) (M : px_M) (mi n pc : Nat) (L : px_L) (st : List Value) (V : px_V) (u : Nat × Nat) (K : px_S → Prop) : Prop :=
  n ≤ st.length ∧ px_cat (st.drop n) ≤ 8 ∧ u.1 + (px_bud mi).1 ≤ (px_bud M.1).1 ∧ u.2 + (px_bud mi).2 ≤ (px_bud M.1).2 ∧ C mi (st.take n).reverse V (fun r V' => match r with
    | .inl v => K (pc + 3, L, v.toList ++ st.drop n, V', (u.1 + (px_bud mi).1, u.2 + (px_bud mi).2))
    | .inr _ => False)
/-- calls -/
def px_act4 (X : Nat × (Nat → Int32)) (C : Nat → List Value → px_V → px_Q → Prop) (M : px_M) (i : Instr) (pc : Nat) (L : px_L) (st : List Value) (V : px_V) (u : Nat × Nat) (K : px_S → Prop) (Q : px_Q) : Prop := match i with
  | .invokestatic n => match px_lk M.2.1 n with
    | some (2, 335, _) => match st with
      | .int y :: .int x :: st => px_cat st ≤ 8 ∧ u.1 ≤ (px_bud M.1).1 ∧ u.2 ≤ (px_bud M.1).2 ∧ K (pc + 3, L, .int (if x < y then y else x) :: st, V, u)
      | _ => False
    | some (2, 336, _) => match st with
      | .int y :: .int x :: st => px_cat st ≤ 8 ∧ u.1 ≤ (px_bud M.1).1 ∧ u.2 ≤ (px_bud M.1).2 ∧ K (pc + 3, L, .int (if y < x then y else x) :: st, V, u)
      | _ => False
    | some (2, 337, _) => match st with
      | .int x :: st => px_cat st ≤ 8 ∧ u.1 ≤ (px_bud M.1).1 ∧ u.2 ≤ (px_bud M.1).2 ∧ K (pc + 3, L, .int (if 0 ≤ x then x else 0 - x) :: st, V, u)
      | _ => False
    | some (2, mi, a) => px_stc mi = 1 ∧ mi < 335 ∧ mi ≠ 332 ∧ px_call C M mi a pc L st V u K Q
    | some (3, mi, a) => px_stc mi = 1 ∧ mi < 335 ∧ mi ≠ 332 ∧ (px_prog mi).2.2.2.2.2.2 = [] ∧ px_callN C M mi a pc L st V u K
    | some (10, _, _) => match st with
      | .int n :: .int dp :: .ref d :: .int sp :: .ref s0 :: st => match px_arr X V s0 with
        | some (ln, f) => px_cat st ≤ 8 ∧ px_nS s0 ∧ px_live V d 20 ∧ ¬ sp < 0 ∧ ¬ dp < 0 ∧ ¬ n < 0 ∧ sp.toNatClampNeg + n.toNatClampNeg ≤ ln ∧ dp.toNatClampNeg + n.toNatClampNeg ≤ px_ln d ∧ K (pc + 3, L, st, px_cpy V f d sp.toNatClampNeg dp.toNatClampNeg n.toNatClampNeg, u)
        | none => False
      | _ => False
    | _ => False
  | .invokevirtual n => match px_lk M.2.1 n with
    | some (2, mi, a) => px_stc mi = 0 ∧ mi < 335 ∧ mi ≠ 332 ∧ (px_prog mi).2.2.2.2.2.2 = [] ∧ px_own mi < 13 ∧ (∃ k, (st.drop a).head? = some (.ref k) ∧ px_live V k (px_own mi)) ∧ px_call C M mi (a + 1) pc L st V u K Q
    | some (11, _, _) => match st with
      | .ref k :: st => px_isS k ∧ px_cat st ≤ 8 ∧ u.1 ≤ (px_bud M.1).1 ∧ u.2 ≤ (px_bud M.1).2 ∧ K (pc + 3, L, .int (Int32.ofNat (px_str.getD (k - 1000) []).length) :: st, V, u)
      | _ => False
    | some (12, _, _) => match st with
      | .int j :: .ref k :: st => px_isS k ∧ px_cat st ≤ 8 ∧ u.1 ≤ (px_bud M.1).1 ∧ u.2 ≤ (px_bud M.1).2 ∧ vp_in j (px_str.getD (k - 1000) []).length ∧ K (pc + 3, L, .int (Int32.ofNat ((px_str.getD (k - 1000) []).getD j.toNatClampNeg 0)) :: st, V, u)
      | _ => False
    | _ => False
  | .invokespecial n => match px_lk M.2.1 n with
    | some (2, mi, a) => px_stc mi = 2 ∧ mi < 335 ∧ mi ≠ 332 ∧ (px_prog mi).2.2.2.2.2.2 = [] ∧ (∃ k, (st.drop a).head? = some (.ref k)) ∧ px_callN C M mi (a + 1) pc L st V u K
    | some (3, mi, a) => px_stc mi = 2 ∧ mi < 335 ∧ mi ≠ 332 ∧ (px_prog mi).2.2.2.2.2.2 = [] ∧ (∃ k, (st.drop a).head? = some (.ref k)) ∧ px_callN C M mi (a + 1) pc L st V u K
    | some (9, _, _) => match st with
      | .ref _ :: st => px_cat st ≤ 8 ∧ K (pc + 3, L, st, V, u)
      | _ => False
    | _ => False
  | _ => False
/-- which of the four a step is -/
def px_sort (i : Instr) : Nat := match i with
  | .goto _ => 2
  | .ifCond _ _ => 2
  | .if_icmp _ _ => 2
  | .tableswitch _ _ _ _ => 2
  | .lookupswitch _ _ => 2
  | .getfield _ => 3
  | .putfield _ => 3
  | .getstatic _ => 3
  | .arraylength => 3
  | .iaload => 3
  | .baload => 3
  | .laload => 3
  | .iastore => 3
  | .bastore => 3
  | .lastore => 3
  | .new _ => 3
  | .newarray _ => 3
  | .ireturn => 3
  | .lreturn => 3
  | .return_ => 3
  | .invokestatic _ => 4
  | .invokevirtual _ => 4
  | .invokespecial _ => 4
  | _ => 1
def px_do (X : Nat × (Nat → Int32)) (C : Nat → List Value → px_V → px_Q → Prop) (M : px_M) (i : Instr) (s : px_S) (K : px_S → Prop) (Q : px_Q) : Prop := match px_sort i with
  | 1 => px_act1 M i s.1 s.2.1 s.2.2.1 s.2.2.2.1 s.2.2.2.2 K
  | 2 => px_act2 i s.1 s.2.1 s.2.2.1 s.2.2.2.1 s.2.2.2.2 K
  | 3 => px_act3 X M i s.1 s.2.1 s.2.2.1 s.2.2.2.1 s.2.2.2.2 K Q
  | _ => px_act4 X C M i s.1 s.2.1 s.2.2.1 s.2.2.2.1 s.2.2.2.2 K Q
def px_act (X : Nat × (Nat → Int32)) (C : Nat → List Value → px_V → px_Q → Prop) (M : px_M) (s : px_S) (K : px_S → Prop) (Q : px_Q) : Prop := match px_ins M s.1 with
  | some (i, _) => px_do X C M i s K Q
  | none => False
/-- from s, the method comes to its end, with Q -/
def px_W (X : Nat × (Nat → Int32)) (C : Nat → List Value → px_V → px_Q → Prop) (M : px_M) (Q : px_Q) (s : px_S) : Prop := ∀ P : px_S → Prop, (∀ s, (∃ R : px_S → Prop, (∀ b, R b → P b) ∧ px_act X C M s R Q) → P s) → P s
/-- a call of method mi, at most d deep -/
def px_C (X : Nat × (Nat → Int32)) : Nat → Nat → List Value → px_V → px_Q → Prop
  | 0, _, _, _, _ => False
  | d + 1, mi, args, V, Q => (px_lay args).length ≤ (px_prog mi).2.2.2.2.1 ∧ px_W X (px_C X d) (px_prog mi) (fun r V' => (px_n V' < 103 → px_n V' = px_n V + (px_bud mi).1) ∧ Q r V') (0, px_ent (px_prog mi).2.2.2.2.1 args, [], V, (0, 0))
