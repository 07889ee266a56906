/-! LAW MAIN, from its loop on (written by wip/whole/gen/wmain.py) -/
theorem jlk_13_109 : px_lk 13 109 = some (2, 141, 5) := rfl
theorem jlk_13_112 : px_lk 13 112 = some (2, 191, 5) := rfl
theorem jlk_13_113 : px_lk 13 113 = some (2, 304, 3) := rfl
theorem jlk_13_118 : px_lk 13 118 = some (2, 193, 1) := rfl
theorem jlk_13_119 : px_lk 13 119 = some (2, 186, 0) := rfl
theorem jlk_13_123 : px_lk 13 123 = some (2, 305, 3) := rfl
theorem jlk_13_125 : px_lk 13 125 = some (2, 213, 1) := rfl
theorem jlk_13_126 : px_lk 13 126 = some (2, 306, 3) := rfl
theorem jlk_13_128 : px_lk 13 128 = some (2, 222, 1) := rfl
theorem jlk_13_129 : px_lk 13 129 = some (2, 307, 3) := rfl
theorem jlk_13_131 : px_lk 13 131 = some (2, 244, 1) := rfl
theorem jlk_13_132 : px_lk 13 132 = some (2, 142, 0) := rfl
theorem jlk_13_135 : px_lk 13 135 = some (2, 192, 0) := rfl
theorem jlk_13_136 : px_lk 13 136 = some (2, 143, 0) := rfl
theorem jlk_13_139 : px_lk 13 139 = some (2, 245, 0) := rfl
theorem jlk_13_140 : px_lk 13 140 = some (2, 308, 3) := rfl
theorem jlk_13_142 : px_lk 13 142 = some (2, 246, 1) := rfl
theorem jlk_13_143 : px_lk 13 143 = some (2, 309, 4) := rfl
theorem jlk_13_146 : px_lk 13 146 = some (2, 251, 2) := rfl
theorem jlk_13_147 : px_lk 13 147 = some (2, 310, 4) := rfl
theorem jlk_13_149 : px_lk 13 149 = some (2, 253, 2) := rfl
theorem jlk_13_150 : px_lk 13 150 = some (2, 311, 4) := rfl
theorem jlk_13_152 : px_lk 13 152 = some (2, 255, 2) := rfl
theorem jlk_13_153 : px_lk 13 153 = some (2, 312, 4) := rfl
theorem jlk_13_155 : px_lk 13 155 = some (2, 257, 2) := rfl
theorem jlk_13_156 : px_lk 13 156 = some (2, 313, 4) := rfl
theorem jlk_13_158 : px_lk 13 158 = some (2, 259, 2) := rfl
theorem jlk_13_159 : px_lk 13 159 = some (2, 314, 5) := rfl
theorem jlk_13_162 : px_lk 13 162 = some (2, 260, 3) := rfl
theorem jlk_13_163 : px_lk 13 163 = some (2, 315, 11) := rfl
theorem jlk_13_166 : px_lk 13 166 = some (2, 262, 9) := rfl
theorem jlk_13_167 : px_lk 13 167 = some (2, 316, 5) := rfl
theorem jlk_13_169 : px_lk 13 169 = some (2, 261, 3) := rfl
theorem jlk_13_170 : px_lk 13 170 = some (2, 317, 3) := rfl
theorem jlk_13_172 : px_lk 13 172 = some (2, 263, 1) := rfl
theorem jlk_13_173 : px_lk 13 173 = some (2, 318, 5) := rfl
theorem jlk_13_175 : px_lk 13 175 = some (2, 267, 3) := rfl
theorem jlk_13_176 : px_lk 13 176 = some (2, 319, 4) := rfl
theorem jlk_13_178 : px_lk 13 178 = some (2, 269, 2) := rfl
theorem jlk_13_179 : px_lk 13 179 = some (2, 320, 5) := rfl
theorem jlk_13_181 : px_lk 13 181 = some (2, 273, 3) := rfl
theorem jlk_13_182 : px_lk 13 182 = some (2, 321, 3) := rfl
theorem jlk_13_184 : px_lk 13 184 = some (2, 275, 1) := rfl
theorem jlk_13_185 : px_lk 13 185 = some (2, 144, 0) := rfl
theorem jlk_13_188 : px_lk 13 188 = some (2, 277, 0) := rfl
theorem jlk_13_189 : px_lk 13 189 = some (2, 322, 3) := rfl
theorem jlk_13_191 : px_lk 13 191 = some (2, 278, 1) := rfl
theorem jlk_13_192 : px_lk 13 192 = some (2, 323, 4) := rfl
theorem jlk_13_194 : px_lk 13 194 = some (2, 280, 2) := rfl
theorem jlk_13_195 : px_lk 13 195 = some (2, 324, 4) := rfl
theorem jlk_13_197 : px_lk 13 197 = some (2, 283, 2) := rfl
theorem jlk_13_198 : px_lk 13 198 = some (2, 145, 0) := rfl
theorem jlk_13_201 : px_lk 13 201 = some (2, 284, 0) := rfl
theorem jlk_13_202 : px_lk 13 202 = some (2, 325, 3) := rfl
theorem jlk_13_204 : px_lk 13 204 = some (2, 286, 1) := rfl
theorem jlk_13_205 : px_lk 13 205 = some (2, 326, 6) := rfl
theorem jlk_13_208 : px_lk 13 208 = some (2, 287, 4) := rfl
theorem jlk_13_209 : px_lk 13 209 = some (2, 327, 6) := rfl
theorem jlk_13_211 : px_lk 13 211 = some (2, 289, 4) := rfl
theorem jlk_13_212 : px_lk 13 212 = some (2, 328, 5) := rfl
theorem jlk_13_214 : px_lk 13 214 = some (2, 291, 3) := rfl
theorem jlk_13_215 : px_lk 13 215 = some (2, 329, 3) := rfl
theorem jlk_13_217 : px_lk 13 217 = some (2, 292, 1) := rfl
theorem jlk_13_218 : px_lk 13 218 = some (2, 330, 6) := rfl
theorem jlk_13_220 : px_lk 13 220 = some (2, 293, 4) := rfl
theorem jlk_13_221 : px_lk 13 221 = some (2, 331, 7) := rfl
theorem jlk_13_224 : px_lk 13 224 = some (2, 297, 5) := rfl
theorem jlk_13_225 : px_lk 13 225 = some (2, 146, 0) := rfl
theorem jlk_13_228 : px_lk 13 228 = some (2, 298, 0) := rfl
theorem jlk_13_229 : px_lk 13 229 = some (2, 147, 0) := rfl
theorem jlk_13_232 : px_lk 13 232 = some (2, 301, 0) := rfl
theorem jlk_13_233 : px_lk 13 233 = some (2, 148, 1) := rfl
theorem jlk_13_236 : px_lk 13 236 = some (2, 302, 1) := rfl
theorem jlk_13_237 : px_lk 13 237 = some (2, 149, 1) := rfl
theorem jlk_13_240 : px_lk 13 240 = some (2, 303, 1) := rfl
section
variable {X : Nat × (Nat → Int32)} {C : Nat → List Value → px_V → px_Q → Prop} {M : px_M} {Q : px_Q} {N pc pc' l : Nat} {L : px_L} {st : List Value} {m : jm} {u : Nat × Nat}
theorem jr_cv_l {n mi a k : Nat} {F R : Int × jm → Prop} (rest : List Value) (hi : px_ins M pc = some (.invokevirtual n, l)) (hp : pc + 3 = pc') (hlk : px_lk M.2.1 n = some (2, mi, a)) (hq : jq mi 0) (hb : px_bud mi = (0, 0)) (hl : a + 1 ≤ st.length) (hr : st.drop (a + 1) = rest) (hc : px_cat rest ≤ 8) (hu : ju M u) (hk : (st.drop a).head? = some (.ref k)) (hkN : k < N) (hkd : px_kd k = px_own mi) (hcc : ∀ Q' : px_Q, (∀ p : Int × jm, F p → R p → Q' (.inl (some (jvl p.1))) (jmem N p.2)) → C mi (st.take (a + 1)).reverse (jmem N m) Q') (kk : ∀ p : Int × jm, F p → R p → jp X C M Q N pc' L (jvl p.1 :: rest) p.2 u) : jp X C M Q N pc L st m u := by
  subst hp; refine jr hi ?_
  show px_act4 X C M (.invokevirtual n) pc L st (jmem N m) u (px_W X C M Q) Q
  rw [jact_v hlk]
  obtain ⟨q1, q2, q3, q4, q5⟩ := hq
  exact ⟨q1, q2, q3, q4, q5 rfl, ⟨k, hk, by rw [jN]; exact hkN, hkd⟩, jr_call (val := fun p : Int × jm => some (jvl p.1)) (me := fun p : Int × jm => p.2) hb hl hr hc hu hcc kk⟩
theorem jr_cw {n mi a b1 b2 : Nat} {F R : Int × jm → Prop} (rest : List Value) (hi : px_ins M pc = some (.invokestatic n, l)) (hp : pc + 3 = pc') (hlk : px_lk M.2.1 n = some (2, mi, a)) (hst : px_stc mi = 1) (hm : mi < 335) (hm2 : mi ≠ 332) (hb : px_bud mi = (b1, b2)) (hl : a ≤ st.length) (hr : st.drop a = rest) (hc : px_cat rest ≤ 8) (hu : ju M (u.1 + b1, u.2 + b2)) (hcc : ∀ Q' : px_Q, (∀ p : Int × jm, F p → R p → Q' (.inl (some (jv p.1))) (jmem N p.2)) → C mi (st.take a).reverse (jmem N m) Q') (kk : ∀ p : Int × jm, F p → R p → jp X C M Q N pc' L (jv p.1 :: rest) p.2 (u.1 + b1, u.2 + b2)) : jp X C M Q N pc L st m u := by
  subst hp; subst hr; refine jr hi ?_
  show px_act4 X C M (.invokestatic n) pc L st (jmem N m) u (px_W X C M Q) Q
  rw [jact_s hlk hm]
  refine ⟨hst, hm, hm2, ?_⟩
  unfold px_call
  rw [hb]
  exact ⟨hl, hc, hu.1, hu.2, hcc _ (fun p hp hr => kk p hp hr)⟩
end
def jbnd (i : Int) (u : Nat × Nat) : Prop := 10 * (u.1 : Int) ≤ 2000 + 3 * i ∧ 10 * (u.2 : Int) ≤ 200000 + 18 * i
theorem jM_z {m : jm} : 0 ≤ ((0 : Int), m).1 ∧ ((0 : Int), m).1 ≤ 5120 := ⟨Int.le_refl 0, (by decide : (0 : Int) ≤ 5120)⟩
theorem jgM {i : Int} (h : 0 ≤ i ∧ i ≤ 5120) : jg i := by unfold jg; omega
theorem jbud332 : px_bud px_m332.1 = (601024, 7293034) := rfl
theorem jM_hu {i : Int} {u : Nat × Nat} (h : 0 ≤ i ∧ i ≤ 5120) (hb : jbnd i u) : ju px_m332 u := by
  unfold ju jbnd at *; rw [jbud332]; constructor <;> (show _ ≤ _) <;> omega
theorem jM_hw {i : Int} {u : Nat × Nat} {b1 b2 : Nat} (h : 0 ≤ i ∧ i ≤ 5120) (hb : jbnd i u) (h1 : b1 ≤ 3) (h2 : b2 ≤ 18) : ju px_m332 (u.1 + b1, u.2 + b2) := by
  unfold ju jbnd at *; rw [jbud332]; constructor
  · show u.1 + b1 ≤ 601024; omega
  · show u.2 + b2 ≤ 7293034; omega
theorem jM_w {L : Nat} {i : Int} (hX : L ≤ 5120) (h : 0 ≤ i ∧ i ≤ 5120) (hl : ¬ jw ((L : Int) - 10) < i) : i ≤ 5110 := by
  have e : jw ((L : Int) - 10) = (L : Int) - 10 := jw_id (by unfold jg; omega)
  rw [e] at hl; omega
theorem jM_i {X : Nat × (Nat → Int32)} {i : Int} (hX : X.1 ≤ 5120) (h : 0 ≤ i ∧ i ≤ 5120) (hl : ¬ jw ((X.1 : Int) - 10) < i) : 0 ≤ jw (i + 10) ∧ jw (i + 10) ≤ 5120 := by
  have := jM_w hX h hl
  rw [jw_id (x := i + 10) (by unfold jg; omega)]; omega
theorem jM_0 {X : Nat × (Nat → Int32)} {i : Int} {u : Nat × Nat} (hX : X.1 ≤ 5120) (h : 0 ≤ i ∧ i ≤ 5120) (hl : ¬ jw ((X.1 : Int) - 10) < i) (hb : jbnd i u) : jbnd (jw (i + 10)) u := by
  have := jM_w hX h hl
  rw [jw_id (x := i + 10) (by unfold jg; omega)]; unfold jbnd at *; omega
theorem jM_u {X : Nat × (Nat → Int32)} {i : Int} {u : Nat × Nat} {b1 b2 : Nat} (hX : X.1 ≤ 5120) (h : 0 ≤ i ∧ i ≤ 5120) (hl : ¬ jw ((X.1 : Int) - 10) < i) (hb : jbnd i u) (h1 : b1 ≤ 3) (h2 : b2 ≤ 18) : jbnd (jw (i + 10)) (u.1 + b1, u.2 + b2) := by
  have := jM_w hX h hl
  rw [jw_id (x := i + 10) (by unfold jg; omega)]; unfold jbnd at *
  constructor
  · show 10 * ((u.1 + b1 : Nat) : Int) ≤ _; omega
  · show 10 * ((u.2 + b2 : Nat) : Int) ≤ _; omega
noncomputable def jfM_0 (X : Nat × (Nat → Int32)) (s1 : Int × jm) : Option ((Int × jm) ⊕ (Int × jm)) := if 0 ≤ (jw (s1.1 + (1 : Int))) ∧ (jw (s1.1 + (1 : Int))) < (X.1 : Int) then if 0 ≤ (jw (s1.1 + (2 : Int))) ∧ (jw (s1.1 + (2 : Int))) < (X.1 : Int) then if 0 ≤ (jw (s1.1 + (3 : Int))) ∧ (jw (s1.1 + (3 : Int))) < (X.1 : Int) then if 0 ≤ (jw (s1.1 + (4 : Int))) ∧ (jw (s1.1 + (4 : Int))) < (X.1 : Int) then if 0 ≤ (jw (s1.1 + (5 : Int))) ∧ (jw (s1.1 + (5 : Int))) < (X.1 : Int) then Option.bind (α := Int × jm) (jf_141 ((X.2 (jw (s1.1 + (1 : Int))).toNat).toInt) ((X.2 (jw (s1.1 + (2 : Int))).toNat).toInt) ((X.2 (jw (s1.1 + (3 : Int))).toNat).toInt) ((X.2 (jw (s1.1 + (4 : Int))).toNat).toInt) ((X.2 (jw (s1.1 + (5 : Int))).toNat).toInt) s1.2) fun p101 => if 0 ≤ (jw (s1.1 + (1 : Int))) ∧ (jw (s1.1 + (1 : Int))) < (X.1 : Int) then if 0 ≤ (jw (s1.1 + (2 : Int))) ∧ (jw (s1.1 + (2 : Int))) < (X.1 : Int) then if 0 ≤ (jw (s1.1 + (3 : Int))) ∧ (jw (s1.1 + (3 : Int))) < (X.1 : Int) then if 0 ≤ (jw (s1.1 + (4 : Int))) ∧ (jw (s1.1 + (4 : Int))) < (X.1 : Int) then if 0 ≤ (jw (s1.1 + (5 : Int))) ∧ (jw (s1.1 + (5 : Int))) < (X.1 : Int) then Option.bind (α := Int × jm) (jf_191 ((X.2 (jw (s1.1 + (1 : Int))).toNat).toInt) ((X.2 (jw (s1.1 + (2 : Int))).toNat).toInt) ((X.2 (jw (s1.1 + (3 : Int))).toNat).toInt) ((X.2 (jw (s1.1 + (4 : Int))).toNat).toInt) ((X.2 (jw (s1.1 + (5 : Int))).toNat).toInt) p101.2) fun p102 => if p101.1 = p102.1 then some (Sum.inl (jw (s1.1 + 10), p102.2)) else some (Sum.inr ((0 : Int), p102.2)) else none else none else none else none else none else none else none else none else none else none
noncomputable def jfM_1 (X : Nat × (Nat → Int32)) (s1 : Int × jm) : Option ((Int × jm) ⊕ (Int × jm)) := if 0 ≤ (jw (s1.1 + (1 : Int))) ∧ (jw (s1.1 + (1 : Int))) < (X.1 : Int) then Option.bind (α := Int × jm) (jf_304 ((X.2 (jw (s1.1 + (1 : Int))).toNat).toInt) s1.2) fun p98 => if 0 ≤ (jw (s1.1 + (1 : Int))) ∧ (jw (s1.1 + (1 : Int))) < (X.1 : Int) then Option.bind (α := Int × jm) (jf_193 ((X.2 (jw (s1.1 + (1 : Int))).toNat).toInt) p98.2) fun p99 => Option.bind (α := Int) (jf_186 p99.2) fun p100 => if p100 = p98.1 then if p98.1 = 0 then if (jcmp (jal p99.2 102 0) p99.1) = 0 then some (Sum.inl (jw (s1.1 + 10), p99.2)) else some (Sum.inr ((0 : Int), p99.2)) else some (Sum.inl (jw (s1.1 + 10), p99.2)) else some (Sum.inr ((0 : Int), p99.2)) else none else none
noncomputable def jfM_2 (X : Nat × (Nat → Int32)) (s1 : Int × jm) : Option ((Int × jm) ⊕ (Int × jm)) := if 0 ≤ (jw (s1.1 + (1 : Int))) ∧ (jw (s1.1 + (1 : Int))) < (X.1 : Int) then Option.bind (α := Int × jm) (jf_305 ((X.2 (jw (s1.1 + (1 : Int))).toNat).toInt) s1.2) fun p95 => if 0 ≤ (jw (s1.1 + (1 : Int))) ∧ (jw (s1.1 + (1 : Int))) < (X.1 : Int) then Option.bind (α := Int × jm) (jf_213 ((X.2 (jw (s1.1 + (1 : Int))).toNat).toInt) p95.2) fun p96 => Option.bind (α := Int) (jf_186 p96.2) fun p97 => if p97 = p95.1 then if p95.1 = 0 then if (jcmp (jal p96.2 102 0) p96.1) = 0 then some (Sum.inl (jw (s1.1 + 10), p96.2)) else some (Sum.inr ((0 : Int), p96.2)) else some (Sum.inl (jw (s1.1 + 10), p96.2)) else some (Sum.inr ((0 : Int), p96.2)) else none else none
noncomputable def jfM_3 (X : Nat × (Nat → Int32)) (s1 : Int × jm) : Option ((Int × jm) ⊕ (Int × jm)) := if 0 ≤ (jw (s1.1 + (1 : Int))) ∧ (jw (s1.1 + (1 : Int))) < (X.1 : Int) then Option.bind (α := Int × jm) (jf_306 ((X.2 (jw (s1.1 + (1 : Int))).toNat).toInt) s1.2) fun p92 => if 0 ≤ (jw (s1.1 + (1 : Int))) ∧ (jw (s1.1 + (1 : Int))) < (X.1 : Int) then Option.bind (α := Int × jm) (jf_222 ((X.2 (jw (s1.1 + (1 : Int))).toNat).toInt) p92.2) fun p93 => Option.bind (α := Int) (jf_186 p93.2) fun p94 => if p94 = p92.1 then if p92.1 = 0 then if (jcmp (jal p93.2 102 0) p93.1) = 0 then some (Sum.inl (jw (s1.1 + 10), p93.2)) else some (Sum.inr ((0 : Int), p93.2)) else some (Sum.inl (jw (s1.1 + 10), p93.2)) else some (Sum.inr ((0 : Int), p93.2)) else none else none
noncomputable def jfM_4 (X : Nat × (Nat → Int32)) (s1 : Int × jm) : Option ((Int × jm) ⊕ (Int × jm)) := if 0 ≤ (jw (s1.1 + (1 : Int))) ∧ (jw (s1.1 + (1 : Int))) < (X.1 : Int) then Option.bind (α := Int × jm) (jf_307 ((X.2 (jw (s1.1 + (1 : Int))).toNat).toInt) s1.2) fun p89 => if 0 ≤ (jw (s1.1 + (1 : Int))) ∧ (jw (s1.1 + (1 : Int))) < (X.1 : Int) then Option.bind (α := Int × jm) (jf_244 ((X.2 (jw (s1.1 + (1 : Int))).toNat).toInt) p89.2) fun p90 => Option.bind (α := Int) (jf_186 p90.2) fun p91 => if p91 = p89.1 then if p89.1 = 0 then if (jcmp (jal p90.2 102 0) p90.1) = 0 then some (Sum.inl (jw (s1.1 + 10), p90.2)) else some (Sum.inr ((0 : Int), p90.2)) else some (Sum.inl (jw (s1.1 + 10), p90.2)) else some (Sum.inr ((0 : Int), p90.2)) else none else none
noncomputable def jfM_5 (X : Nat × (Nat → Int32)) (s1 : Int × jm) : Option ((Int × jm) ⊕ (Int × jm)) := Option.bind (α := Int) (jf_142 s1.2) fun p87 => Option.bind (α := Int × jm) (jf_192 s1.2) fun p88 => if p87 = p88.1 then some (Sum.inl (jw (s1.1 + 10), p88.2)) else some (Sum.inr ((0 : Int), p88.2))
noncomputable def jfM_6 (X : Nat × (Nat → Int32)) (s1 : Int × jm) : Option ((Int × jm) ⊕ (Int × jm)) := Option.bind (α := Int × jm) (jf_143 s1.2) fun p85 => Option.bind (α := Int × jm) (jf_245 p85.2) fun p86 => if p85.1 = p86.1 then some (Sum.inl (jw (s1.1 + 10), p86.2)) else some (Sum.inr ((0 : Int), p86.2))
noncomputable def jfM_7 (X : Nat × (Nat → Int32)) (s1 : Int × jm) : Option ((Int × jm) ⊕ (Int × jm)) := if 0 ≤ (jw (s1.1 + (1 : Int))) ∧ (jw (s1.1 + (1 : Int))) < (X.1 : Int) then Option.bind (α := Int × jm) (jf_308 ((X.2 (jw (s1.1 + (1 : Int))).toNat).toInt) s1.2) fun p82 => if 0 ≤ (jw (s1.1 + (1 : Int))) ∧ (jw (s1.1 + (1 : Int))) < (X.1 : Int) then Option.bind (α := Int × jm) (jf_246 ((X.2 (jw (s1.1 + (1 : Int))).toNat).toInt) p82.2) fun p83 => Option.bind (α := Int) (jf_186 p83.2) fun p84 => if p84 = p82.1 then if p82.1 = 0 then if (jcmp (jal p83.2 102 0) p83.1) = 0 then some (Sum.inl (jw (s1.1 + 10), p83.2)) else some (Sum.inr ((0 : Int), p83.2)) else some (Sum.inl (jw (s1.1 + 10), p83.2)) else some (Sum.inr ((0 : Int), p83.2)) else none else none
noncomputable def jfM_8 (X : Nat × (Nat → Int32)) (s1 : Int × jm) : Option ((Int × jm) ⊕ (Int × jm)) := if 0 ≤ (jw (s1.1 + (1 : Int))) ∧ (jw (s1.1 + (1 : Int))) < (X.1 : Int) then if 0 ≤ (jw (s1.1 + (2 : Int))) ∧ (jw (s1.1 + (2 : Int))) < (X.1 : Int) then Option.bind (α := Int × jm) (jf_309 ((X.2 (jw (s1.1 + (1 : Int))).toNat).toInt) ((X.2 (jw (s1.1 + (2 : Int))).toNat).toInt) s1.2) fun p79 => if 0 ≤ (jw (s1.1 + (1 : Int))) ∧ (jw (s1.1 + (1 : Int))) < (X.1 : Int) then if 0 ≤ (jw (s1.1 + (2 : Int))) ∧ (jw (s1.1 + (2 : Int))) < (X.1 : Int) then Option.bind (α := Int × jm) (jf_251 ((X.2 (jw (s1.1 + (1 : Int))).toNat).toInt) ((X.2 (jw (s1.1 + (2 : Int))).toNat).toInt) p79.2) fun p80 => Option.bind (α := Int) (jf_186 p80.2) fun p81 => if p81 = p79.1 then if p79.1 = 0 then if (jcmp (jal p80.2 102 0) p80.1) = 0 then some (Sum.inl (jw (s1.1 + 10), p80.2)) else some (Sum.inr ((0 : Int), p80.2)) else some (Sum.inl (jw (s1.1 + 10), p80.2)) else some (Sum.inr ((0 : Int), p80.2)) else none else none else none else none
noncomputable def jfM_9 (X : Nat × (Nat → Int32)) (s1 : Int × jm) : Option ((Int × jm) ⊕ (Int × jm)) := if 0 ≤ (jw (s1.1 + (1 : Int))) ∧ (jw (s1.1 + (1 : Int))) < (X.1 : Int) then if 0 ≤ (jw (s1.1 + (2 : Int))) ∧ (jw (s1.1 + (2 : Int))) < (X.1 : Int) then Option.bind (α := Int × jm) (jf_310 ((X.2 (jw (s1.1 + (1 : Int))).toNat).toInt) ((X.2 (jw (s1.1 + (2 : Int))).toNat).toInt) s1.2) fun p76 => if 0 ≤ (jw (s1.1 + (1 : Int))) ∧ (jw (s1.1 + (1 : Int))) < (X.1 : Int) then if 0 ≤ (jw (s1.1 + (2 : Int))) ∧ (jw (s1.1 + (2 : Int))) < (X.1 : Int) then Option.bind (α := Int × jm) (jf_253 ((X.2 (jw (s1.1 + (1 : Int))).toNat).toInt) ((X.2 (jw (s1.1 + (2 : Int))).toNat).toInt) p76.2) fun p77 => Option.bind (α := Int) (jf_186 p77.2) fun p78 => if p78 = p76.1 then if p76.1 = 0 then if (jcmp (jal p77.2 102 0) p77.1) = 0 then some (Sum.inl (jw (s1.1 + 10), p77.2)) else some (Sum.inr ((0 : Int), p77.2)) else some (Sum.inl (jw (s1.1 + 10), p77.2)) else some (Sum.inr ((0 : Int), p77.2)) else none else none else none else none
noncomputable def jfM_10 (X : Nat × (Nat → Int32)) (s1 : Int × jm) : Option ((Int × jm) ⊕ (Int × jm)) := if 0 ≤ (jw (s1.1 + (1 : Int))) ∧ (jw (s1.1 + (1 : Int))) < (X.1 : Int) then if 0 ≤ (jw (s1.1 + (2 : Int))) ∧ (jw (s1.1 + (2 : Int))) < (X.1 : Int) then Option.bind (α := Int × jm) (jf_311 ((X.2 (jw (s1.1 + (1 : Int))).toNat).toInt) ((X.2 (jw (s1.1 + (2 : Int))).toNat).toInt) s1.2) fun p73 => if 0 ≤ (jw (s1.1 + (1 : Int))) ∧ (jw (s1.1 + (1 : Int))) < (X.1 : Int) then if 0 ≤ (jw (s1.1 + (2 : Int))) ∧ (jw (s1.1 + (2 : Int))) < (X.1 : Int) then Option.bind (α := Int × jm) (jf_255 ((X.2 (jw (s1.1 + (1 : Int))).toNat).toInt) ((X.2 (jw (s1.1 + (2 : Int))).toNat).toInt) p73.2) fun p74 => Option.bind (α := Int) (jf_186 p74.2) fun p75 => if p75 = p73.1 then if p73.1 = 0 then if (jcmp (jal p74.2 102 0) p74.1) = 0 then some (Sum.inl (jw (s1.1 + 10), p74.2)) else some (Sum.inr ((0 : Int), p74.2)) else some (Sum.inl (jw (s1.1 + 10), p74.2)) else some (Sum.inr ((0 : Int), p74.2)) else none else none else none else none
noncomputable def jfM_11 (X : Nat × (Nat → Int32)) (s1 : Int × jm) : Option ((Int × jm) ⊕ (Int × jm)) := if 0 ≤ (jw (s1.1 + (1 : Int))) ∧ (jw (s1.1 + (1 : Int))) < (X.1 : Int) then if 0 ≤ (jw (s1.1 + (2 : Int))) ∧ (jw (s1.1 + (2 : Int))) < (X.1 : Int) then Option.bind (α := Int × jm) (jf_312 ((X.2 (jw (s1.1 + (1 : Int))).toNat).toInt) ((X.2 (jw (s1.1 + (2 : Int))).toNat).toInt) s1.2) fun p70 => if 0 ≤ (jw (s1.1 + (1 : Int))) ∧ (jw (s1.1 + (1 : Int))) < (X.1 : Int) then if 0 ≤ (jw (s1.1 + (2 : Int))) ∧ (jw (s1.1 + (2 : Int))) < (X.1 : Int) then Option.bind (α := Int × jm) (jf_257 ((X.2 (jw (s1.1 + (1 : Int))).toNat).toInt) ((X.2 (jw (s1.1 + (2 : Int))).toNat).toInt) p70.2) fun p71 => Option.bind (α := Int) (jf_186 p71.2) fun p72 => if p72 = p70.1 then if p70.1 = 0 then if (jcmp (jal p71.2 102 0) p71.1) = 0 then some (Sum.inl (jw (s1.1 + 10), p71.2)) else some (Sum.inr ((0 : Int), p71.2)) else some (Sum.inl (jw (s1.1 + 10), p71.2)) else some (Sum.inr ((0 : Int), p71.2)) else none else none else none else none
noncomputable def jfM_12 (X : Nat × (Nat → Int32)) (s1 : Int × jm) : Option ((Int × jm) ⊕ (Int × jm)) := if 0 ≤ (jw (s1.1 + (1 : Int))) ∧ (jw (s1.1 + (1 : Int))) < (X.1 : Int) then if 0 ≤ (jw (s1.1 + (2 : Int))) ∧ (jw (s1.1 + (2 : Int))) < (X.1 : Int) then Option.bind (α := Int × jm) (jf_313 ((X.2 (jw (s1.1 + (1 : Int))).toNat).toInt) ((X.2 (jw (s1.1 + (2 : Int))).toNat).toInt) s1.2) fun p67 => if 0 ≤ (jw (s1.1 + (1 : Int))) ∧ (jw (s1.1 + (1 : Int))) < (X.1 : Int) then if 0 ≤ (jw (s1.1 + (2 : Int))) ∧ (jw (s1.1 + (2 : Int))) < (X.1 : Int) then Option.bind (α := Int × jm) (jf_259 ((X.2 (jw (s1.1 + (1 : Int))).toNat).toInt) ((X.2 (jw (s1.1 + (2 : Int))).toNat).toInt) p67.2) fun p68 => Option.bind (α := Int) (jf_186 p68.2) fun p69 => if p69 = p67.1 then if p67.1 = 0 then if (jcmp (jal p68.2 102 0) p68.1) = 0 then some (Sum.inl (jw (s1.1 + 10), p68.2)) else some (Sum.inr ((0 : Int), p68.2)) else some (Sum.inl (jw (s1.1 + 10), p68.2)) else some (Sum.inr ((0 : Int), p68.2)) else none else none else none else none
noncomputable def jfM_13 (X : Nat × (Nat → Int32)) (s1 : Int × jm) : Option ((Int × jm) ⊕ (Int × jm)) := if 0 ≤ (jw (s1.1 + (1 : Int))) ∧ (jw (s1.1 + (1 : Int))) < (X.1 : Int) then if 0 ≤ (jw (s1.1 + (2 : Int))) ∧ (jw (s1.1 + (2 : Int))) < (X.1 : Int) then if 0 ≤ (jw (s1.1 + (3 : Int))) ∧ (jw (s1.1 + (3 : Int))) < (X.1 : Int) then Option.bind (α := Int × jm) (jf_314 ((X.2 (jw (s1.1 + (1 : Int))).toNat).toInt) ((X.2 (jw (s1.1 + (2 : Int))).toNat).toInt) ((X.2 (jw (s1.1 + (3 : Int))).toNat).toInt) s1.2) fun p64 => if 0 ≤ (jw (s1.1 + (1 : Int))) ∧ (jw (s1.1 + (1 : Int))) < (X.1 : Int) then if 0 ≤ (jw (s1.1 + (2 : Int))) ∧ (jw (s1.1 + (2 : Int))) < (X.1 : Int) then if 0 ≤ (jw (s1.1 + (3 : Int))) ∧ (jw (s1.1 + (3 : Int))) < (X.1 : Int) then Option.bind (α := Int × jm) (jf_260 ((X.2 (jw (s1.1 + (1 : Int))).toNat).toInt) ((X.2 (jw (s1.1 + (2 : Int))).toNat).toInt) ((X.2 (jw (s1.1 + (3 : Int))).toNat).toInt) p64.2) fun p65 => Option.bind (α := Int) (jf_186 p65.2) fun p66 => if p66 = p64.1 then if p64.1 = 0 then if (jcmp (jal p65.2 102 0) p65.1) = 0 then some (Sum.inl (jw (s1.1 + 10), p65.2)) else some (Sum.inr ((0 : Int), p65.2)) else some (Sum.inl (jw (s1.1 + 10), p65.2)) else some (Sum.inr ((0 : Int), p65.2)) else none else none else none else none else none else none
noncomputable def jfM_14 (X : Nat × (Nat → Int32)) (s1 : Int × jm) : Option ((Int × jm) ⊕ (Int × jm)) := if 0 ≤ (jw (s1.1 + (1 : Int))) ∧ (jw (s1.1 + (1 : Int))) < (X.1 : Int) then if 0 ≤ (jw (s1.1 + (2 : Int))) ∧ (jw (s1.1 + (2 : Int))) < (X.1 : Int) then if 0 ≤ (jw (s1.1 + (3 : Int))) ∧ (jw (s1.1 + (3 : Int))) < (X.1 : Int) then if 0 ≤ (jw (s1.1 + (4 : Int))) ∧ (jw (s1.1 + (4 : Int))) < (X.1 : Int) then if 0 ≤ (jw (s1.1 + (5 : Int))) ∧ (jw (s1.1 + (5 : Int))) < (X.1 : Int) then if 0 ≤ (jw (s1.1 + (6 : Int))) ∧ (jw (s1.1 + (6 : Int))) < (X.1 : Int) then if 0 ≤ (jw (s1.1 + (7 : Int))) ∧ (jw (s1.1 + (7 : Int))) < (X.1 : Int) then if 0 ≤ (jw (s1.1 + (8 : Int))) ∧ (jw (s1.1 + (8 : Int))) < (X.1 : Int) then if 0 ≤ (jw (s1.1 + (9 : Int))) ∧ (jw (s1.1 + (9 : Int))) < (X.1 : Int) then Option.bind (α := Int × jm) (jf_315 ((X.2 (jw (s1.1 + (1 : Int))).toNat).toInt) ((X.2 (jw (s1.1 + (2 : Int))).toNat).toInt) ((X.2 (jw (s1.1 + (3 : Int))).toNat).toInt) ((X.2 (jw (s1.1 + (4 : Int))).toNat).toInt) ((X.2 (jw (s1.1 + (5 : Int))).toNat).toInt) ((X.2 (jw (s1.1 + (6 : Int))).toNat).toInt) ((X.2 (jw (s1.1 + (7 : Int))).toNat).toInt) ((X.2 (jw (s1.1 + (8 : Int))).toNat).toInt) ((X.2 (jw (s1.1 + (9 : Int))).toNat).toInt) s1.2) fun p61 => if 0 ≤ (jw (s1.1 + (1 : Int))) ∧ (jw (s1.1 + (1 : Int))) < (X.1 : Int) then if 0 ≤ (jw (s1.1 + (2 : Int))) ∧ (jw (s1.1 + (2 : Int))) < (X.1 : Int) then if 0 ≤ (jw (s1.1 + (3 : Int))) ∧ (jw (s1.1 + (3 : Int))) < (X.1 : Int) then if 0 ≤ (jw (s1.1 + (4 : Int))) ∧ (jw (s1.1 + (4 : Int))) < (X.1 : Int) then if 0 ≤ (jw (s1.1 + (5 : Int))) ∧ (jw (s1.1 + (5 : Int))) < (X.1 : Int) then if 0 ≤ (jw (s1.1 + (6 : Int))) ∧ (jw (s1.1 + (6 : Int))) < (X.1 : Int) then if 0 ≤ (jw (s1.1 + (7 : Int))) ∧ (jw (s1.1 + (7 : Int))) < (X.1 : Int) then if 0 ≤ (jw (s1.1 + (8 : Int))) ∧ (jw (s1.1 + (8 : Int))) < (X.1 : Int) then if 0 ≤ (jw (s1.1 + (9 : Int))) ∧ (jw (s1.1 + (9 : Int))) < (X.1 : Int) then Option.bind (α := Int × jm) (jf_262 ((X.2 (jw (s1.1 + (1 : Int))).toNat).toInt) ((X.2 (jw (s1.1 + (2 : Int))).toNat).toInt) ((X.2 (jw (s1.1 + (3 : Int))).toNat).toInt) ((X.2 (jw (s1.1 + (4 : Int))).toNat).toInt) ((X.2 (jw (s1.1 + (5 : Int))).toNat).toInt) ((X.2 (jw (s1.1 + (6 : Int))).toNat).toInt) ((X.2 (jw (s1.1 + (7 : Int))).toNat).toInt) ((X.2 (jw (s1.1 + (8 : Int))).toNat).toInt) ((X.2 (jw (s1.1 + (9 : Int))).toNat).toInt) p61.2) fun p62 => Option.bind (α := Int) (jf_186 p62.2) fun p63 => if p63 = p61.1 then if p61.1 = 0 then if (jcmp (jal p62.2 102 0) p62.1) = 0 then some (Sum.inl (jw (s1.1 + 10), p62.2)) else some (Sum.inr ((0 : Int), p62.2)) else some (Sum.inl (jw (s1.1 + 10), p62.2)) else some (Sum.inr ((0 : Int), p62.2)) else none else none else none else none else none else none else none else none else none else none else none else none else none else none else none else none else none else none
noncomputable def jfM_15 (X : Nat × (Nat → Int32)) (s1 : Int × jm) : Option ((Int × jm) ⊕ (Int × jm)) := if 0 ≤ (jw (s1.1 + (1 : Int))) ∧ (jw (s1.1 + (1 : Int))) < (X.1 : Int) then if 0 ≤ (jw (s1.1 + (2 : Int))) ∧ (jw (s1.1 + (2 : Int))) < (X.1 : Int) then if 0 ≤ (jw (s1.1 + (3 : Int))) ∧ (jw (s1.1 + (3 : Int))) < (X.1 : Int) then Option.bind (α := Int × jm) (jf_316 ((X.2 (jw (s1.1 + (1 : Int))).toNat).toInt) ((X.2 (jw (s1.1 + (2 : Int))).toNat).toInt) ((X.2 (jw (s1.1 + (3 : Int))).toNat).toInt) s1.2) fun p58 => if 0 ≤ (jw (s1.1 + (1 : Int))) ∧ (jw (s1.1 + (1 : Int))) < (X.1 : Int) then if 0 ≤ (jw (s1.1 + (2 : Int))) ∧ (jw (s1.1 + (2 : Int))) < (X.1 : Int) then if 0 ≤ (jw (s1.1 + (3 : Int))) ∧ (jw (s1.1 + (3 : Int))) < (X.1 : Int) then Option.bind (α := Int × jm) (jf_261 ((X.2 (jw (s1.1 + (1 : Int))).toNat).toInt) ((X.2 (jw (s1.1 + (2 : Int))).toNat).toInt) ((X.2 (jw (s1.1 + (3 : Int))).toNat).toInt) p58.2) fun p59 => Option.bind (α := Int) (jf_186 p59.2) fun p60 => if p60 = p58.1 then if p58.1 = 0 then if p59.1 = 0 then if (jcmp (jal p59.2 102 0) (0 : Int)) = 0 then some (Sum.inl (jw (s1.1 + 10), p59.2)) else some (Sum.inr ((0 : Int), p59.2)) else if (jcmp (jal p59.2 102 0) (1 : Int)) = 0 then some (Sum.inl (jw (s1.1 + 10), p59.2)) else some (Sum.inr ((0 : Int), p59.2)) else some (Sum.inl (jw (s1.1 + 10), p59.2)) else some (Sum.inr ((0 : Int), p59.2)) else none else none else none else none else none else none
noncomputable def jfM_16 (X : Nat × (Nat → Int32)) (s1 : Int × jm) : Option ((Int × jm) ⊕ (Int × jm)) := if 0 ≤ (jw (s1.1 + (1 : Int))) ∧ (jw (s1.1 + (1 : Int))) < (X.1 : Int) then Option.bind (α := Int × jm) (jf_317 ((X.2 (jw (s1.1 + (1 : Int))).toNat).toInt) s1.2) fun p55 => if 0 ≤ (jw (s1.1 + (1 : Int))) ∧ (jw (s1.1 + (1 : Int))) < (X.1 : Int) then Option.bind (α := Int × jm) (jf_263 ((X.2 (jw (s1.1 + (1 : Int))).toNat).toInt) p55.2) fun p56 => Option.bind (α := Int) (jf_186 p56.2) fun p57 => if p57 = p55.1 then if p55.1 = 0 then if (jcmp (jal p56.2 102 0) p56.1) = 0 then some (Sum.inl (jw (s1.1 + 10), p56.2)) else some (Sum.inr ((0 : Int), p56.2)) else some (Sum.inl (jw (s1.1 + 10), p56.2)) else some (Sum.inr ((0 : Int), p56.2)) else none else none
noncomputable def jfM_17 (X : Nat × (Nat → Int32)) (s1 : Int × jm) : Option ((Int × jm) ⊕ (Int × jm)) := if 0 ≤ (jw (s1.1 + (1 : Int))) ∧ (jw (s1.1 + (1 : Int))) < (X.1 : Int) then if 0 ≤ (jw (s1.1 + (2 : Int))) ∧ (jw (s1.1 + (2 : Int))) < (X.1 : Int) then if 0 ≤ (jw (s1.1 + (3 : Int))) ∧ (jw (s1.1 + (3 : Int))) < (X.1 : Int) then Option.bind (α := Int × jm) (jf_318 ((X.2 (jw (s1.1 + (1 : Int))).toNat).toInt) ((X.2 (jw (s1.1 + (2 : Int))).toNat).toInt) ((X.2 (jw (s1.1 + (3 : Int))).toNat).toInt) s1.2) fun p52 => if 0 ≤ (jw (s1.1 + (1 : Int))) ∧ (jw (s1.1 + (1 : Int))) < (X.1 : Int) then if 0 ≤ (jw (s1.1 + (2 : Int))) ∧ (jw (s1.1 + (2 : Int))) < (X.1 : Int) then if 0 ≤ (jw (s1.1 + (3 : Int))) ∧ (jw (s1.1 + (3 : Int))) < (X.1 : Int) then Option.bind (α := Int × jm) (jf_267 ((X.2 (jw (s1.1 + (1 : Int))).toNat).toInt) ((X.2 (jw (s1.1 + (2 : Int))).toNat).toInt) ((X.2 (jw (s1.1 + (3 : Int))).toNat).toInt) p52.2) fun p53 => Option.bind (α := Int) (jf_186 p53.2) fun p54 => if p54 = p52.1 then if p52.1 = 0 then if (jcmp (jal p53.2 102 0) p53.1) = 0 then some (Sum.inl (jw (s1.1 + 10), p53.2)) else some (Sum.inr ((0 : Int), p53.2)) else some (Sum.inl (jw (s1.1 + 10), p53.2)) else some (Sum.inr ((0 : Int), p53.2)) else none else none else none else none else none else none
noncomputable def jfM_18 (X : Nat × (Nat → Int32)) (s1 : Int × jm) : Option ((Int × jm) ⊕ (Int × jm)) := if 0 ≤ (jw (s1.1 + (1 : Int))) ∧ (jw (s1.1 + (1 : Int))) < (X.1 : Int) then if 0 ≤ (jw (s1.1 + (2 : Int))) ∧ (jw (s1.1 + (2 : Int))) < (X.1 : Int) then Option.bind (α := Int × jm) (jf_319 ((X.2 (jw (s1.1 + (1 : Int))).toNat).toInt) ((X.2 (jw (s1.1 + (2 : Int))).toNat).toInt) s1.2) fun p49 => if 0 ≤ (jw (s1.1 + (1 : Int))) ∧ (jw (s1.1 + (1 : Int))) < (X.1 : Int) then if 0 ≤ (jw (s1.1 + (2 : Int))) ∧ (jw (s1.1 + (2 : Int))) < (X.1 : Int) then Option.bind (α := Int × jm) (jf_269 ((X.2 (jw (s1.1 + (1 : Int))).toNat).toInt) ((X.2 (jw (s1.1 + (2 : Int))).toNat).toInt) p49.2) fun p50 => Option.bind (α := Int) (jf_186 p50.2) fun p51 => if p51 = p49.1 then if p49.1 = 0 then if (jcmp (jal p50.2 102 0) p50.1) = 0 then some (Sum.inl (jw (s1.1 + 10), p50.2)) else some (Sum.inr ((0 : Int), p50.2)) else some (Sum.inl (jw (s1.1 + 10), p50.2)) else some (Sum.inr ((0 : Int), p50.2)) else none else none else none else none
noncomputable def jfM_19 (X : Nat × (Nat → Int32)) (s1 : Int × jm) : Option ((Int × jm) ⊕ (Int × jm)) := if 0 ≤ (jw (s1.1 + (1 : Int))) ∧ (jw (s1.1 + (1 : Int))) < (X.1 : Int) then if 0 ≤ (jw (s1.1 + (2 : Int))) ∧ (jw (s1.1 + (2 : Int))) < (X.1 : Int) then if 0 ≤ (jw (s1.1 + (3 : Int))) ∧ (jw (s1.1 + (3 : Int))) < (X.1 : Int) then Option.bind (α := Int × jm) (jf_320 ((X.2 (jw (s1.1 + (1 : Int))).toNat).toInt) ((X.2 (jw (s1.1 + (2 : Int))).toNat).toInt) ((X.2 (jw (s1.1 + (3 : Int))).toNat).toInt) s1.2) fun p46 => if 0 ≤ (jw (s1.1 + (1 : Int))) ∧ (jw (s1.1 + (1 : Int))) < (X.1 : Int) then if 0 ≤ (jw (s1.1 + (2 : Int))) ∧ (jw (s1.1 + (2 : Int))) < (X.1 : Int) then if 0 ≤ (jw (s1.1 + (3 : Int))) ∧ (jw (s1.1 + (3 : Int))) < (X.1 : Int) then Option.bind (α := Int × jm) (jf_273 ((X.2 (jw (s1.1 + (1 : Int))).toNat).toInt) ((X.2 (jw (s1.1 + (2 : Int))).toNat).toInt) ((X.2 (jw (s1.1 + (3 : Int))).toNat).toInt) p46.2) fun p47 => Option.bind (α := Int) (jf_186 p47.2) fun p48 => if p48 = p46.1 then if p46.1 = 0 then if (jcmp (jal p47.2 102 0) p47.1) = 0 then some (Sum.inl (jw (s1.1 + 10), p47.2)) else some (Sum.inr ((0 : Int), p47.2)) else some (Sum.inl (jw (s1.1 + 10), p47.2)) else some (Sum.inr ((0 : Int), p47.2)) else none else none else none else none else none else none
noncomputable def jfM_20 (X : Nat × (Nat → Int32)) (s1 : Int × jm) : Option ((Int × jm) ⊕ (Int × jm)) := if 0 ≤ (jw (s1.1 + (1 : Int))) ∧ (jw (s1.1 + (1 : Int))) < (X.1 : Int) then Option.bind (α := Int × jm) (jf_321 ((X.2 (jw (s1.1 + (1 : Int))).toNat).toInt) s1.2) fun p43 => if 0 ≤ (jw (s1.1 + (1 : Int))) ∧ (jw (s1.1 + (1 : Int))) < (X.1 : Int) then Option.bind (α := Int × jm) (jf_275 ((X.2 (jw (s1.1 + (1 : Int))).toNat).toInt) p43.2) fun p44 => Option.bind (α := Int) (jf_186 p44.2) fun p45 => if p45 = p43.1 then if p43.1 = 0 then if (jcmp (jal p44.2 102 0) p44.1) = 0 then some (Sum.inl (jw (s1.1 + 10), p44.2)) else some (Sum.inr ((0 : Int), p44.2)) else some (Sum.inl (jw (s1.1 + 10), p44.2)) else some (Sum.inr ((0 : Int), p44.2)) else none else none
noncomputable def jfM_21 (X : Nat × (Nat → Int32)) (s1 : Int × jm) : Option ((Int × jm) ⊕ (Int × jm)) := Option.bind (α := Int) (jf_144 s1.2) fun p41 => Option.bind (α := Int × jm) (jf_277 s1.2) fun p42 => if p41 = p42.1 then some (Sum.inl (jw (s1.1 + 10), p42.2)) else some (Sum.inr ((0 : Int), p42.2))
noncomputable def jfM_22 (X : Nat × (Nat → Int32)) (s1 : Int × jm) : Option ((Int × jm) ⊕ (Int × jm)) := if 0 ≤ (jw (s1.1 + (1 : Int))) ∧ (jw (s1.1 + (1 : Int))) < (X.1 : Int) then Option.bind (α := Int × jm) (jf_322 ((X.2 (jw (s1.1 + (1 : Int))).toNat).toInt) s1.2) fun p38 => if 0 ≤ (jw (s1.1 + (1 : Int))) ∧ (jw (s1.1 + (1 : Int))) < (X.1 : Int) then Option.bind (α := Int × jm) (jf_278 ((X.2 (jw (s1.1 + (1 : Int))).toNat).toInt) p38.2) fun p39 => Option.bind (α := Int) (jf_186 p39.2) fun p40 => if p40 = p38.1 then if p38.1 = 0 then if (jcmp (jal p39.2 102 0) p39.1) = 0 then some (Sum.inl (jw (s1.1 + 10), p39.2)) else some (Sum.inr ((0 : Int), p39.2)) else some (Sum.inl (jw (s1.1 + 10), p39.2)) else some (Sum.inr ((0 : Int), p39.2)) else none else none
noncomputable def jfM_23 (X : Nat × (Nat → Int32)) (s1 : Int × jm) : Option ((Int × jm) ⊕ (Int × jm)) := if 0 ≤ (jw (s1.1 + (1 : Int))) ∧ (jw (s1.1 + (1 : Int))) < (X.1 : Int) then if 0 ≤ (jw (s1.1 + (2 : Int))) ∧ (jw (s1.1 + (2 : Int))) < (X.1 : Int) then Option.bind (α := Int × jm) (jf_323 ((X.2 (jw (s1.1 + (1 : Int))).toNat).toInt) ((X.2 (jw (s1.1 + (2 : Int))).toNat).toInt) s1.2) fun p35 => if 0 ≤ (jw (s1.1 + (1 : Int))) ∧ (jw (s1.1 + (1 : Int))) < (X.1 : Int) then if 0 ≤ (jw (s1.1 + (2 : Int))) ∧ (jw (s1.1 + (2 : Int))) < (X.1 : Int) then Option.bind (α := Int × jm) (jf_280 ((X.2 (jw (s1.1 + (1 : Int))).toNat).toInt) ((X.2 (jw (s1.1 + (2 : Int))).toNat).toInt) p35.2) fun p36 => Option.bind (α := Int) (jf_186 p36.2) fun p37 => if p37 = p35.1 then if p35.1 = 0 then if (jcmp (jal p36.2 102 0) p36.1) = 0 then some (Sum.inl (jw (s1.1 + 10), p36.2)) else some (Sum.inr ((0 : Int), p36.2)) else some (Sum.inl (jw (s1.1 + 10), p36.2)) else some (Sum.inr ((0 : Int), p36.2)) else none else none else none else none
noncomputable def jfM_24 (X : Nat × (Nat → Int32)) (s1 : Int × jm) : Option ((Int × jm) ⊕ (Int × jm)) := if 0 ≤ (jw (s1.1 + (1 : Int))) ∧ (jw (s1.1 + (1 : Int))) < (X.1 : Int) then if 0 ≤ (jw (s1.1 + (2 : Int))) ∧ (jw (s1.1 + (2 : Int))) < (X.1 : Int) then Option.bind (α := Int × jm) (jf_324 ((X.2 (jw (s1.1 + (1 : Int))).toNat).toInt) ((X.2 (jw (s1.1 + (2 : Int))).toNat).toInt) s1.2) fun p32 => if 0 ≤ (jw (s1.1 + (1 : Int))) ∧ (jw (s1.1 + (1 : Int))) < (X.1 : Int) then if 0 ≤ (jw (s1.1 + (2 : Int))) ∧ (jw (s1.1 + (2 : Int))) < (X.1 : Int) then Option.bind (α := Int × jm) (jf_283 ((X.2 (jw (s1.1 + (1 : Int))).toNat).toInt) ((X.2 (jw (s1.1 + (2 : Int))).toNat).toInt) p32.2) fun p33 => Option.bind (α := Int) (jf_186 p33.2) fun p34 => if p34 = p32.1 then if p32.1 = 0 then if (jcmp (jal p33.2 102 0) p33.1) = 0 then some (Sum.inl (jw (s1.1 + 10), p33.2)) else some (Sum.inr ((0 : Int), p33.2)) else some (Sum.inl (jw (s1.1 + 10), p33.2)) else some (Sum.inr ((0 : Int), p33.2)) else none else none else none else none
noncomputable def jfM_25 (X : Nat × (Nat → Int32)) (s1 : Int × jm) : Option ((Int × jm) ⊕ (Int × jm)) := Option.bind (α := Int × jm) (jf_145 s1.2) fun p30 => Option.bind (α := Int × jm) (jf_284 p30.2) fun p31 => if p30.1 = p31.1 then some (Sum.inl (jw (s1.1 + 10), p31.2)) else some (Sum.inr ((0 : Int), p31.2))
noncomputable def jfM_26 (X : Nat × (Nat → Int32)) (s1 : Int × jm) : Option ((Int × jm) ⊕ (Int × jm)) := if 0 ≤ (jw (s1.1 + (1 : Int))) ∧ (jw (s1.1 + (1 : Int))) < (X.1 : Int) then Option.bind (α := Int × jm) (jf_325 ((X.2 (jw (s1.1 + (1 : Int))).toNat).toInt) s1.2) fun p27 => if 0 ≤ (jw (s1.1 + (1 : Int))) ∧ (jw (s1.1 + (1 : Int))) < (X.1 : Int) then Option.bind (α := Int × jm) (jf_286 ((X.2 (jw (s1.1 + (1 : Int))).toNat).toInt) p27.2) fun p28 => Option.bind (α := Int) (jf_186 p28.2) fun p29 => if p29 = p27.1 then if p27.1 = 0 then if (jcmp (jal p28.2 102 0) p28.1) = 0 then some (Sum.inl (jw (s1.1 + 10), p28.2)) else some (Sum.inr ((0 : Int), p28.2)) else some (Sum.inl (jw (s1.1 + 10), p28.2)) else some (Sum.inr ((0 : Int), p28.2)) else none else none
noncomputable def jfM_27 (X : Nat × (Nat → Int32)) (s1 : Int × jm) : Option ((Int × jm) ⊕ (Int × jm)) := if 0 ≤ (jw (s1.1 + (1 : Int))) ∧ (jw (s1.1 + (1 : Int))) < (X.1 : Int) then if 0 ≤ (jw (s1.1 + (2 : Int))) ∧ (jw (s1.1 + (2 : Int))) < (X.1 : Int) then if 0 ≤ (jw (s1.1 + (3 : Int))) ∧ (jw (s1.1 + (3 : Int))) < (X.1 : Int) then if 0 ≤ (jw (s1.1 + (4 : Int))) ∧ (jw (s1.1 + (4 : Int))) < (X.1 : Int) then Option.bind (α := Int × jm) (jf_326 ((X.2 (jw (s1.1 + (1 : Int))).toNat).toInt) ((X.2 (jw (s1.1 + (2 : Int))).toNat).toInt) ((X.2 (jw (s1.1 + (3 : Int))).toNat).toInt) ((X.2 (jw (s1.1 + (4 : Int))).toNat).toInt) s1.2) fun p24 => if 0 ≤ (jw (s1.1 + (1 : Int))) ∧ (jw (s1.1 + (1 : Int))) < (X.1 : Int) then if 0 ≤ (jw (s1.1 + (2 : Int))) ∧ (jw (s1.1 + (2 : Int))) < (X.1 : Int) then if 0 ≤ (jw (s1.1 + (3 : Int))) ∧ (jw (s1.1 + (3 : Int))) < (X.1 : Int) then if 0 ≤ (jw (s1.1 + (4 : Int))) ∧ (jw (s1.1 + (4 : Int))) < (X.1 : Int) then Option.bind (α := Int × jm) (jf_287 ((X.2 (jw (s1.1 + (1 : Int))).toNat).toInt) ((X.2 (jw (s1.1 + (2 : Int))).toNat).toInt) ((X.2 (jw (s1.1 + (3 : Int))).toNat).toInt) ((X.2 (jw (s1.1 + (4 : Int))).toNat).toInt) p24.2) fun p25 => Option.bind (α := Int) (jf_186 p25.2) fun p26 => if p26 = p24.1 then if p24.1 = 0 then if (jcmp (jal p25.2 102 0) p25.1) = 0 then some (Sum.inl (jw (s1.1 + 10), p25.2)) else some (Sum.inr ((0 : Int), p25.2)) else some (Sum.inl (jw (s1.1 + 10), p25.2)) else some (Sum.inr ((0 : Int), p25.2)) else none else none else none else none else none else none else none else none
noncomputable def jfM_28 (X : Nat × (Nat → Int32)) (s1 : Int × jm) : Option ((Int × jm) ⊕ (Int × jm)) := if 0 ≤ (jw (s1.1 + (1 : Int))) ∧ (jw (s1.1 + (1 : Int))) < (X.1 : Int) then if 0 ≤ (jw (s1.1 + (2 : Int))) ∧ (jw (s1.1 + (2 : Int))) < (X.1 : Int) then if 0 ≤ (jw (s1.1 + (3 : Int))) ∧ (jw (s1.1 + (3 : Int))) < (X.1 : Int) then if 0 ≤ (jw (s1.1 + (4 : Int))) ∧ (jw (s1.1 + (4 : Int))) < (X.1 : Int) then Option.bind (α := Int × jm) (jf_327 ((X.2 (jw (s1.1 + (1 : Int))).toNat).toInt) ((X.2 (jw (s1.1 + (2 : Int))).toNat).toInt) ((X.2 (jw (s1.1 + (3 : Int))).toNat).toInt) ((X.2 (jw (s1.1 + (4 : Int))).toNat).toInt) s1.2) fun p21 => if 0 ≤ (jw (s1.1 + (1 : Int))) ∧ (jw (s1.1 + (1 : Int))) < (X.1 : Int) then if 0 ≤ (jw (s1.1 + (2 : Int))) ∧ (jw (s1.1 + (2 : Int))) < (X.1 : Int) then if 0 ≤ (jw (s1.1 + (3 : Int))) ∧ (jw (s1.1 + (3 : Int))) < (X.1 : Int) then if 0 ≤ (jw (s1.1 + (4 : Int))) ∧ (jw (s1.1 + (4 : Int))) < (X.1 : Int) then Option.bind (α := Int × jm) (jf_289 ((X.2 (jw (s1.1 + (1 : Int))).toNat).toInt) ((X.2 (jw (s1.1 + (2 : Int))).toNat).toInt) ((X.2 (jw (s1.1 + (3 : Int))).toNat).toInt) ((X.2 (jw (s1.1 + (4 : Int))).toNat).toInt) p21.2) fun p22 => Option.bind (α := Int) (jf_186 p22.2) fun p23 => if p23 = p21.1 then if p21.1 = 0 then if (jcmp (jal p22.2 102 0) p22.1) = 0 then some (Sum.inl (jw (s1.1 + 10), p22.2)) else some (Sum.inr ((0 : Int), p22.2)) else some (Sum.inl (jw (s1.1 + 10), p22.2)) else some (Sum.inr ((0 : Int), p22.2)) else none else none else none else none else none else none else none else none
noncomputable def jfM_29 (X : Nat × (Nat → Int32)) (s1 : Int × jm) : Option ((Int × jm) ⊕ (Int × jm)) := if 0 ≤ (jw (s1.1 + (1 : Int))) ∧ (jw (s1.1 + (1 : Int))) < (X.1 : Int) then if 0 ≤ (jw (s1.1 + (2 : Int))) ∧ (jw (s1.1 + (2 : Int))) < (X.1 : Int) then if 0 ≤ (jw (s1.1 + (3 : Int))) ∧ (jw (s1.1 + (3 : Int))) < (X.1 : Int) then Option.bind (α := Int × jm) (jf_328 ((X.2 (jw (s1.1 + (1 : Int))).toNat).toInt) ((X.2 (jw (s1.1 + (2 : Int))).toNat).toInt) ((X.2 (jw (s1.1 + (3 : Int))).toNat).toInt) s1.2) fun p18 => if 0 ≤ (jw (s1.1 + (1 : Int))) ∧ (jw (s1.1 + (1 : Int))) < (X.1 : Int) then if 0 ≤ (jw (s1.1 + (2 : Int))) ∧ (jw (s1.1 + (2 : Int))) < (X.1 : Int) then if 0 ≤ (jw (s1.1 + (3 : Int))) ∧ (jw (s1.1 + (3 : Int))) < (X.1 : Int) then Option.bind (α := Int × jm) (jf_291 ((X.2 (jw (s1.1 + (1 : Int))).toNat).toInt) ((X.2 (jw (s1.1 + (2 : Int))).toNat).toInt) ((X.2 (jw (s1.1 + (3 : Int))).toNat).toInt) p18.2) fun p19 => Option.bind (α := Int) (jf_186 p19.2) fun p20 => if p20 = p18.1 then if p18.1 = 0 then if (jcmp (jal p19.2 102 0) p19.1) = 0 then some (Sum.inl (jw (s1.1 + 10), p19.2)) else some (Sum.inr ((0 : Int), p19.2)) else some (Sum.inl (jw (s1.1 + 10), p19.2)) else some (Sum.inr ((0 : Int), p19.2)) else none else none else none else none else none else none
noncomputable def jfM_30 (X : Nat × (Nat → Int32)) (s1 : Int × jm) : Option ((Int × jm) ⊕ (Int × jm)) := if 0 ≤ (jw (s1.1 + (1 : Int))) ∧ (jw (s1.1 + (1 : Int))) < (X.1 : Int) then Option.bind (α := Int × jm) (jf_329 ((X.2 (jw (s1.1 + (1 : Int))).toNat).toInt) s1.2) fun p15 => if 0 ≤ (jw (s1.1 + (1 : Int))) ∧ (jw (s1.1 + (1 : Int))) < (X.1 : Int) then Option.bind (α := Int × jm) (jf_292 ((X.2 (jw (s1.1 + (1 : Int))).toNat).toInt) p15.2) fun p16 => Option.bind (α := Int) (jf_186 p16.2) fun p17 => if p17 = p15.1 then if p15.1 = 0 then if (jcmp (jal p16.2 102 0) p16.1) = 0 then some (Sum.inl (jw (s1.1 + 10), p16.2)) else some (Sum.inr ((0 : Int), p16.2)) else some (Sum.inl (jw (s1.1 + 10), p16.2)) else some (Sum.inr ((0 : Int), p16.2)) else none else none
noncomputable def jfM_31 (X : Nat × (Nat → Int32)) (s1 : Int × jm) : Option ((Int × jm) ⊕ (Int × jm)) := if 0 ≤ (jw (s1.1 + (1 : Int))) ∧ (jw (s1.1 + (1 : Int))) < (X.1 : Int) then if 0 ≤ (jw (s1.1 + (2 : Int))) ∧ (jw (s1.1 + (2 : Int))) < (X.1 : Int) then if 0 ≤ (jw (s1.1 + (3 : Int))) ∧ (jw (s1.1 + (3 : Int))) < (X.1 : Int) then if 0 ≤ (jw (s1.1 + (4 : Int))) ∧ (jw (s1.1 + (4 : Int))) < (X.1 : Int) then Option.bind (α := Int × jm) (jf_330 ((X.2 (jw (s1.1 + (1 : Int))).toNat).toInt) ((X.2 (jw (s1.1 + (2 : Int))).toNat).toInt) ((X.2 (jw (s1.1 + (3 : Int))).toNat).toInt) ((X.2 (jw (s1.1 + (4 : Int))).toNat).toInt) s1.2) fun p12 => if 0 ≤ (jw (s1.1 + (1 : Int))) ∧ (jw (s1.1 + (1 : Int))) < (X.1 : Int) then if 0 ≤ (jw (s1.1 + (2 : Int))) ∧ (jw (s1.1 + (2 : Int))) < (X.1 : Int) then if 0 ≤ (jw (s1.1 + (3 : Int))) ∧ (jw (s1.1 + (3 : Int))) < (X.1 : Int) then if 0 ≤ (jw (s1.1 + (4 : Int))) ∧ (jw (s1.1 + (4 : Int))) < (X.1 : Int) then Option.bind (α := Int × jm) (jf_293 ((X.2 (jw (s1.1 + (1 : Int))).toNat).toInt) ((X.2 (jw (s1.1 + (2 : Int))).toNat).toInt) ((X.2 (jw (s1.1 + (3 : Int))).toNat).toInt) ((X.2 (jw (s1.1 + (4 : Int))).toNat).toInt) p12.2) fun p13 => Option.bind (α := Int) (jf_186 p13.2) fun p14 => if p14 = p12.1 then if p12.1 = 0 then if (jcmp (jal p13.2 102 0) p13.1) = 0 then some (Sum.inl (jw (s1.1 + 10), p13.2)) else some (Sum.inr ((0 : Int), p13.2)) else some (Sum.inl (jw (s1.1 + 10), p13.2)) else some (Sum.inr ((0 : Int), p13.2)) else none else none else none else none else none else none else none else none
noncomputable def jfM_32 (X : Nat × (Nat → Int32)) (s1 : Int × jm) : Option ((Int × jm) ⊕ (Int × jm)) := if 0 ≤ (jw (s1.1 + (1 : Int))) ∧ (jw (s1.1 + (1 : Int))) < (X.1 : Int) then if 0 ≤ (jw (s1.1 + (2 : Int))) ∧ (jw (s1.1 + (2 : Int))) < (X.1 : Int) then if 0 ≤ (jw (s1.1 + (3 : Int))) ∧ (jw (s1.1 + (3 : Int))) < (X.1 : Int) then if 0 ≤ (jw (s1.1 + (4 : Int))) ∧ (jw (s1.1 + (4 : Int))) < (X.1 : Int) then if 0 ≤ (jw (s1.1 + (5 : Int))) ∧ (jw (s1.1 + (5 : Int))) < (X.1 : Int) then Option.bind (α := Int × jm) (jf_331 ((X.2 (jw (s1.1 + (1 : Int))).toNat).toInt) ((X.2 (jw (s1.1 + (2 : Int))).toNat).toInt) ((X.2 (jw (s1.1 + (3 : Int))).toNat).toInt) ((X.2 (jw (s1.1 + (4 : Int))).toNat).toInt) ((X.2 (jw (s1.1 + (5 : Int))).toNat).toInt) s1.2) fun p9 => if 0 ≤ (jw (s1.1 + (1 : Int))) ∧ (jw (s1.1 + (1 : Int))) < (X.1 : Int) then if 0 ≤ (jw (s1.1 + (2 : Int))) ∧ (jw (s1.1 + (2 : Int))) < (X.1 : Int) then if 0 ≤ (jw (s1.1 + (3 : Int))) ∧ (jw (s1.1 + (3 : Int))) < (X.1 : Int) then if 0 ≤ (jw (s1.1 + (4 : Int))) ∧ (jw (s1.1 + (4 : Int))) < (X.1 : Int) then if 0 ≤ (jw (s1.1 + (5 : Int))) ∧ (jw (s1.1 + (5 : Int))) < (X.1 : Int) then Option.bind (α := Int × jm) (jf_297 ((X.2 (jw (s1.1 + (1 : Int))).toNat).toInt) ((X.2 (jw (s1.1 + (2 : Int))).toNat).toInt) ((X.2 (jw (s1.1 + (3 : Int))).toNat).toInt) ((X.2 (jw (s1.1 + (4 : Int))).toNat).toInt) ((X.2 (jw (s1.1 + (5 : Int))).toNat).toInt) p9.2) fun p10 => Option.bind (α := Int) (jf_186 p10.2) fun p11 => if p11 = p9.1 then if p9.1 = 0 then if (jcmp (jal p10.2 102 0) p10.1) = 0 then some (Sum.inl (jw (s1.1 + 10), p10.2)) else some (Sum.inr ((0 : Int), p10.2)) else some (Sum.inl (jw (s1.1 + 10), p10.2)) else some (Sum.inr ((0 : Int), p10.2)) else none else none else none else none else none else none else none else none else none else none
noncomputable def jfM_33 (X : Nat × (Nat → Int32)) (s1 : Int × jm) : Option ((Int × jm) ⊕ (Int × jm)) := Option.bind (α := Int × jm) (jf_146 s1.2) fun p7 => Option.bind (α := Int × jm) (jf_298 p7.2) fun p8 => if p7.1 = p8.1 then some (Sum.inl (jw (s1.1 + 10), p8.2)) else some (Sum.inr ((0 : Int), p8.2))
noncomputable def jfM_34 (X : Nat × (Nat → Int32)) (s1 : Int × jm) : Option ((Int × jm) ⊕ (Int × jm)) := Option.bind (α := Int × jm) (jf_147 s1.2) fun p5 => Option.bind (α := Int × jm) (jf_301 p5.2) fun p6 => if p5.1 = p6.1 then some (Sum.inl (jw (s1.1 + 10), p6.2)) else some (Sum.inr ((0 : Int), p6.2))
noncomputable def jfM_35 (X : Nat × (Nat → Int32)) (s1 : Int × jm) : Option ((Int × jm) ⊕ (Int × jm)) := if 0 ≤ (jw (s1.1 + (1 : Int))) ∧ (jw (s1.1 + (1 : Int))) < (X.1 : Int) then Option.bind (α := Int) (jf_148 ((X.2 (jw (s1.1 + (1 : Int))).toNat).toInt) s1.2) fun p3 => if 0 ≤ (jw (s1.1 + (1 : Int))) ∧ (jw (s1.1 + (1 : Int))) < (X.1 : Int) then Option.bind (α := Int × jm) (jf_302 ((X.2 (jw (s1.1 + (1 : Int))).toNat).toInt) s1.2) fun p4 => if p3 = p4.1 then some (Sum.inl (jw (s1.1 + 10), p4.2)) else some (Sum.inr ((0 : Int), p4.2)) else none else none
noncomputable def jfM_36 (X : Nat × (Nat → Int32)) (s1 : Int × jm) : Option ((Int × jm) ⊕ (Int × jm)) := if 0 ≤ (jw (s1.1 + (1 : Int))) ∧ (jw (s1.1 + (1 : Int))) < (X.1 : Int) then Option.bind (α := Int) (jf_149 ((X.2 (jw (s1.1 + (1 : Int))).toNat).toInt) s1.2) fun p1 => if 0 ≤ (jw (s1.1 + (1 : Int))) ∧ (jw (s1.1 + (1 : Int))) < (X.1 : Int) then Option.bind (α := Int × jm) (jf_303 ((X.2 (jw (s1.1 + (1 : Int))).toNat).toInt) s1.2) fun p2 => if p1 = p2.1 then some (Sum.inl (jw (s1.1 + 10), p2.2)) else some (Sum.inr ((0 : Int), p2.2)) else none else none
noncomputable def jf_332 (X : Nat × (Nat → Int32)) (m : jm) : Option (Int × jm) := jlp (α := Int × jm) (β := Int × jm) (fun s1 => if (jw ((X.1 : Int) - (10 : Int))) < s1.1 then some (Sum.inr ((1 : Int), s1.2)) else if 0 ≤ s1.1 ∧ s1.1 < (X.1 : Int) then if (jband ((X.2 s1.1.toNat).toInt) (63 : Int)) = 0 then jfM_0 X s1 else if (jband ((X.2 s1.1.toNat).toInt) (63 : Int)) = 1 then jfM_1 X s1 else if (jband ((X.2 s1.1.toNat).toInt) (63 : Int)) = 2 then jfM_2 X s1 else if (jband ((X.2 s1.1.toNat).toInt) (63 : Int)) = 3 then jfM_3 X s1 else if (jband ((X.2 s1.1.toNat).toInt) (63 : Int)) = 4 then jfM_4 X s1 else if (jband ((X.2 s1.1.toNat).toInt) (63 : Int)) = 5 then jfM_5 X s1 else if (jband ((X.2 s1.1.toNat).toInt) (63 : Int)) = 6 then jfM_6 X s1 else if (jband ((X.2 s1.1.toNat).toInt) (63 : Int)) = 7 then jfM_7 X s1 else if (jband ((X.2 s1.1.toNat).toInt) (63 : Int)) = 8 then jfM_8 X s1 else if (jband ((X.2 s1.1.toNat).toInt) (63 : Int)) = 9 then jfM_9 X s1 else if (jband ((X.2 s1.1.toNat).toInt) (63 : Int)) = 10 then jfM_10 X s1 else if (jband ((X.2 s1.1.toNat).toInt) (63 : Int)) = 11 then jfM_11 X s1 else if (jband ((X.2 s1.1.toNat).toInt) (63 : Int)) = 12 then jfM_12 X s1 else if (jband ((X.2 s1.1.toNat).toInt) (63 : Int)) = 13 then jfM_13 X s1 else if (jband ((X.2 s1.1.toNat).toInt) (63 : Int)) = 14 then jfM_14 X s1 else if (jband ((X.2 s1.1.toNat).toInt) (63 : Int)) = 15 then jfM_15 X s1 else if (jband ((X.2 s1.1.toNat).toInt) (63 : Int)) = 16 then jfM_16 X s1 else if (jband ((X.2 s1.1.toNat).toInt) (63 : Int)) = 17 then jfM_17 X s1 else if (jband ((X.2 s1.1.toNat).toInt) (63 : Int)) = 18 then jfM_18 X s1 else if (jband ((X.2 s1.1.toNat).toInt) (63 : Int)) = 19 then jfM_19 X s1 else if (jband ((X.2 s1.1.toNat).toInt) (63 : Int)) = 20 then jfM_20 X s1 else if (jband ((X.2 s1.1.toNat).toInt) (63 : Int)) = 21 then jfM_21 X s1 else if (jband ((X.2 s1.1.toNat).toInt) (63 : Int)) = 22 then jfM_22 X s1 else if (jband ((X.2 s1.1.toNat).toInt) (63 : Int)) = 23 then jfM_23 X s1 else if (jband ((X.2 s1.1.toNat).toInt) (63 : Int)) = 24 then jfM_24 X s1 else if (jband ((X.2 s1.1.toNat).toInt) (63 : Int)) = 25 then jfM_25 X s1 else if (jband ((X.2 s1.1.toNat).toInt) (63 : Int)) = 26 then jfM_26 X s1 else if (jband ((X.2 s1.1.toNat).toInt) (63 : Int)) = 27 then jfM_27 X s1 else if (jband ((X.2 s1.1.toNat).toInt) (63 : Int)) = 28 then jfM_28 X s1 else if (jband ((X.2 s1.1.toNat).toInt) (63 : Int)) = 29 then jfM_29 X s1 else if (jband ((X.2 s1.1.toNat).toInt) (63 : Int)) = 30 then jfM_30 X s1 else if (jband ((X.2 s1.1.toNat).toInt) (63 : Int)) = 31 then jfM_31 X s1 else if (jband ((X.2 s1.1.toNat).toInt) (63 : Int)) = 32 then jfM_32 X s1 else if (jband ((X.2 s1.1.toNat).toInt) (63 : Int)) = 33 then jfM_33 X s1 else if (jband ((X.2 s1.1.toNat).toInt) (63 : Int)) = 34 then jfM_34 X s1 else if (jband ((X.2 s1.1.toNat).toInt) (63 : Int)) = 35 then jfM_35 X s1 else if (jband ((X.2 s1.1.toNat).toInt) (63 : Int)) = 36 then jfM_36 X s1 else some (Sum.inl (jw (s1.1 + 10), s1.2)) else none) jfu ((0 : Int), m)
set_option maxRecDepth 20000 in
set_option maxHeartbeats 4000000 in
theorem jc_332 {X : Nat × (Nat → Int32)} {N d : Nat} (hX5 : X.1 ≤ 5120) (hN3 : 103 ≤ N) (hd : 66 ≤ d) {m : jm} {P : Int × jm → Prop} {Q : px_Q} (h : jo (jf_332 X m) P) (hQ : ∀ p : Int × jm, jb p.1 → P p → Q (.inl (some (jv p.1))) (jmem N p.2)) (o5 o6 o7 : Option Value) (u : Nat × Nat) (hub : jbnd 0 u) : jp X (px_C X d) px_m332 Q N 23 [some (.ref 1200), some (.ref 0), some (.ref 67), some (.ref 102), some (jv 0), o5, o6, o7] [] m u := by
  unfold jf_332 at h
  have hN : 102 ≤ N := Nat.le_of_succ_le hN3
  have hX : jg (X.1 : Int) := by unfold jg; omega
  refine jr_lp (fun s1 => 0 ≤ s1.1 ∧ s1.1 ≤ 5120) (fun s1 => ∀ (o5 o6 o7 : Option Value) (u : Nat × Nat), jbnd s1.1 u → jp X (px_C X d) px_m332 Q N 23 [some (.ref 1200), some (.ref 0), some (.ref 67), some (.ref 102), some (jv s1.1), o5, o6, o7] [] s1.2 u) h jM_z (fun s1 hs1 R3 k2 h o5 o6 o7 u hub => ?_) o5 o6 o7 u hub
  have hu : ju px_m332 u := jM_hu hs1 hub
  refine jr_il (pc' := 25) rfl rfl rfl (jr_al_n (pc' := 26) rfl rfl rfl (jr_lenX (pc' := 27) rfl rfl (jr_bi (pc' := 29) rfl rfl rfl (jr_sub (pc' := 30) rfl rfl ?_))))
  refine jr_cgt (pa := 2461) (pb := 33) rfl rfl rfl (jgM hs1) jg_w h (fun hc h => ?_) (fun hlp h => ?_)
  · refine jr_ic (pc' := 2462) rfl rfl ?_
    exact jr_retb rfl hu rfl jb_1 (hQ ((1 : Int), s1.2) jb_1 h)
  · refine jr_al_n (pc' := 34) rfl rfl rfl (jr_il (pc' := 36) rfl rfl rfl ?_)
    refine jr_xa (pc' := 37) rfl rfl (jgM hs1) h (fun hc h => ?_)
    refine jr_bi (pc' := 39) rfl rfl rfl (jr_and (pc' := 40) rfl rfl ?_)
    refine jo_i h (fun hc h => ?_) (fun hc0 h => ?_)
    · unfold jfM_0 at h
      refine jr_tsc (pc' := 204) (0) rfl jg_band hc (by decide) rfl rfl (jr_al_n (pc' := 205) rfl rfl rfl (jr_al_n (pc' := 206) rfl rfl rfl (jr_il (pc' := 208) rfl rfl rfl (jr_ic (pc' := 209) rfl rfl (jr_add (pc' := 210) rfl rfl ?_)))))
      refine jr_xa (pc' := 211) rfl rfl jg_w h (fun hc h => ?_)
      refine jr_al_n (pc' := 212) rfl rfl rfl (jr_il (pc' := 214) rfl rfl rfl (jr_ic (pc' := 215) rfl rfl (jr_add (pc' := 216) rfl rfl ?_)))
      refine jr_xa (pc' := 217) rfl rfl jg_w h (fun hc h => ?_)
      refine jr_al_n (pc' := 218) rfl rfl rfl (jr_il (pc' := 220) rfl rfl rfl (jr_ic (pc' := 221) rfl rfl (jr_add (pc' := 222) rfl rfl ?_)))
      refine jr_xa (pc' := 223) rfl rfl jg_w h (fun hc h => ?_)
      refine jr_al_n (pc' := 224) rfl rfl rfl (jr_il (pc' := 226) rfl rfl rfl (jr_ic (pc' := 227) rfl rfl (jr_add (pc' := 228) rfl rfl ?_)))
      refine jr_xa (pc' := 229) rfl rfl jg_w h (fun hc h => ?_)
      refine jr_al_n (pc' := 230) rfl rfl rfl (jr_il (pc' := 232) rfl rfl rfl (jr_ic (pc' := 233) rfl rfl (jr_add (pc' := 234) rfl rfl ?_)))
      refine jr_xa (pc' := 235) rfl rfl jg_w h (fun hc h => ?_)
      refine jr_cv_i (pc' := 238) [] rfl rfl jlk_13_109 jq_141 jbd_141 (jl rfl) rfl (jl rfl) hu rfl (jk rfl hN) (jd_0.trans jo_141.symm) (fun Q' hq => jc_141 hN (Nat.le_trans (jl rfl) hd) jg_i jg_i jg_i jg_i jg_i (jo_b h) hq) (fun p101 hp101 h => ?_)
      refine jr_al_n (pc' := 239) rfl rfl rfl (jr_al_n (pc' := 240) rfl rfl rfl (jr_il (pc' := 242) rfl rfl rfl (jr_ic (pc' := 243) rfl rfl (jr_add (pc' := 244) rfl rfl ?_))))
      refine jr_xa (pc' := 245) rfl rfl jg_w h (fun hc h => ?_)
      refine jr_al_n (pc' := 246) rfl rfl rfl (jr_il (pc' := 248) rfl rfl rfl (jr_ic (pc' := 249) rfl rfl (jr_add (pc' := 250) rfl rfl ?_)))
      refine jr_xa (pc' := 251) rfl rfl jg_w h (fun hc h => ?_)
      refine jr_al_n (pc' := 252) rfl rfl rfl (jr_il (pc' := 254) rfl rfl rfl (jr_ic (pc' := 255) rfl rfl (jr_add (pc' := 256) rfl rfl ?_)))
      refine jr_xa (pc' := 257) rfl rfl jg_w h (fun hc h => ?_)
      refine jr_al_n (pc' := 258) rfl rfl rfl (jr_il (pc' := 260) rfl rfl rfl (jr_ic (pc' := 261) rfl rfl (jr_add (pc' := 262) rfl rfl ?_)))
      refine jr_xa (pc' := 263) rfl rfl jg_w h (fun hc h => ?_)
      refine jr_al_n (pc' := 264) rfl rfl rfl (jr_il (pc' := 266) rfl rfl rfl (jr_ic (pc' := 267) rfl rfl (jr_add (pc' := 268) rfl rfl ?_)))
      refine jr_xa (pc' := 269) rfl rfl jg_w h (fun hc h => ?_)
      refine jr_cv_i (pc' := 272) [_] rfl rfl jlk_13_112 jq_191 jbd_191 (jl rfl) rfl (jl rfl) hu rfl (jk rfl hN) (jd_67.trans jo_191.symm) (fun Q' hq => jc_191 hN (Nat.le_trans (jl rfl) hd) jg_i jg_i jg_i jg_i jg_i (jo_b h) hq) (fun p102 hp102 h => ?_)
      refine jr_ceq (pa := 2455) (pb := 275) rfl rfl rfl hp101 hp102 h (fun hc h => ?_) (fun hc h => ?_)
      · refine jr_inc (pc' := 2458) (L' := [_, _, _, _, _, _, _, _]) rfl rfl rfl (jl rfl) rfl rfl (jr_goto (pc' := 23) rfl rfl ?_)
        exact k2 (jw (s1.1 + 10), p102.2) (jM_i hX5 hs1 hlp) h _ _ _ _ (jM_0 hX5 hs1 hlp hub)
      · refine jr_ic (pc' := 276) rfl rfl ?_
        exact jr_retb rfl hu rfl jb_0 (hQ ((0 : Int), p102.2) jb_0 h)
    · refine jo_i h (fun hc h => ?_) (fun hc1 h => ?_)
      · unfold jfM_1 at h
        refine jr_tsc (pc' := 277) (1) rfl jg_band hc (by decide) rfl rfl (jr_al_n (pc' := 278) rfl rfl rfl (jr_al_n (pc' := 279) rfl rfl rfl (jr_il (pc' := 281) rfl rfl rfl (jr_ic (pc' := 282) rfl rfl (jr_add (pc' := 283) rfl rfl ?_)))))
        refine jr_xa (pc' := 284) rfl rfl jg_w h (fun hc h => ?_)
        refine jr_al_n (pc' := 285) rfl rfl rfl ?_
        refine jr_cw (pc' := 288) (b1 := 1) (b2 := 6) [] rfl rfl jlk_13_113 rfl (jl rfl) (by decide) rfl (jl rfl) rfl (jl rfl) (jM_hw hs1 hub (by decide) (by decide)) (fun Q' hq => jc_304 hN3 (Nat.le_trans (jl rfl) hd) jg_i (jo_b h) hq) (fun p98 hp98 h => ?_)
        have hu := jM_hw (b1 := 1) (b2 := 6) hs1 hub (by decide) (by decide)
        refine jr_is (pc' := 290) (L' := [_, _, _, _, _, _, _, _]) rfl rfl (jl rfl) rfl rfl (jr_al_n (pc' := 291) rfl rfl rfl (jr_al_n (pc' := 292) rfl rfl rfl (jr_il (pc' := 294) rfl rfl rfl (jr_ic (pc' := 295) rfl rfl (jr_add (pc' := 296) rfl rfl ?_)))))
        refine jr_xa (pc' := 297) rfl rfl jg_w h (fun hc h => ?_)
        refine jr_cv_i (pc' := 300) [] rfl rfl jlk_13_118 jq_193 jbd_193 (jl rfl) rfl (jl rfl) hu rfl (jk rfl hN) (jd_67.trans jo_193.symm) (fun Q' hq => jc_193 hN (Nat.le_trans (jl rfl) hd) jg_i (jo_b h) hq) (fun p99 hp99 h => ?_)
        refine jr_is (pc' := 302) (L' := [_, _, _, _, _, _, _, _]) rfl rfl (jl rfl) rfl rfl (jr_al_n (pc' := 303) rfl rfl rfl ?_)
        refine jr_cv_p (pc' := 306) [] rfl rfl jlk_13_119 jq_186 jbd_186 (jl rfl) rfl (jl rfl) hu rfl (jk rfl hN) (jd_67.trans jo_186.symm) (fun Q' hq => jc_186 hN (Nat.le_trans (jl rfl) hd)  (jo_b h) hq) (fun p100 hp100 h => ?_)
        refine jr_il (pc' := 308) rfl rfl rfl ?_
        refine jr_ceq (pa := 313) (pb := 311) rfl rfl rfl hp100 hp98 h (fun hc h => ?_) (fun hc h => ?_)
        · refine jr_il (pc' := 315) rfl rfl rfl ?_
          refine jr_zne (pa := 318) (pb := 330) rfl rfl rfl hp98 h (fun hc h => ?_) (fun hc h => ?_)
          · refine jr_al_n (pc' := 319) rfl rfl rfl (jr_ic (pc' := 320) rfl rfl (jr_la (pc' := 321) rfl rfl hN3 (jr_il (pc' := 323) rfl rfl rfl (jr_i2l (pc' := 324) rfl rfl hp99 (jr_lcmp (pc' := 325) rfl rfl jgl_a (jgl_g hp99) ?_)))))
            refine jr_zeq (pa := 330) (pb := 328) rfl rfl rfl jg_cmp h (fun hc h => ?_) (fun hc h => ?_)
            · refine jr_goto (pc' := 2455) rfl rfl (jr_inc (pc' := 2458) (L' := [_, _, _, _, _, _, _, _]) rfl rfl rfl (jl rfl) rfl rfl (jr_goto (pc' := 23) rfl rfl ?_))
              exact k2 (jw (s1.1 + 10), p99.2) (jM_i hX5 hs1 hlp) h _ _ _ _ (jM_u hX5 hs1 hlp hub (by decide) (by decide))
            · refine jr_ic (pc' := 329) rfl rfl ?_
              exact jr_retb rfl hu rfl jb_0 (hQ ((0 : Int), p99.2) jb_0 h)
          · refine jr_goto (pc' := 2455) rfl rfl (jr_inc (pc' := 2458) (L' := [_, _, _, _, _, _, _, _]) rfl rfl rfl (jl rfl) rfl rfl (jr_goto (pc' := 23) rfl rfl ?_))
            exact k2 (jw (s1.1 + 10), p99.2) (jM_i hX5 hs1 hlp) h _ _ _ _ (jM_u hX5 hs1 hlp hub (by decide) (by decide))
        · refine jr_ic (pc' := 312) rfl rfl ?_
          exact jr_retb rfl hu rfl jb_0 (hQ ((0 : Int), p99.2) jb_0 h)
      · refine jo_i h (fun hc h => ?_) (fun hc2 h => ?_)
        · unfold jfM_2 at h
          refine jr_tsc (pc' := 333) (2) rfl jg_band hc (by decide) rfl rfl (jr_al_n (pc' := 334) rfl rfl rfl (jr_al_n (pc' := 335) rfl rfl rfl (jr_il (pc' := 337) rfl rfl rfl (jr_ic (pc' := 338) rfl rfl (jr_add (pc' := 339) rfl rfl ?_)))))
          refine jr_xa (pc' := 340) rfl rfl jg_w h (fun hc h => ?_)
          refine jr_al_n (pc' := 341) rfl rfl rfl ?_
          refine jr_cw (pc' := 344) (b1 := 1) (b2 := 6) [] rfl rfl jlk_13_123 rfl (jl rfl) (by decide) rfl (jl rfl) rfl (jl rfl) (jM_hw hs1 hub (by decide) (by decide)) (fun Q' hq => jc_305 hN3 (Nat.le_trans (jl rfl) hd) jg_i (jo_b h) hq) (fun p95 hp95 h => ?_)
          have hu := jM_hw (b1 := 1) (b2 := 6) hs1 hub (by decide) (by decide)
          refine jr_is (pc' := 346) (L' := [_, _, _, _, _, _, _, _]) rfl rfl (jl rfl) rfl rfl (jr_al_n (pc' := 347) rfl rfl rfl (jr_al_n (pc' := 348) rfl rfl rfl (jr_il (pc' := 350) rfl rfl rfl (jr_ic (pc' := 351) rfl rfl (jr_add (pc' := 352) rfl rfl ?_)))))
          refine jr_xa (pc' := 353) rfl rfl jg_w h (fun hc h => ?_)
          refine jr_cv_i (pc' := 356) [] rfl rfl jlk_13_125 jq_213 jbd_213 (jl rfl) rfl (jl rfl) hu rfl (jk rfl hN) (jd_67.trans jo_213.symm) (fun Q' hq => jc_213 hN (Nat.le_trans (jl rfl) hd) jg_i (jo_b h) hq) (fun p96 hp96 h => ?_)
          refine jr_is (pc' := 358) (L' := [_, _, _, _, _, _, _, _]) rfl rfl (jl rfl) rfl rfl (jr_al_n (pc' := 359) rfl rfl rfl ?_)
          refine jr_cv_p (pc' := 362) [] rfl rfl jlk_13_119 jq_186 jbd_186 (jl rfl) rfl (jl rfl) hu rfl (jk rfl hN) (jd_67.trans jo_186.symm) (fun Q' hq => jc_186 hN (Nat.le_trans (jl rfl) hd)  (jo_b h) hq) (fun p97 hp97 h => ?_)
          refine jr_il (pc' := 364) rfl rfl rfl ?_
          refine jr_ceq (pa := 369) (pb := 367) rfl rfl rfl hp97 hp95 h (fun hc h => ?_) (fun hc h => ?_)
          · refine jr_il (pc' := 371) rfl rfl rfl ?_
            refine jr_zne (pa := 374) (pb := 386) rfl rfl rfl hp95 h (fun hc h => ?_) (fun hc h => ?_)
            · refine jr_al_n (pc' := 375) rfl rfl rfl (jr_ic (pc' := 376) rfl rfl (jr_la (pc' := 377) rfl rfl hN3 (jr_il (pc' := 379) rfl rfl rfl (jr_i2l (pc' := 380) rfl rfl hp96 (jr_lcmp (pc' := 381) rfl rfl jgl_a (jgl_g hp96) ?_)))))
              refine jr_zeq (pa := 386) (pb := 384) rfl rfl rfl jg_cmp h (fun hc h => ?_) (fun hc h => ?_)
              · refine jr_goto (pc' := 2455) rfl rfl (jr_inc (pc' := 2458) (L' := [_, _, _, _, _, _, _, _]) rfl rfl rfl (jl rfl) rfl rfl (jr_goto (pc' := 23) rfl rfl ?_))
                exact k2 (jw (s1.1 + 10), p96.2) (jM_i hX5 hs1 hlp) h _ _ _ _ (jM_u hX5 hs1 hlp hub (by decide) (by decide))
              · refine jr_ic (pc' := 385) rfl rfl ?_
                exact jr_retb rfl hu rfl jb_0 (hQ ((0 : Int), p96.2) jb_0 h)
            · refine jr_goto (pc' := 2455) rfl rfl (jr_inc (pc' := 2458) (L' := [_, _, _, _, _, _, _, _]) rfl rfl rfl (jl rfl) rfl rfl (jr_goto (pc' := 23) rfl rfl ?_))
              exact k2 (jw (s1.1 + 10), p96.2) (jM_i hX5 hs1 hlp) h _ _ _ _ (jM_u hX5 hs1 hlp hub (by decide) (by decide))
          · refine jr_ic (pc' := 368) rfl rfl ?_
            exact jr_retb rfl hu rfl jb_0 (hQ ((0 : Int), p96.2) jb_0 h)
        · refine jo_i h (fun hc h => ?_) (fun hc3 h => ?_)
          · unfold jfM_3 at h
            refine jr_tsc (pc' := 389) (3) rfl jg_band hc (by decide) rfl rfl (jr_al_n (pc' := 390) rfl rfl rfl (jr_al_n (pc' := 391) rfl rfl rfl (jr_il (pc' := 393) rfl rfl rfl (jr_ic (pc' := 394) rfl rfl (jr_add (pc' := 395) rfl rfl ?_)))))
            refine jr_xa (pc' := 396) rfl rfl jg_w h (fun hc h => ?_)
            refine jr_al_n (pc' := 397) rfl rfl rfl ?_
            refine jr_cw (pc' := 400) (b1 := 1) (b2 := 6) [] rfl rfl jlk_13_126 rfl (jl rfl) (by decide) rfl (jl rfl) rfl (jl rfl) (jM_hw hs1 hub (by decide) (by decide)) (fun Q' hq => jc_306 hN3 (Nat.le_trans (jl rfl) hd) jg_i (jo_b h) hq) (fun p92 hp92 h => ?_)
            have hu := jM_hw (b1 := 1) (b2 := 6) hs1 hub (by decide) (by decide)
            refine jr_is (pc' := 402) (L' := [_, _, _, _, _, _, _, _]) rfl rfl (jl rfl) rfl rfl (jr_al_n (pc' := 403) rfl rfl rfl (jr_al_n (pc' := 404) rfl rfl rfl (jr_il (pc' := 406) rfl rfl rfl (jr_ic (pc' := 407) rfl rfl (jr_add (pc' := 408) rfl rfl ?_)))))
            refine jr_xa (pc' := 409) rfl rfl jg_w h (fun hc h => ?_)
            refine jr_cv_i (pc' := 412) [] rfl rfl jlk_13_128 jq_222 jbd_222 (jl rfl) rfl (jl rfl) hu rfl (jk rfl hN) (jd_67.trans jo_222.symm) (fun Q' hq => jc_222 hN (Nat.le_trans (jl rfl) hd) jg_i (jo_b h) hq) (fun p93 hp93 h => ?_)
            refine jr_is (pc' := 414) (L' := [_, _, _, _, _, _, _, _]) rfl rfl (jl rfl) rfl rfl (jr_al_n (pc' := 415) rfl rfl rfl ?_)
            refine jr_cv_p (pc' := 418) [] rfl rfl jlk_13_119 jq_186 jbd_186 (jl rfl) rfl (jl rfl) hu rfl (jk rfl hN) (jd_67.trans jo_186.symm) (fun Q' hq => jc_186 hN (Nat.le_trans (jl rfl) hd)  (jo_b h) hq) (fun p94 hp94 h => ?_)
            refine jr_il (pc' := 420) rfl rfl rfl ?_
            refine jr_ceq (pa := 425) (pb := 423) rfl rfl rfl hp94 hp92 h (fun hc h => ?_) (fun hc h => ?_)
            · refine jr_il (pc' := 427) rfl rfl rfl ?_
              refine jr_zne (pa := 430) (pb := 442) rfl rfl rfl hp92 h (fun hc h => ?_) (fun hc h => ?_)
              · refine jr_al_n (pc' := 431) rfl rfl rfl (jr_ic (pc' := 432) rfl rfl (jr_la (pc' := 433) rfl rfl hN3 (jr_il (pc' := 435) rfl rfl rfl (jr_i2l (pc' := 436) rfl rfl hp93 (jr_lcmp (pc' := 437) rfl rfl jgl_a (jgl_g hp93) ?_)))))
                refine jr_zeq (pa := 442) (pb := 440) rfl rfl rfl jg_cmp h (fun hc h => ?_) (fun hc h => ?_)
                · refine jr_goto (pc' := 2455) rfl rfl (jr_inc (pc' := 2458) (L' := [_, _, _, _, _, _, _, _]) rfl rfl rfl (jl rfl) rfl rfl (jr_goto (pc' := 23) rfl rfl ?_))
                  exact k2 (jw (s1.1 + 10), p93.2) (jM_i hX5 hs1 hlp) h _ _ _ _ (jM_u hX5 hs1 hlp hub (by decide) (by decide))
                · refine jr_ic (pc' := 441) rfl rfl ?_
                  exact jr_retb rfl hu rfl jb_0 (hQ ((0 : Int), p93.2) jb_0 h)
              · refine jr_goto (pc' := 2455) rfl rfl (jr_inc (pc' := 2458) (L' := [_, _, _, _, _, _, _, _]) rfl rfl rfl (jl rfl) rfl rfl (jr_goto (pc' := 23) rfl rfl ?_))
                exact k2 (jw (s1.1 + 10), p93.2) (jM_i hX5 hs1 hlp) h _ _ _ _ (jM_u hX5 hs1 hlp hub (by decide) (by decide))
            · refine jr_ic (pc' := 424) rfl rfl ?_
              exact jr_retb rfl hu rfl jb_0 (hQ ((0 : Int), p93.2) jb_0 h)
          · refine jo_i h (fun hc h => ?_) (fun hc4 h => ?_)
            · unfold jfM_4 at h
              refine jr_tsc (pc' := 445) (4) rfl jg_band hc (by decide) rfl rfl (jr_al_n (pc' := 446) rfl rfl rfl (jr_al_n (pc' := 447) rfl rfl rfl (jr_il (pc' := 449) rfl rfl rfl (jr_ic (pc' := 450) rfl rfl (jr_add (pc' := 451) rfl rfl ?_)))))
              refine jr_xa (pc' := 452) rfl rfl jg_w h (fun hc h => ?_)
              refine jr_al_n (pc' := 453) rfl rfl rfl ?_
              refine jr_cw (pc' := 456) (b1 := 1) (b2 := 6) [] rfl rfl jlk_13_129 rfl (jl rfl) (by decide) rfl (jl rfl) rfl (jl rfl) (jM_hw hs1 hub (by decide) (by decide)) (fun Q' hq => jc_307 hN3 (Nat.le_trans (jl rfl) hd) jg_i (jo_b h) hq) (fun p89 hp89 h => ?_)
              have hu := jM_hw (b1 := 1) (b2 := 6) hs1 hub (by decide) (by decide)
              refine jr_is (pc' := 458) (L' := [_, _, _, _, _, _, _, _]) rfl rfl (jl rfl) rfl rfl (jr_al_n (pc' := 459) rfl rfl rfl (jr_al_n (pc' := 460) rfl rfl rfl (jr_il (pc' := 462) rfl rfl rfl (jr_ic (pc' := 463) rfl rfl (jr_add (pc' := 464) rfl rfl ?_)))))
              refine jr_xa (pc' := 465) rfl rfl jg_w h (fun hc h => ?_)
              refine jr_cv_i (pc' := 468) [] rfl rfl jlk_13_131 jq_244 jbd_244 (jl rfl) rfl (jl rfl) hu rfl (jk rfl hN) (jd_67.trans jo_244.symm) (fun Q' hq => jc_244 hN (Nat.le_trans (jl rfl) hd) jg_i (jo_b h) hq) (fun p90 hp90 h => ?_)
              refine jr_is (pc' := 470) (L' := [_, _, _, _, _, _, _, _]) rfl rfl (jl rfl) rfl rfl (jr_al_n (pc' := 471) rfl rfl rfl ?_)
              refine jr_cv_p (pc' := 474) [] rfl rfl jlk_13_119 jq_186 jbd_186 (jl rfl) rfl (jl rfl) hu rfl (jk rfl hN) (jd_67.trans jo_186.symm) (fun Q' hq => jc_186 hN (Nat.le_trans (jl rfl) hd)  (jo_b h) hq) (fun p91 hp91 h => ?_)
              refine jr_il (pc' := 476) rfl rfl rfl ?_
              refine jr_ceq (pa := 481) (pb := 479) rfl rfl rfl hp91 hp89 h (fun hc h => ?_) (fun hc h => ?_)
              · refine jr_il (pc' := 483) rfl rfl rfl ?_
                refine jr_zne (pa := 486) (pb := 498) rfl rfl rfl hp89 h (fun hc h => ?_) (fun hc h => ?_)
                · refine jr_al_n (pc' := 487) rfl rfl rfl (jr_ic (pc' := 488) rfl rfl (jr_la (pc' := 489) rfl rfl hN3 (jr_il (pc' := 491) rfl rfl rfl (jr_i2l (pc' := 492) rfl rfl hp90 (jr_lcmp (pc' := 493) rfl rfl jgl_a (jgl_g hp90) ?_)))))
                  refine jr_zeq (pa := 498) (pb := 496) rfl rfl rfl jg_cmp h (fun hc h => ?_) (fun hc h => ?_)
                  · refine jr_goto (pc' := 2455) rfl rfl (jr_inc (pc' := 2458) (L' := [_, _, _, _, _, _, _, _]) rfl rfl rfl (jl rfl) rfl rfl (jr_goto (pc' := 23) rfl rfl ?_))
                    exact k2 (jw (s1.1 + 10), p90.2) (jM_i hX5 hs1 hlp) h _ _ _ _ (jM_u hX5 hs1 hlp hub (by decide) (by decide))
                  · refine jr_ic (pc' := 497) rfl rfl ?_
                    exact jr_retb rfl hu rfl jb_0 (hQ ((0 : Int), p90.2) jb_0 h)
                · refine jr_goto (pc' := 2455) rfl rfl (jr_inc (pc' := 2458) (L' := [_, _, _, _, _, _, _, _]) rfl rfl rfl (jl rfl) rfl rfl (jr_goto (pc' := 23) rfl rfl ?_))
                  exact k2 (jw (s1.1 + 10), p90.2) (jM_i hX5 hs1 hlp) h _ _ _ _ (jM_u hX5 hs1 hlp hub (by decide) (by decide))
              · refine jr_ic (pc' := 480) rfl rfl ?_
                exact jr_retb rfl hu rfl jb_0 (hQ ((0 : Int), p90.2) jb_0 h)
            · refine jo_i h (fun hc h => ?_) (fun hc5 h => ?_)
              · unfold jfM_5 at h
                refine jr_tsc (pc' := 501) (5) rfl jg_band hc (by decide) rfl rfl (jr_al_n (pc' := 502) rfl rfl rfl ?_)
                refine jr_cv_p (pc' := 505) [] rfl rfl jlk_13_132 jq_142 jbd_142 (jl rfl) rfl (jl rfl) hu rfl (jk rfl hN) (jd_0.trans jo_142.symm) (fun Q' hq => jc_142 hN (Nat.le_trans (jl rfl) hd)  (jo_b h) hq) (fun p87 hp87 h => ?_)
                refine jr_al_n (pc' := 506) rfl rfl rfl ?_
                refine jr_cv_i (pc' := 509) [_] rfl rfl jlk_13_135 jq_192 jbd_192 (jl rfl) rfl (jl rfl) hu rfl (jk rfl hN) (jd_67.trans jo_192.symm) (fun Q' hq => jc_192 hN (Nat.le_trans (jl rfl) hd)  (jo_b h) hq) (fun p88 hp88 h => ?_)
                refine jr_ceq (pa := 2455) (pb := 512) rfl rfl rfl hp87 hp88 h (fun hc h => ?_) (fun hc h => ?_)
                · refine jr_inc (pc' := 2458) (L' := [_, _, _, _, _, _, _, _]) rfl rfl rfl (jl rfl) rfl rfl (jr_goto (pc' := 23) rfl rfl ?_)
                  exact k2 (jw (s1.1 + 10), p88.2) (jM_i hX5 hs1 hlp) h _ _ _ _ (jM_0 hX5 hs1 hlp hub)
                · refine jr_ic (pc' := 513) rfl rfl ?_
                  exact jr_retb rfl hu rfl jb_0 (hQ ((0 : Int), p88.2) jb_0 h)
              · refine jo_i h (fun hc h => ?_) (fun hc6 h => ?_)
                · unfold jfM_6 at h
                  refine jr_tsc (pc' := 514) (6) rfl jg_band hc (by decide) rfl rfl (jr_al_n (pc' := 515) rfl rfl rfl ?_)
                  refine jr_cv_i (pc' := 518) [] rfl rfl jlk_13_136 jq_143 jbd_143 (jl rfl) rfl (jl rfl) hu rfl (jk rfl hN) (jd_0.trans jo_143.symm) (fun Q' hq => jc_143 hN (Nat.le_trans (jl rfl) hd)  (jo_b h) hq) (fun p85 hp85 h => ?_)
                  refine jr_al_n (pc' := 519) rfl rfl rfl ?_
                  refine jr_cv_i (pc' := 522) [_] rfl rfl jlk_13_139 jq_245 jbd_245 (jl rfl) rfl (jl rfl) hu rfl (jk rfl hN) (jd_67.trans jo_245.symm) (fun Q' hq => jc_245 hN (Nat.le_trans (jl rfl) hd)  (jo_b h) hq) (fun p86 hp86 h => ?_)
                  refine jr_ceq (pa := 2455) (pb := 525) rfl rfl rfl hp85 hp86 h (fun hc h => ?_) (fun hc h => ?_)
                  · refine jr_inc (pc' := 2458) (L' := [_, _, _, _, _, _, _, _]) rfl rfl rfl (jl rfl) rfl rfl (jr_goto (pc' := 23) rfl rfl ?_)
                    exact k2 (jw (s1.1 + 10), p86.2) (jM_i hX5 hs1 hlp) h _ _ _ _ (jM_0 hX5 hs1 hlp hub)
                  · refine jr_ic (pc' := 526) rfl rfl ?_
                    exact jr_retb rfl hu rfl jb_0 (hQ ((0 : Int), p86.2) jb_0 h)
                · refine jo_i h (fun hc h => ?_) (fun hc7 h => ?_)
                  · unfold jfM_7 at h
                    refine jr_tsc (pc' := 527) (7) rfl jg_band hc (by decide) rfl rfl (jr_al_n (pc' := 528) rfl rfl rfl (jr_al_n (pc' := 529) rfl rfl rfl (jr_il (pc' := 531) rfl rfl rfl (jr_ic (pc' := 532) rfl rfl (jr_add (pc' := 533) rfl rfl ?_)))))
                    refine jr_xa (pc' := 534) rfl rfl jg_w h (fun hc h => ?_)
                    refine jr_al_n (pc' := 535) rfl rfl rfl ?_
                    refine jr_cw (pc' := 538) (b1 := 1) (b2 := 6) [] rfl rfl jlk_13_140 rfl (jl rfl) (by decide) rfl (jl rfl) rfl (jl rfl) (jM_hw hs1 hub (by decide) (by decide)) (fun Q' hq => jc_308 hN3 (Nat.le_trans (jl rfl) hd) jg_i (jo_b h) hq) (fun p82 hp82 h => ?_)
                    have hu := jM_hw (b1 := 1) (b2 := 6) hs1 hub (by decide) (by decide)
                    refine jr_is (pc' := 540) (L' := [_, _, _, _, _, _, _, _]) rfl rfl (jl rfl) rfl rfl (jr_al_n (pc' := 541) rfl rfl rfl (jr_al_n (pc' := 542) rfl rfl rfl (jr_il (pc' := 544) rfl rfl rfl (jr_ic (pc' := 545) rfl rfl (jr_add (pc' := 546) rfl rfl ?_)))))
                    refine jr_xa (pc' := 547) rfl rfl jg_w h (fun hc h => ?_)
                    refine jr_cv_i (pc' := 550) [] rfl rfl jlk_13_142 jq_246 jbd_246 (jl rfl) rfl (jl rfl) hu rfl (jk rfl hN) (jd_67.trans jo_246.symm) (fun Q' hq => jc_246 hN (Nat.le_trans (jl rfl) hd) jg_i (jo_b h) hq) (fun p83 hp83 h => ?_)
                    refine jr_is (pc' := 552) (L' := [_, _, _, _, _, _, _, _]) rfl rfl (jl rfl) rfl rfl (jr_al_n (pc' := 553) rfl rfl rfl ?_)
                    refine jr_cv_p (pc' := 556) [] rfl rfl jlk_13_119 jq_186 jbd_186 (jl rfl) rfl (jl rfl) hu rfl (jk rfl hN) (jd_67.trans jo_186.symm) (fun Q' hq => jc_186 hN (Nat.le_trans (jl rfl) hd)  (jo_b h) hq) (fun p84 hp84 h => ?_)
                    refine jr_il (pc' := 558) rfl rfl rfl ?_
                    refine jr_ceq (pa := 563) (pb := 561) rfl rfl rfl hp84 hp82 h (fun hc h => ?_) (fun hc h => ?_)
                    · refine jr_il (pc' := 565) rfl rfl rfl ?_
                      refine jr_zne (pa := 568) (pb := 580) rfl rfl rfl hp82 h (fun hc h => ?_) (fun hc h => ?_)
                      · refine jr_al_n (pc' := 569) rfl rfl rfl (jr_ic (pc' := 570) rfl rfl (jr_la (pc' := 571) rfl rfl hN3 (jr_il (pc' := 573) rfl rfl rfl (jr_i2l (pc' := 574) rfl rfl hp83 (jr_lcmp (pc' := 575) rfl rfl jgl_a (jgl_g hp83) ?_)))))
                        refine jr_zeq (pa := 580) (pb := 578) rfl rfl rfl jg_cmp h (fun hc h => ?_) (fun hc h => ?_)
                        · refine jr_goto (pc' := 2455) rfl rfl (jr_inc (pc' := 2458) (L' := [_, _, _, _, _, _, _, _]) rfl rfl rfl (jl rfl) rfl rfl (jr_goto (pc' := 23) rfl rfl ?_))
                          exact k2 (jw (s1.1 + 10), p83.2) (jM_i hX5 hs1 hlp) h _ _ _ _ (jM_u hX5 hs1 hlp hub (by decide) (by decide))
                        · refine jr_ic (pc' := 579) rfl rfl ?_
                          exact jr_retb rfl hu rfl jb_0 (hQ ((0 : Int), p83.2) jb_0 h)
                      · refine jr_goto (pc' := 2455) rfl rfl (jr_inc (pc' := 2458) (L' := [_, _, _, _, _, _, _, _]) rfl rfl rfl (jl rfl) rfl rfl (jr_goto (pc' := 23) rfl rfl ?_))
                        exact k2 (jw (s1.1 + 10), p83.2) (jM_i hX5 hs1 hlp) h _ _ _ _ (jM_u hX5 hs1 hlp hub (by decide) (by decide))
                    · refine jr_ic (pc' := 562) rfl rfl ?_
                      exact jr_retb rfl hu rfl jb_0 (hQ ((0 : Int), p83.2) jb_0 h)
                  · refine jo_i h (fun hc h => ?_) (fun hc8 h => ?_)
                    · unfold jfM_8 at h
                      refine jr_tsc (pc' := 583) (8) rfl jg_band hc (by decide) rfl rfl (jr_al_n (pc' := 584) rfl rfl rfl (jr_al_n (pc' := 585) rfl rfl rfl (jr_il (pc' := 587) rfl rfl rfl (jr_ic (pc' := 588) rfl rfl (jr_add (pc' := 589) rfl rfl ?_)))))
                      refine jr_xa (pc' := 590) rfl rfl jg_w h (fun hc h => ?_)
                      refine jr_al_n (pc' := 591) rfl rfl rfl (jr_il (pc' := 593) rfl rfl rfl (jr_ic (pc' := 594) rfl rfl (jr_add (pc' := 595) rfl rfl ?_)))
                      refine jr_xa (pc' := 596) rfl rfl jg_w h (fun hc h => ?_)
                      refine jr_al_n (pc' := 597) rfl rfl rfl ?_
                      refine jr_cw (pc' := 600) (b1 := 2) (b2 := 12) [] rfl rfl jlk_13_143 rfl (jl rfl) (by decide) rfl (jl rfl) rfl (jl rfl) (jM_hw hs1 hub (by decide) (by decide)) (fun Q' hq => jc_309 hN3 (Nat.le_trans (jl rfl) hd) jg_i jg_i (jo_b h) hq) (fun p79 hp79 h => ?_)
                      have hu := jM_hw (b1 := 2) (b2 := 12) hs1 hub (by decide) (by decide)
                      refine jr_is (pc' := 602) (L' := [_, _, _, _, _, _, _, _]) rfl rfl (jl rfl) rfl rfl (jr_al_n (pc' := 603) rfl rfl rfl (jr_al_n (pc' := 604) rfl rfl rfl (jr_il (pc' := 606) rfl rfl rfl (jr_ic (pc' := 607) rfl rfl (jr_add (pc' := 608) rfl rfl ?_)))))
                      refine jr_xa (pc' := 609) rfl rfl jg_w h (fun hc h => ?_)
                      refine jr_al_n (pc' := 610) rfl rfl rfl (jr_il (pc' := 612) rfl rfl rfl (jr_ic (pc' := 613) rfl rfl (jr_add (pc' := 614) rfl rfl ?_)))
                      refine jr_xa (pc' := 615) rfl rfl jg_w h (fun hc h => ?_)
                      refine jr_cv_i (pc' := 618) [] rfl rfl jlk_13_146 jq_251 jbd_251 (jl rfl) rfl (jl rfl) hu rfl (jk rfl hN) (jd_67.trans jo_251.symm) (fun Q' hq => jc_251 hN (Nat.le_trans (jl rfl) hd) jg_i jg_i (jo_b h) hq) (fun p80 hp80 h => ?_)
                      refine jr_is (pc' := 620) (L' := [_, _, _, _, _, _, _, _]) rfl rfl (jl rfl) rfl rfl (jr_al_n (pc' := 621) rfl rfl rfl ?_)
                      refine jr_cv_p (pc' := 624) [] rfl rfl jlk_13_119 jq_186 jbd_186 (jl rfl) rfl (jl rfl) hu rfl (jk rfl hN) (jd_67.trans jo_186.symm) (fun Q' hq => jc_186 hN (Nat.le_trans (jl rfl) hd)  (jo_b h) hq) (fun p81 hp81 h => ?_)
                      refine jr_il (pc' := 626) rfl rfl rfl ?_
                      refine jr_ceq (pa := 631) (pb := 629) rfl rfl rfl hp81 hp79 h (fun hc h => ?_) (fun hc h => ?_)
                      · refine jr_il (pc' := 633) rfl rfl rfl ?_
                        refine jr_zne (pa := 636) (pb := 648) rfl rfl rfl hp79 h (fun hc h => ?_) (fun hc h => ?_)
                        · refine jr_al_n (pc' := 637) rfl rfl rfl (jr_ic (pc' := 638) rfl rfl (jr_la (pc' := 639) rfl rfl hN3 (jr_il (pc' := 641) rfl rfl rfl (jr_i2l (pc' := 642) rfl rfl hp80 (jr_lcmp (pc' := 643) rfl rfl jgl_a (jgl_g hp80) ?_)))))
                          refine jr_zeq (pa := 648) (pb := 646) rfl rfl rfl jg_cmp h (fun hc h => ?_) (fun hc h => ?_)
                          · refine jr_goto (pc' := 2455) rfl rfl (jr_inc (pc' := 2458) (L' := [_, _, _, _, _, _, _, _]) rfl rfl rfl (jl rfl) rfl rfl (jr_goto (pc' := 23) rfl rfl ?_))
                            exact k2 (jw (s1.1 + 10), p80.2) (jM_i hX5 hs1 hlp) h _ _ _ _ (jM_u hX5 hs1 hlp hub (by decide) (by decide))
                          · refine jr_ic (pc' := 647) rfl rfl ?_
                            exact jr_retb rfl hu rfl jb_0 (hQ ((0 : Int), p80.2) jb_0 h)
                        · refine jr_goto (pc' := 2455) rfl rfl (jr_inc (pc' := 2458) (L' := [_, _, _, _, _, _, _, _]) rfl rfl rfl (jl rfl) rfl rfl (jr_goto (pc' := 23) rfl rfl ?_))
                          exact k2 (jw (s1.1 + 10), p80.2) (jM_i hX5 hs1 hlp) h _ _ _ _ (jM_u hX5 hs1 hlp hub (by decide) (by decide))
                      · refine jr_ic (pc' := 630) rfl rfl ?_
                        exact jr_retb rfl hu rfl jb_0 (hQ ((0 : Int), p80.2) jb_0 h)
                    · refine jo_i h (fun hc h => ?_) (fun hc9 h => ?_)
                      · unfold jfM_9 at h
                        refine jr_tsc (pc' := 651) (9) rfl jg_band hc (by decide) rfl rfl (jr_al_n (pc' := 652) rfl rfl rfl (jr_al_n (pc' := 653) rfl rfl rfl (jr_il (pc' := 655) rfl rfl rfl (jr_ic (pc' := 656) rfl rfl (jr_add (pc' := 657) rfl rfl ?_)))))
                        refine jr_xa (pc' := 658) rfl rfl jg_w h (fun hc h => ?_)
                        refine jr_al_n (pc' := 659) rfl rfl rfl (jr_il (pc' := 661) rfl rfl rfl (jr_ic (pc' := 662) rfl rfl (jr_add (pc' := 663) rfl rfl ?_)))
                        refine jr_xa (pc' := 664) rfl rfl jg_w h (fun hc h => ?_)
                        refine jr_al_n (pc' := 665) rfl rfl rfl ?_
                        refine jr_cw (pc' := 668) (b1 := 2) (b2 := 12) [] rfl rfl jlk_13_147 rfl (jl rfl) (by decide) rfl (jl rfl) rfl (jl rfl) (jM_hw hs1 hub (by decide) (by decide)) (fun Q' hq => jc_310 hN3 (Nat.le_trans (jl rfl) hd) jg_i jg_i (jo_b h) hq) (fun p76 hp76 h => ?_)
                        have hu := jM_hw (b1 := 2) (b2 := 12) hs1 hub (by decide) (by decide)
                        refine jr_is (pc' := 670) (L' := [_, _, _, _, _, _, _, _]) rfl rfl (jl rfl) rfl rfl (jr_al_n (pc' := 671) rfl rfl rfl (jr_al_n (pc' := 672) rfl rfl rfl (jr_il (pc' := 674) rfl rfl rfl (jr_ic (pc' := 675) rfl rfl (jr_add (pc' := 676) rfl rfl ?_)))))
                        refine jr_xa (pc' := 677) rfl rfl jg_w h (fun hc h => ?_)
                        refine jr_al_n (pc' := 678) rfl rfl rfl (jr_il (pc' := 680) rfl rfl rfl (jr_ic (pc' := 681) rfl rfl (jr_add (pc' := 682) rfl rfl ?_)))
                        refine jr_xa (pc' := 683) rfl rfl jg_w h (fun hc h => ?_)
                        refine jr_cv_i (pc' := 686) [] rfl rfl jlk_13_149 jq_253 jbd_253 (jl rfl) rfl (jl rfl) hu rfl (jk rfl hN) (jd_67.trans jo_253.symm) (fun Q' hq => jc_253 hN (Nat.le_trans (jl rfl) hd) jg_i jg_i (jo_b h) hq) (fun p77 hp77 h => ?_)
                        refine jr_is (pc' := 688) (L' := [_, _, _, _, _, _, _, _]) rfl rfl (jl rfl) rfl rfl (jr_al_n (pc' := 689) rfl rfl rfl ?_)
                        refine jr_cv_p (pc' := 692) [] rfl rfl jlk_13_119 jq_186 jbd_186 (jl rfl) rfl (jl rfl) hu rfl (jk rfl hN) (jd_67.trans jo_186.symm) (fun Q' hq => jc_186 hN (Nat.le_trans (jl rfl) hd)  (jo_b h) hq) (fun p78 hp78 h => ?_)
                        refine jr_il (pc' := 694) rfl rfl rfl ?_
                        refine jr_ceq (pa := 699) (pb := 697) rfl rfl rfl hp78 hp76 h (fun hc h => ?_) (fun hc h => ?_)
                        · refine jr_il (pc' := 701) rfl rfl rfl ?_
                          refine jr_zne (pa := 704) (pb := 716) rfl rfl rfl hp76 h (fun hc h => ?_) (fun hc h => ?_)
                          · refine jr_al_n (pc' := 705) rfl rfl rfl (jr_ic (pc' := 706) rfl rfl (jr_la (pc' := 707) rfl rfl hN3 (jr_il (pc' := 709) rfl rfl rfl (jr_i2l (pc' := 710) rfl rfl hp77 (jr_lcmp (pc' := 711) rfl rfl jgl_a (jgl_g hp77) ?_)))))
                            refine jr_zeq (pa := 716) (pb := 714) rfl rfl rfl jg_cmp h (fun hc h => ?_) (fun hc h => ?_)
                            · refine jr_goto (pc' := 2455) rfl rfl (jr_inc (pc' := 2458) (L' := [_, _, _, _, _, _, _, _]) rfl rfl rfl (jl rfl) rfl rfl (jr_goto (pc' := 23) rfl rfl ?_))
                              exact k2 (jw (s1.1 + 10), p77.2) (jM_i hX5 hs1 hlp) h _ _ _ _ (jM_u hX5 hs1 hlp hub (by decide) (by decide))
                            · refine jr_ic (pc' := 715) rfl rfl ?_
                              exact jr_retb rfl hu rfl jb_0 (hQ ((0 : Int), p77.2) jb_0 h)
                          · refine jr_goto (pc' := 2455) rfl rfl (jr_inc (pc' := 2458) (L' := [_, _, _, _, _, _, _, _]) rfl rfl rfl (jl rfl) rfl rfl (jr_goto (pc' := 23) rfl rfl ?_))
                            exact k2 (jw (s1.1 + 10), p77.2) (jM_i hX5 hs1 hlp) h _ _ _ _ (jM_u hX5 hs1 hlp hub (by decide) (by decide))
                        · refine jr_ic (pc' := 698) rfl rfl ?_
                          exact jr_retb rfl hu rfl jb_0 (hQ ((0 : Int), p77.2) jb_0 h)
                      · refine jo_i h (fun hc h => ?_) (fun hc10 h => ?_)
                        · unfold jfM_10 at h
                          refine jr_tsc (pc' := 719) (10) rfl jg_band hc (by decide) rfl rfl (jr_al_n (pc' := 720) rfl rfl rfl (jr_al_n (pc' := 721) rfl rfl rfl (jr_il (pc' := 723) rfl rfl rfl (jr_ic (pc' := 724) rfl rfl (jr_add (pc' := 725) rfl rfl ?_)))))
                          refine jr_xa (pc' := 726) rfl rfl jg_w h (fun hc h => ?_)
                          refine jr_al_n (pc' := 727) rfl rfl rfl (jr_il (pc' := 729) rfl rfl rfl (jr_ic (pc' := 730) rfl rfl (jr_add (pc' := 731) rfl rfl ?_)))
                          refine jr_xa (pc' := 732) rfl rfl jg_w h (fun hc h => ?_)
                          refine jr_al_n (pc' := 733) rfl rfl rfl ?_
                          refine jr_cw (pc' := 736) (b1 := 2) (b2 := 12) [] rfl rfl jlk_13_150 rfl (jl rfl) (by decide) rfl (jl rfl) rfl (jl rfl) (jM_hw hs1 hub (by decide) (by decide)) (fun Q' hq => jc_311 hN3 (Nat.le_trans (jl rfl) hd) jg_i jg_i (jo_b h) hq) (fun p73 hp73 h => ?_)
                          have hu := jM_hw (b1 := 2) (b2 := 12) hs1 hub (by decide) (by decide)
                          refine jr_is (pc' := 738) (L' := [_, _, _, _, _, _, _, _]) rfl rfl (jl rfl) rfl rfl (jr_al_n (pc' := 739) rfl rfl rfl (jr_al_n (pc' := 740) rfl rfl rfl (jr_il (pc' := 742) rfl rfl rfl (jr_ic (pc' := 743) rfl rfl (jr_add (pc' := 744) rfl rfl ?_)))))
                          refine jr_xa (pc' := 745) rfl rfl jg_w h (fun hc h => ?_)
                          refine jr_al_n (pc' := 746) rfl rfl rfl (jr_il (pc' := 748) rfl rfl rfl (jr_ic (pc' := 749) rfl rfl (jr_add (pc' := 750) rfl rfl ?_)))
                          refine jr_xa (pc' := 751) rfl rfl jg_w h (fun hc h => ?_)
                          refine jr_cv_i (pc' := 754) [] rfl rfl jlk_13_152 jq_255 jbd_255 (jl rfl) rfl (jl rfl) hu rfl (jk rfl hN) (jd_67.trans jo_255.symm) (fun Q' hq => jc_255 hN (Nat.le_trans (jl rfl) hd) jg_i jg_i (jo_b h) hq) (fun p74 hp74 h => ?_)
                          refine jr_is (pc' := 756) (L' := [_, _, _, _, _, _, _, _]) rfl rfl (jl rfl) rfl rfl (jr_al_n (pc' := 757) rfl rfl rfl ?_)
                          refine jr_cv_p (pc' := 760) [] rfl rfl jlk_13_119 jq_186 jbd_186 (jl rfl) rfl (jl rfl) hu rfl (jk rfl hN) (jd_67.trans jo_186.symm) (fun Q' hq => jc_186 hN (Nat.le_trans (jl rfl) hd)  (jo_b h) hq) (fun p75 hp75 h => ?_)
                          refine jr_il (pc' := 762) rfl rfl rfl ?_
                          refine jr_ceq (pa := 767) (pb := 765) rfl rfl rfl hp75 hp73 h (fun hc h => ?_) (fun hc h => ?_)
                          · refine jr_il (pc' := 769) rfl rfl rfl ?_
                            refine jr_zne (pa := 772) (pb := 784) rfl rfl rfl hp73 h (fun hc h => ?_) (fun hc h => ?_)
                            · refine jr_al_n (pc' := 773) rfl rfl rfl (jr_ic (pc' := 774) rfl rfl (jr_la (pc' := 775) rfl rfl hN3 (jr_il (pc' := 777) rfl rfl rfl (jr_i2l (pc' := 778) rfl rfl hp74 (jr_lcmp (pc' := 779) rfl rfl jgl_a (jgl_g hp74) ?_)))))
                              refine jr_zeq (pa := 784) (pb := 782) rfl rfl rfl jg_cmp h (fun hc h => ?_) (fun hc h => ?_)
                              · refine jr_goto (pc' := 2455) rfl rfl (jr_inc (pc' := 2458) (L' := [_, _, _, _, _, _, _, _]) rfl rfl rfl (jl rfl) rfl rfl (jr_goto (pc' := 23) rfl rfl ?_))
                                exact k2 (jw (s1.1 + 10), p74.2) (jM_i hX5 hs1 hlp) h _ _ _ _ (jM_u hX5 hs1 hlp hub (by decide) (by decide))
                              · refine jr_ic (pc' := 783) rfl rfl ?_
                                exact jr_retb rfl hu rfl jb_0 (hQ ((0 : Int), p74.2) jb_0 h)
                            · refine jr_goto (pc' := 2455) rfl rfl (jr_inc (pc' := 2458) (L' := [_, _, _, _, _, _, _, _]) rfl rfl rfl (jl rfl) rfl rfl (jr_goto (pc' := 23) rfl rfl ?_))
                              exact k2 (jw (s1.1 + 10), p74.2) (jM_i hX5 hs1 hlp) h _ _ _ _ (jM_u hX5 hs1 hlp hub (by decide) (by decide))
                          · refine jr_ic (pc' := 766) rfl rfl ?_
                            exact jr_retb rfl hu rfl jb_0 (hQ ((0 : Int), p74.2) jb_0 h)
                        · refine jo_i h (fun hc h => ?_) (fun hc11 h => ?_)
                          · unfold jfM_11 at h
                            refine jr_tsc (pc' := 787) (11) rfl jg_band hc (by decide) rfl rfl (jr_al_n (pc' := 788) rfl rfl rfl (jr_al_n (pc' := 789) rfl rfl rfl (jr_il (pc' := 791) rfl rfl rfl (jr_ic (pc' := 792) rfl rfl (jr_add (pc' := 793) rfl rfl ?_)))))
                            refine jr_xa (pc' := 794) rfl rfl jg_w h (fun hc h => ?_)
                            refine jr_al_n (pc' := 795) rfl rfl rfl (jr_il (pc' := 797) rfl rfl rfl (jr_ic (pc' := 798) rfl rfl (jr_add (pc' := 799) rfl rfl ?_)))
                            refine jr_xa (pc' := 800) rfl rfl jg_w h (fun hc h => ?_)
                            refine jr_al_n (pc' := 801) rfl rfl rfl ?_
                            refine jr_cw (pc' := 804) (b1 := 2) (b2 := 12) [] rfl rfl jlk_13_153 rfl (jl rfl) (by decide) rfl (jl rfl) rfl (jl rfl) (jM_hw hs1 hub (by decide) (by decide)) (fun Q' hq => jc_312 hN3 (Nat.le_trans (jl rfl) hd) jg_i jg_i (jo_b h) hq) (fun p70 hp70 h => ?_)
                            have hu := jM_hw (b1 := 2) (b2 := 12) hs1 hub (by decide) (by decide)
                            refine jr_is (pc' := 806) (L' := [_, _, _, _, _, _, _, _]) rfl rfl (jl rfl) rfl rfl (jr_al_n (pc' := 807) rfl rfl rfl (jr_al_n (pc' := 808) rfl rfl rfl (jr_il (pc' := 810) rfl rfl rfl (jr_ic (pc' := 811) rfl rfl (jr_add (pc' := 812) rfl rfl ?_)))))
                            refine jr_xa (pc' := 813) rfl rfl jg_w h (fun hc h => ?_)
                            refine jr_al_n (pc' := 814) rfl rfl rfl (jr_il (pc' := 816) rfl rfl rfl (jr_ic (pc' := 817) rfl rfl (jr_add (pc' := 818) rfl rfl ?_)))
                            refine jr_xa (pc' := 819) rfl rfl jg_w h (fun hc h => ?_)
                            refine jr_cv_i (pc' := 822) [] rfl rfl jlk_13_155 jq_257 jbd_257 (jl rfl) rfl (jl rfl) hu rfl (jk rfl hN) (jd_67.trans jo_257.symm) (fun Q' hq => jc_257 hN (Nat.le_trans (jl rfl) hd) jg_i jg_i (jo_b h) hq) (fun p71 hp71 h => ?_)
                            refine jr_is (pc' := 824) (L' := [_, _, _, _, _, _, _, _]) rfl rfl (jl rfl) rfl rfl (jr_al_n (pc' := 825) rfl rfl rfl ?_)
                            refine jr_cv_p (pc' := 828) [] rfl rfl jlk_13_119 jq_186 jbd_186 (jl rfl) rfl (jl rfl) hu rfl (jk rfl hN) (jd_67.trans jo_186.symm) (fun Q' hq => jc_186 hN (Nat.le_trans (jl rfl) hd)  (jo_b h) hq) (fun p72 hp72 h => ?_)
                            refine jr_il (pc' := 830) rfl rfl rfl ?_
                            refine jr_ceq (pa := 835) (pb := 833) rfl rfl rfl hp72 hp70 h (fun hc h => ?_) (fun hc h => ?_)
                            · refine jr_il (pc' := 837) rfl rfl rfl ?_
                              refine jr_zne (pa := 840) (pb := 852) rfl rfl rfl hp70 h (fun hc h => ?_) (fun hc h => ?_)
                              · refine jr_al_n (pc' := 841) rfl rfl rfl (jr_ic (pc' := 842) rfl rfl (jr_la (pc' := 843) rfl rfl hN3 (jr_il (pc' := 845) rfl rfl rfl (jr_i2l (pc' := 846) rfl rfl hp71 (jr_lcmp (pc' := 847) rfl rfl jgl_a (jgl_g hp71) ?_)))))
                                refine jr_zeq (pa := 852) (pb := 850) rfl rfl rfl jg_cmp h (fun hc h => ?_) (fun hc h => ?_)
                                · refine jr_goto (pc' := 2455) rfl rfl (jr_inc (pc' := 2458) (L' := [_, _, _, _, _, _, _, _]) rfl rfl rfl (jl rfl) rfl rfl (jr_goto (pc' := 23) rfl rfl ?_))
                                  exact k2 (jw (s1.1 + 10), p71.2) (jM_i hX5 hs1 hlp) h _ _ _ _ (jM_u hX5 hs1 hlp hub (by decide) (by decide))
                                · refine jr_ic (pc' := 851) rfl rfl ?_
                                  exact jr_retb rfl hu rfl jb_0 (hQ ((0 : Int), p71.2) jb_0 h)
                              · refine jr_goto (pc' := 2455) rfl rfl (jr_inc (pc' := 2458) (L' := [_, _, _, _, _, _, _, _]) rfl rfl rfl (jl rfl) rfl rfl (jr_goto (pc' := 23) rfl rfl ?_))
                                exact k2 (jw (s1.1 + 10), p71.2) (jM_i hX5 hs1 hlp) h _ _ _ _ (jM_u hX5 hs1 hlp hub (by decide) (by decide))
                            · refine jr_ic (pc' := 834) rfl rfl ?_
                              exact jr_retb rfl hu rfl jb_0 (hQ ((0 : Int), p71.2) jb_0 h)
                          · refine jo_i h (fun hc h => ?_) (fun hc12 h => ?_)
                            · unfold jfM_12 at h
                              refine jr_tsc (pc' := 855) (12) rfl jg_band hc (by decide) rfl rfl (jr_al_n (pc' := 856) rfl rfl rfl (jr_al_n (pc' := 857) rfl rfl rfl (jr_il (pc' := 859) rfl rfl rfl (jr_ic (pc' := 860) rfl rfl (jr_add (pc' := 861) rfl rfl ?_)))))
                              refine jr_xa (pc' := 862) rfl rfl jg_w h (fun hc h => ?_)
                              refine jr_al_n (pc' := 863) rfl rfl rfl (jr_il (pc' := 865) rfl rfl rfl (jr_ic (pc' := 866) rfl rfl (jr_add (pc' := 867) rfl rfl ?_)))
                              refine jr_xa (pc' := 868) rfl rfl jg_w h (fun hc h => ?_)
                              refine jr_al_n (pc' := 869) rfl rfl rfl ?_
                              refine jr_cw (pc' := 872) (b1 := 2) (b2 := 12) [] rfl rfl jlk_13_156 rfl (jl rfl) (by decide) rfl (jl rfl) rfl (jl rfl) (jM_hw hs1 hub (by decide) (by decide)) (fun Q' hq => jc_313 hN3 (Nat.le_trans (jl rfl) hd) jg_i jg_i (jo_b h) hq) (fun p67 hp67 h => ?_)
                              have hu := jM_hw (b1 := 2) (b2 := 12) hs1 hub (by decide) (by decide)
                              refine jr_is (pc' := 874) (L' := [_, _, _, _, _, _, _, _]) rfl rfl (jl rfl) rfl rfl (jr_al_n (pc' := 875) rfl rfl rfl (jr_al_n (pc' := 876) rfl rfl rfl (jr_il (pc' := 878) rfl rfl rfl (jr_ic (pc' := 879) rfl rfl (jr_add (pc' := 880) rfl rfl ?_)))))
                              refine jr_xa (pc' := 881) rfl rfl jg_w h (fun hc h => ?_)
                              refine jr_al_n (pc' := 882) rfl rfl rfl (jr_il (pc' := 884) rfl rfl rfl (jr_ic (pc' := 885) rfl rfl (jr_add (pc' := 886) rfl rfl ?_)))
                              refine jr_xa (pc' := 887) rfl rfl jg_w h (fun hc h => ?_)
                              refine jr_cv_i (pc' := 890) [] rfl rfl jlk_13_158 jq_259 jbd_259 (jl rfl) rfl (jl rfl) hu rfl (jk rfl hN) (jd_67.trans jo_259.symm) (fun Q' hq => jc_259 hN (Nat.le_trans (jl rfl) hd) jg_i jg_i (jo_b h) hq) (fun p68 hp68 h => ?_)
                              refine jr_is (pc' := 892) (L' := [_, _, _, _, _, _, _, _]) rfl rfl (jl rfl) rfl rfl (jr_al_n (pc' := 893) rfl rfl rfl ?_)
                              refine jr_cv_p (pc' := 896) [] rfl rfl jlk_13_119 jq_186 jbd_186 (jl rfl) rfl (jl rfl) hu rfl (jk rfl hN) (jd_67.trans jo_186.symm) (fun Q' hq => jc_186 hN (Nat.le_trans (jl rfl) hd)  (jo_b h) hq) (fun p69 hp69 h => ?_)
                              refine jr_il (pc' := 898) rfl rfl rfl ?_
                              refine jr_ceq (pa := 903) (pb := 901) rfl rfl rfl hp69 hp67 h (fun hc h => ?_) (fun hc h => ?_)
                              · refine jr_il (pc' := 905) rfl rfl rfl ?_
                                refine jr_zne (pa := 908) (pb := 920) rfl rfl rfl hp67 h (fun hc h => ?_) (fun hc h => ?_)
                                · refine jr_al_n (pc' := 909) rfl rfl rfl (jr_ic (pc' := 910) rfl rfl (jr_la (pc' := 911) rfl rfl hN3 (jr_il (pc' := 913) rfl rfl rfl (jr_i2l (pc' := 914) rfl rfl hp68 (jr_lcmp (pc' := 915) rfl rfl jgl_a (jgl_g hp68) ?_)))))
                                  refine jr_zeq (pa := 920) (pb := 918) rfl rfl rfl jg_cmp h (fun hc h => ?_) (fun hc h => ?_)
                                  · refine jr_goto (pc' := 2455) rfl rfl (jr_inc (pc' := 2458) (L' := [_, _, _, _, _, _, _, _]) rfl rfl rfl (jl rfl) rfl rfl (jr_goto (pc' := 23) rfl rfl ?_))
                                    exact k2 (jw (s1.1 + 10), p68.2) (jM_i hX5 hs1 hlp) h _ _ _ _ (jM_u hX5 hs1 hlp hub (by decide) (by decide))
                                  · refine jr_ic (pc' := 919) rfl rfl ?_
                                    exact jr_retb rfl hu rfl jb_0 (hQ ((0 : Int), p68.2) jb_0 h)
                                · refine jr_goto (pc' := 2455) rfl rfl (jr_inc (pc' := 2458) (L' := [_, _, _, _, _, _, _, _]) rfl rfl rfl (jl rfl) rfl rfl (jr_goto (pc' := 23) rfl rfl ?_))
                                  exact k2 (jw (s1.1 + 10), p68.2) (jM_i hX5 hs1 hlp) h _ _ _ _ (jM_u hX5 hs1 hlp hub (by decide) (by decide))
                              · refine jr_ic (pc' := 902) rfl rfl ?_
                                exact jr_retb rfl hu rfl jb_0 (hQ ((0 : Int), p68.2) jb_0 h)
                            · refine jo_i h (fun hc h => ?_) (fun hc13 h => ?_)
                              · unfold jfM_13 at h
                                refine jr_tsc (pc' := 923) (13) rfl jg_band hc (by decide) rfl rfl (jr_al_n (pc' := 924) rfl rfl rfl (jr_al_n (pc' := 925) rfl rfl rfl (jr_il (pc' := 927) rfl rfl rfl (jr_ic (pc' := 928) rfl rfl (jr_add (pc' := 929) rfl rfl ?_)))))
                                refine jr_xa (pc' := 930) rfl rfl jg_w h (fun hc h => ?_)
                                refine jr_al_n (pc' := 931) rfl rfl rfl (jr_il (pc' := 933) rfl rfl rfl (jr_ic (pc' := 934) rfl rfl (jr_add (pc' := 935) rfl rfl ?_)))
                                refine jr_xa (pc' := 936) rfl rfl jg_w h (fun hc h => ?_)
                                refine jr_al_n (pc' := 937) rfl rfl rfl (jr_il (pc' := 939) rfl rfl rfl (jr_ic (pc' := 940) rfl rfl (jr_add (pc' := 941) rfl rfl ?_)))
                                refine jr_xa (pc' := 942) rfl rfl jg_w h (fun hc h => ?_)
                                refine jr_al_n (pc' := 943) rfl rfl rfl ?_
                                refine jr_cw (pc' := 946) (b1 := 3) (b2 := 18) [] rfl rfl jlk_13_159 rfl (jl rfl) (by decide) rfl (jl rfl) rfl (jl rfl) (jM_hw hs1 hub (by decide) (by decide)) (fun Q' hq => jc_314 hN3 (Nat.le_trans (jl rfl) hd) jg_i jg_i jg_i (jo_b h) hq) (fun p64 hp64 h => ?_)
                                have hu := jM_hw (b1 := 3) (b2 := 18) hs1 hub (by decide) (by decide)
                                refine jr_is (pc' := 948) (L' := [_, _, _, _, _, _, _, _]) rfl rfl (jl rfl) rfl rfl (jr_al_n (pc' := 949) rfl rfl rfl (jr_al_n (pc' := 950) rfl rfl rfl (jr_il (pc' := 952) rfl rfl rfl (jr_ic (pc' := 953) rfl rfl (jr_add (pc' := 954) rfl rfl ?_)))))
                                refine jr_xa (pc' := 955) rfl rfl jg_w h (fun hc h => ?_)
                                refine jr_al_n (pc' := 956) rfl rfl rfl (jr_il (pc' := 958) rfl rfl rfl (jr_ic (pc' := 959) rfl rfl (jr_add (pc' := 960) rfl rfl ?_)))
                                refine jr_xa (pc' := 961) rfl rfl jg_w h (fun hc h => ?_)
                                refine jr_al_n (pc' := 962) rfl rfl rfl (jr_il (pc' := 964) rfl rfl rfl (jr_ic (pc' := 965) rfl rfl (jr_add (pc' := 966) rfl rfl ?_)))
                                refine jr_xa (pc' := 967) rfl rfl jg_w h (fun hc h => ?_)
                                refine jr_cv_i (pc' := 970) [] rfl rfl jlk_13_162 jq_260 jbd_260 (jl rfl) rfl (jl rfl) hu rfl (jk rfl hN) (jd_67.trans jo_260.symm) (fun Q' hq => jc_260 hN (Nat.le_trans (jl rfl) hd) jg_i jg_i jg_i (jo_b h) hq) (fun p65 hp65 h => ?_)
                                refine jr_is (pc' := 972) (L' := [_, _, _, _, _, _, _, _]) rfl rfl (jl rfl) rfl rfl (jr_al_n (pc' := 973) rfl rfl rfl ?_)
                                refine jr_cv_p (pc' := 976) [] rfl rfl jlk_13_119 jq_186 jbd_186 (jl rfl) rfl (jl rfl) hu rfl (jk rfl hN) (jd_67.trans jo_186.symm) (fun Q' hq => jc_186 hN (Nat.le_trans (jl rfl) hd)  (jo_b h) hq) (fun p66 hp66 h => ?_)
                                refine jr_il (pc' := 978) rfl rfl rfl ?_
                                refine jr_ceq (pa := 983) (pb := 981) rfl rfl rfl hp66 hp64 h (fun hc h => ?_) (fun hc h => ?_)
                                · refine jr_il (pc' := 985) rfl rfl rfl ?_
                                  refine jr_zne (pa := 988) (pb := 1000) rfl rfl rfl hp64 h (fun hc h => ?_) (fun hc h => ?_)
                                  · refine jr_al_n (pc' := 989) rfl rfl rfl (jr_ic (pc' := 990) rfl rfl (jr_la (pc' := 991) rfl rfl hN3 (jr_il (pc' := 993) rfl rfl rfl (jr_i2l (pc' := 994) rfl rfl hp65 (jr_lcmp (pc' := 995) rfl rfl jgl_a (jgl_g hp65) ?_)))))
                                    refine jr_zeq (pa := 1000) (pb := 998) rfl rfl rfl jg_cmp h (fun hc h => ?_) (fun hc h => ?_)
                                    · refine jr_goto (pc' := 2455) rfl rfl (jr_inc (pc' := 2458) (L' := [_, _, _, _, _, _, _, _]) rfl rfl rfl (jl rfl) rfl rfl (jr_goto (pc' := 23) rfl rfl ?_))
                                      exact k2 (jw (s1.1 + 10), p65.2) (jM_i hX5 hs1 hlp) h _ _ _ _ (jM_u hX5 hs1 hlp hub (by decide) (by decide))
                                    · refine jr_ic (pc' := 999) rfl rfl ?_
                                      exact jr_retb rfl hu rfl jb_0 (hQ ((0 : Int), p65.2) jb_0 h)
                                  · refine jr_goto (pc' := 2455) rfl rfl (jr_inc (pc' := 2458) (L' := [_, _, _, _, _, _, _, _]) rfl rfl rfl (jl rfl) rfl rfl (jr_goto (pc' := 23) rfl rfl ?_))
                                    exact k2 (jw (s1.1 + 10), p65.2) (jM_i hX5 hs1 hlp) h _ _ _ _ (jM_u hX5 hs1 hlp hub (by decide) (by decide))
                                · refine jr_ic (pc' := 982) rfl rfl ?_
                                  exact jr_retb rfl hu rfl jb_0 (hQ ((0 : Int), p65.2) jb_0 h)
                              · refine jo_i h (fun hc h => ?_) (fun hc14 h => ?_)
                                · unfold jfM_14 at h
                                  refine jr_tsc (pc' := 1003) (14) rfl jg_band hc (by decide) rfl rfl (jr_al_n (pc' := 1004) rfl rfl rfl (jr_al_n (pc' := 1005) rfl rfl rfl (jr_il (pc' := 1007) rfl rfl rfl (jr_ic (pc' := 1008) rfl rfl (jr_add (pc' := 1009) rfl rfl ?_)))))
                                  refine jr_xa (pc' := 1010) rfl rfl jg_w h (fun hc h => ?_)
                                  refine jr_al_n (pc' := 1011) rfl rfl rfl (jr_il (pc' := 1013) rfl rfl rfl (jr_ic (pc' := 1014) rfl rfl (jr_add (pc' := 1015) rfl rfl ?_)))
                                  refine jr_xa (pc' := 1016) rfl rfl jg_w h (fun hc h => ?_)
                                  refine jr_al_n (pc' := 1017) rfl rfl rfl (jr_il (pc' := 1019) rfl rfl rfl (jr_ic (pc' := 1020) rfl rfl (jr_add (pc' := 1021) rfl rfl ?_)))
                                  refine jr_xa (pc' := 1022) rfl rfl jg_w h (fun hc h => ?_)
                                  refine jr_al_n (pc' := 1023) rfl rfl rfl (jr_il (pc' := 1025) rfl rfl rfl (jr_ic (pc' := 1026) rfl rfl (jr_add (pc' := 1027) rfl rfl ?_)))
                                  refine jr_xa (pc' := 1028) rfl rfl jg_w h (fun hc h => ?_)
                                  refine jr_al_n (pc' := 1029) rfl rfl rfl (jr_il (pc' := 1031) rfl rfl rfl (jr_ic (pc' := 1032) rfl rfl (jr_add (pc' := 1033) rfl rfl ?_)))
                                  refine jr_xa (pc' := 1034) rfl rfl jg_w h (fun hc h => ?_)
                                  refine jr_al_n (pc' := 1035) rfl rfl rfl (jr_il (pc' := 1037) rfl rfl rfl (jr_bi (pc' := 1039) rfl rfl rfl (jr_add (pc' := 1040) rfl rfl ?_)))
                                  refine jr_xa (pc' := 1041) rfl rfl jg_w h (fun hc h => ?_)
                                  refine jr_al_n (pc' := 1042) rfl rfl rfl (jr_il (pc' := 1044) rfl rfl rfl (jr_bi (pc' := 1046) rfl rfl rfl (jr_add (pc' := 1047) rfl rfl ?_)))
                                  refine jr_xa (pc' := 1048) rfl rfl jg_w h (fun hc h => ?_)
                                  refine jr_al_n (pc' := 1049) rfl rfl rfl (jr_il (pc' := 1051) rfl rfl rfl (jr_bi (pc' := 1053) rfl rfl rfl (jr_add (pc' := 1054) rfl rfl ?_)))
                                  refine jr_xa (pc' := 1055) rfl rfl jg_w h (fun hc h => ?_)
                                  refine jr_al_n (pc' := 1056) rfl rfl rfl (jr_il (pc' := 1058) rfl rfl rfl (jr_bi (pc' := 1060) rfl rfl rfl (jr_add (pc' := 1061) rfl rfl ?_)))
                                  refine jr_xa (pc' := 1062) rfl rfl jg_w h (fun hc h => ?_)
                                  refine jr_al_n (pc' := 1063) rfl rfl rfl ?_
                                  refine jr_cw (pc' := 1066) (b1 := 1) (b2 := 6) [] rfl rfl jlk_13_163 rfl (jl rfl) (by decide) rfl (jl rfl) rfl (jl rfl) (jM_hw hs1 hub (by decide) (by decide)) (fun Q' hq => jc_315 hN3 (Nat.le_trans (jl rfl) hd) jg_i jg_i jg_i jg_i jg_i jg_i jg_i jg_i jg_i (jo_b h) hq) (fun p61 hp61 h => ?_)
                                  have hu := jM_hw (b1 := 1) (b2 := 6) hs1 hub (by decide) (by decide)
                                  refine jr_is (pc' := 1068) (L' := [_, _, _, _, _, _, _, _]) rfl rfl (jl rfl) rfl rfl (jr_al_n (pc' := 1069) rfl rfl rfl (jr_al_n (pc' := 1070) rfl rfl rfl (jr_il (pc' := 1072) rfl rfl rfl (jr_ic (pc' := 1073) rfl rfl (jr_add (pc' := 1074) rfl rfl ?_)))))
                                  refine jr_xa (pc' := 1075) rfl rfl jg_w h (fun hc h => ?_)
                                  refine jr_al_n (pc' := 1076) rfl rfl rfl (jr_il (pc' := 1078) rfl rfl rfl (jr_ic (pc' := 1079) rfl rfl (jr_add (pc' := 1080) rfl rfl ?_)))
                                  refine jr_xa (pc' := 1081) rfl rfl jg_w h (fun hc h => ?_)
                                  refine jr_al_n (pc' := 1082) rfl rfl rfl (jr_il (pc' := 1084) rfl rfl rfl (jr_ic (pc' := 1085) rfl rfl (jr_add (pc' := 1086) rfl rfl ?_)))
                                  refine jr_xa (pc' := 1087) rfl rfl jg_w h (fun hc h => ?_)
                                  refine jr_al_n (pc' := 1088) rfl rfl rfl (jr_il (pc' := 1090) rfl rfl rfl (jr_ic (pc' := 1091) rfl rfl (jr_add (pc' := 1092) rfl rfl ?_)))
                                  refine jr_xa (pc' := 1093) rfl rfl jg_w h (fun hc h => ?_)
                                  refine jr_al_n (pc' := 1094) rfl rfl rfl (jr_il (pc' := 1096) rfl rfl rfl (jr_ic (pc' := 1097) rfl rfl (jr_add (pc' := 1098) rfl rfl ?_)))
                                  refine jr_xa (pc' := 1099) rfl rfl jg_w h (fun hc h => ?_)
                                  refine jr_al_n (pc' := 1100) rfl rfl rfl (jr_il (pc' := 1102) rfl rfl rfl (jr_bi (pc' := 1104) rfl rfl rfl (jr_add (pc' := 1105) rfl rfl ?_)))
                                  refine jr_xa (pc' := 1106) rfl rfl jg_w h (fun hc h => ?_)
                                  refine jr_al_n (pc' := 1107) rfl rfl rfl (jr_il (pc' := 1109) rfl rfl rfl (jr_bi (pc' := 1111) rfl rfl rfl (jr_add (pc' := 1112) rfl rfl ?_)))
                                  refine jr_xa (pc' := 1113) rfl rfl jg_w h (fun hc h => ?_)
                                  refine jr_al_n (pc' := 1114) rfl rfl rfl (jr_il (pc' := 1116) rfl rfl rfl (jr_bi (pc' := 1118) rfl rfl rfl (jr_add (pc' := 1119) rfl rfl ?_)))
                                  refine jr_xa (pc' := 1120) rfl rfl jg_w h (fun hc h => ?_)
                                  refine jr_al_n (pc' := 1121) rfl rfl rfl (jr_il (pc' := 1123) rfl rfl rfl (jr_bi (pc' := 1125) rfl rfl rfl (jr_add (pc' := 1126) rfl rfl ?_)))
                                  refine jr_xa (pc' := 1127) rfl rfl jg_w h (fun hc h => ?_)
                                  refine jr_cv_i (pc' := 1130) [] rfl rfl jlk_13_166 jq_262 jbd_262 (jl rfl) rfl (jl rfl) hu rfl (jk rfl hN) (jd_67.trans jo_262.symm) (fun Q' hq => jc_262 hN (Nat.le_trans (jl rfl) hd) jg_i jg_i jg_i jg_i jg_i jg_i jg_i jg_i jg_i (jo_b h) hq) (fun p62 hp62 h => ?_)
                                  refine jr_is (pc' := 1132) (L' := [_, _, _, _, _, _, _, _]) rfl rfl (jl rfl) rfl rfl (jr_al_n (pc' := 1133) rfl rfl rfl ?_)
                                  refine jr_cv_p (pc' := 1136) [] rfl rfl jlk_13_119 jq_186 jbd_186 (jl rfl) rfl (jl rfl) hu rfl (jk rfl hN) (jd_67.trans jo_186.symm) (fun Q' hq => jc_186 hN (Nat.le_trans (jl rfl) hd)  (jo_b h) hq) (fun p63 hp63 h => ?_)
                                  refine jr_il (pc' := 1138) rfl rfl rfl ?_
                                  refine jr_ceq (pa := 1143) (pb := 1141) rfl rfl rfl hp63 hp61 h (fun hc h => ?_) (fun hc h => ?_)
                                  · refine jr_il (pc' := 1145) rfl rfl rfl ?_
                                    refine jr_zne (pa := 1148) (pb := 1160) rfl rfl rfl hp61 h (fun hc h => ?_) (fun hc h => ?_)
                                    · refine jr_al_n (pc' := 1149) rfl rfl rfl (jr_ic (pc' := 1150) rfl rfl (jr_la (pc' := 1151) rfl rfl hN3 (jr_il (pc' := 1153) rfl rfl rfl (jr_i2l (pc' := 1154) rfl rfl hp62 (jr_lcmp (pc' := 1155) rfl rfl jgl_a (jgl_g hp62) ?_)))))
                                      refine jr_zeq (pa := 1160) (pb := 1158) rfl rfl rfl jg_cmp h (fun hc h => ?_) (fun hc h => ?_)
                                      · refine jr_goto (pc' := 2455) rfl rfl (jr_inc (pc' := 2458) (L' := [_, _, _, _, _, _, _, _]) rfl rfl rfl (jl rfl) rfl rfl (jr_goto (pc' := 23) rfl rfl ?_))
                                        exact k2 (jw (s1.1 + 10), p62.2) (jM_i hX5 hs1 hlp) h _ _ _ _ (jM_u hX5 hs1 hlp hub (by decide) (by decide))
                                      · refine jr_ic (pc' := 1159) rfl rfl ?_
                                        exact jr_retb rfl hu rfl jb_0 (hQ ((0 : Int), p62.2) jb_0 h)
                                    · refine jr_goto (pc' := 2455) rfl rfl (jr_inc (pc' := 2458) (L' := [_, _, _, _, _, _, _, _]) rfl rfl rfl (jl rfl) rfl rfl (jr_goto (pc' := 23) rfl rfl ?_))
                                      exact k2 (jw (s1.1 + 10), p62.2) (jM_i hX5 hs1 hlp) h _ _ _ _ (jM_u hX5 hs1 hlp hub (by decide) (by decide))
                                  · refine jr_ic (pc' := 1142) rfl rfl ?_
                                    exact jr_retb rfl hu rfl jb_0 (hQ ((0 : Int), p62.2) jb_0 h)
                                · refine jo_i h (fun hc h => ?_) (fun hc15 h => ?_)
                                  · unfold jfM_15 at h
                                    refine jr_tsc (pc' := 1163) (15) rfl jg_band hc (by decide) rfl rfl (jr_al_n (pc' := 1164) rfl rfl rfl (jr_al_n (pc' := 1165) rfl rfl rfl (jr_il (pc' := 1167) rfl rfl rfl (jr_ic (pc' := 1168) rfl rfl (jr_add (pc' := 1169) rfl rfl ?_)))))
                                    refine jr_xa (pc' := 1170) rfl rfl jg_w h (fun hc h => ?_)
                                    refine jr_al_n (pc' := 1171) rfl rfl rfl (jr_il (pc' := 1173) rfl rfl rfl (jr_ic (pc' := 1174) rfl rfl (jr_add (pc' := 1175) rfl rfl ?_)))
                                    refine jr_xa (pc' := 1176) rfl rfl jg_w h (fun hc h => ?_)
                                    refine jr_al_n (pc' := 1177) rfl rfl rfl (jr_il (pc' := 1179) rfl rfl rfl (jr_ic (pc' := 1180) rfl rfl (jr_add (pc' := 1181) rfl rfl ?_)))
                                    refine jr_xa (pc' := 1182) rfl rfl jg_w h (fun hc h => ?_)
                                    refine jr_al_n (pc' := 1183) rfl rfl rfl ?_
                                    refine jr_cw (pc' := 1186) (b1 := 3) (b2 := 18) [] rfl rfl jlk_13_167 rfl (jl rfl) (by decide) rfl (jl rfl) rfl (jl rfl) (jM_hw hs1 hub (by decide) (by decide)) (fun Q' hq => jc_316 hN3 (Nat.le_trans (jl rfl) hd) jg_i jg_i jg_i (jo_b h) hq) (fun p58 hp58 h => ?_)
                                    have hu := jM_hw (b1 := 3) (b2 := 18) hs1 hub (by decide) (by decide)
                                    refine jr_is (pc' := 1188) (L' := [_, _, _, _, _, _, _, _]) rfl rfl (jl rfl) rfl rfl (jr_al_n (pc' := 1189) rfl rfl rfl (jr_al_n (pc' := 1190) rfl rfl rfl (jr_il (pc' := 1192) rfl rfl rfl (jr_ic (pc' := 1193) rfl rfl (jr_add (pc' := 1194) rfl rfl ?_)))))
                                    refine jr_xa (pc' := 1195) rfl rfl jg_w h (fun hc h => ?_)
                                    refine jr_al_n (pc' := 1196) rfl rfl rfl (jr_il (pc' := 1198) rfl rfl rfl (jr_ic (pc' := 1199) rfl rfl (jr_add (pc' := 1200) rfl rfl ?_)))
                                    refine jr_xa (pc' := 1201) rfl rfl jg_w h (fun hc h => ?_)
                                    refine jr_al_n (pc' := 1202) rfl rfl rfl (jr_il (pc' := 1204) rfl rfl rfl (jr_ic (pc' := 1205) rfl rfl (jr_add (pc' := 1206) rfl rfl ?_)))
                                    refine jr_xa (pc' := 1207) rfl rfl jg_w h (fun hc h => ?_)
                                    refine jr_cv_i (pc' := 1210) [] rfl rfl jlk_13_169 jq_261 jbd_261 (jl rfl) rfl (jl rfl) hu rfl (jk rfl hN) (jd_67.trans jo_261.symm) (fun Q' hq => jc_261 hN (Nat.le_trans (jl rfl) hd) jg_i jg_i jg_i (jo_b h) hq) (fun p59 hp59 h => ?_)
                                    refine jr_is (pc' := 1212) (L' := [_, _, _, _, _, _, _, _]) rfl rfl (jl rfl) rfl rfl (jr_al_n (pc' := 1213) rfl rfl rfl ?_)
                                    refine jr_cv_p (pc' := 1216) [] rfl rfl jlk_13_119 jq_186 jbd_186 (jl rfl) rfl (jl rfl) hu rfl (jk rfl hN) (jd_67.trans jo_186.symm) (fun Q' hq => jc_186 hN (Nat.le_trans (jl rfl) hd)  (jo_b h) hq) (fun p60 hp60 h => ?_)
                                    refine jr_il (pc' := 1218) rfl rfl rfl ?_
                                    refine jr_ceq (pa := 1223) (pb := 1221) rfl rfl rfl hp60 hp58 h (fun hc h => ?_) (fun hc h => ?_)
                                    · refine jr_il (pc' := 1225) rfl rfl rfl ?_
                                      refine jr_zne (pa := 1228) (pb := 1247) rfl rfl rfl hp58 h (fun hc h => ?_) (fun hc h => ?_)
                                      · refine jr_al_n (pc' := 1229) rfl rfl rfl (jr_ic (pc' := 1230) rfl rfl (jr_la (pc' := 1231) rfl rfl hN3 (jr_il (pc' := 1233) rfl rfl rfl ?_)))
                                        refine jr_zeq (pa := 1240) (pb := 1236) rfl rfl rfl (jg_b hp59) h (fun hc h => ?_) (fun hc h => ?_)
                                        · refine jr_lc (pc' := 1241) (x := 0) rfl rfl rfl (jr_lcmp (pc' := 1242) rfl rfl jgl_a jglc_0 ?_)
                                          refine jr_zeq (pa := 1247) (pb := 1245) rfl rfl rfl jg_cmp h (fun hc h => ?_) (fun hc h => ?_)
                                          · refine jr_goto (pc' := 2455) rfl rfl (jr_inc (pc' := 2458) (L' := [_, _, _, _, _, _, _, _]) rfl rfl rfl (jl rfl) rfl rfl (jr_goto (pc' := 23) rfl rfl ?_))
                                            exact k2 (jw (s1.1 + 10), p59.2) (jM_i hX5 hs1 hlp) h _ _ _ _ (jM_u hX5 hs1 hlp hub (by decide) (by decide))
                                          · refine jr_ic (pc' := 1246) rfl rfl ?_
                                            exact jr_retb rfl hu rfl jb_0 (hQ ((0 : Int), p59.2) jb_0 h)
                                        · refine jr_lc (pc' := 1237) (x := 1) rfl rfl rfl (jr_goto (pc' := 1241) rfl rfl (jr_lcmp (pc' := 1242) rfl rfl jgl_a jglc_1 ?_))
                                          refine jr_zeq (pa := 1247) (pb := 1245) rfl rfl rfl jg_cmp h (fun hc h => ?_) (fun hc h => ?_)
                                          · refine jr_goto (pc' := 2455) rfl rfl (jr_inc (pc' := 2458) (L' := [_, _, _, _, _, _, _, _]) rfl rfl rfl (jl rfl) rfl rfl (jr_goto (pc' := 23) rfl rfl ?_))
                                            exact k2 (jw (s1.1 + 10), p59.2) (jM_i hX5 hs1 hlp) h _ _ _ _ (jM_u hX5 hs1 hlp hub (by decide) (by decide))
                                          · refine jr_ic (pc' := 1246) rfl rfl ?_
                                            exact jr_retb rfl hu rfl jb_0 (hQ ((0 : Int), p59.2) jb_0 h)
                                      · refine jr_goto (pc' := 2455) rfl rfl (jr_inc (pc' := 2458) (L' := [_, _, _, _, _, _, _, _]) rfl rfl rfl (jl rfl) rfl rfl (jr_goto (pc' := 23) rfl rfl ?_))
                                        exact k2 (jw (s1.1 + 10), p59.2) (jM_i hX5 hs1 hlp) h _ _ _ _ (jM_u hX5 hs1 hlp hub (by decide) (by decide))
                                    · refine jr_ic (pc' := 1222) rfl rfl ?_
                                      exact jr_retb rfl hu rfl jb_0 (hQ ((0 : Int), p59.2) jb_0 h)
                                  · refine jo_i h (fun hc h => ?_) (fun hc16 h => ?_)
                                    · unfold jfM_16 at h
                                      refine jr_tsc (pc' := 1250) (16) rfl jg_band hc (by decide) rfl rfl (jr_al_n (pc' := 1251) rfl rfl rfl (jr_al_n (pc' := 1252) rfl rfl rfl (jr_il (pc' := 1254) rfl rfl rfl (jr_ic (pc' := 1255) rfl rfl (jr_add (pc' := 1256) rfl rfl ?_)))))
                                      refine jr_xa (pc' := 1257) rfl rfl jg_w h (fun hc h => ?_)
                                      refine jr_al_n (pc' := 1258) rfl rfl rfl ?_
                                      refine jr_cw (pc' := 1261) (b1 := 1) (b2 := 6) [] rfl rfl jlk_13_170 rfl (jl rfl) (by decide) rfl (jl rfl) rfl (jl rfl) (jM_hw hs1 hub (by decide) (by decide)) (fun Q' hq => jc_317 hN3 (Nat.le_trans (jl rfl) hd) jg_i (jo_b h) hq) (fun p55 hp55 h => ?_)
                                      have hu := jM_hw (b1 := 1) (b2 := 6) hs1 hub (by decide) (by decide)
                                      refine jr_is (pc' := 1263) (L' := [_, _, _, _, _, _, _, _]) rfl rfl (jl rfl) rfl rfl (jr_al_n (pc' := 1264) rfl rfl rfl (jr_al_n (pc' := 1265) rfl rfl rfl (jr_il (pc' := 1267) rfl rfl rfl (jr_ic (pc' := 1268) rfl rfl (jr_add (pc' := 1269) rfl rfl ?_)))))
                                      refine jr_xa (pc' := 1270) rfl rfl jg_w h (fun hc h => ?_)
                                      refine jr_cv_i (pc' := 1273) [] rfl rfl jlk_13_172 jq_263 jbd_263 (jl rfl) rfl (jl rfl) hu rfl (jk rfl hN) (jd_67.trans jo_263.symm) (fun Q' hq => jc_263 hN (Nat.le_trans (jl rfl) hd) jg_i (jo_b h) hq) (fun p56 hp56 h => ?_)
                                      refine jr_is (pc' := 1275) (L' := [_, _, _, _, _, _, _, _]) rfl rfl (jl rfl) rfl rfl (jr_al_n (pc' := 1276) rfl rfl rfl ?_)
                                      refine jr_cv_p (pc' := 1279) [] rfl rfl jlk_13_119 jq_186 jbd_186 (jl rfl) rfl (jl rfl) hu rfl (jk rfl hN) (jd_67.trans jo_186.symm) (fun Q' hq => jc_186 hN (Nat.le_trans (jl rfl) hd)  (jo_b h) hq) (fun p57 hp57 h => ?_)
                                      refine jr_il (pc' := 1281) rfl rfl rfl ?_
                                      refine jr_ceq (pa := 1286) (pb := 1284) rfl rfl rfl hp57 hp55 h (fun hc h => ?_) (fun hc h => ?_)
                                      · refine jr_il (pc' := 1288) rfl rfl rfl ?_
                                        refine jr_zne (pa := 1291) (pb := 1303) rfl rfl rfl hp55 h (fun hc h => ?_) (fun hc h => ?_)
                                        · refine jr_al_n (pc' := 1292) rfl rfl rfl (jr_ic (pc' := 1293) rfl rfl (jr_la (pc' := 1294) rfl rfl hN3 (jr_il (pc' := 1296) rfl rfl rfl (jr_i2l (pc' := 1297) rfl rfl hp56 (jr_lcmp (pc' := 1298) rfl rfl jgl_a (jgl_g hp56) ?_)))))
                                          refine jr_zeq (pa := 1303) (pb := 1301) rfl rfl rfl jg_cmp h (fun hc h => ?_) (fun hc h => ?_)
                                          · refine jr_goto (pc' := 2455) rfl rfl (jr_inc (pc' := 2458) (L' := [_, _, _, _, _, _, _, _]) rfl rfl rfl (jl rfl) rfl rfl (jr_goto (pc' := 23) rfl rfl ?_))
                                            exact k2 (jw (s1.1 + 10), p56.2) (jM_i hX5 hs1 hlp) h _ _ _ _ (jM_u hX5 hs1 hlp hub (by decide) (by decide))
                                          · refine jr_ic (pc' := 1302) rfl rfl ?_
                                            exact jr_retb rfl hu rfl jb_0 (hQ ((0 : Int), p56.2) jb_0 h)
                                        · refine jr_goto (pc' := 2455) rfl rfl (jr_inc (pc' := 2458) (L' := [_, _, _, _, _, _, _, _]) rfl rfl rfl (jl rfl) rfl rfl (jr_goto (pc' := 23) rfl rfl ?_))
                                          exact k2 (jw (s1.1 + 10), p56.2) (jM_i hX5 hs1 hlp) h _ _ _ _ (jM_u hX5 hs1 hlp hub (by decide) (by decide))
                                      · refine jr_ic (pc' := 1285) rfl rfl ?_
                                        exact jr_retb rfl hu rfl jb_0 (hQ ((0 : Int), p56.2) jb_0 h)
                                    · refine jo_i h (fun hc h => ?_) (fun hc17 h => ?_)
                                      · unfold jfM_17 at h
                                        refine jr_tsc (pc' := 1306) (17) rfl jg_band hc (by decide) rfl rfl (jr_al_n (pc' := 1307) rfl rfl rfl (jr_al_n (pc' := 1308) rfl rfl rfl (jr_il (pc' := 1310) rfl rfl rfl (jr_ic (pc' := 1311) rfl rfl (jr_add (pc' := 1312) rfl rfl ?_)))))
                                        refine jr_xa (pc' := 1313) rfl rfl jg_w h (fun hc h => ?_)
                                        refine jr_al_n (pc' := 1314) rfl rfl rfl (jr_il (pc' := 1316) rfl rfl rfl (jr_ic (pc' := 1317) rfl rfl (jr_add (pc' := 1318) rfl rfl ?_)))
                                        refine jr_xa (pc' := 1319) rfl rfl jg_w h (fun hc h => ?_)
                                        refine jr_al_n (pc' := 1320) rfl rfl rfl (jr_il (pc' := 1322) rfl rfl rfl (jr_ic (pc' := 1323) rfl rfl (jr_add (pc' := 1324) rfl rfl ?_)))
                                        refine jr_xa (pc' := 1325) rfl rfl jg_w h (fun hc h => ?_)
                                        refine jr_al_n (pc' := 1326) rfl rfl rfl ?_
                                        refine jr_cw (pc' := 1329) (b1 := 3) (b2 := 18) [] rfl rfl jlk_13_173 rfl (jl rfl) (by decide) rfl (jl rfl) rfl (jl rfl) (jM_hw hs1 hub (by decide) (by decide)) (fun Q' hq => jc_318 hN3 (Nat.le_trans (jl rfl) hd) jg_i jg_i jg_i (jo_b h) hq) (fun p52 hp52 h => ?_)
                                        have hu := jM_hw (b1 := 3) (b2 := 18) hs1 hub (by decide) (by decide)
                                        refine jr_is (pc' := 1331) (L' := [_, _, _, _, _, _, _, _]) rfl rfl (jl rfl) rfl rfl (jr_al_n (pc' := 1332) rfl rfl rfl (jr_al_n (pc' := 1333) rfl rfl rfl (jr_il (pc' := 1335) rfl rfl rfl (jr_ic (pc' := 1336) rfl rfl (jr_add (pc' := 1337) rfl rfl ?_)))))
                                        refine jr_xa (pc' := 1338) rfl rfl jg_w h (fun hc h => ?_)
                                        refine jr_al_n (pc' := 1339) rfl rfl rfl (jr_il (pc' := 1341) rfl rfl rfl (jr_ic (pc' := 1342) rfl rfl (jr_add (pc' := 1343) rfl rfl ?_)))
                                        refine jr_xa (pc' := 1344) rfl rfl jg_w h (fun hc h => ?_)
                                        refine jr_al_n (pc' := 1345) rfl rfl rfl (jr_il (pc' := 1347) rfl rfl rfl (jr_ic (pc' := 1348) rfl rfl (jr_add (pc' := 1349) rfl rfl ?_)))
                                        refine jr_xa (pc' := 1350) rfl rfl jg_w h (fun hc h => ?_)
                                        refine jr_cv_i (pc' := 1353) [] rfl rfl jlk_13_175 jq_267 jbd_267 (jl rfl) rfl (jl rfl) hu rfl (jk rfl hN) (jd_67.trans jo_267.symm) (fun Q' hq => jc_267 hN (Nat.le_trans (jl rfl) hd) jg_i jg_i jg_i (jo_b h) hq) (fun p53 hp53 h => ?_)
                                        refine jr_is (pc' := 1355) (L' := [_, _, _, _, _, _, _, _]) rfl rfl (jl rfl) rfl rfl (jr_al_n (pc' := 1356) rfl rfl rfl ?_)
                                        refine jr_cv_p (pc' := 1359) [] rfl rfl jlk_13_119 jq_186 jbd_186 (jl rfl) rfl (jl rfl) hu rfl (jk rfl hN) (jd_67.trans jo_186.symm) (fun Q' hq => jc_186 hN (Nat.le_trans (jl rfl) hd)  (jo_b h) hq) (fun p54 hp54 h => ?_)
                                        refine jr_il (pc' := 1361) rfl rfl rfl ?_
                                        refine jr_ceq (pa := 1366) (pb := 1364) rfl rfl rfl hp54 hp52 h (fun hc h => ?_) (fun hc h => ?_)
                                        · refine jr_il (pc' := 1368) rfl rfl rfl ?_
                                          refine jr_zne (pa := 1371) (pb := 1383) rfl rfl rfl hp52 h (fun hc h => ?_) (fun hc h => ?_)
                                          · refine jr_al_n (pc' := 1372) rfl rfl rfl (jr_ic (pc' := 1373) rfl rfl (jr_la (pc' := 1374) rfl rfl hN3 (jr_il (pc' := 1376) rfl rfl rfl (jr_i2l (pc' := 1377) rfl rfl hp53 (jr_lcmp (pc' := 1378) rfl rfl jgl_a (jgl_g hp53) ?_)))))
                                            refine jr_zeq (pa := 1383) (pb := 1381) rfl rfl rfl jg_cmp h (fun hc h => ?_) (fun hc h => ?_)
                                            · refine jr_goto (pc' := 2455) rfl rfl (jr_inc (pc' := 2458) (L' := [_, _, _, _, _, _, _, _]) rfl rfl rfl (jl rfl) rfl rfl (jr_goto (pc' := 23) rfl rfl ?_))
                                              exact k2 (jw (s1.1 + 10), p53.2) (jM_i hX5 hs1 hlp) h _ _ _ _ (jM_u hX5 hs1 hlp hub (by decide) (by decide))
                                            · refine jr_ic (pc' := 1382) rfl rfl ?_
                                              exact jr_retb rfl hu rfl jb_0 (hQ ((0 : Int), p53.2) jb_0 h)
                                          · refine jr_goto (pc' := 2455) rfl rfl (jr_inc (pc' := 2458) (L' := [_, _, _, _, _, _, _, _]) rfl rfl rfl (jl rfl) rfl rfl (jr_goto (pc' := 23) rfl rfl ?_))
                                            exact k2 (jw (s1.1 + 10), p53.2) (jM_i hX5 hs1 hlp) h _ _ _ _ (jM_u hX5 hs1 hlp hub (by decide) (by decide))
                                        · refine jr_ic (pc' := 1365) rfl rfl ?_
                                          exact jr_retb rfl hu rfl jb_0 (hQ ((0 : Int), p53.2) jb_0 h)
                                      · refine jo_i h (fun hc h => ?_) (fun hc18 h => ?_)
                                        · unfold jfM_18 at h
                                          refine jr_tsc (pc' := 1386) (18) rfl jg_band hc (by decide) rfl rfl (jr_al_n (pc' := 1387) rfl rfl rfl (jr_al_n (pc' := 1388) rfl rfl rfl (jr_il (pc' := 1390) rfl rfl rfl (jr_ic (pc' := 1391) rfl rfl (jr_add (pc' := 1392) rfl rfl ?_)))))
                                          refine jr_xa (pc' := 1393) rfl rfl jg_w h (fun hc h => ?_)
                                          refine jr_al_n (pc' := 1394) rfl rfl rfl (jr_il (pc' := 1396) rfl rfl rfl (jr_ic (pc' := 1397) rfl rfl (jr_add (pc' := 1398) rfl rfl ?_)))
                                          refine jr_xa (pc' := 1399) rfl rfl jg_w h (fun hc h => ?_)
                                          refine jr_al_n (pc' := 1400) rfl rfl rfl ?_
                                          refine jr_cw (pc' := 1403) (b1 := 2) (b2 := 12) [] rfl rfl jlk_13_176 rfl (jl rfl) (by decide) rfl (jl rfl) rfl (jl rfl) (jM_hw hs1 hub (by decide) (by decide)) (fun Q' hq => jc_319 hN3 (Nat.le_trans (jl rfl) hd) jg_i jg_i (jo_b h) hq) (fun p49 hp49 h => ?_)
                                          have hu := jM_hw (b1 := 2) (b2 := 12) hs1 hub (by decide) (by decide)
                                          refine jr_is (pc' := 1405) (L' := [_, _, _, _, _, _, _, _]) rfl rfl (jl rfl) rfl rfl (jr_al_n (pc' := 1406) rfl rfl rfl (jr_al_n (pc' := 1407) rfl rfl rfl (jr_il (pc' := 1409) rfl rfl rfl (jr_ic (pc' := 1410) rfl rfl (jr_add (pc' := 1411) rfl rfl ?_)))))
                                          refine jr_xa (pc' := 1412) rfl rfl jg_w h (fun hc h => ?_)
                                          refine jr_al_n (pc' := 1413) rfl rfl rfl (jr_il (pc' := 1415) rfl rfl rfl (jr_ic (pc' := 1416) rfl rfl (jr_add (pc' := 1417) rfl rfl ?_)))
                                          refine jr_xa (pc' := 1418) rfl rfl jg_w h (fun hc h => ?_)
                                          refine jr_cv_i (pc' := 1421) [] rfl rfl jlk_13_178 jq_269 jbd_269 (jl rfl) rfl (jl rfl) hu rfl (jk rfl hN) (jd_67.trans jo_269.symm) (fun Q' hq => jc_269 hN (Nat.le_trans (jl rfl) hd) jg_i jg_i (jo_b h) hq) (fun p50 hp50 h => ?_)
                                          refine jr_is (pc' := 1423) (L' := [_, _, _, _, _, _, _, _]) rfl rfl (jl rfl) rfl rfl (jr_al_n (pc' := 1424) rfl rfl rfl ?_)
                                          refine jr_cv_p (pc' := 1427) [] rfl rfl jlk_13_119 jq_186 jbd_186 (jl rfl) rfl (jl rfl) hu rfl (jk rfl hN) (jd_67.trans jo_186.symm) (fun Q' hq => jc_186 hN (Nat.le_trans (jl rfl) hd)  (jo_b h) hq) (fun p51 hp51 h => ?_)
                                          refine jr_il (pc' := 1429) rfl rfl rfl ?_
                                          refine jr_ceq (pa := 1434) (pb := 1432) rfl rfl rfl hp51 hp49 h (fun hc h => ?_) (fun hc h => ?_)
                                          · refine jr_il (pc' := 1436) rfl rfl rfl ?_
                                            refine jr_zne (pa := 1439) (pb := 1451) rfl rfl rfl hp49 h (fun hc h => ?_) (fun hc h => ?_)
                                            · refine jr_al_n (pc' := 1440) rfl rfl rfl (jr_ic (pc' := 1441) rfl rfl (jr_la (pc' := 1442) rfl rfl hN3 (jr_il (pc' := 1444) rfl rfl rfl (jr_i2l (pc' := 1445) rfl rfl hp50 (jr_lcmp (pc' := 1446) rfl rfl jgl_a (jgl_g hp50) ?_)))))
                                              refine jr_zeq (pa := 1451) (pb := 1449) rfl rfl rfl jg_cmp h (fun hc h => ?_) (fun hc h => ?_)
                                              · refine jr_goto (pc' := 2455) rfl rfl (jr_inc (pc' := 2458) (L' := [_, _, _, _, _, _, _, _]) rfl rfl rfl (jl rfl) rfl rfl (jr_goto (pc' := 23) rfl rfl ?_))
                                                exact k2 (jw (s1.1 + 10), p50.2) (jM_i hX5 hs1 hlp) h _ _ _ _ (jM_u hX5 hs1 hlp hub (by decide) (by decide))
                                              · refine jr_ic (pc' := 1450) rfl rfl ?_
                                                exact jr_retb rfl hu rfl jb_0 (hQ ((0 : Int), p50.2) jb_0 h)
                                            · refine jr_goto (pc' := 2455) rfl rfl (jr_inc (pc' := 2458) (L' := [_, _, _, _, _, _, _, _]) rfl rfl rfl (jl rfl) rfl rfl (jr_goto (pc' := 23) rfl rfl ?_))
                                              exact k2 (jw (s1.1 + 10), p50.2) (jM_i hX5 hs1 hlp) h _ _ _ _ (jM_u hX5 hs1 hlp hub (by decide) (by decide))
                                          · refine jr_ic (pc' := 1433) rfl rfl ?_
                                            exact jr_retb rfl hu rfl jb_0 (hQ ((0 : Int), p50.2) jb_0 h)
                                        · refine jo_i h (fun hc h => ?_) (fun hc19 h => ?_)
                                          · unfold jfM_19 at h
                                            refine jr_tsc (pc' := 1454) (19) rfl jg_band hc (by decide) rfl rfl (jr_al_n (pc' := 1455) rfl rfl rfl (jr_al_n (pc' := 1456) rfl rfl rfl (jr_il (pc' := 1458) rfl rfl rfl (jr_ic (pc' := 1459) rfl rfl (jr_add (pc' := 1460) rfl rfl ?_)))))
                                            refine jr_xa (pc' := 1461) rfl rfl jg_w h (fun hc h => ?_)
                                            refine jr_al_n (pc' := 1462) rfl rfl rfl (jr_il (pc' := 1464) rfl rfl rfl (jr_ic (pc' := 1465) rfl rfl (jr_add (pc' := 1466) rfl rfl ?_)))
                                            refine jr_xa (pc' := 1467) rfl rfl jg_w h (fun hc h => ?_)
                                            refine jr_al_n (pc' := 1468) rfl rfl rfl (jr_il (pc' := 1470) rfl rfl rfl (jr_ic (pc' := 1471) rfl rfl (jr_add (pc' := 1472) rfl rfl ?_)))
                                            refine jr_xa (pc' := 1473) rfl rfl jg_w h (fun hc h => ?_)
                                            refine jr_al_n (pc' := 1474) rfl rfl rfl ?_
                                            refine jr_cw (pc' := 1477) (b1 := 3) (b2 := 18) [] rfl rfl jlk_13_179 rfl (jl rfl) (by decide) rfl (jl rfl) rfl (jl rfl) (jM_hw hs1 hub (by decide) (by decide)) (fun Q' hq => jc_320 hN3 (Nat.le_trans (jl rfl) hd) jg_i jg_i jg_i (jo_b h) hq) (fun p46 hp46 h => ?_)
                                            have hu := jM_hw (b1 := 3) (b2 := 18) hs1 hub (by decide) (by decide)
                                            refine jr_is (pc' := 1479) (L' := [_, _, _, _, _, _, _, _]) rfl rfl (jl rfl) rfl rfl (jr_al_n (pc' := 1480) rfl rfl rfl (jr_al_n (pc' := 1481) rfl rfl rfl (jr_il (pc' := 1483) rfl rfl rfl (jr_ic (pc' := 1484) rfl rfl (jr_add (pc' := 1485) rfl rfl ?_)))))
                                            refine jr_xa (pc' := 1486) rfl rfl jg_w h (fun hc h => ?_)
                                            refine jr_al_n (pc' := 1487) rfl rfl rfl (jr_il (pc' := 1489) rfl rfl rfl (jr_ic (pc' := 1490) rfl rfl (jr_add (pc' := 1491) rfl rfl ?_)))
                                            refine jr_xa (pc' := 1492) rfl rfl jg_w h (fun hc h => ?_)
                                            refine jr_al_n (pc' := 1493) rfl rfl rfl (jr_il (pc' := 1495) rfl rfl rfl (jr_ic (pc' := 1496) rfl rfl (jr_add (pc' := 1497) rfl rfl ?_)))
                                            refine jr_xa (pc' := 1498) rfl rfl jg_w h (fun hc h => ?_)
                                            refine jr_cv_i (pc' := 1501) [] rfl rfl jlk_13_181 jq_273 jbd_273 (jl rfl) rfl (jl rfl) hu rfl (jk rfl hN) (jd_67.trans jo_273.symm) (fun Q' hq => jc_273 hN (Nat.le_trans (jl rfl) hd) jg_i jg_i jg_i (jo_b h) hq) (fun p47 hp47 h => ?_)
                                            refine jr_is (pc' := 1503) (L' := [_, _, _, _, _, _, _, _]) rfl rfl (jl rfl) rfl rfl (jr_al_n (pc' := 1504) rfl rfl rfl ?_)
                                            refine jr_cv_p (pc' := 1507) [] rfl rfl jlk_13_119 jq_186 jbd_186 (jl rfl) rfl (jl rfl) hu rfl (jk rfl hN) (jd_67.trans jo_186.symm) (fun Q' hq => jc_186 hN (Nat.le_trans (jl rfl) hd)  (jo_b h) hq) (fun p48 hp48 h => ?_)
                                            refine jr_il (pc' := 1509) rfl rfl rfl ?_
                                            refine jr_ceq (pa := 1514) (pb := 1512) rfl rfl rfl hp48 hp46 h (fun hc h => ?_) (fun hc h => ?_)
                                            · refine jr_il (pc' := 1516) rfl rfl rfl ?_
                                              refine jr_zne (pa := 1519) (pb := 1531) rfl rfl rfl hp46 h (fun hc h => ?_) (fun hc h => ?_)
                                              · refine jr_al_n (pc' := 1520) rfl rfl rfl (jr_ic (pc' := 1521) rfl rfl (jr_la (pc' := 1522) rfl rfl hN3 (jr_il (pc' := 1524) rfl rfl rfl (jr_i2l (pc' := 1525) rfl rfl hp47 (jr_lcmp (pc' := 1526) rfl rfl jgl_a (jgl_g hp47) ?_)))))
                                                refine jr_zeq (pa := 1531) (pb := 1529) rfl rfl rfl jg_cmp h (fun hc h => ?_) (fun hc h => ?_)
                                                · refine jr_goto (pc' := 2455) rfl rfl (jr_inc (pc' := 2458) (L' := [_, _, _, _, _, _, _, _]) rfl rfl rfl (jl rfl) rfl rfl (jr_goto (pc' := 23) rfl rfl ?_))
                                                  exact k2 (jw (s1.1 + 10), p47.2) (jM_i hX5 hs1 hlp) h _ _ _ _ (jM_u hX5 hs1 hlp hub (by decide) (by decide))
                                                · refine jr_ic (pc' := 1530) rfl rfl ?_
                                                  exact jr_retb rfl hu rfl jb_0 (hQ ((0 : Int), p47.2) jb_0 h)
                                              · refine jr_goto (pc' := 2455) rfl rfl (jr_inc (pc' := 2458) (L' := [_, _, _, _, _, _, _, _]) rfl rfl rfl (jl rfl) rfl rfl (jr_goto (pc' := 23) rfl rfl ?_))
                                                exact k2 (jw (s1.1 + 10), p47.2) (jM_i hX5 hs1 hlp) h _ _ _ _ (jM_u hX5 hs1 hlp hub (by decide) (by decide))
                                            · refine jr_ic (pc' := 1513) rfl rfl ?_
                                              exact jr_retb rfl hu rfl jb_0 (hQ ((0 : Int), p47.2) jb_0 h)
                                          · refine jo_i h (fun hc h => ?_) (fun hc20 h => ?_)
                                            · unfold jfM_20 at h
                                              refine jr_tsc (pc' := 1534) (20) rfl jg_band hc (by decide) rfl rfl (jr_al_n (pc' := 1535) rfl rfl rfl (jr_al_n (pc' := 1536) rfl rfl rfl (jr_il (pc' := 1538) rfl rfl rfl (jr_ic (pc' := 1539) rfl rfl (jr_add (pc' := 1540) rfl rfl ?_)))))
                                              refine jr_xa (pc' := 1541) rfl rfl jg_w h (fun hc h => ?_)
                                              refine jr_al_n (pc' := 1542) rfl rfl rfl ?_
                                              refine jr_cw (pc' := 1545) (b1 := 1) (b2 := 6) [] rfl rfl jlk_13_182 rfl (jl rfl) (by decide) rfl (jl rfl) rfl (jl rfl) (jM_hw hs1 hub (by decide) (by decide)) (fun Q' hq => jc_321 hN3 (Nat.le_trans (jl rfl) hd) jg_i (jo_b h) hq) (fun p43 hp43 h => ?_)
                                              have hu := jM_hw (b1 := 1) (b2 := 6) hs1 hub (by decide) (by decide)
                                              refine jr_is (pc' := 1547) (L' := [_, _, _, _, _, _, _, _]) rfl rfl (jl rfl) rfl rfl (jr_al_n (pc' := 1548) rfl rfl rfl (jr_al_n (pc' := 1549) rfl rfl rfl (jr_il (pc' := 1551) rfl rfl rfl (jr_ic (pc' := 1552) rfl rfl (jr_add (pc' := 1553) rfl rfl ?_)))))
                                              refine jr_xa (pc' := 1554) rfl rfl jg_w h (fun hc h => ?_)
                                              refine jr_cv_i (pc' := 1557) [] rfl rfl jlk_13_184 jq_275 jbd_275 (jl rfl) rfl (jl rfl) hu rfl (jk rfl hN) (jd_67.trans jo_275.symm) (fun Q' hq => jc_275 hN (Nat.le_trans (jl rfl) hd) jg_i (jo_b h) hq) (fun p44 hp44 h => ?_)
                                              refine jr_is (pc' := 1559) (L' := [_, _, _, _, _, _, _, _]) rfl rfl (jl rfl) rfl rfl (jr_al_n (pc' := 1560) rfl rfl rfl ?_)
                                              refine jr_cv_p (pc' := 1563) [] rfl rfl jlk_13_119 jq_186 jbd_186 (jl rfl) rfl (jl rfl) hu rfl (jk rfl hN) (jd_67.trans jo_186.symm) (fun Q' hq => jc_186 hN (Nat.le_trans (jl rfl) hd)  (jo_b h) hq) (fun p45 hp45 h => ?_)
                                              refine jr_il (pc' := 1565) rfl rfl rfl ?_
                                              refine jr_ceq (pa := 1570) (pb := 1568) rfl rfl rfl hp45 hp43 h (fun hc h => ?_) (fun hc h => ?_)
                                              · refine jr_il (pc' := 1572) rfl rfl rfl ?_
                                                refine jr_zne (pa := 1575) (pb := 1587) rfl rfl rfl hp43 h (fun hc h => ?_) (fun hc h => ?_)
                                                · refine jr_al_n (pc' := 1576) rfl rfl rfl (jr_ic (pc' := 1577) rfl rfl (jr_la (pc' := 1578) rfl rfl hN3 (jr_il (pc' := 1580) rfl rfl rfl (jr_i2l (pc' := 1581) rfl rfl hp44 (jr_lcmp (pc' := 1582) rfl rfl jgl_a (jgl_g hp44) ?_)))))
                                                  refine jr_zeq (pa := 1587) (pb := 1585) rfl rfl rfl jg_cmp h (fun hc h => ?_) (fun hc h => ?_)
                                                  · refine jr_goto (pc' := 2455) rfl rfl (jr_inc (pc' := 2458) (L' := [_, _, _, _, _, _, _, _]) rfl rfl rfl (jl rfl) rfl rfl (jr_goto (pc' := 23) rfl rfl ?_))
                                                    exact k2 (jw (s1.1 + 10), p44.2) (jM_i hX5 hs1 hlp) h _ _ _ _ (jM_u hX5 hs1 hlp hub (by decide) (by decide))
                                                  · refine jr_ic (pc' := 1586) rfl rfl ?_
                                                    exact jr_retb rfl hu rfl jb_0 (hQ ((0 : Int), p44.2) jb_0 h)
                                                · refine jr_goto (pc' := 2455) rfl rfl (jr_inc (pc' := 2458) (L' := [_, _, _, _, _, _, _, _]) rfl rfl rfl (jl rfl) rfl rfl (jr_goto (pc' := 23) rfl rfl ?_))
                                                  exact k2 (jw (s1.1 + 10), p44.2) (jM_i hX5 hs1 hlp) h _ _ _ _ (jM_u hX5 hs1 hlp hub (by decide) (by decide))
                                              · refine jr_ic (pc' := 1569) rfl rfl ?_
                                                exact jr_retb rfl hu rfl jb_0 (hQ ((0 : Int), p44.2) jb_0 h)
                                            · refine jo_i h (fun hc h => ?_) (fun hc21 h => ?_)
                                              · unfold jfM_21 at h
                                                refine jr_tsc (pc' := 1590) (21) rfl jg_band hc (by decide) rfl rfl (jr_al_n (pc' := 1591) rfl rfl rfl ?_)
                                                refine jr_cv_p (pc' := 1594) [] rfl rfl jlk_13_185 jq_144 jbd_144 (jl rfl) rfl (jl rfl) hu rfl (jk rfl hN) (jd_0.trans jo_144.symm) (fun Q' hq => jc_144 hN (Nat.le_trans (jl rfl) hd)  (jo_b h) hq) (fun p41 hp41 h => ?_)
                                                refine jr_al_n (pc' := 1595) rfl rfl rfl ?_
                                                refine jr_cv_i (pc' := 1598) [_] rfl rfl jlk_13_188 jq_277 jbd_277 (jl rfl) rfl (jl rfl) hu rfl (jk rfl hN) (jd_67.trans jo_277.symm) (fun Q' hq => jc_277 hN (Nat.le_trans (jl rfl) hd)  (jo_b h) hq) (fun p42 hp42 h => ?_)
                                                refine jr_ceq (pa := 2455) (pb := 1601) rfl rfl rfl hp41 hp42 h (fun hc h => ?_) (fun hc h => ?_)
                                                · refine jr_inc (pc' := 2458) (L' := [_, _, _, _, _, _, _, _]) rfl rfl rfl (jl rfl) rfl rfl (jr_goto (pc' := 23) rfl rfl ?_)
                                                  exact k2 (jw (s1.1 + 10), p42.2) (jM_i hX5 hs1 hlp) h _ _ _ _ (jM_0 hX5 hs1 hlp hub)
                                                · refine jr_ic (pc' := 1602) rfl rfl ?_
                                                  exact jr_retb rfl hu rfl jb_0 (hQ ((0 : Int), p42.2) jb_0 h)
                                              · refine jo_i h (fun hc h => ?_) (fun hc22 h => ?_)
                                                · unfold jfM_22 at h
                                                  refine jr_tsc (pc' := 1603) (22) rfl jg_band hc (by decide) rfl rfl (jr_al_n (pc' := 1604) rfl rfl rfl (jr_al_n (pc' := 1605) rfl rfl rfl (jr_il (pc' := 1607) rfl rfl rfl (jr_ic (pc' := 1608) rfl rfl (jr_add (pc' := 1609) rfl rfl ?_)))))
                                                  refine jr_xa (pc' := 1610) rfl rfl jg_w h (fun hc h => ?_)
                                                  refine jr_al_n (pc' := 1611) rfl rfl rfl ?_
                                                  refine jr_cw (pc' := 1614) (b1 := 1) (b2 := 6) [] rfl rfl jlk_13_189 rfl (jl rfl) (by decide) rfl (jl rfl) rfl (jl rfl) (jM_hw hs1 hub (by decide) (by decide)) (fun Q' hq => jc_322 hN3 (Nat.le_trans (jl rfl) hd) jg_i (jo_b h) hq) (fun p38 hp38 h => ?_)
                                                  have hu := jM_hw (b1 := 1) (b2 := 6) hs1 hub (by decide) (by decide)
                                                  refine jr_is (pc' := 1616) (L' := [_, _, _, _, _, _, _, _]) rfl rfl (jl rfl) rfl rfl (jr_al_n (pc' := 1617) rfl rfl rfl (jr_al_n (pc' := 1618) rfl rfl rfl (jr_il (pc' := 1620) rfl rfl rfl (jr_ic (pc' := 1621) rfl rfl (jr_add (pc' := 1622) rfl rfl ?_)))))
                                                  refine jr_xa (pc' := 1623) rfl rfl jg_w h (fun hc h => ?_)
                                                  refine jr_cv_i (pc' := 1626) [] rfl rfl jlk_13_191 jq_278 jbd_278 (jl rfl) rfl (jl rfl) hu rfl (jk rfl hN) (jd_67.trans jo_278.symm) (fun Q' hq => jc_278 hN (Nat.le_trans (jl rfl) hd) jg_i (jo_b h) hq) (fun p39 hp39 h => ?_)
                                                  refine jr_is (pc' := 1628) (L' := [_, _, _, _, _, _, _, _]) rfl rfl (jl rfl) rfl rfl (jr_al_n (pc' := 1629) rfl rfl rfl ?_)
                                                  refine jr_cv_p (pc' := 1632) [] rfl rfl jlk_13_119 jq_186 jbd_186 (jl rfl) rfl (jl rfl) hu rfl (jk rfl hN) (jd_67.trans jo_186.symm) (fun Q' hq => jc_186 hN (Nat.le_trans (jl rfl) hd)  (jo_b h) hq) (fun p40 hp40 h => ?_)
                                                  refine jr_il (pc' := 1634) rfl rfl rfl ?_
                                                  refine jr_ceq (pa := 1639) (pb := 1637) rfl rfl rfl hp40 hp38 h (fun hc h => ?_) (fun hc h => ?_)
                                                  · refine jr_il (pc' := 1641) rfl rfl rfl ?_
                                                    refine jr_zne (pa := 1644) (pb := 1656) rfl rfl rfl hp38 h (fun hc h => ?_) (fun hc h => ?_)
                                                    · refine jr_al_n (pc' := 1645) rfl rfl rfl (jr_ic (pc' := 1646) rfl rfl (jr_la (pc' := 1647) rfl rfl hN3 (jr_il (pc' := 1649) rfl rfl rfl (jr_i2l (pc' := 1650) rfl rfl hp39 (jr_lcmp (pc' := 1651) rfl rfl jgl_a (jgl_g hp39) ?_)))))
                                                      refine jr_zeq (pa := 1656) (pb := 1654) rfl rfl rfl jg_cmp h (fun hc h => ?_) (fun hc h => ?_)
                                                      · refine jr_goto (pc' := 2455) rfl rfl (jr_inc (pc' := 2458) (L' := [_, _, _, _, _, _, _, _]) rfl rfl rfl (jl rfl) rfl rfl (jr_goto (pc' := 23) rfl rfl ?_))
                                                        exact k2 (jw (s1.1 + 10), p39.2) (jM_i hX5 hs1 hlp) h _ _ _ _ (jM_u hX5 hs1 hlp hub (by decide) (by decide))
                                                      · refine jr_ic (pc' := 1655) rfl rfl ?_
                                                        exact jr_retb rfl hu rfl jb_0 (hQ ((0 : Int), p39.2) jb_0 h)
                                                    · refine jr_goto (pc' := 2455) rfl rfl (jr_inc (pc' := 2458) (L' := [_, _, _, _, _, _, _, _]) rfl rfl rfl (jl rfl) rfl rfl (jr_goto (pc' := 23) rfl rfl ?_))
                                                      exact k2 (jw (s1.1 + 10), p39.2) (jM_i hX5 hs1 hlp) h _ _ _ _ (jM_u hX5 hs1 hlp hub (by decide) (by decide))
                                                  · refine jr_ic (pc' := 1638) rfl rfl ?_
                                                    exact jr_retb rfl hu rfl jb_0 (hQ ((0 : Int), p39.2) jb_0 h)
                                                · refine jo_i h (fun hc h => ?_) (fun hc23 h => ?_)
                                                  · unfold jfM_23 at h
                                                    refine jr_tsc (pc' := 1659) (23) rfl jg_band hc (by decide) rfl rfl (jr_al_n (pc' := 1660) rfl rfl rfl (jr_al_n (pc' := 1661) rfl rfl rfl (jr_il (pc' := 1663) rfl rfl rfl (jr_ic (pc' := 1664) rfl rfl (jr_add (pc' := 1665) rfl rfl ?_)))))
                                                    refine jr_xa (pc' := 1666) rfl rfl jg_w h (fun hc h => ?_)
                                                    refine jr_al_n (pc' := 1667) rfl rfl rfl (jr_il (pc' := 1669) rfl rfl rfl (jr_ic (pc' := 1670) rfl rfl (jr_add (pc' := 1671) rfl rfl ?_)))
                                                    refine jr_xa (pc' := 1672) rfl rfl jg_w h (fun hc h => ?_)
                                                    refine jr_al_n (pc' := 1673) rfl rfl rfl ?_
                                                    refine jr_cw (pc' := 1676) (b1 := 2) (b2 := 12) [] rfl rfl jlk_13_192 rfl (jl rfl) (by decide) rfl (jl rfl) rfl (jl rfl) (jM_hw hs1 hub (by decide) (by decide)) (fun Q' hq => jc_323 hN3 (Nat.le_trans (jl rfl) hd) jg_i jg_i (jo_b h) hq) (fun p35 hp35 h => ?_)
                                                    have hu := jM_hw (b1 := 2) (b2 := 12) hs1 hub (by decide) (by decide)
                                                    refine jr_is (pc' := 1678) (L' := [_, _, _, _, _, _, _, _]) rfl rfl (jl rfl) rfl rfl (jr_al_n (pc' := 1679) rfl rfl rfl (jr_al_n (pc' := 1680) rfl rfl rfl (jr_il (pc' := 1682) rfl rfl rfl (jr_ic (pc' := 1683) rfl rfl (jr_add (pc' := 1684) rfl rfl ?_)))))
                                                    refine jr_xa (pc' := 1685) rfl rfl jg_w h (fun hc h => ?_)
                                                    refine jr_al_n (pc' := 1686) rfl rfl rfl (jr_il (pc' := 1688) rfl rfl rfl (jr_ic (pc' := 1689) rfl rfl (jr_add (pc' := 1690) rfl rfl ?_)))
                                                    refine jr_xa (pc' := 1691) rfl rfl jg_w h (fun hc h => ?_)
                                                    refine jr_cv_i (pc' := 1694) [] rfl rfl jlk_13_194 jq_280 jbd_280 (jl rfl) rfl (jl rfl) hu rfl (jk rfl hN) (jd_67.trans jo_280.symm) (fun Q' hq => jc_280 hN (Nat.le_trans (jl rfl) hd) jg_i jg_i (jo_b h) hq) (fun p36 hp36 h => ?_)
                                                    refine jr_is (pc' := 1696) (L' := [_, _, _, _, _, _, _, _]) rfl rfl (jl rfl) rfl rfl (jr_al_n (pc' := 1697) rfl rfl rfl ?_)
                                                    refine jr_cv_p (pc' := 1700) [] rfl rfl jlk_13_119 jq_186 jbd_186 (jl rfl) rfl (jl rfl) hu rfl (jk rfl hN) (jd_67.trans jo_186.symm) (fun Q' hq => jc_186 hN (Nat.le_trans (jl rfl) hd)  (jo_b h) hq) (fun p37 hp37 h => ?_)
                                                    refine jr_il (pc' := 1702) rfl rfl rfl ?_
                                                    refine jr_ceq (pa := 1707) (pb := 1705) rfl rfl rfl hp37 hp35 h (fun hc h => ?_) (fun hc h => ?_)
                                                    · refine jr_il (pc' := 1709) rfl rfl rfl ?_
                                                      refine jr_zne (pa := 1712) (pb := 1724) rfl rfl rfl hp35 h (fun hc h => ?_) (fun hc h => ?_)
                                                      · refine jr_al_n (pc' := 1713) rfl rfl rfl (jr_ic (pc' := 1714) rfl rfl (jr_la (pc' := 1715) rfl rfl hN3 (jr_il (pc' := 1717) rfl rfl rfl (jr_i2l (pc' := 1718) rfl rfl hp36 (jr_lcmp (pc' := 1719) rfl rfl jgl_a (jgl_g hp36) ?_)))))
                                                        refine jr_zeq (pa := 1724) (pb := 1722) rfl rfl rfl jg_cmp h (fun hc h => ?_) (fun hc h => ?_)
                                                        · refine jr_goto (pc' := 2455) rfl rfl (jr_inc (pc' := 2458) (L' := [_, _, _, _, _, _, _, _]) rfl rfl rfl (jl rfl) rfl rfl (jr_goto (pc' := 23) rfl rfl ?_))
                                                          exact k2 (jw (s1.1 + 10), p36.2) (jM_i hX5 hs1 hlp) h _ _ _ _ (jM_u hX5 hs1 hlp hub (by decide) (by decide))
                                                        · refine jr_ic (pc' := 1723) rfl rfl ?_
                                                          exact jr_retb rfl hu rfl jb_0 (hQ ((0 : Int), p36.2) jb_0 h)
                                                      · refine jr_goto (pc' := 2455) rfl rfl (jr_inc (pc' := 2458) (L' := [_, _, _, _, _, _, _, _]) rfl rfl rfl (jl rfl) rfl rfl (jr_goto (pc' := 23) rfl rfl ?_))
                                                        exact k2 (jw (s1.1 + 10), p36.2) (jM_i hX5 hs1 hlp) h _ _ _ _ (jM_u hX5 hs1 hlp hub (by decide) (by decide))
                                                    · refine jr_ic (pc' := 1706) rfl rfl ?_
                                                      exact jr_retb rfl hu rfl jb_0 (hQ ((0 : Int), p36.2) jb_0 h)
                                                  · refine jo_i h (fun hc h => ?_) (fun hc24 h => ?_)
                                                    · unfold jfM_24 at h
                                                      refine jr_tsc (pc' := 1727) (24) rfl jg_band hc (by decide) rfl rfl (jr_al_n (pc' := 1728) rfl rfl rfl (jr_al_n (pc' := 1729) rfl rfl rfl (jr_il (pc' := 1731) rfl rfl rfl (jr_ic (pc' := 1732) rfl rfl (jr_add (pc' := 1733) rfl rfl ?_)))))
                                                      refine jr_xa (pc' := 1734) rfl rfl jg_w h (fun hc h => ?_)
                                                      refine jr_al_n (pc' := 1735) rfl rfl rfl (jr_il (pc' := 1737) rfl rfl rfl (jr_ic (pc' := 1738) rfl rfl (jr_add (pc' := 1739) rfl rfl ?_)))
                                                      refine jr_xa (pc' := 1740) rfl rfl jg_w h (fun hc h => ?_)
                                                      refine jr_al_n (pc' := 1741) rfl rfl rfl ?_
                                                      refine jr_cw (pc' := 1744) (b1 := 2) (b2 := 12) [] rfl rfl jlk_13_195 rfl (jl rfl) (by decide) rfl (jl rfl) rfl (jl rfl) (jM_hw hs1 hub (by decide) (by decide)) (fun Q' hq => jc_324 hN3 (Nat.le_trans (jl rfl) hd) jg_i jg_i (jo_b h) hq) (fun p32 hp32 h => ?_)
                                                      have hu := jM_hw (b1 := 2) (b2 := 12) hs1 hub (by decide) (by decide)
                                                      refine jr_is (pc' := 1746) (L' := [_, _, _, _, _, _, _, _]) rfl rfl (jl rfl) rfl rfl (jr_al_n (pc' := 1747) rfl rfl rfl (jr_al_n (pc' := 1748) rfl rfl rfl (jr_il (pc' := 1750) rfl rfl rfl (jr_ic (pc' := 1751) rfl rfl (jr_add (pc' := 1752) rfl rfl ?_)))))
                                                      refine jr_xa (pc' := 1753) rfl rfl jg_w h (fun hc h => ?_)
                                                      refine jr_al_n (pc' := 1754) rfl rfl rfl (jr_il (pc' := 1756) rfl rfl rfl (jr_ic (pc' := 1757) rfl rfl (jr_add (pc' := 1758) rfl rfl ?_)))
                                                      refine jr_xa (pc' := 1759) rfl rfl jg_w h (fun hc h => ?_)
                                                      refine jr_cv_i (pc' := 1762) [] rfl rfl jlk_13_197 jq_283 jbd_283 (jl rfl) rfl (jl rfl) hu rfl (jk rfl hN) (jd_67.trans jo_283.symm) (fun Q' hq => jc_283 hN (Nat.le_trans (jl rfl) hd) jg_i jg_i (jo_b h) hq) (fun p33 hp33 h => ?_)
                                                      refine jr_is (pc' := 1764) (L' := [_, _, _, _, _, _, _, _]) rfl rfl (jl rfl) rfl rfl (jr_al_n (pc' := 1765) rfl rfl rfl ?_)
                                                      refine jr_cv_p (pc' := 1768) [] rfl rfl jlk_13_119 jq_186 jbd_186 (jl rfl) rfl (jl rfl) hu rfl (jk rfl hN) (jd_67.trans jo_186.symm) (fun Q' hq => jc_186 hN (Nat.le_trans (jl rfl) hd)  (jo_b h) hq) (fun p34 hp34 h => ?_)
                                                      refine jr_il (pc' := 1770) rfl rfl rfl ?_
                                                      refine jr_ceq (pa := 1775) (pb := 1773) rfl rfl rfl hp34 hp32 h (fun hc h => ?_) (fun hc h => ?_)
                                                      · refine jr_il (pc' := 1777) rfl rfl rfl ?_
                                                        refine jr_zne (pa := 1780) (pb := 1792) rfl rfl rfl hp32 h (fun hc h => ?_) (fun hc h => ?_)
                                                        · refine jr_al_n (pc' := 1781) rfl rfl rfl (jr_ic (pc' := 1782) rfl rfl (jr_la (pc' := 1783) rfl rfl hN3 (jr_il (pc' := 1785) rfl rfl rfl (jr_i2l (pc' := 1786) rfl rfl hp33 (jr_lcmp (pc' := 1787) rfl rfl jgl_a (jgl_g hp33) ?_)))))
                                                          refine jr_zeq (pa := 1792) (pb := 1790) rfl rfl rfl jg_cmp h (fun hc h => ?_) (fun hc h => ?_)
                                                          · refine jr_goto (pc' := 2455) rfl rfl (jr_inc (pc' := 2458) (L' := [_, _, _, _, _, _, _, _]) rfl rfl rfl (jl rfl) rfl rfl (jr_goto (pc' := 23) rfl rfl ?_))
                                                            exact k2 (jw (s1.1 + 10), p33.2) (jM_i hX5 hs1 hlp) h _ _ _ _ (jM_u hX5 hs1 hlp hub (by decide) (by decide))
                                                          · refine jr_ic (pc' := 1791) rfl rfl ?_
                                                            exact jr_retb rfl hu rfl jb_0 (hQ ((0 : Int), p33.2) jb_0 h)
                                                        · refine jr_goto (pc' := 2455) rfl rfl (jr_inc (pc' := 2458) (L' := [_, _, _, _, _, _, _, _]) rfl rfl rfl (jl rfl) rfl rfl (jr_goto (pc' := 23) rfl rfl ?_))
                                                          exact k2 (jw (s1.1 + 10), p33.2) (jM_i hX5 hs1 hlp) h _ _ _ _ (jM_u hX5 hs1 hlp hub (by decide) (by decide))
                                                      · refine jr_ic (pc' := 1774) rfl rfl ?_
                                                        exact jr_retb rfl hu rfl jb_0 (hQ ((0 : Int), p33.2) jb_0 h)
                                                    · refine jo_i h (fun hc h => ?_) (fun hc25 h => ?_)
                                                      · unfold jfM_25 at h
                                                        refine jr_tsc (pc' := 1795) (25) rfl jg_band hc (by decide) rfl rfl (jr_al_n (pc' := 1796) rfl rfl rfl ?_)
                                                        refine jr_cv_i (pc' := 1799) [] rfl rfl jlk_13_198 jq_145 jbd_145 (jl rfl) rfl (jl rfl) hu rfl (jk rfl hN) (jd_0.trans jo_145.symm) (fun Q' hq => jc_145 hN (Nat.le_trans (jl rfl) hd)  (jo_b h) hq) (fun p30 hp30 h => ?_)
                                                        refine jr_al_n (pc' := 1800) rfl rfl rfl ?_
                                                        refine jr_cv_i (pc' := 1803) [_] rfl rfl jlk_13_201 jq_284 jbd_284 (jl rfl) rfl (jl rfl) hu rfl (jk rfl hN) (jd_67.trans jo_284.symm) (fun Q' hq => jc_284 hN (Nat.le_trans (jl rfl) hd)  (jo_b h) hq) (fun p31 hp31 h => ?_)
                                                        refine jr_ceq (pa := 2455) (pb := 1806) rfl rfl rfl hp30 hp31 h (fun hc h => ?_) (fun hc h => ?_)
                                                        · refine jr_inc (pc' := 2458) (L' := [_, _, _, _, _, _, _, _]) rfl rfl rfl (jl rfl) rfl rfl (jr_goto (pc' := 23) rfl rfl ?_)
                                                          exact k2 (jw (s1.1 + 10), p31.2) (jM_i hX5 hs1 hlp) h _ _ _ _ (jM_0 hX5 hs1 hlp hub)
                                                        · refine jr_ic (pc' := 1807) rfl rfl ?_
                                                          exact jr_retb rfl hu rfl jb_0 (hQ ((0 : Int), p31.2) jb_0 h)
                                                      · refine jo_i h (fun hc h => ?_) (fun hc26 h => ?_)
                                                        · unfold jfM_26 at h
                                                          refine jr_tsc (pc' := 1808) (26) rfl jg_band hc (by decide) rfl rfl (jr_al_n (pc' := 1809) rfl rfl rfl (jr_al_n (pc' := 1810) rfl rfl rfl (jr_il (pc' := 1812) rfl rfl rfl (jr_ic (pc' := 1813) rfl rfl (jr_add (pc' := 1814) rfl rfl ?_)))))
                                                          refine jr_xa (pc' := 1815) rfl rfl jg_w h (fun hc h => ?_)
                                                          refine jr_al_n (pc' := 1816) rfl rfl rfl ?_
                                                          refine jr_cw (pc' := 1819) (b1 := 1) (b2 := 6) [] rfl rfl jlk_13_202 rfl (jl rfl) (by decide) rfl (jl rfl) rfl (jl rfl) (jM_hw hs1 hub (by decide) (by decide)) (fun Q' hq => jc_325 hN3 (Nat.le_trans (jl rfl) hd) jg_i (jo_b h) hq) (fun p27 hp27 h => ?_)
                                                          have hu := jM_hw (b1 := 1) (b2 := 6) hs1 hub (by decide) (by decide)
                                                          refine jr_is (pc' := 1821) (L' := [_, _, _, _, _, _, _, _]) rfl rfl (jl rfl) rfl rfl (jr_al_n (pc' := 1822) rfl rfl rfl (jr_al_n (pc' := 1823) rfl rfl rfl (jr_il (pc' := 1825) rfl rfl rfl (jr_ic (pc' := 1826) rfl rfl (jr_add (pc' := 1827) rfl rfl ?_)))))
                                                          refine jr_xa (pc' := 1828) rfl rfl jg_w h (fun hc h => ?_)
                                                          refine jr_cv_i (pc' := 1831) [] rfl rfl jlk_13_204 jq_286 jbd_286 (jl rfl) rfl (jl rfl) hu rfl (jk rfl hN) (jd_67.trans jo_286.symm) (fun Q' hq => jc_286 hN (Nat.le_trans (jl rfl) hd) jg_i (jo_b h) hq) (fun p28 hp28 h => ?_)
                                                          refine jr_is (pc' := 1833) (L' := [_, _, _, _, _, _, _, _]) rfl rfl (jl rfl) rfl rfl (jr_al_n (pc' := 1834) rfl rfl rfl ?_)
                                                          refine jr_cv_p (pc' := 1837) [] rfl rfl jlk_13_119 jq_186 jbd_186 (jl rfl) rfl (jl rfl) hu rfl (jk rfl hN) (jd_67.trans jo_186.symm) (fun Q' hq => jc_186 hN (Nat.le_trans (jl rfl) hd)  (jo_b h) hq) (fun p29 hp29 h => ?_)
                                                          refine jr_il (pc' := 1839) rfl rfl rfl ?_
                                                          refine jr_ceq (pa := 1844) (pb := 1842) rfl rfl rfl hp29 hp27 h (fun hc h => ?_) (fun hc h => ?_)
                                                          · refine jr_il (pc' := 1846) rfl rfl rfl ?_
                                                            refine jr_zne (pa := 1849) (pb := 1861) rfl rfl rfl hp27 h (fun hc h => ?_) (fun hc h => ?_)
                                                            · refine jr_al_n (pc' := 1850) rfl rfl rfl (jr_ic (pc' := 1851) rfl rfl (jr_la (pc' := 1852) rfl rfl hN3 (jr_il (pc' := 1854) rfl rfl rfl (jr_i2l (pc' := 1855) rfl rfl hp28 (jr_lcmp (pc' := 1856) rfl rfl jgl_a (jgl_g hp28) ?_)))))
                                                              refine jr_zeq (pa := 1861) (pb := 1859) rfl rfl rfl jg_cmp h (fun hc h => ?_) (fun hc h => ?_)
                                                              · refine jr_goto (pc' := 2455) rfl rfl (jr_inc (pc' := 2458) (L' := [_, _, _, _, _, _, _, _]) rfl rfl rfl (jl rfl) rfl rfl (jr_goto (pc' := 23) rfl rfl ?_))
                                                                exact k2 (jw (s1.1 + 10), p28.2) (jM_i hX5 hs1 hlp) h _ _ _ _ (jM_u hX5 hs1 hlp hub (by decide) (by decide))
                                                              · refine jr_ic (pc' := 1860) rfl rfl ?_
                                                                exact jr_retb rfl hu rfl jb_0 (hQ ((0 : Int), p28.2) jb_0 h)
                                                            · refine jr_goto (pc' := 2455) rfl rfl (jr_inc (pc' := 2458) (L' := [_, _, _, _, _, _, _, _]) rfl rfl rfl (jl rfl) rfl rfl (jr_goto (pc' := 23) rfl rfl ?_))
                                                              exact k2 (jw (s1.1 + 10), p28.2) (jM_i hX5 hs1 hlp) h _ _ _ _ (jM_u hX5 hs1 hlp hub (by decide) (by decide))
                                                          · refine jr_ic (pc' := 1843) rfl rfl ?_
                                                            exact jr_retb rfl hu rfl jb_0 (hQ ((0 : Int), p28.2) jb_0 h)
                                                        · refine jo_i h (fun hc h => ?_) (fun hc27 h => ?_)
                                                          · unfold jfM_27 at h
                                                            refine jr_tsc (pc' := 1864) (27) rfl jg_band hc (by decide) rfl rfl (jr_al_n (pc' := 1865) rfl rfl rfl (jr_al_n (pc' := 1866) rfl rfl rfl (jr_il (pc' := 1868) rfl rfl rfl (jr_ic (pc' := 1869) rfl rfl (jr_add (pc' := 1870) rfl rfl ?_)))))
                                                            refine jr_xa (pc' := 1871) rfl rfl jg_w h (fun hc h => ?_)
                                                            refine jr_al_n (pc' := 1872) rfl rfl rfl (jr_il (pc' := 1874) rfl rfl rfl (jr_ic (pc' := 1875) rfl rfl (jr_add (pc' := 1876) rfl rfl ?_)))
                                                            refine jr_xa (pc' := 1877) rfl rfl jg_w h (fun hc h => ?_)
                                                            refine jr_al_n (pc' := 1878) rfl rfl rfl (jr_il (pc' := 1880) rfl rfl rfl (jr_ic (pc' := 1881) rfl rfl (jr_add (pc' := 1882) rfl rfl ?_)))
                                                            refine jr_xa (pc' := 1883) rfl rfl jg_w h (fun hc h => ?_)
                                                            refine jr_al_n (pc' := 1884) rfl rfl rfl (jr_il (pc' := 1886) rfl rfl rfl (jr_ic (pc' := 1887) rfl rfl (jr_add (pc' := 1888) rfl rfl ?_)))
                                                            refine jr_xa (pc' := 1889) rfl rfl jg_w h (fun hc h => ?_)
                                                            refine jr_al_n (pc' := 1890) rfl rfl rfl ?_
                                                            refine jr_cw (pc' := 1893) (b1 := 3) (b2 := 18) [] rfl rfl jlk_13_205 rfl (jl rfl) (by decide) rfl (jl rfl) rfl (jl rfl) (jM_hw hs1 hub (by decide) (by decide)) (fun Q' hq => jc_326 hN3 (Nat.le_trans (jl rfl) hd) jg_i jg_i jg_i jg_i (jo_b h) hq) (fun p24 hp24 h => ?_)
                                                            have hu := jM_hw (b1 := 3) (b2 := 18) hs1 hub (by decide) (by decide)
                                                            refine jr_is (pc' := 1895) (L' := [_, _, _, _, _, _, _, _]) rfl rfl (jl rfl) rfl rfl (jr_al_n (pc' := 1896) rfl rfl rfl (jr_al_n (pc' := 1897) rfl rfl rfl (jr_il (pc' := 1899) rfl rfl rfl (jr_ic (pc' := 1900) rfl rfl (jr_add (pc' := 1901) rfl rfl ?_)))))
                                                            refine jr_xa (pc' := 1902) rfl rfl jg_w h (fun hc h => ?_)
                                                            refine jr_al_n (pc' := 1903) rfl rfl rfl (jr_il (pc' := 1905) rfl rfl rfl (jr_ic (pc' := 1906) rfl rfl (jr_add (pc' := 1907) rfl rfl ?_)))
                                                            refine jr_xa (pc' := 1908) rfl rfl jg_w h (fun hc h => ?_)
                                                            refine jr_al_n (pc' := 1909) rfl rfl rfl (jr_il (pc' := 1911) rfl rfl rfl (jr_ic (pc' := 1912) rfl rfl (jr_add (pc' := 1913) rfl rfl ?_)))
                                                            refine jr_xa (pc' := 1914) rfl rfl jg_w h (fun hc h => ?_)
                                                            refine jr_al_n (pc' := 1915) rfl rfl rfl (jr_il (pc' := 1917) rfl rfl rfl (jr_ic (pc' := 1918) rfl rfl (jr_add (pc' := 1919) rfl rfl ?_)))
                                                            refine jr_xa (pc' := 1920) rfl rfl jg_w h (fun hc h => ?_)
                                                            refine jr_cv_l (pc' := 1923) [] rfl rfl jlk_13_208 jq_287 jbd_287 (jl rfl) rfl (jl rfl) hu rfl (jk rfl hN) (jd_67.trans jo_287.symm) (fun Q' hq => jc_287 hN (Nat.le_trans (jl rfl) hd) jg_i jg_i jg_i jg_i (jo_b h) hq) (fun p25 hp25 h => ?_)
                                                            refine jr_ls (pc' := 1925) (L' := [_, _, _, _, _, _, _, _]) rfl rfl (jl rfl) rfl (jr_al_n (pc' := 1926) rfl rfl rfl ?_)
                                                            refine jr_cv_p (pc' := 1929) [] rfl rfl jlk_13_119 jq_186 jbd_186 (jl rfl) rfl (jl rfl) hu rfl (jk rfl hN) (jd_67.trans jo_186.symm) (fun Q' hq => jc_186 hN (Nat.le_trans (jl rfl) hd)  (jo_b h) hq) (fun p26 hp26 h => ?_)
                                                            refine jr_il (pc' := 1931) rfl rfl rfl ?_
                                                            refine jr_ceq (pa := 1936) (pb := 1934) rfl rfl rfl hp26 hp24 h (fun hc h => ?_) (fun hc h => ?_)
                                                            · refine jr_il (pc' := 1938) rfl rfl rfl ?_
                                                              refine jr_zne (pa := 1941) (pb := 1952) rfl rfl rfl hp24 h (fun hc h => ?_) (fun hc h => ?_)
                                                              · refine jr_al_n (pc' := 1942) rfl rfl rfl (jr_ic (pc' := 1943) rfl rfl (jr_la (pc' := 1944) rfl rfl hN3 (jr_ll (pc' := 1946) rfl rfl rfl (jr_lcmp (pc' := 1947) rfl rfl jgl_a hp25 ?_))))
                                                                refine jr_zeq (pa := 1952) (pb := 1950) rfl rfl rfl jg_cmp h (fun hc h => ?_) (fun hc h => ?_)
                                                                · refine jr_goto (pc' := 2455) rfl rfl (jr_inc (pc' := 2458) (L' := [_, _, _, _, _, _, _, _]) rfl rfl rfl (jl rfl) rfl rfl (jr_goto (pc' := 23) rfl rfl ?_))
                                                                  exact k2 (jw (s1.1 + 10), p25.2) (jM_i hX5 hs1 hlp) h _ _ _ _ (jM_u hX5 hs1 hlp hub (by decide) (by decide))
                                                                · refine jr_ic (pc' := 1951) rfl rfl ?_
                                                                  exact jr_retb rfl hu rfl jb_0 (hQ ((0 : Int), p25.2) jb_0 h)
                                                              · refine jr_goto (pc' := 2455) rfl rfl (jr_inc (pc' := 2458) (L' := [_, _, _, _, _, _, _, _]) rfl rfl rfl (jl rfl) rfl rfl (jr_goto (pc' := 23) rfl rfl ?_))
                                                                exact k2 (jw (s1.1 + 10), p25.2) (jM_i hX5 hs1 hlp) h _ _ _ _ (jM_u hX5 hs1 hlp hub (by decide) (by decide))
                                                            · refine jr_ic (pc' := 1935) rfl rfl ?_
                                                              exact jr_retb rfl hu rfl jb_0 (hQ ((0 : Int), p25.2) jb_0 h)
                                                          · refine jo_i h (fun hc h => ?_) (fun hc28 h => ?_)
                                                            · unfold jfM_28 at h
                                                              refine jr_tsc (pc' := 1955) (28) rfl jg_band hc (by decide) rfl rfl (jr_al_n (pc' := 1956) rfl rfl rfl (jr_al_n (pc' := 1957) rfl rfl rfl (jr_il (pc' := 1959) rfl rfl rfl (jr_ic (pc' := 1960) rfl rfl (jr_add (pc' := 1961) rfl rfl ?_)))))
                                                              refine jr_xa (pc' := 1962) rfl rfl jg_w h (fun hc h => ?_)
                                                              refine jr_al_n (pc' := 1963) rfl rfl rfl (jr_il (pc' := 1965) rfl rfl rfl (jr_ic (pc' := 1966) rfl rfl (jr_add (pc' := 1967) rfl rfl ?_)))
                                                              refine jr_xa (pc' := 1968) rfl rfl jg_w h (fun hc h => ?_)
                                                              refine jr_al_n (pc' := 1969) rfl rfl rfl (jr_il (pc' := 1971) rfl rfl rfl (jr_ic (pc' := 1972) rfl rfl (jr_add (pc' := 1973) rfl rfl ?_)))
                                                              refine jr_xa (pc' := 1974) rfl rfl jg_w h (fun hc h => ?_)
                                                              refine jr_al_n (pc' := 1975) rfl rfl rfl (jr_il (pc' := 1977) rfl rfl rfl (jr_ic (pc' := 1978) rfl rfl (jr_add (pc' := 1979) rfl rfl ?_)))
                                                              refine jr_xa (pc' := 1980) rfl rfl jg_w h (fun hc h => ?_)
                                                              refine jr_al_n (pc' := 1981) rfl rfl rfl ?_
                                                              refine jr_cw (pc' := 1984) (b1 := 1) (b2 := 6) [] rfl rfl jlk_13_209 rfl (jl rfl) (by decide) rfl (jl rfl) rfl (jl rfl) (jM_hw hs1 hub (by decide) (by decide)) (fun Q' hq => jc_327 hN3 (Nat.le_trans (jl rfl) hd) jg_i jg_i jg_i jg_i (jo_b h) hq) (fun p21 hp21 h => ?_)
                                                              have hu := jM_hw (b1 := 1) (b2 := 6) hs1 hub (by decide) (by decide)
                                                              refine jr_is (pc' := 1986) (L' := [_, _, _, _, _, _, _, _]) rfl rfl (jl rfl) rfl rfl (jr_al_n (pc' := 1987) rfl rfl rfl (jr_al_n (pc' := 1988) rfl rfl rfl (jr_il (pc' := 1990) rfl rfl rfl (jr_ic (pc' := 1991) rfl rfl (jr_add (pc' := 1992) rfl rfl ?_)))))
                                                              refine jr_xa (pc' := 1993) rfl rfl jg_w h (fun hc h => ?_)
                                                              refine jr_al_n (pc' := 1994) rfl rfl rfl (jr_il (pc' := 1996) rfl rfl rfl (jr_ic (pc' := 1997) rfl rfl (jr_add (pc' := 1998) rfl rfl ?_)))
                                                              refine jr_xa (pc' := 1999) rfl rfl jg_w h (fun hc h => ?_)
                                                              refine jr_al_n (pc' := 2000) rfl rfl rfl (jr_il (pc' := 2002) rfl rfl rfl (jr_ic (pc' := 2003) rfl rfl (jr_add (pc' := 2004) rfl rfl ?_)))
                                                              refine jr_xa (pc' := 2005) rfl rfl jg_w h (fun hc h => ?_)
                                                              refine jr_al_n (pc' := 2006) rfl rfl rfl (jr_il (pc' := 2008) rfl rfl rfl (jr_ic (pc' := 2009) rfl rfl (jr_add (pc' := 2010) rfl rfl ?_)))
                                                              refine jr_xa (pc' := 2011) rfl rfl jg_w h (fun hc h => ?_)
                                                              refine jr_cv_i (pc' := 2014) [] rfl rfl jlk_13_211 jq_289 jbd_289 (jl rfl) rfl (jl rfl) hu rfl (jk rfl hN) (jd_67.trans jo_289.symm) (fun Q' hq => jc_289 hN (Nat.le_trans (jl rfl) hd) jg_i jg_i jg_i jg_i (jo_b h) hq) (fun p22 hp22 h => ?_)
                                                              refine jr_is (pc' := 2016) (L' := [_, _, _, _, _, _, _, _]) rfl rfl (jl rfl) rfl rfl (jr_al_n (pc' := 2017) rfl rfl rfl ?_)
                                                              refine jr_cv_p (pc' := 2020) [] rfl rfl jlk_13_119 jq_186 jbd_186 (jl rfl) rfl (jl rfl) hu rfl (jk rfl hN) (jd_67.trans jo_186.symm) (fun Q' hq => jc_186 hN (Nat.le_trans (jl rfl) hd)  (jo_b h) hq) (fun p23 hp23 h => ?_)
                                                              refine jr_il (pc' := 2022) rfl rfl rfl ?_
                                                              refine jr_ceq (pa := 2027) (pb := 2025) rfl rfl rfl hp23 hp21 h (fun hc h => ?_) (fun hc h => ?_)
                                                              · refine jr_il (pc' := 2029) rfl rfl rfl ?_
                                                                refine jr_zne (pa := 2032) (pb := 2044) rfl rfl rfl hp21 h (fun hc h => ?_) (fun hc h => ?_)
                                                                · refine jr_al_n (pc' := 2033) rfl rfl rfl (jr_ic (pc' := 2034) rfl rfl (jr_la (pc' := 2035) rfl rfl hN3 (jr_il (pc' := 2037) rfl rfl rfl (jr_i2l (pc' := 2038) rfl rfl hp22 (jr_lcmp (pc' := 2039) rfl rfl jgl_a (jgl_g hp22) ?_)))))
                                                                  refine jr_zeq (pa := 2044) (pb := 2042) rfl rfl rfl jg_cmp h (fun hc h => ?_) (fun hc h => ?_)
                                                                  · refine jr_goto (pc' := 2455) rfl rfl (jr_inc (pc' := 2458) (L' := [_, _, _, _, _, _, _, _]) rfl rfl rfl (jl rfl) rfl rfl (jr_goto (pc' := 23) rfl rfl ?_))
                                                                    exact k2 (jw (s1.1 + 10), p22.2) (jM_i hX5 hs1 hlp) h _ _ _ _ (jM_u hX5 hs1 hlp hub (by decide) (by decide))
                                                                  · refine jr_ic (pc' := 2043) rfl rfl ?_
                                                                    exact jr_retb rfl hu rfl jb_0 (hQ ((0 : Int), p22.2) jb_0 h)
                                                                · refine jr_goto (pc' := 2455) rfl rfl (jr_inc (pc' := 2458) (L' := [_, _, _, _, _, _, _, _]) rfl rfl rfl (jl rfl) rfl rfl (jr_goto (pc' := 23) rfl rfl ?_))
                                                                  exact k2 (jw (s1.1 + 10), p22.2) (jM_i hX5 hs1 hlp) h _ _ _ _ (jM_u hX5 hs1 hlp hub (by decide) (by decide))
                                                              · refine jr_ic (pc' := 2026) rfl rfl ?_
                                                                exact jr_retb rfl hu rfl jb_0 (hQ ((0 : Int), p22.2) jb_0 h)
                                                            · refine jo_i h (fun hc h => ?_) (fun hc29 h => ?_)
                                                              · unfold jfM_29 at h
                                                                refine jr_tsc (pc' := 2047) (29) rfl jg_band hc (by decide) rfl rfl (jr_al_n (pc' := 2048) rfl rfl rfl (jr_al_n (pc' := 2049) rfl rfl rfl (jr_il (pc' := 2051) rfl rfl rfl (jr_ic (pc' := 2052) rfl rfl (jr_add (pc' := 2053) rfl rfl ?_)))))
                                                                refine jr_xa (pc' := 2054) rfl rfl jg_w h (fun hc h => ?_)
                                                                refine jr_al_n (pc' := 2055) rfl rfl rfl (jr_il (pc' := 2057) rfl rfl rfl (jr_ic (pc' := 2058) rfl rfl (jr_add (pc' := 2059) rfl rfl ?_)))
                                                                refine jr_xa (pc' := 2060) rfl rfl jg_w h (fun hc h => ?_)
                                                                refine jr_al_n (pc' := 2061) rfl rfl rfl (jr_il (pc' := 2063) rfl rfl rfl (jr_ic (pc' := 2064) rfl rfl (jr_add (pc' := 2065) rfl rfl ?_)))
                                                                refine jr_xa (pc' := 2066) rfl rfl jg_w h (fun hc h => ?_)
                                                                refine jr_al_n (pc' := 2067) rfl rfl rfl ?_
                                                                refine jr_cw (pc' := 2070) (b1 := 2) (b2 := 12) [] rfl rfl jlk_13_212 rfl (jl rfl) (by decide) rfl (jl rfl) rfl (jl rfl) (jM_hw hs1 hub (by decide) (by decide)) (fun Q' hq => jc_328 hN3 (Nat.le_trans (jl rfl) hd) jg_i jg_i jg_i (jo_b h) hq) (fun p18 hp18 h => ?_)
                                                                have hu := jM_hw (b1 := 2) (b2 := 12) hs1 hub (by decide) (by decide)
                                                                refine jr_is (pc' := 2072) (L' := [_, _, _, _, _, _, _, _]) rfl rfl (jl rfl) rfl rfl (jr_al_n (pc' := 2073) rfl rfl rfl (jr_al_n (pc' := 2074) rfl rfl rfl (jr_il (pc' := 2076) rfl rfl rfl (jr_ic (pc' := 2077) rfl rfl (jr_add (pc' := 2078) rfl rfl ?_)))))
                                                                refine jr_xa (pc' := 2079) rfl rfl jg_w h (fun hc h => ?_)
                                                                refine jr_al_n (pc' := 2080) rfl rfl rfl (jr_il (pc' := 2082) rfl rfl rfl (jr_ic (pc' := 2083) rfl rfl (jr_add (pc' := 2084) rfl rfl ?_)))
                                                                refine jr_xa (pc' := 2085) rfl rfl jg_w h (fun hc h => ?_)
                                                                refine jr_al_n (pc' := 2086) rfl rfl rfl (jr_il (pc' := 2088) rfl rfl rfl (jr_ic (pc' := 2089) rfl rfl (jr_add (pc' := 2090) rfl rfl ?_)))
                                                                refine jr_xa (pc' := 2091) rfl rfl jg_w h (fun hc h => ?_)
                                                                refine jr_cv_i (pc' := 2094) [] rfl rfl jlk_13_214 jq_291 jbd_291 (jl rfl) rfl (jl rfl) hu rfl (jk rfl hN) (jd_67.trans jo_291.symm) (fun Q' hq => jc_291 hN (Nat.le_trans (jl rfl) hd) jg_i jg_i jg_i (jo_b h) hq) (fun p19 hp19 h => ?_)
                                                                refine jr_is (pc' := 2096) (L' := [_, _, _, _, _, _, _, _]) rfl rfl (jl rfl) rfl rfl (jr_al_n (pc' := 2097) rfl rfl rfl ?_)
                                                                refine jr_cv_p (pc' := 2100) [] rfl rfl jlk_13_119 jq_186 jbd_186 (jl rfl) rfl (jl rfl) hu rfl (jk rfl hN) (jd_67.trans jo_186.symm) (fun Q' hq => jc_186 hN (Nat.le_trans (jl rfl) hd)  (jo_b h) hq) (fun p20 hp20 h => ?_)
                                                                refine jr_il (pc' := 2102) rfl rfl rfl ?_
                                                                refine jr_ceq (pa := 2107) (pb := 2105) rfl rfl rfl hp20 hp18 h (fun hc h => ?_) (fun hc h => ?_)
                                                                · refine jr_il (pc' := 2109) rfl rfl rfl ?_
                                                                  refine jr_zne (pa := 2112) (pb := 2124) rfl rfl rfl hp18 h (fun hc h => ?_) (fun hc h => ?_)
                                                                  · refine jr_al_n (pc' := 2113) rfl rfl rfl (jr_ic (pc' := 2114) rfl rfl (jr_la (pc' := 2115) rfl rfl hN3 (jr_il (pc' := 2117) rfl rfl rfl (jr_i2l (pc' := 2118) rfl rfl hp19 (jr_lcmp (pc' := 2119) rfl rfl jgl_a (jgl_g hp19) ?_)))))
                                                                    refine jr_zeq (pa := 2124) (pb := 2122) rfl rfl rfl jg_cmp h (fun hc h => ?_) (fun hc h => ?_)
                                                                    · refine jr_goto (pc' := 2455) rfl rfl (jr_inc (pc' := 2458) (L' := [_, _, _, _, _, _, _, _]) rfl rfl rfl (jl rfl) rfl rfl (jr_goto (pc' := 23) rfl rfl ?_))
                                                                      exact k2 (jw (s1.1 + 10), p19.2) (jM_i hX5 hs1 hlp) h _ _ _ _ (jM_u hX5 hs1 hlp hub (by decide) (by decide))
                                                                    · refine jr_ic (pc' := 2123) rfl rfl ?_
                                                                      exact jr_retb rfl hu rfl jb_0 (hQ ((0 : Int), p19.2) jb_0 h)
                                                                  · refine jr_goto (pc' := 2455) rfl rfl (jr_inc (pc' := 2458) (L' := [_, _, _, _, _, _, _, _]) rfl rfl rfl (jl rfl) rfl rfl (jr_goto (pc' := 23) rfl rfl ?_))
                                                                    exact k2 (jw (s1.1 + 10), p19.2) (jM_i hX5 hs1 hlp) h _ _ _ _ (jM_u hX5 hs1 hlp hub (by decide) (by decide))
                                                                · refine jr_ic (pc' := 2106) rfl rfl ?_
                                                                  exact jr_retb rfl hu rfl jb_0 (hQ ((0 : Int), p19.2) jb_0 h)
                                                              · refine jo_i h (fun hc h => ?_) (fun hc30 h => ?_)
                                                                · unfold jfM_30 at h
                                                                  refine jr_tsc (pc' := 2127) (30) rfl jg_band hc (by decide) rfl rfl (jr_al_n (pc' := 2128) rfl rfl rfl (jr_al_n (pc' := 2129) rfl rfl rfl (jr_il (pc' := 2131) rfl rfl rfl (jr_ic (pc' := 2132) rfl rfl (jr_add (pc' := 2133) rfl rfl ?_)))))
                                                                  refine jr_xa (pc' := 2134) rfl rfl jg_w h (fun hc h => ?_)
                                                                  refine jr_al_n (pc' := 2135) rfl rfl rfl ?_
                                                                  refine jr_cw (pc' := 2138) (b1 := 1) (b2 := 6) [] rfl rfl jlk_13_215 rfl (jl rfl) (by decide) rfl (jl rfl) rfl (jl rfl) (jM_hw hs1 hub (by decide) (by decide)) (fun Q' hq => jc_329 hN3 (Nat.le_trans (jl rfl) hd) jg_i (jo_b h) hq) (fun p15 hp15 h => ?_)
                                                                  have hu := jM_hw (b1 := 1) (b2 := 6) hs1 hub (by decide) (by decide)
                                                                  refine jr_is (pc' := 2140) (L' := [_, _, _, _, _, _, _, _]) rfl rfl (jl rfl) rfl rfl (jr_al_n (pc' := 2141) rfl rfl rfl (jr_al_n (pc' := 2142) rfl rfl rfl (jr_il (pc' := 2144) rfl rfl rfl (jr_ic (pc' := 2145) rfl rfl (jr_add (pc' := 2146) rfl rfl ?_)))))
                                                                  refine jr_xa (pc' := 2147) rfl rfl jg_w h (fun hc h => ?_)
                                                                  refine jr_cv_i (pc' := 2150) [] rfl rfl jlk_13_217 jq_292 jbd_292 (jl rfl) rfl (jl rfl) hu rfl (jk rfl hN) (jd_67.trans jo_292.symm) (fun Q' hq => jc_292 hN (Nat.le_trans (jl rfl) hd) jg_i (jo_b h) hq) (fun p16 hp16 h => ?_)
                                                                  refine jr_is (pc' := 2152) (L' := [_, _, _, _, _, _, _, _]) rfl rfl (jl rfl) rfl rfl (jr_al_n (pc' := 2153) rfl rfl rfl ?_)
                                                                  refine jr_cv_p (pc' := 2156) [] rfl rfl jlk_13_119 jq_186 jbd_186 (jl rfl) rfl (jl rfl) hu rfl (jk rfl hN) (jd_67.trans jo_186.symm) (fun Q' hq => jc_186 hN (Nat.le_trans (jl rfl) hd)  (jo_b h) hq) (fun p17 hp17 h => ?_)
                                                                  refine jr_il (pc' := 2158) rfl rfl rfl ?_
                                                                  refine jr_ceq (pa := 2163) (pb := 2161) rfl rfl rfl hp17 hp15 h (fun hc h => ?_) (fun hc h => ?_)
                                                                  · refine jr_il (pc' := 2165) rfl rfl rfl ?_
                                                                    refine jr_zne (pa := 2168) (pb := 2180) rfl rfl rfl hp15 h (fun hc h => ?_) (fun hc h => ?_)
                                                                    · refine jr_al_n (pc' := 2169) rfl rfl rfl (jr_ic (pc' := 2170) rfl rfl (jr_la (pc' := 2171) rfl rfl hN3 (jr_il (pc' := 2173) rfl rfl rfl (jr_i2l (pc' := 2174) rfl rfl hp16 (jr_lcmp (pc' := 2175) rfl rfl jgl_a (jgl_g hp16) ?_)))))
                                                                      refine jr_zeq (pa := 2180) (pb := 2178) rfl rfl rfl jg_cmp h (fun hc h => ?_) (fun hc h => ?_)
                                                                      · refine jr_goto (pc' := 2455) rfl rfl (jr_inc (pc' := 2458) (L' := [_, _, _, _, _, _, _, _]) rfl rfl rfl (jl rfl) rfl rfl (jr_goto (pc' := 23) rfl rfl ?_))
                                                                        exact k2 (jw (s1.1 + 10), p16.2) (jM_i hX5 hs1 hlp) h _ _ _ _ (jM_u hX5 hs1 hlp hub (by decide) (by decide))
                                                                      · refine jr_ic (pc' := 2179) rfl rfl ?_
                                                                        exact jr_retb rfl hu rfl jb_0 (hQ ((0 : Int), p16.2) jb_0 h)
                                                                    · refine jr_goto (pc' := 2455) rfl rfl (jr_inc (pc' := 2458) (L' := [_, _, _, _, _, _, _, _]) rfl rfl rfl (jl rfl) rfl rfl (jr_goto (pc' := 23) rfl rfl ?_))
                                                                      exact k2 (jw (s1.1 + 10), p16.2) (jM_i hX5 hs1 hlp) h _ _ _ _ (jM_u hX5 hs1 hlp hub (by decide) (by decide))
                                                                  · refine jr_ic (pc' := 2162) rfl rfl ?_
                                                                    exact jr_retb rfl hu rfl jb_0 (hQ ((0 : Int), p16.2) jb_0 h)
                                                                · refine jo_i h (fun hc h => ?_) (fun hc31 h => ?_)
                                                                  · unfold jfM_31 at h
                                                                    refine jr_tsc (pc' := 2183) (31) rfl jg_band hc (by decide) rfl rfl (jr_al_n (pc' := 2184) rfl rfl rfl (jr_al_n (pc' := 2185) rfl rfl rfl (jr_il (pc' := 2187) rfl rfl rfl (jr_ic (pc' := 2188) rfl rfl (jr_add (pc' := 2189) rfl rfl ?_)))))
                                                                    refine jr_xa (pc' := 2190) rfl rfl jg_w h (fun hc h => ?_)
                                                                    refine jr_al_n (pc' := 2191) rfl rfl rfl (jr_il (pc' := 2193) rfl rfl rfl (jr_ic (pc' := 2194) rfl rfl (jr_add (pc' := 2195) rfl rfl ?_)))
                                                                    refine jr_xa (pc' := 2196) rfl rfl jg_w h (fun hc h => ?_)
                                                                    refine jr_al_n (pc' := 2197) rfl rfl rfl (jr_il (pc' := 2199) rfl rfl rfl (jr_ic (pc' := 2200) rfl rfl (jr_add (pc' := 2201) rfl rfl ?_)))
                                                                    refine jr_xa (pc' := 2202) rfl rfl jg_w h (fun hc h => ?_)
                                                                    refine jr_al_n (pc' := 2203) rfl rfl rfl (jr_il (pc' := 2205) rfl rfl rfl (jr_ic (pc' := 2206) rfl rfl (jr_add (pc' := 2207) rfl rfl ?_)))
                                                                    refine jr_xa (pc' := 2208) rfl rfl jg_w h (fun hc h => ?_)
                                                                    refine jr_al_n (pc' := 2209) rfl rfl rfl ?_
                                                                    refine jr_cw (pc' := 2212) (b1 := 2) (b2 := 12) [] rfl rfl jlk_13_218 rfl (jl rfl) (by decide) rfl (jl rfl) rfl (jl rfl) (jM_hw hs1 hub (by decide) (by decide)) (fun Q' hq => jc_330 hN3 (Nat.le_trans (jl rfl) hd) jg_i jg_i jg_i jg_i (jo_b h) hq) (fun p12 hp12 h => ?_)
                                                                    have hu := jM_hw (b1 := 2) (b2 := 12) hs1 hub (by decide) (by decide)
                                                                    refine jr_is (pc' := 2214) (L' := [_, _, _, _, _, _, _, _]) rfl rfl (jl rfl) rfl rfl (jr_al_n (pc' := 2215) rfl rfl rfl (jr_al_n (pc' := 2216) rfl rfl rfl (jr_il (pc' := 2218) rfl rfl rfl (jr_ic (pc' := 2219) rfl rfl (jr_add (pc' := 2220) rfl rfl ?_)))))
                                                                    refine jr_xa (pc' := 2221) rfl rfl jg_w h (fun hc h => ?_)
                                                                    refine jr_al_n (pc' := 2222) rfl rfl rfl (jr_il (pc' := 2224) rfl rfl rfl (jr_ic (pc' := 2225) rfl rfl (jr_add (pc' := 2226) rfl rfl ?_)))
                                                                    refine jr_xa (pc' := 2227) rfl rfl jg_w h (fun hc h => ?_)
                                                                    refine jr_al_n (pc' := 2228) rfl rfl rfl (jr_il (pc' := 2230) rfl rfl rfl (jr_ic (pc' := 2231) rfl rfl (jr_add (pc' := 2232) rfl rfl ?_)))
                                                                    refine jr_xa (pc' := 2233) rfl rfl jg_w h (fun hc h => ?_)
                                                                    refine jr_al_n (pc' := 2234) rfl rfl rfl (jr_il (pc' := 2236) rfl rfl rfl (jr_ic (pc' := 2237) rfl rfl (jr_add (pc' := 2238) rfl rfl ?_)))
                                                                    refine jr_xa (pc' := 2239) rfl rfl jg_w h (fun hc h => ?_)
                                                                    refine jr_cv_i (pc' := 2242) [] rfl rfl jlk_13_220 jq_293 jbd_293 (jl rfl) rfl (jl rfl) hu rfl (jk rfl hN) (jd_67.trans jo_293.symm) (fun Q' hq => jc_293 hN (Nat.le_trans (jl rfl) hd) jg_i jg_i jg_i jg_i (jo_b h) hq) (fun p13 hp13 h => ?_)
                                                                    refine jr_is (pc' := 2244) (L' := [_, _, _, _, _, _, _, _]) rfl rfl (jl rfl) rfl rfl (jr_al_n (pc' := 2245) rfl rfl rfl ?_)
                                                                    refine jr_cv_p (pc' := 2248) [] rfl rfl jlk_13_119 jq_186 jbd_186 (jl rfl) rfl (jl rfl) hu rfl (jk rfl hN) (jd_67.trans jo_186.symm) (fun Q' hq => jc_186 hN (Nat.le_trans (jl rfl) hd)  (jo_b h) hq) (fun p14 hp14 h => ?_)
                                                                    refine jr_il (pc' := 2250) rfl rfl rfl ?_
                                                                    refine jr_ceq (pa := 2255) (pb := 2253) rfl rfl rfl hp14 hp12 h (fun hc h => ?_) (fun hc h => ?_)
                                                                    · refine jr_il (pc' := 2257) rfl rfl rfl ?_
                                                                      refine jr_zne (pa := 2260) (pb := 2272) rfl rfl rfl hp12 h (fun hc h => ?_) (fun hc h => ?_)
                                                                      · refine jr_al_n (pc' := 2261) rfl rfl rfl (jr_ic (pc' := 2262) rfl rfl (jr_la (pc' := 2263) rfl rfl hN3 (jr_il (pc' := 2265) rfl rfl rfl (jr_i2l (pc' := 2266) rfl rfl hp13 (jr_lcmp (pc' := 2267) rfl rfl jgl_a (jgl_g hp13) ?_)))))
                                                                        refine jr_zeq (pa := 2272) (pb := 2270) rfl rfl rfl jg_cmp h (fun hc h => ?_) (fun hc h => ?_)
                                                                        · refine jr_goto (pc' := 2455) rfl rfl (jr_inc (pc' := 2458) (L' := [_, _, _, _, _, _, _, _]) rfl rfl rfl (jl rfl) rfl rfl (jr_goto (pc' := 23) rfl rfl ?_))
                                                                          exact k2 (jw (s1.1 + 10), p13.2) (jM_i hX5 hs1 hlp) h _ _ _ _ (jM_u hX5 hs1 hlp hub (by decide) (by decide))
                                                                        · refine jr_ic (pc' := 2271) rfl rfl ?_
                                                                          exact jr_retb rfl hu rfl jb_0 (hQ ((0 : Int), p13.2) jb_0 h)
                                                                      · refine jr_goto (pc' := 2455) rfl rfl (jr_inc (pc' := 2458) (L' := [_, _, _, _, _, _, _, _]) rfl rfl rfl (jl rfl) rfl rfl (jr_goto (pc' := 23) rfl rfl ?_))
                                                                        exact k2 (jw (s1.1 + 10), p13.2) (jM_i hX5 hs1 hlp) h _ _ _ _ (jM_u hX5 hs1 hlp hub (by decide) (by decide))
                                                                    · refine jr_ic (pc' := 2254) rfl rfl ?_
                                                                      exact jr_retb rfl hu rfl jb_0 (hQ ((0 : Int), p13.2) jb_0 h)
                                                                  · refine jo_i h (fun hc h => ?_) (fun hc32 h => ?_)
                                                                    · unfold jfM_32 at h
                                                                      refine jr_tsc (pc' := 2275) (32) rfl jg_band hc (by decide) rfl rfl (jr_al_n (pc' := 2276) rfl rfl rfl (jr_al_n (pc' := 2277) rfl rfl rfl (jr_il (pc' := 2279) rfl rfl rfl (jr_ic (pc' := 2280) rfl rfl (jr_add (pc' := 2281) rfl rfl ?_)))))
                                                                      refine jr_xa (pc' := 2282) rfl rfl jg_w h (fun hc h => ?_)
                                                                      refine jr_al_n (pc' := 2283) rfl rfl rfl (jr_il (pc' := 2285) rfl rfl rfl (jr_ic (pc' := 2286) rfl rfl (jr_add (pc' := 2287) rfl rfl ?_)))
                                                                      refine jr_xa (pc' := 2288) rfl rfl jg_w h (fun hc h => ?_)
                                                                      refine jr_al_n (pc' := 2289) rfl rfl rfl (jr_il (pc' := 2291) rfl rfl rfl (jr_ic (pc' := 2292) rfl rfl (jr_add (pc' := 2293) rfl rfl ?_)))
                                                                      refine jr_xa (pc' := 2294) rfl rfl jg_w h (fun hc h => ?_)
                                                                      refine jr_al_n (pc' := 2295) rfl rfl rfl (jr_il (pc' := 2297) rfl rfl rfl (jr_ic (pc' := 2298) rfl rfl (jr_add (pc' := 2299) rfl rfl ?_)))
                                                                      refine jr_xa (pc' := 2300) rfl rfl jg_w h (fun hc h => ?_)
                                                                      refine jr_al_n (pc' := 2301) rfl rfl rfl (jr_il (pc' := 2303) rfl rfl rfl (jr_ic (pc' := 2304) rfl rfl (jr_add (pc' := 2305) rfl rfl ?_)))
                                                                      refine jr_xa (pc' := 2306) rfl rfl jg_w h (fun hc h => ?_)
                                                                      refine jr_al_n (pc' := 2307) rfl rfl rfl ?_
                                                                      refine jr_cw (pc' := 2310) (b1 := 3) (b2 := 18) [] rfl rfl jlk_13_221 rfl (jl rfl) (by decide) rfl (jl rfl) rfl (jl rfl) (jM_hw hs1 hub (by decide) (by decide)) (fun Q' hq => jc_331 hN3 (Nat.le_trans (jl rfl) hd) jg_i jg_i jg_i jg_i jg_i (jo_b h) hq) (fun p9 hp9 h => ?_)
                                                                      have hu := jM_hw (b1 := 3) (b2 := 18) hs1 hub (by decide) (by decide)
                                                                      refine jr_is (pc' := 2312) (L' := [_, _, _, _, _, _, _, _]) rfl rfl (jl rfl) rfl rfl (jr_al_n (pc' := 2313) rfl rfl rfl (jr_al_n (pc' := 2314) rfl rfl rfl (jr_il (pc' := 2316) rfl rfl rfl (jr_ic (pc' := 2317) rfl rfl (jr_add (pc' := 2318) rfl rfl ?_)))))
                                                                      refine jr_xa (pc' := 2319) rfl rfl jg_w h (fun hc h => ?_)
                                                                      refine jr_al_n (pc' := 2320) rfl rfl rfl (jr_il (pc' := 2322) rfl rfl rfl (jr_ic (pc' := 2323) rfl rfl (jr_add (pc' := 2324) rfl rfl ?_)))
                                                                      refine jr_xa (pc' := 2325) rfl rfl jg_w h (fun hc h => ?_)
                                                                      refine jr_al_n (pc' := 2326) rfl rfl rfl (jr_il (pc' := 2328) rfl rfl rfl (jr_ic (pc' := 2329) rfl rfl (jr_add (pc' := 2330) rfl rfl ?_)))
                                                                      refine jr_xa (pc' := 2331) rfl rfl jg_w h (fun hc h => ?_)
                                                                      refine jr_al_n (pc' := 2332) rfl rfl rfl (jr_il (pc' := 2334) rfl rfl rfl (jr_ic (pc' := 2335) rfl rfl (jr_add (pc' := 2336) rfl rfl ?_)))
                                                                      refine jr_xa (pc' := 2337) rfl rfl jg_w h (fun hc h => ?_)
                                                                      refine jr_al_n (pc' := 2338) rfl rfl rfl (jr_il (pc' := 2340) rfl rfl rfl (jr_ic (pc' := 2341) rfl rfl (jr_add (pc' := 2342) rfl rfl ?_)))
                                                                      refine jr_xa (pc' := 2343) rfl rfl jg_w h (fun hc h => ?_)
                                                                      refine jr_cv_i (pc' := 2346) [] rfl rfl jlk_13_224 jq_297 jbd_297 (jl rfl) rfl (jl rfl) hu rfl (jk rfl hN) (jd_67.trans jo_297.symm) (fun Q' hq => jc_297 hN (Nat.le_trans (jl rfl) hd) jg_i jg_i jg_i jg_i jg_i (jo_b h) hq) (fun p10 hp10 h => ?_)
                                                                      refine jr_is (pc' := 2348) (L' := [_, _, _, _, _, _, _, _]) rfl rfl (jl rfl) rfl rfl (jr_al_n (pc' := 2349) rfl rfl rfl ?_)
                                                                      refine jr_cv_p (pc' := 2352) [] rfl rfl jlk_13_119 jq_186 jbd_186 (jl rfl) rfl (jl rfl) hu rfl (jk rfl hN) (jd_67.trans jo_186.symm) (fun Q' hq => jc_186 hN (Nat.le_trans (jl rfl) hd)  (jo_b h) hq) (fun p11 hp11 h => ?_)
                                                                      refine jr_il (pc' := 2354) rfl rfl rfl ?_
                                                                      refine jr_ceq (pa := 2359) (pb := 2357) rfl rfl rfl hp11 hp9 h (fun hc h => ?_) (fun hc h => ?_)
                                                                      · refine jr_il (pc' := 2361) rfl rfl rfl ?_
                                                                        refine jr_zne (pa := 2364) (pb := 2376) rfl rfl rfl hp9 h (fun hc h => ?_) (fun hc h => ?_)
                                                                        · refine jr_al_n (pc' := 2365) rfl rfl rfl (jr_ic (pc' := 2366) rfl rfl (jr_la (pc' := 2367) rfl rfl hN3 (jr_il (pc' := 2369) rfl rfl rfl (jr_i2l (pc' := 2370) rfl rfl hp10 (jr_lcmp (pc' := 2371) rfl rfl jgl_a (jgl_g hp10) ?_)))))
                                                                          refine jr_zeq (pa := 2376) (pb := 2374) rfl rfl rfl jg_cmp h (fun hc h => ?_) (fun hc h => ?_)
                                                                          · refine jr_goto (pc' := 2455) rfl rfl (jr_inc (pc' := 2458) (L' := [_, _, _, _, _, _, _, _]) rfl rfl rfl (jl rfl) rfl rfl (jr_goto (pc' := 23) rfl rfl ?_))
                                                                            exact k2 (jw (s1.1 + 10), p10.2) (jM_i hX5 hs1 hlp) h _ _ _ _ (jM_u hX5 hs1 hlp hub (by decide) (by decide))
                                                                          · refine jr_ic (pc' := 2375) rfl rfl ?_
                                                                            exact jr_retb rfl hu rfl jb_0 (hQ ((0 : Int), p10.2) jb_0 h)
                                                                        · refine jr_goto (pc' := 2455) rfl rfl (jr_inc (pc' := 2458) (L' := [_, _, _, _, _, _, _, _]) rfl rfl rfl (jl rfl) rfl rfl (jr_goto (pc' := 23) rfl rfl ?_))
                                                                          exact k2 (jw (s1.1 + 10), p10.2) (jM_i hX5 hs1 hlp) h _ _ _ _ (jM_u hX5 hs1 hlp hub (by decide) (by decide))
                                                                      · refine jr_ic (pc' := 2358) rfl rfl ?_
                                                                        exact jr_retb rfl hu rfl jb_0 (hQ ((0 : Int), p10.2) jb_0 h)
                                                                    · refine jo_i h (fun hc h => ?_) (fun hc33 h => ?_)
                                                                      · unfold jfM_33 at h
                                                                        refine jr_tsc (pc' := 2379) (33) rfl jg_band hc (by decide) rfl rfl (jr_al_n (pc' := 2380) rfl rfl rfl ?_)
                                                                        refine jr_cv_i (pc' := 2383) [] rfl rfl jlk_13_225 jq_146 jbd_146 (jl rfl) rfl (jl rfl) hu rfl (jk rfl hN) (jd_0.trans jo_146.symm) (fun Q' hq => jc_146 hN (Nat.le_trans (jl rfl) hd)  (jo_b h) hq) (fun p7 hp7 h => ?_)
                                                                        refine jr_al_n (pc' := 2384) rfl rfl rfl ?_
                                                                        refine jr_cv_i (pc' := 2387) [_] rfl rfl jlk_13_228 jq_298 jbd_298 (jl rfl) rfl (jl rfl) hu rfl (jk rfl hN) (jd_67.trans jo_298.symm) (fun Q' hq => jc_298 hN (Nat.le_trans (jl rfl) hd)  (jo_b h) hq) (fun p8 hp8 h => ?_)
                                                                        refine jr_ceq (pa := 2455) (pb := 2390) rfl rfl rfl hp7 hp8 h (fun hc h => ?_) (fun hc h => ?_)
                                                                        · refine jr_inc (pc' := 2458) (L' := [_, _, _, _, _, _, _, _]) rfl rfl rfl (jl rfl) rfl rfl (jr_goto (pc' := 23) rfl rfl ?_)
                                                                          exact k2 (jw (s1.1 + 10), p8.2) (jM_i hX5 hs1 hlp) h _ _ _ _ (jM_0 hX5 hs1 hlp hub)
                                                                        · refine jr_ic (pc' := 2391) rfl rfl ?_
                                                                          exact jr_retb rfl hu rfl jb_0 (hQ ((0 : Int), p8.2) jb_0 h)
                                                                      · refine jo_i h (fun hc h => ?_) (fun hc34 h => ?_)
                                                                        · unfold jfM_34 at h
                                                                          refine jr_tsc (pc' := 2392) (34) rfl jg_band hc (by decide) rfl rfl (jr_al_n (pc' := 2393) rfl rfl rfl ?_)
                                                                          refine jr_cv_i (pc' := 2396) [] rfl rfl jlk_13_229 jq_147 jbd_147 (jl rfl) rfl (jl rfl) hu rfl (jk rfl hN) (jd_0.trans jo_147.symm) (fun Q' hq => jc_147 hN (Nat.le_trans (jl rfl) hd)  (jo_b h) hq) (fun p5 hp5 h => ?_)
                                                                          refine jr_al_n (pc' := 2397) rfl rfl rfl ?_
                                                                          refine jr_cv_i (pc' := 2400) [_] rfl rfl jlk_13_232 jq_301 jbd_301 (jl rfl) rfl (jl rfl) hu rfl (jk rfl hN) (jd_67.trans jo_301.symm) (fun Q' hq => jc_301 hN (Nat.le_trans (jl rfl) hd)  (jo_b h) hq) (fun p6 hp6 h => ?_)
                                                                          refine jr_ceq (pa := 2455) (pb := 2403) rfl rfl rfl hp5 hp6 h (fun hc h => ?_) (fun hc h => ?_)
                                                                          · refine jr_inc (pc' := 2458) (L' := [_, _, _, _, _, _, _, _]) rfl rfl rfl (jl rfl) rfl rfl (jr_goto (pc' := 23) rfl rfl ?_)
                                                                            exact k2 (jw (s1.1 + 10), p6.2) (jM_i hX5 hs1 hlp) h _ _ _ _ (jM_0 hX5 hs1 hlp hub)
                                                                          · refine jr_ic (pc' := 2404) rfl rfl ?_
                                                                            exact jr_retb rfl hu rfl jb_0 (hQ ((0 : Int), p6.2) jb_0 h)
                                                                        · refine jo_i h (fun hc h => ?_) (fun hc35 h => ?_)
                                                                          · unfold jfM_35 at h
                                                                            refine jr_tsc (pc' := 2405) (35) rfl jg_band hc (by decide) rfl rfl (jr_al_n (pc' := 2406) rfl rfl rfl (jr_al_n (pc' := 2407) rfl rfl rfl (jr_il (pc' := 2409) rfl rfl rfl (jr_ic (pc' := 2410) rfl rfl (jr_add (pc' := 2411) rfl rfl ?_)))))
                                                                            refine jr_xa (pc' := 2412) rfl rfl jg_w h (fun hc h => ?_)
                                                                            refine jr_cv_p (pc' := 2415) [] rfl rfl jlk_13_233 jq_148 jbd_148 (jl rfl) rfl (jl rfl) hu rfl (jk rfl hN) (jd_0.trans jo_148.symm) (fun Q' hq => jc_148 hN (Nat.le_trans (jl rfl) hd) jg_i (jo_b h) hq) (fun p3 hp3 h => ?_)
                                                                            refine jr_al_n (pc' := 2416) rfl rfl rfl (jr_al_n (pc' := 2417) rfl rfl rfl (jr_il (pc' := 2419) rfl rfl rfl (jr_ic (pc' := 2420) rfl rfl (jr_add (pc' := 2421) rfl rfl ?_))))
                                                                            refine jr_xa (pc' := 2422) rfl rfl jg_w h (fun hc h => ?_)
                                                                            refine jr_cv_i (pc' := 2425) [_] rfl rfl jlk_13_236 jq_302 jbd_302 (jl rfl) rfl (jl rfl) hu rfl (jk rfl hN) (jd_67.trans jo_302.symm) (fun Q' hq => jc_302 hN (Nat.le_trans (jl rfl) hd) jg_i (jo_b h) hq) (fun p4 hp4 h => ?_)
                                                                            refine jr_ceq (pa := 2455) (pb := 2428) rfl rfl rfl hp3 hp4 h (fun hc h => ?_) (fun hc h => ?_)
                                                                            · refine jr_inc (pc' := 2458) (L' := [_, _, _, _, _, _, _, _]) rfl rfl rfl (jl rfl) rfl rfl (jr_goto (pc' := 23) rfl rfl ?_)
                                                                              exact k2 (jw (s1.1 + 10), p4.2) (jM_i hX5 hs1 hlp) h _ _ _ _ (jM_0 hX5 hs1 hlp hub)
                                                                            · refine jr_ic (pc' := 2429) rfl rfl ?_
                                                                              exact jr_retb rfl hu rfl jb_0 (hQ ((0 : Int), p4.2) jb_0 h)
                                                                          · refine jo_i h (fun hc h => ?_) (fun hc36 h => ?_)
                                                                            · unfold jfM_36 at h
                                                                              refine jr_tsc (pc' := 2430) (36) rfl jg_band hc (by decide) rfl rfl (jr_al_n (pc' := 2431) rfl rfl rfl (jr_al_n (pc' := 2432) rfl rfl rfl (jr_il (pc' := 2434) rfl rfl rfl (jr_ic (pc' := 2435) rfl rfl (jr_add (pc' := 2436) rfl rfl ?_)))))
                                                                              refine jr_xa (pc' := 2437) rfl rfl jg_w h (fun hc h => ?_)
                                                                              refine jr_cv_p (pc' := 2440) [] rfl rfl jlk_13_237 jq_149 jbd_149 (jl rfl) rfl (jl rfl) hu rfl (jk rfl hN) (jd_0.trans jo_149.symm) (fun Q' hq => jc_149 hN (Nat.le_trans (jl rfl) hd) jg_i (jo_b h) hq) (fun p1 hp1 h => ?_)
                                                                              refine jr_al_n (pc' := 2441) rfl rfl rfl (jr_al_n (pc' := 2442) rfl rfl rfl (jr_il (pc' := 2444) rfl rfl rfl (jr_ic (pc' := 2445) rfl rfl (jr_add (pc' := 2446) rfl rfl ?_))))
                                                                              refine jr_xa (pc' := 2447) rfl rfl jg_w h (fun hc h => ?_)
                                                                              refine jr_cv_i (pc' := 2450) [_] rfl rfl jlk_13_240 jq_303 jbd_303 (jl rfl) rfl (jl rfl) hu rfl (jk rfl hN) (jd_67.trans jo_303.symm) (fun Q' hq => jc_303 hN (Nat.le_trans (jl rfl) hd) jg_i (jo_b h) hq) (fun p2 hp2 h => ?_)
                                                                              refine jr_ceq (pa := 2455) (pb := 2453) rfl rfl rfl hp1 hp2 h (fun hc h => ?_) (fun hc h => ?_)
                                                                              · refine jr_inc (pc' := 2458) (L' := [_, _, _, _, _, _, _, _]) rfl rfl rfl (jl rfl) rfl rfl (jr_goto (pc' := 23) rfl rfl ?_)
                                                                                exact k2 (jw (s1.1 + 10), p2.2) (jM_i hX5 hs1 hlp) h _ _ _ _ (jM_0 hX5 hs1 hlp hub)
                                                                              · refine jr_ic (pc' := 2454) rfl rfl ?_
                                                                                exact jr_retb rfl hu rfl jb_0 (hQ ((0 : Int), p2.2) jb_0 h)
                                                                            · refine jr_tsd (pc' := 2455) rfl jg_band (by omega) rfl (jr_inc (pc' := 2458) (L' := [_, _, _, _, _, _, _, _]) rfl rfl rfl (jl rfl) rfl rfl (jr_goto (pc' := 23) rfl rfl ?_))
                                                                              exact k2 (jw (s1.1 + 10), s1.2) (jM_i hX5 hs1 hlp) h _ _ _ _ (jM_0 hX5 hs1 hlp hub)
