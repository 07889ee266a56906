/-! A NEW CITY: what lasts after it. -/
theorem kWL_o : kWL kWo := by
  refine ⟨by decide, fun s hs => ?_, rfl⟩
  have : ∀ s ∈ kWo, (0 ≤ s ∧ s ≤ 999) ∨ (1000 ≤ s ∧ s ≤ 1008) ∨ (2000 ≤ s ∧ s ≤ 2005) := by decide
  exact this s hs
theorem Inv_new {F : jm} {c : kC} (hv : kV c) (h2 : kCc F 3 c) (h3 : kCm F 24 75 c) (p1 : kPc (fun j => ja F 48 j) c (kP0 c)) (p2 : kPm (fun j => ja F 88 j) c (kP0 c)) (l1 : kLc F 27 kWo) (l2 : ja F 67 34 = 0) (b1 : ja F 33 1 = 0) (b2 : ja F 67 52 = 0) (b3 : ∀ e, e < 12 → ja F 34 e = -1) (b4 : ∀ e, e < 12 → ja F 92 e = -1) (q1 : ja F 50 1 = 0) (q2 : ja F 67 39 = 0) (q3 : ja F 50 5 = 0) (q4 : ja F 67 66 = 0) (w1 : ja F 0 14 = 0) (w2 : ja F 67 40 = 0) (t1 : ja F 1 1 = 0) (t2 : ja F 67 2 = 0) (t3 : ja F 1 6 = ja F 67 8) (hr : kR F) : Inv F := by
  refine ⟨⟨c, kWo, hv, h2, h3, ⟨kP0 c, p1, p2, kVp_0 hv, (by decide : (0 : Int) ≤ 0), (by decide : (0 : Int) ≤ 700)⟩, kWL_o, l1, Or.inl ⟨l2, rfl⟩, ⟨by rw [b1, b2], fun e he => ?_⟩, ⟨0, by decide, q1, q2, fun i hi => absurd hi (Nat.not_lt_zero _)⟩, ⟨0, by decide, q3, q4, fun i hi => absurd hi (Nat.not_lt_zero _)⟩, by rw [w1, w2]⟩, ⟨0, by decide, t1, t2, fun i hi => absurd hi (Nat.not_lt_zero _), t3⟩, hr⟩
  rw [b3 e he, b4 e he]
  exact ⟨rfl, by decide, by decide, fun _ => rfl⟩
def kWnc (k j : Nat) : Prop := (3 ≤ k ∧ k ≤ 14) ∨ k = 28 ∨ (k = 27 ∧ j = 1) ∨ k = 34 ∨ (k = 33 ∧ j = 1) ∨ (k = 50 ∧ (j = 1 ∨ j = 5)) ∨ k = 48 ∨ (k = 0 ∧ j = 14)
theorem jfr_19 {m : jm} : jfr true (fun k _ => 3 ≤ k ∧ k ≤ 14) m (kCpa (kC4 m) 11) := by
  have h1 : jfr true (fun k _ => 3 ≤ k ∧ k ≤ 14) m (kC4 m) := jfr_js (jfr_js (jfr_js (jfr_js jfr_r (by omega)) (by omega)) (by omega)) (by omega)
  have : ∀ t, t ≤ 11 → jfr true (fun k _ => 3 ≤ k ∧ k ≤ 14) m (kCpa (kC4 m) t) := fun t => by
    induction t with
    | zero => exact fun _ => h1
    | succ t ih => exact fun h => jfr_jcp (ih (by omega)) (fun _ => by omega)
  exact this 11 (by omega)
theorem sl_newc {m : jm} {c : kC} (hv : kV c) (H : kCc m 15 c) : jo ((jf_19 m).bind fun p4 => (jf_25 p4).bind fun p5 => (jf_1 0 p5).bind fun p6 => (jf_53 p6).bind fun p7 => (jf_74 0 p7).bind fun p8 => jle (js p8 0 14 0) fun m9 => some (ja m9 3 3, (0 : Nat), m9)) (fun r => r.1 = (c 11 3 : Int) ∧ r.2.1 = 0 ∧ kCc r.2.2 3 c ∧ kPc (fun j => ja r.2.2 48 j) c (kP0 c) ∧ kLc r.2.2 27 kWo ∧ ja r.2.2 33 1 = 0 ∧ (∀ e, e < 12 → ja r.2.2 34 e = -1) ∧ ja r.2.2 50 1 = 0 ∧ ja r.2.2 50 5 = 0 ∧ ja r.2.2 0 14 = 0 ∧ jfr true kWnc m r.2.2) := by
  have C1 := kCc_19 hv H
  have F1 : jfr true kWnc m (kCpa (kC4 m) 11) := jfr_t jfr_r jfr_19 (fun e => e) (fun k j h => Or.inl h)
  rw [sp_19, jsb]
  generalize kCpa (kC4 m) 11 = A at C1 F1
  refine jo_c kLc_25 (fun B hB => ?_)
  obtain ⟨L1, FB⟩ := hB
  unfold jf_1
  rw [sp_334, jsb, jle_eq, jsb]
  have e34 : ∀ k j, k ≠ 34 → ja (jfl B 34 (-1)) k j = ja B k j := fun k j hk => by unfold ja jfl; dsimp only; rw [if_neg (fun z => hk z.1)]
  have g34 : ∀ e, e < 12 → ja (jfl B 34 (-1)) 34 e = -1 := fun e he => by
    show (if 34 = 34 ∧ e < px_ln 34 then Int32.ofInt (-1) else B.1 34 e).toInt = -1
    rw [if_pos ⟨rfl, he⟩]; rfl
  have f34 : jfr true kWnc m (jfl B 34 (-1)) := jfr_t (jfr_t F1 FB (fun e => e) (fun k j h => by unfold kWnc; omega)) (W' := fun k _ => k = 34) ⟨fun k j hk => by
      show (if k = 34 ∧ j < px_ln 34 then Int32.ofInt (-1) else B.1 k j) = B.1 k j
      rw [if_neg (fun z => hk z.1)], fun _ => rfl⟩ (fun e => e) (fun k j h => by unfold kWnc; omega)
  unfold jf_53
  rw [jle_eq, jle_eq, jsb]
  show jo ((jf_74 0 (js (js (js (jfl B 34 (-1)) 33 1 0) 50 1 0) 50 5 0)).bind _) _
  have C2 : kCc (js (js (js (jfl B 34 (-1)) 33 1 0) 50 1 0) 50 5 0) 3 c := kCc_e (fun k j a b => by rw [ja_jsk (by omega), ja_jsk (by omega), ja_jsk (by omega), e34 _ _ (by omega), ja_fr FB (by omega)]) C1
  have L2 : kLc (js (js (js (jfl B 34 (-1)) 33 1 0) 50 1 0) 50 5 0) 27 kWo := kLc_e (by rw [ja_jsk (by omega), ja_jsk (by omega), ja_jsk (by omega), e34 _ _ (by omega)]) (fun j => by rw [ja_jsk (by omega), ja_jsk (by omega), ja_jsk (by omega), e34 _ _ (by omega)]) L1
  have Z : ja (js (js (js (jfl B 34 (-1)) 33 1 0) 50 1 0) 50 5 0) 33 1 = 0 ∧ (∀ e, e < 12 → ja (js (js (js (jfl B 34 (-1)) 33 1 0) 50 1 0) 50 5 0) 34 e = -1) ∧ ja (js (js (js (jfl B 34 (-1)) 33 1 0) 50 1 0) 50 5 0) 50 1 = 0 ∧ ja (js (js (js (jfl B 34 (-1)) 33 1 0) 50 1 0) 50 5 0) 50 5 = 0 := by
    refine ⟨?_, fun e he => ?_, ?_, ?_⟩
    · rw [ja_jsk (by decide), ja_jsk (by decide), ja_js1]; exact wz0
    · rw [ja_jsk (by decide), ja_jsk (by decide), ja_jsk (by decide)]; exact g34 e he
    · rw [ja_jsj (by decide), ja_js1]; exact wz0
    · rw [ja_js1]; exact wz0
  have FD : jfr true kWnc m (js (js (js (jfl B 34 (-1)) 33 1 0) 50 1 0) 50 5 0) := jfr_js (jfr_js (jfr_js f34 (by unfold kWnc; omega)) (by unfold kWnc; omega)) (by unfold kWnc; omega)
  generalize js (js (js (jfl B 34 (-1)) 33 1 0) 50 1 0) 50 5 0 = D at C2 L2 Z FD
  refine jo_c (kPc_74 hv C2) (fun E hE => ?_)
  obtain ⟨P1, FE⟩ := hE
  have eE : ∀ k j, k ≠ 48 → ja (js E 0 14 0) k j = if k = 0 ∧ j = 14 then 0 else ja D k j := fun k j hk => by
    rw [ja_js]
    by_cases z : k = 0 ∧ j = 14
    · rw [if_pos z, if_pos z]; exact wz0
    · rw [if_neg z, if_neg z, ja_fr FE hk]
  have eN : ∀ k j, k ≠ 48 → k ≠ 0 → ja (js E 0 14 0) k j = ja D k j := fun k j hk h0 => by rw [eE k j hk, if_neg (by omega)]
  refine ⟨?_, rfl, kCc_e (fun k j a b => eN k j (by omega) (by omega)) C2, ?_, kLc_e (eN _ _ (by decide) (by decide)) (fun j => eN _ _ (by decide) (by decide)) L2, ?_, fun e he => ?_, ?_, ?_, ?_, ?_⟩
  · show ja (js E 0 14 0) 3 3 = _
    rw [eN _ _ (by decide) (by decide)]; exact C2.1 3 (by decide)
  · show kPc (fun j => ja (js E 0 14 0) 48 j) c (kP0 c)
    exact kPc_eq (fun j => by rw [ja_jsk (by decide)]) P1
  · show ja (js E 0 14 0) 33 1 = 0
    rw [eN _ _ (by decide) (by decide)]; exact Z.1
  · show ja (js E 0 14 0) 34 e = -1
    rw [eN _ _ (by decide) (by decide)]; exact Z.2.1 e he
  · show ja (js E 0 14 0) 50 1 = 0
    rw [eN _ _ (by decide) (by decide)]; exact Z.2.2.1
  · show ja (js E 0 14 0) 50 5 = 0
    rw [eN _ _ (by decide) (by decide)]; exact Z.2.2.2
  · show ja (js E 0 14 0) 0 14 = 0
    rw [ja_js1]; exact wz0
  · show jfr true kWnc m (js E 0 14 0)
    exact jfr_js (jfr_t FD FE (fun e => e) (fun k j h => by unfold kWnc; omega)) (by unfold kWnc; omega)
