/-! WORK: the class does all. -/
set_option maxRecDepth 20000 in
theorem sl_105 {m : jm} {c : kC} {p : kP} {cl : List Int} {l : List (wT 6)} {Cd : List wE} (hl : wAll (wV c 6) l) (H : kK 0 m c p cl) (h8 : 0 ≤ p 8 0 ∧ p 8 0 ≤ 700) (hC : Cd = wFl (wC 6) (wSz 6) 0 l) (hL : Cd.length ≤ 150) (C : kCw m Cd) : jo (jf_105 m) (fun b => qRc c cl Cd b (wSL (wSe c cl 6) l ((0 : Nat), (0 : Nat), (0 : Nat), p)) ∧ jfr true jW_105 m b) := by
  refine jo_and ?_ jx_105
  have hv := H.1
  have jf := jfu_ge
  have eL : Cd.length = 0 + wSm (wSz 6) l := by rw [hC, wFl_len (wC_len 6), Nat.zero_add]
  have F : jfr true (fun x y => x = 41 ∧ (y = 7 ∨ y = 8)) m (js (js m 41 7 0) 41 8 0) := jfr_js (jfr_js jfr_r ⟨rfl, Or.inl rfl⟩) ⟨rfl, Or.inr rfl⟩
  have H0 : qRc c cl Cd (js (js m 41 7 0) 41 8 0) ((0 : Nat), (0 : Nat), (0 : Nat), p) := ⟨kK_js (kK_js H (by unfold kQK; omega)) (by unfold kQK; omega), kCw_fr C F (fun x y h => by omega), by rw [ja_jsj (by decide), ja_js1]; exact wz0, by rw [ja_js1]; exact wz0⟩
  have hI : wI c ((0 : Nat), (0 : Nat), (0 : Nat), p) := ⟨H.2.1, h8, Nat.zero_le _, Nat.le_refl _⟩
  have hI2 := wI_L (P := wV c 6) (fun t s h1 h2 h3 => wI_e (cl := cl) hv 6 t s h1 h2 h3) l _ hl hI
  have b2 := hI2.2.2.1
  rw [jf_105_e]
  refine wRls hv hL (fun t ht => wRT hv hL 6 t ht) l hl 0 ((0 : Nat), (0 : Nat), (0 : Nat), p) _ 0 0 jfu _ (fun u hu => ?_) H0 hI (Nat.le_refl _) (by omega) (fun M' _ h => h) (fun M' bt' N' h hf hb hN => ?_)
  · rw [← hC] at hu ⊢
    rw [Nat.zero_add]; exact ⟨hu, rfl⟩
  · obtain ⟨N2, rfl⟩ : ∃ N2, N' = N2 + 1 := ⟨N' - 1, by omega⟩
    rw [← eL]
    exact jo_stp (wRb_z h (by omega) h)
