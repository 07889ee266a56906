/-! THE MODEL'S CONSTRUCTOR, MAIN'S BEGINNING (written by wip/whole/gen/wctor.py) -/
theorem jk_jp {X : Nat × (Nat → Int32)} {C : Nat → List Value → px_V → px_Q → Prop} {M : px_M} {Q : px_Q} {pc : Nat} {L : px_L} {st : List Value} {m : jm} {u : Nat × Nat} (h : jp X C M Q 102 pc L st m u) : jk_ X C M Q 102 111 pc L st m u := by
  unfold jk_; rw [jmc_mem]; exact h
theorem jz_inD {X : Nat × (Nat → Int32)} {M : px_M} {Q : px_Q} {N t mi d lev b1 b2 : Nat} {av : List Value} {L : px_L} {m : jm} (hd : lev + 1 ≤ d) (hM : px_prog mi = M) (hb : px_bud mi = (b1, b2)) (hN1 : 102 = N + b1) (hl : (px_lay av).length ≤ M.2.2.2.2.1) (hL : px_ent M.2.2.2.2.1 av = L) (k : ∀ d', lev ≤ d' → ∀ Q' : px_Q, (∀ r m', Q r (jmem 102 m') → Q' r (jmem 102 m')) → jk_ X (px_C X d') M Q' N t 0 L [] m (0, 0)) : px_C X d mi av (jmc N t m) Q := by
  subst hM; subst hL
  cases d with
  | zero => omega
  | succ d => exact ⟨hl, k d (by omega) _ (fun r m' hq => ⟨fun _ => by rw [jN, jzN, hb]; exact hN1, hq⟩)⟩
def jM1 (m : jm) : jm := (js m 67 8 (-1))
set_option maxRecDepth 20000 in
set_option maxHeartbeats 2000000 in
theorem jk_187_67 {X : Nat × (Nat → Int32)} {d : Nat} (hd : 3 ≤ d) {m : jm} (hz : jz 68 m) {P : jm → Prop} {Q : px_Q} (h : jo ((jf_188 (jM1 m)).bind jf_189) P) (hQ : ∀ p, P p → Q (.inl none) (jmem 102 p)) : px_C X d 187 [.ref 67] (jmc 68 77 m) Q := by
  refine jz_inD (M := px_m187) (lev := 2) (b1 := 34) (b2 := 7378) (L := [some (.ref 67)]) hd rfl rfl rfl (jl rfl) rfl (fun d hd Q' hQ' => ?_)
  refine jz_al_n (pc' := 1) rfl rfl rfl ?_
  refine jz_o (pc' := 4) rfl rfl (rfl : px_lk 12 11 = some (9, 0, 0)) (jl rfl) ?_
  refine jz_al_n (pc' := 5) rfl rfl rfl ?_
  refine jz_ic (pc' := 6) rfl rfl ?_
  refine jz_na (pc' := 8) (u' := (1, 2)) rfl rfl rfl hz (by decide) rfl (.inl ⟨rfl, rfl⟩) (jl rfl) (jl rfl) rfl ?_
  refine jz_pr (pc' := 11) rfl rfl (rfl : px_lk 12 7 = some (0, 12, 1)) rfl rfl (jl rfl) (rfl : px_kd 67 = 12) rfl rfl ⟨rfl, rfl⟩ rfl rfl ?_
  refine jz_al_n (pc' := 12) rfl rfl rfl ?_
  refine jz_ic (pc' := 13) rfl rfl ?_
  refine jz_pi (pc' := 16) rfl rfl (rfl : px_lk 12 17 = some (0, 12, 8)) rfl (jl rfl) (rfl : px_kd 67 = 12) rfl rfl ?_
  refine jz_al_n (pc' := 17) rfl rfl rfl ?_
  refine jz_si (pc' := 20) rfl rfl rfl ?_
  refine jz_na (pc' := 22) (u' := (2, 602)) rfl rfl rfl (jz_js (jl rfl) (jz_s hz)) (by decide) rfl (.inl ⟨rfl, rfl⟩) (jl rfl) (jl rfl) rfl ?_
  refine jz_pr (pc' := 25) rfl rfl (rfl : px_lk 12 20 = some (0, 12, 9)) rfl rfl (jl rfl) (rfl : px_kd 67 = 12) rfl rfl ⟨rfl, rfl⟩ rfl rfl ?_
  refine jz_al_n (pc' := 26) rfl rfl rfl ?_
  refine jz_bi (pc' := 28) rfl rfl rfl ?_
  refine jz_na (pc' := 30) (u' := (3, 610)) rfl rfl rfl (jz_s (jz_js (jl rfl) (jz_s hz))) (by decide) rfl (.inl ⟨rfl, rfl⟩) (jl rfl) (jl rfl) rfl ?_
  refine jz_pr (pc' := 33) rfl rfl (rfl : px_lk 12 23 = some (0, 12, 10)) rfl rfl (jl rfl) (rfl : px_kd 67 = 12) rfl rfl ⟨rfl, rfl⟩ rfl rfl ?_
  refine jz_al_n (pc' := 34) rfl rfl rfl ?_
  refine jz_bi (pc' := 36) rfl rfl rfl ?_
  refine jz_na (pc' := 38) (u' := (4, 634)) rfl rfl rfl (jz_s (jz_s (jz_js (jl rfl) (jz_s hz)))) (by decide) rfl (.inl ⟨rfl, rfl⟩) (jl rfl) (jl rfl) rfl ?_
  refine jz_pr (pc' := 41) rfl rfl (rfl : px_lk 12 26 = some (0, 12, 11)) rfl rfl (jl rfl) (rfl : px_kd 67 = 12) rfl rfl ⟨rfl, rfl⟩ rfl rfl ?_
  refine jz_al_n (pc' := 42) rfl rfl rfl ?_
  refine jz_bi (pc' := 44) rfl rfl rfl ?_
  refine jz_na (pc' := 46) (u' := (5, 646)) rfl rfl rfl (jz_s (jz_s (jz_s (jz_js (jl rfl) (jz_s hz))))) (by decide) rfl (.inl ⟨rfl, rfl⟩) (jl rfl) (jl rfl) rfl ?_
  refine jz_pr (pc' := 49) rfl rfl (rfl : px_lk 12 29 = some (0, 12, 12)) rfl rfl (jl rfl) (rfl : px_kd 67 = 12) rfl rfl ⟨rfl, rfl⟩ rfl rfl ?_
  refine jz_al_n (pc' := 50) rfl rfl rfl ?_
  refine jz_bi (pc' := 52) rfl rfl rfl ?_
  refine jz_na (pc' := 54) (u' := (6, 664)) rfl rfl rfl (jz_s (jz_s (jz_s (jz_s (jz_js (jl rfl) (jz_s hz)))))) (by decide) rfl (.inl ⟨rfl, rfl⟩) (jl rfl) (jl rfl) rfl ?_
  refine jz_pr (pc' := 57) rfl rfl (rfl : px_lk 12 32 = some (0, 12, 13)) rfl rfl (jl rfl) (rfl : px_kd 67 = 12) rfl rfl ⟨rfl, rfl⟩ rfl rfl ?_
  refine jz_al_n (pc' := 58) rfl rfl rfl ?_
  refine jz_bi (pc' := 60) rfl rfl rfl ?_
  refine jz_na (pc' := 62) (u' := (7, 696)) rfl rfl rfl (jz_s (jz_s (jz_s (jz_s (jz_s (jz_js (jl rfl) (jz_s hz))))))) (by decide) rfl (.inl ⟨rfl, rfl⟩) (jl rfl) (jl rfl) rfl ?_
  refine jz_pr (pc' := 65) rfl rfl (rfl : px_lk 12 35 = some (0, 12, 14)) rfl rfl (jl rfl) (rfl : px_kd 67 = 12) rfl rfl ⟨rfl, rfl⟩ rfl rfl ?_
  refine jz_al_n (pc' := 66) rfl rfl rfl ?_
  refine jz_bi (pc' := 68) rfl rfl rfl ?_
  refine jz_na (pc' := 70) (u' := (8, 704)) rfl rfl rfl (jz_s (jz_s (jz_s (jz_s (jz_s (jz_s (jz_js (jl rfl) (jz_s hz)))))))) (by decide) rfl (.inl ⟨rfl, rfl⟩) (jl rfl) (jl rfl) rfl ?_
  refine jz_pr (pc' := 73) rfl rfl (rfl : px_lk 12 38 = some (0, 12, 15)) rfl rfl (jl rfl) (rfl : px_kd 67 = 12) rfl rfl ⟨rfl, rfl⟩ rfl rfl ?_
  refine jz_al_n (pc' := 74) rfl rfl rfl ?_
  refine jz_bi (pc' := 76) rfl rfl rfl ?_
  refine jz_na (pc' := 78) (u' := (9, 728)) rfl rfl rfl (jz_s (jz_s (jz_s (jz_s (jz_s (jz_s (jz_s (jz_js (jl rfl) (jz_s hz))))))))) (by decide) rfl (.inl ⟨rfl, rfl⟩) (jl rfl) (jl rfl) rfl ?_
  refine jz_pr (pc' := 81) rfl rfl (rfl : px_lk 12 41 = some (0, 12, 16)) rfl rfl (jl rfl) (rfl : px_kd 67 = 12) rfl rfl ⟨rfl, rfl⟩ rfl rfl ?_
  refine jz_al_n (pc' := 82) rfl rfl rfl ?_
  refine jz_bi (pc' := 84) rfl rfl rfl ?_
  refine jz_na (pc' := 86) (u' := (10, 740)) rfl rfl rfl (jz_s (jz_s (jz_s (jz_s (jz_s (jz_s (jz_s (jz_s (jz_js (jl rfl) (jz_s hz)))))))))) (by decide) rfl (.inl ⟨rfl, rfl⟩) (jl rfl) (jl rfl) rfl ?_
  refine jz_pr (pc' := 89) rfl rfl (rfl : px_lk 12 44 = some (0, 12, 17)) rfl rfl (jl rfl) (rfl : px_kd 67 = 12) rfl rfl ⟨rfl, rfl⟩ rfl rfl ?_
  refine jz_al_n (pc' := 90) rfl rfl rfl ?_
  refine jz_bi (pc' := 92) rfl rfl rfl ?_
  refine jz_na (pc' := 94) (u' := (11, 758)) rfl rfl rfl (jz_s (jz_s (jz_s (jz_s (jz_s (jz_s (jz_s (jz_s (jz_s (jz_js (jl rfl) (jz_s hz))))))))))) (by decide) rfl (.inl ⟨rfl, rfl⟩) (jl rfl) (jl rfl) rfl ?_
  refine jz_pr (pc' := 97) rfl rfl (rfl : px_lk 12 47 = some (0, 12, 18)) rfl rfl (jl rfl) (rfl : px_kd 67 = 12) rfl rfl ⟨rfl, rfl⟩ rfl rfl ?_
  refine jz_al_n (pc' := 98) rfl rfl rfl ?_
  refine jz_bi (pc' := 100) rfl rfl rfl ?_
  refine jz_na (pc' := 102) (u' := (12, 790)) rfl rfl rfl (jz_s (jz_s (jz_s (jz_s (jz_s (jz_s (jz_s (jz_s (jz_s (jz_s (jz_js (jl rfl) (jz_s hz)))))))))))) (by decide) rfl (.inl ⟨rfl, rfl⟩) (jl rfl) (jl rfl) rfl ?_
  refine jz_pr (pc' := 105) rfl rfl (rfl : px_lk 12 50 = some (0, 12, 19)) rfl rfl (jl rfl) (rfl : px_kd 67 = 12) rfl rfl ⟨rfl, rfl⟩ rfl rfl ?_
  refine jz_al_n (pc' := 106) rfl rfl rfl ?_
  refine jz_si (pc' := 109) rfl rfl rfl ?_
  refine jz_na (pc' := 111) (u' := (13, 940)) rfl rfl rfl (jz_s (jz_s (jz_s (jz_s (jz_s (jz_s (jz_s (jz_s (jz_s (jz_s (jz_s (jz_js (jl rfl) (jz_s hz))))))))))))) (by decide) rfl (.inl ⟨rfl, rfl⟩) (jl rfl) (jl rfl) rfl ?_
  refine jz_pr (pc' := 114) rfl rfl (rfl : px_lk 12 53 = some (0, 12, 28)) rfl rfl (jl rfl) (rfl : px_kd 67 = 12) rfl rfl ⟨rfl, rfl⟩ rfl rfl ?_
  refine jz_al_n (pc' := 115) rfl rfl rfl ?_
  refine jz_si (pc' := 118) rfl rfl rfl ?_
  refine jz_na (pc' := 120) (u' := (14, 1090)) rfl rfl rfl (jz_s (jz_s (jz_s (jz_s (jz_s (jz_s (jz_s (jz_s (jz_s (jz_s (jz_s (jz_s (jz_js (jl rfl) (jz_s hz)))))))))))))) (by decide) rfl (.inl ⟨rfl, rfl⟩) (jl rfl) (jl rfl) rfl ?_
  refine jz_pr (pc' := 123) rfl rfl (rfl : px_lk 12 56 = some (0, 12, 29)) rfl rfl (jl rfl) (rfl : px_kd 67 = 12) rfl rfl ⟨rfl, rfl⟩ rfl rfl ?_
  refine jz_al_n (pc' := 124) rfl rfl rfl ?_
  refine jz_si (pc' := 127) rfl rfl rfl ?_
  refine jz_na (pc' := 129) (u' := (15, 1240)) rfl rfl rfl (jz_s (jz_s (jz_s (jz_s (jz_s (jz_s (jz_s (jz_s (jz_s (jz_s (jz_s (jz_s (jz_s (jz_js (jl rfl) (jz_s hz))))))))))))))) (by decide) rfl (.inl ⟨rfl, rfl⟩) (jl rfl) (jl rfl) rfl ?_
  refine jz_pr (pc' := 132) rfl rfl (rfl : px_lk 12 59 = some (0, 12, 30)) rfl rfl (jl rfl) (rfl : px_kd 67 = 12) rfl rfl ⟨rfl, rfl⟩ rfl rfl ?_
  refine jz_al_n (pc' := 133) rfl rfl rfl ?_
  refine jz_si (pc' := 136) rfl rfl rfl ?_
  refine jz_na (pc' := 138) (u' := (16, 1390)) rfl rfl rfl (jz_s (jz_s (jz_s (jz_s (jz_s (jz_s (jz_s (jz_s (jz_s (jz_s (jz_s (jz_s (jz_s (jz_s (jz_js (jl rfl) (jz_s hz)))))))))))))))) (by decide) rfl (.inl ⟨rfl, rfl⟩) (jl rfl) (jl rfl) rfl ?_
  refine jz_pr (pc' := 141) rfl rfl (rfl : px_lk 12 62 = some (0, 12, 31)) rfl rfl (jl rfl) (rfl : px_kd 67 = 12) rfl rfl ⟨rfl, rfl⟩ rfl rfl ?_
  refine jz_al_n (pc' := 142) rfl rfl rfl ?_
  refine jz_si (pc' := 145) rfl rfl rfl ?_
  refine jz_na (pc' := 147) (u' := (17, 1540)) rfl rfl rfl (jz_s (jz_s (jz_s (jz_s (jz_s (jz_s (jz_s (jz_s (jz_s (jz_s (jz_s (jz_s (jz_s (jz_s (jz_s (jz_js (jl rfl) (jz_s hz))))))))))))))))) (by decide) rfl (.inl ⟨rfl, rfl⟩) (jl rfl) (jl rfl) rfl ?_
  refine jz_pr (pc' := 150) rfl rfl (rfl : px_lk 12 65 = some (0, 12, 32)) rfl rfl (jl rfl) (rfl : px_kd 67 = 12) rfl rfl ⟨rfl, rfl⟩ rfl rfl ?_
  refine jz_al_n (pc' := 151) rfl rfl rfl ?_
  refine jz_bi (pc' := 153) rfl rfl rfl ?_
  refine jz_na (pc' := 155) (u' := (18, 1549)) rfl rfl rfl (jz_s (jz_s (jz_s (jz_s (jz_s (jz_s (jz_s (jz_s (jz_s (jz_s (jz_s (jz_s (jz_s (jz_s (jz_s (jz_s (jz_js (jl rfl) (jz_s hz)))))))))))))))))) (by decide) rfl (.inl ⟨rfl, rfl⟩) (jl rfl) (jl rfl) rfl ?_
  refine jz_pr (pc' := 158) rfl rfl (rfl : px_lk 12 68 = some (0, 12, 35)) rfl rfl (jl rfl) (rfl : px_kd 67 = 12) rfl rfl ⟨rfl, rfl⟩ rfl rfl ?_
  refine jz_al_n (pc' := 159) rfl rfl rfl ?_
  refine jz_si (pc' := 162) rfl rfl rfl ?_
  refine jz_na (pc' := 164) (u' := (19, 1699)) rfl rfl rfl (jz_s (jz_s (jz_s (jz_s (jz_s (jz_s (jz_s (jz_s (jz_s (jz_s (jz_s (jz_s (jz_s (jz_s (jz_s (jz_s (jz_s (jz_js (jl rfl) (jz_s hz))))))))))))))))))) (by decide) rfl (.inl ⟨rfl, rfl⟩) (jl rfl) (jl rfl) rfl ?_
  refine jz_pr (pc' := 167) rfl rfl (rfl : px_lk 12 71 = some (0, 12, 36)) rfl rfl (jl rfl) (rfl : px_kd 67 = 12) rfl rfl ⟨rfl, rfl⟩ rfl rfl ?_
  refine jz_al_n (pc' := 168) rfl rfl rfl ?_
  refine jz_si (pc' := 171) rfl rfl rfl ?_
  refine jz_na (pc' := 173) (u' := (20, 1849)) rfl rfl rfl (jz_s (jz_s (jz_s (jz_s (jz_s (jz_s (jz_s (jz_s (jz_s (jz_s (jz_s (jz_s (jz_s (jz_s (jz_s (jz_s (jz_s (jz_s (jz_js (jl rfl) (jz_s hz)))))))))))))))))))) (by decide) rfl (.inl ⟨rfl, rfl⟩) (jl rfl) (jl rfl) rfl ?_
  refine jz_pr (pc' := 176) rfl rfl (rfl : px_lk 12 74 = some (0, 12, 37)) rfl rfl (jl rfl) (rfl : px_kd 67 = 12) rfl rfl ⟨rfl, rfl⟩ rfl rfl ?_
  refine jz_al_n (pc' := 177) rfl rfl rfl ?_
  refine jz_bi (pc' := 179) rfl rfl rfl ?_
  refine jz_na (pc' := 181) (u' := (21, 1917)) rfl rfl rfl (jz_s (jz_s (jz_s (jz_s (jz_s (jz_s (jz_s (jz_s (jz_s (jz_s (jz_s (jz_s (jz_s (jz_s (jz_s (jz_s (jz_s (jz_s (jz_s (jz_js (jl rfl) (jz_s hz))))))))))))))))))))) (by decide) rfl (.inl ⟨rfl, rfl⟩) (jl rfl) (jl rfl) rfl ?_
  refine jz_pr (pc' := 184) rfl rfl (rfl : px_lk 12 77 = some (0, 12, 44)) rfl rfl (jl rfl) (rfl : px_kd 67 = 12) rfl rfl ⟨rfl, rfl⟩ rfl rfl ?_
  refine jz_al_n (pc' := 185) rfl rfl rfl ?_
  refine jz_bi (pc' := 187) rfl rfl rfl ?_
  refine jz_na (pc' := 189) (u' := (22, 1985)) rfl rfl rfl (jz_s (jz_s (jz_s (jz_s (jz_s (jz_s (jz_s (jz_s (jz_s (jz_s (jz_s (jz_s (jz_s (jz_s (jz_s (jz_s (jz_s (jz_s (jz_s (jz_s (jz_js (jl rfl) (jz_s hz)))))))))))))))))))))) (by decide) rfl (.inl ⟨rfl, rfl⟩) (jl rfl) (jl rfl) rfl ?_
  refine jz_pr (pc' := 192) rfl rfl (rfl : px_lk 12 80 = some (0, 12, 45)) rfl rfl (jl rfl) (rfl : px_kd 67 = 12) rfl rfl ⟨rfl, rfl⟩ rfl rfl ?_
  refine jz_al_n (pc' := 193) rfl rfl rfl ?_
  refine jz_si (pc' := 196) rfl rfl rfl ?_
  refine jz_na (pc' := 198) (u' := (23, 3073)) rfl rfl rfl (jz_s (jz_s (jz_s (jz_s (jz_s (jz_s (jz_s (jz_s (jz_s (jz_s (jz_s (jz_s (jz_s (jz_s (jz_s (jz_s (jz_s (jz_s (jz_s (jz_s (jz_s (jz_js (jl rfl) (jz_s hz))))))))))))))))))))))) (by decide) rfl (.inl ⟨rfl, rfl⟩) (jl rfl) (jl rfl) rfl ?_
  refine jz_pr (pc' := 201) rfl rfl (rfl : px_lk 12 83 = some (0, 12, 46)) rfl rfl (jl rfl) (rfl : px_kd 67 = 12) rfl rfl ⟨rfl, rfl⟩ rfl rfl ?_
  refine jz_al_n (pc' := 202) rfl rfl rfl ?_
  refine jz_bi (pc' := 204) rfl rfl rfl ?_
  refine jz_na (pc' := 206) (u' := (24, 3085)) rfl rfl rfl (jz_s (jz_s (jz_s (jz_s (jz_s (jz_s (jz_s (jz_s (jz_s (jz_s (jz_s (jz_s (jz_s (jz_s (jz_s (jz_s (jz_s (jz_s (jz_s (jz_s (jz_s (jz_s (jz_js (jl rfl) (jz_s hz)))))))))))))))))))))))) (by decide) rfl (.inl ⟨rfl, rfl⟩) (jl rfl) (jl rfl) rfl ?_
  refine jz_pr (pc' := 209) rfl rfl (rfl : px_lk 12 86 = some (0, 12, 50)) rfl rfl (jl rfl) (rfl : px_kd 67 = 12) rfl rfl ⟨rfl, rfl⟩ rfl rfl ?_
  refine jz_al_n (pc' := 210) rfl rfl rfl ?_
  refine jz_bi (pc' := 212) rfl rfl rfl ?_
  refine jz_na (pc' := 214) (u' := (25, 3097)) rfl rfl rfl (jz_s (jz_s (jz_s (jz_s (jz_s (jz_s (jz_s (jz_s (jz_s (jz_s (jz_s (jz_s (jz_s (jz_s (jz_s (jz_s (jz_s (jz_s (jz_s (jz_s (jz_s (jz_s (jz_s (jz_js (jl rfl) (jz_s hz))))))))))))))))))))))))) (by decide) rfl (.inl ⟨rfl, rfl⟩) (jl rfl) (jl rfl) rfl ?_
  refine jz_pr (pc' := 217) rfl rfl (rfl : px_lk 12 89 = some (0, 12, 51)) rfl rfl (jl rfl) (rfl : px_kd 67 = 12) rfl rfl ⟨rfl, rfl⟩ rfl rfl ?_
  refine jz_al_n (pc' := 218) rfl rfl rfl ?_
  refine jz_bi (pc' := 220) rfl rfl rfl ?_
  refine jz_na (pc' := 222) (u' := (26, 3105)) rfl rfl rfl (jz_s (jz_s (jz_s (jz_s (jz_s (jz_s (jz_s (jz_s (jz_s (jz_s (jz_s (jz_s (jz_s (jz_s (jz_s (jz_s (jz_s (jz_s (jz_s (jz_s (jz_s (jz_s (jz_s (jz_s (jz_js (jl rfl) (jz_s hz)))))))))))))))))))))))))) (by decide) rfl (.inl ⟨rfl, rfl⟩) (jl rfl) (jl rfl) rfl ?_
  refine jz_pr (pc' := 225) rfl rfl (rfl : px_lk 12 92 = some (0, 12, 53)) rfl rfl (jl rfl) (rfl : px_kd 67 = 12) rfl rfl ⟨rfl, rfl⟩ rfl rfl ?_
  refine jz_al_n (pc' := 226) rfl rfl rfl ?_
  refine jz_bi (pc' := 228) rfl rfl rfl ?_
  refine jz_na (pc' := 230) (u' := (27, 3113)) rfl rfl rfl (jz_s (jz_s (jz_s (jz_s (jz_s (jz_s (jz_s (jz_s (jz_s (jz_s (jz_s (jz_s (jz_s (jz_s (jz_s (jz_s (jz_s (jz_s (jz_s (jz_s (jz_s (jz_s (jz_s (jz_s (jz_s (jz_js (jl rfl) (jz_s hz))))))))))))))))))))))))))) (by decide) rfl (.inl ⟨rfl, rfl⟩) (jl rfl) (jl rfl) rfl ?_
  refine jz_pr (pc' := 233) rfl rfl (rfl : px_lk 12 95 = some (0, 12, 54)) rfl rfl (jl rfl) (rfl : px_kd 67 = 12) rfl rfl ⟨rfl, rfl⟩ rfl rfl ?_
  refine jz_al_n (pc' := 234) rfl rfl rfl ?_
  refine jz_bi (pc' := 236) rfl rfl rfl ?_
  refine jz_na (pc' := 238) (u' := (28, 3167)) rfl rfl rfl (jz_s (jz_s (jz_s (jz_s (jz_s (jz_s (jz_s (jz_s (jz_s (jz_s (jz_s (jz_s (jz_s (jz_s (jz_s (jz_s (jz_s (jz_s (jz_s (jz_s (jz_s (jz_s (jz_s (jz_s (jz_s (jz_s (jz_js (jl rfl) (jz_s hz)))))))))))))))))))))))))))) (by decide) rfl (.inr ⟨rfl, rfl⟩) (jl rfl) (jl rfl) rfl ?_
  refine jz_pr (pc' := 241) rfl rfl (rfl : px_lk 12 98 = some (0, 12, 55)) rfl rfl (jl rfl) (rfl : px_kd 67 = 12) rfl rfl ⟨rfl, rfl⟩ rfl rfl ?_
  refine jz_al_n (pc' := 242) rfl rfl rfl ?_
  refine jz_bi (pc' := 244) rfl rfl rfl ?_
  refine jz_na (pc' := 246) (u' := (29, 3267)) rfl rfl rfl (jz_s (jz_s (jz_s (jz_s (jz_s (jz_s (jz_s (jz_s (jz_s (jz_s (jz_s (jz_s (jz_s (jz_s (jz_s (jz_s (jz_s (jz_s (jz_s (jz_s (jz_s (jz_s (jz_s (jz_s (jz_s (jz_s (jz_s (jz_js (jl rfl) (jz_s hz))))))))))))))))))))))))))))) (by decide) rfl (.inl ⟨rfl, rfl⟩) (jl rfl) (jl rfl) rfl ?_
  refine jz_pr (pc' := 249) rfl rfl (rfl : px_lk 12 102 = some (0, 12, 56)) rfl rfl (jl rfl) (rfl : px_kd 67 = 12) rfl rfl ⟨rfl, rfl⟩ rfl rfl ?_
  refine jz_al_n (pc' := 250) rfl rfl rfl ?_
  refine jz_bi (pc' := 252) rfl rfl rfl ?_
  refine jz_na (pc' := 254) (u' := (30, 3315)) rfl rfl rfl (jz_s (jz_s (jz_s (jz_s (jz_s (jz_s (jz_s (jz_s (jz_s (jz_s (jz_s (jz_s (jz_s (jz_s (jz_s (jz_s (jz_s (jz_s (jz_s (jz_s (jz_s (jz_s (jz_s (jz_s (jz_s (jz_s (jz_s (jz_s (jz_js (jl rfl) (jz_s hz)))))))))))))))))))))))))))))) (by decide) rfl (.inr ⟨rfl, rfl⟩) (jl rfl) (jl rfl) rfl ?_
  refine jz_pr (pc' := 257) rfl rfl (rfl : px_lk 12 105 = some (0, 12, 57)) rfl rfl (jl rfl) (rfl : px_kd 67 = 12) rfl rfl ⟨rfl, rfl⟩ rfl rfl ?_
  refine jz_al_n (pc' := 258) rfl rfl rfl ?_
  refine jz_si (pc' := 261) rfl rfl rfl ?_
  refine jz_na (pc' := 263) (u' := (31, 3891)) rfl rfl rfl (jz_s (jz_s (jz_s (jz_s (jz_s (jz_s (jz_s (jz_s (jz_s (jz_s (jz_s (jz_s (jz_s (jz_s (jz_s (jz_s (jz_s (jz_s (jz_s (jz_s (jz_s (jz_s (jz_s (jz_s (jz_s (jz_s (jz_s (jz_s (jz_s (jz_js (jl rfl) (jz_s hz))))))))))))))))))))))))))))))) (by decide) rfl (.inl ⟨rfl, rfl⟩) (jl rfl) (jl rfl) rfl ?_
  refine jz_pr (pc' := 266) rfl rfl (rfl : px_lk 12 108 = some (0, 12, 58)) rfl rfl (jl rfl) (rfl : px_kd 67 = 12) rfl rfl ⟨rfl, rfl⟩ rfl rfl ?_
  refine jz_al_n (pc' := 267) rfl rfl rfl ?_
  refine jz_bi (pc' := 269) rfl rfl rfl ?_
  refine jz_na (pc' := 271) (u' := (32, 3899)) rfl rfl rfl (jz_s (jz_s (jz_s (jz_s (jz_s (jz_s (jz_s (jz_s (jz_s (jz_s (jz_s (jz_s (jz_s (jz_s (jz_s (jz_s (jz_s (jz_s (jz_s (jz_s (jz_s (jz_s (jz_s (jz_s (jz_s (jz_s (jz_s (jz_s (jz_s (jz_s (jz_js (jl rfl) (jz_s hz)))))))))))))))))))))))))))))))) (by decide) rfl (.inl ⟨rfl, rfl⟩) (jl rfl) (jl rfl) rfl ?_
  refine jz_pr (pc' := 274) rfl rfl (rfl : px_lk 12 111 = some (0, 12, 59)) rfl rfl (jl rfl) (rfl : px_kd 67 = 12) rfl rfl ⟨rfl, rfl⟩ rfl rfl ?_
  refine jz_al_n (pc' := 275) rfl rfl rfl ?_
  refine jz_bi (pc' := 277) rfl rfl rfl ?_
  refine jz_na (pc' := 279) (u' := (33, 3907)) rfl rfl rfl (jz_s (jz_s (jz_s (jz_s (jz_s (jz_s (jz_s (jz_s (jz_s (jz_s (jz_s (jz_s (jz_s (jz_s (jz_s (jz_s (jz_s (jz_s (jz_s (jz_s (jz_s (jz_s (jz_s (jz_s (jz_s (jz_s (jz_s (jz_s (jz_s (jz_s (jz_s (jz_js (jl rfl) (jz_s hz))))))))))))))))))))))))))))))))) (by decide) rfl (.inl ⟨rfl, rfl⟩) (jl rfl) (jl rfl) rfl ?_
  refine jz_pr (pc' := 282) rfl rfl (rfl : px_lk 12 114 = some (0, 12, 60)) rfl rfl (jl rfl) (rfl : px_kd 67 = 12) rfl rfl ⟨rfl, rfl⟩ rfl rfl ?_
  refine jz_al_n (pc' := 283) rfl rfl rfl ?_
  refine jz_si (pc' := 286) rfl rfl rfl ?_
  refine jz_na (pc' := 288) (u' := (34, 7378)) rfl rfl rfl (jz_s (jz_s (jz_s (jz_s (jz_s (jz_s (jz_s (jz_s (jz_s (jz_s (jz_s (jz_s (jz_s (jz_s (jz_s (jz_s (jz_s (jz_s (jz_s (jz_s (jz_s (jz_s (jz_s (jz_s (jz_s (jz_s (jz_s (jz_s (jz_s (jz_s (jz_s (jz_s (jz_js (jl rfl) (jz_s hz)))))))))))))))))))))))))))))))))) (by decide) rfl (.inl ⟨rfl, rfl⟩) (jl rfl) (jl rfl) rfl ?_
  refine jz_pr (pc' := 291) rfl rfl (rfl : px_lk 12 117 = some (0, 12, 65)) rfl rfl (jl rfl) (rfl : px_kd 67 = 12) rfl rfl ⟨rfl, rfl⟩ rfl rfl ?_
  refine jk_jp ?_
  have hN : 102 ≤ 102 := Nat.le_refl 102
  have hu : ju px_m187 (34, 7378) := ju_l rfl rfl
  refine jr_al_n (pc' := 292) rfl rfl rfl ?_
  refine jr_cv_v (pc' := 295) [] rfl rfl (rfl : px_lk 12 120 = some (2, 188, 0)) jq_188 jbd_188 (jl rfl) rfl (jl rfl) hu rfl (jk rfl hN) (jd_67.trans jo_188.symm) (fun Q' hq => jc_188 hN (Nat.le_trans (jl rfl) hd) (jo_b h) hq) (fun p1 hp1 h => ?_)
  refine jr_al_n (pc' := 296) rfl rfl rfl ?_
  refine jr_cv_v (pc' := 299) [] rfl rfl (rfl : px_lk 12 123 = some (2, 189, 0)) jq_189 jbd_189 (jl rfl) rfl (jl rfl) hu rfl (jk rfl hN) (jd_67.trans jo_189.symm) (fun Q' hq => jc_189 hN (Nat.le_trans (jl rfl) hd) h hq) (fun p2 hp2 h => ?_)
  exact jr_rv rfl hu rfl (hQ' _ _ (hQ _ h))
def jm0 : jm := (fun _ _ => 0, fun _ _ => 0)
theorem jm0_V : px_V0 = jmc 0 0 jm0 := by
  funext k j
  unfold px_V0 jmc
  by_cases h : k = 2000
  · rw [if_pos h, if_pos h]; split <;> rfl
  · rw [if_neg h, if_neg h, if_pos (Nat.zero_le _)]
theorem jm0_z : jz 0 jm0 := fun _ _ _ => ⟨rfl, rfl⟩
def jm140 : jm := (jfl (jfl (jcp (js (jcp (js (js jm0 1 6 (-1)) 27 1 (7)) jwo 28 0 0 7) 30 1 (7)) jwo 31 0 0 7) 34 (-1)) 38 (-1))
theorem jz_ccP {X : Nat × (Nat → Int32)} {C : Nat → List Value → px_V → px_Q → Prop} {M : px_M} {Q : px_Q} {N t pc pc' l : Nat} {L : px_L} {st : List Value} {m : jm} {u : Nat × Nat} {n mi a b1 b2 : Nat} {u' : Nat × Nat} {R : jm → Prop} {k : Nat} (rest : List Value) (hi : px_ins M pc = some (.invokespecial n, l)) (hp : pc + 3 = pc') (hlk : px_lk M.2.1 n = some (2, mi, a)) (hq : px_stc mi = 2 ∧ mi < 335 ∧ mi ≠ 332 ∧ (px_prog mi).2.2.2.2.2.2 = []) (hb : px_bud mi = (b1, b2)) (hu : (u.1 + b1, u.2 + b2) = u') (hu1 : u.1 + b1 ≤ (px_bud M.1).1) (hu2 : u.2 + b2 ≤ (px_bud M.1).2) (hk : (st.drop a).head? = some (.ref k)) (hl : a + 1 ≤ st.length) (hr : st.drop (a + 1) = rest) (hc : px_cat rest ≤ 8) (hcc : ∀ Q' : px_Q, (∀ p, R p → Q' (.inl none) (jmem 102 p)) → C mi (st.take (a + 1)).reverse (jmc N t m) Q') (kk : ∀ p, R p → jp X C M Q 102 pc' L rest p u') : jk_ X C M Q N t pc L st m u := by
  subst hp; subst hr; subst hu; refine jzr hi ?_
  show px_act4 X C M (.invokespecial n) pc L st (jmc N t m) u (px_W X C M Q) Q
  have e : px_callN C M mi (a + 1) pc L st (jmc N t m) u (px_W X C M Q) := by
    unfold px_callN
    rw [hb]
    exact ⟨hl, hc, hu1, hu2, hcc _ (fun p hp => kk p hp)⟩
  unfold px_act4
  simp only [hlk]; exact ⟨hq.1, hq.2.1, hq.2.2.1, hq.2.2.2, ⟨k, hk⟩, e⟩
theorem jnewL {m : jm} (h : m.2 = fun _ _ => 0) : px_new (jmem 102 m) 102 (fun _ => .long 0) = jmem 103 m := by
  funext a b
  unfold px_new
  by_cases h1 : a = 102
  · rw [if_pos h1, h1]
    unfold jmem
    rw [if_neg (by omega), if_neg (by omega), jtk_l rfl, h]; rfl
  · rw [if_neg h1]
    unfold jmem
    by_cases h2 : a = 2000 ∧ b = 0
    · rw [if_pos h2, if_pos h2.1, if_pos h2.2]
    · rw [if_neg h2]
      by_cases h3 : a = 2000
      · rw [if_pos h3, if_pos h3, if_neg (fun e => h2 ⟨h3, e⟩), if_neg (fun e => h2 ⟨h3, e⟩)]
      · rw [if_neg h3, if_neg h3]
        by_cases h4 : 102 ≤ a
        · rw [if_pos h4, if_pos (by omega)]
        · rw [if_neg h4, if_neg (show ¬ 103 ≤ a by omega)]
theorem jr_nl {X : Nat × (Nat → Int32)} {C : Nat → List Value → px_V → px_Q → Prop} {M : px_M} {Q : px_Q} {pc pc' l : Nat} {L : px_L} {st : List Value} {m : jm} {u u' : Nat × Nat} (hm : m.2 = fun _ _ => 0) (hi : px_ins M pc = some (.newarray .long, l)) (hp : pc + 2 = pc') (hu1 : u.1 + 1 ≤ (px_bud M.1).1) (hu2 : u.2 + 1 ≤ (px_bud M.1).2) (hu : (u.1 + 1, u.2 + 1) = u') (kk : jp X C M Q 103 pc' L (.ref 102 :: st) m u') : jp X C M Q 102 pc L (jv 1 :: st) m u := by
  subst hp; subst hu; refine jr hi ?_
  unfold px_do px_act3
  simp only [px_sort, jN]
  refine ⟨by decide, by decide, by decide, hu1, hu2, Or.inr (Or.inr ⟨trivial, rfl, ?_⟩)⟩
  rw [jnewL hm]; exact kk
set_option maxRecDepth 20000 in
set_option maxHeartbeats 2000000 in
theorem px_law_of {L : Nat} {xs : Nat → Int32} (hL : L ≤ 5120) (h : jo ((jf_188 (jM1 jm140)).bind jf_189) (fun p => p.2 = (fun _ _ => 0) ∧ jo (jf_332 (L, xs) p) (fun r => r.1 = 1))) : px_W (L, xs) (px_C (L, xs) 1000) (px_prog 332) (fun r _ => r = .inl (some (.int 1))) (0, px_ent 8 [.ref 1200], [], px_V0, (0, 0)) := by
  have hd : 999 ≤ 1000 := by decide
  rw [jm0_V]
  show jk_ (L, xs) (px_C (L, xs) 1000) px_m332 (fun r _ => r = .inl (some (.int 1))) 0 0 0 [some (.ref 1200), none, none, none, none, none, none, none] [] jm0 (0, 0)
  refine jz_new (pc' := 3) (u' := (1, 17)) rfl rfl (rfl : px_lk 13 8 = some (4, 11, 0)) rfl jm0_z (rfl : px_kd 0 = 11) rfl (by decide) (jl rfl) (jl rfl) rfl ?_
  refine jz_dup (pc' := 4) rfl rfl rfl ?_
  refine jz_cc (pc' := 7) (N1 := 67) (t' := 77) (b1 := 66) (b2 := 6380) (u' := (67, 6397)) (m1 := jm140) [_] rfl rfl (rfl : px_lk 13 105 = some (2, 140, 0)) (.inl rfl) ⟨rfl, jl rfl, by decide, rfl⟩ rfl rfl (jl rfl) (jl rfl) rfl (jl rfl) rfl (jl rfl) (fun Q' hq => jk_140_0 (Nat.le_trans (jl rfl) hd) (jz_s jm0_z) hq) ?_
  have hz : jz 67 jm140 := jk_140_0_z (jz_s jm0_z)
  refine jz_as_n (pc' := 8) (L' := [_, _, _, _, _, _, _, _]) rfl rfl (jl rfl) rfl rfl ?_
  refine jz_new (pc' := 11) (u' := (68, 6464)) rfl rfl (rfl : px_lk 13 106 = some (4, 12, 0)) rfl hz (rfl : px_kd 67 = 12) rfl (by decide) (jl rfl) (jl rfl) rfl ?_
  refine jz_dup (pc' := 12) rfl rfl rfl ?_
  refine jz_ccP (pc' := 15) (b1 := 34) (b2 := 7378) (u' := (102, 13842)) [_] rfl rfl (rfl : px_lk 13 108 = some (2, 187, 0)) ⟨rfl, jl rfl, by decide, rfl⟩ rfl rfl (jl rfl) (jl rfl) rfl (jl rfl) rfl (jl rfl) (fun Q' hq => jk_187_67 (Nat.le_trans (jl rfl) hd) (jz_s hz) h hq) (fun p hp => ?_)
  refine jr_as_n (pc' := 16) (L' := [_, _, _, _, _, _, _, _]) rfl rfl (jl rfl) rfl rfl ?_
  refine jr_ic (pc' := 17) rfl rfl ?_
  refine jr_nl (pc' := 19) (u' := (103, 13843)) hp.1 rfl rfl (jl rfl) (jl rfl) rfl ?_
  refine jr_as_n (pc' := 20) (L' := [_, _, _, _, _, _, _, _]) rfl rfl (jl rfl) rfl rfl ?_
  refine jr_ic (pc' := 21) rfl rfl ?_
  refine jr_is (pc' := 23) (L' := [_, _, _, _, _, _, _, _]) rfl rfl (jl rfl) rfl rfl ?_
  refine jc_332 (d := 1000) hL (Nat.le_refl 103) (Nat.le_trans (jl rfl) hd) hp.2 (fun q hb hq => ?_) none none none (103, 13843) ⟨by decide, by decide⟩
  rw [hq]; rfl
