/-! the links, cells and methods that the walks name (written by wip/whole/gen/walk.py) -/
theorem jlk_1_15 : px_lk 1 15 = some (0, 1, 5) := rfl
theorem jlk_1_18 : px_lk 1 18 = some (0, 1, 6) := rfl
theorem jlk_1_49 : px_lk 1 49 = some (0, 1, 1) := rfl
theorem jlk_6_11 : px_lk 6 11 = some (0, 6, 2) := rfl
theorem jlk_6_20 : px_lk 6 20 = some (0, 6, 0) := rfl
theorem jlk_6_51 : px_lk 6 51 = some (2, 59, 1) := rfl
theorem jlk_6_55 : px_lk 6 55 = some (1, 1, 3) := rfl
theorem jlk_6_66 : px_lk 6 66 = some (2, 61, 1) := rfl
theorem jlk_11_297 : px_lk 11 297 = some (2, 153, 3) := rfl
theorem jlk_11_301 : px_lk 11 301 = some (2, 154, 1) := rfl
theorem jlk_11_441 : px_lk 11 441 = some (0, 11, 15) := rfl
theorem jlk_11_444 : px_lk 11 444 = some (0, 11, 16) := rfl
theorem jlk_11_447 : px_lk 11 447 = some (5, 0, 0) := rfl
theorem jlk_11_454 : px_lk 11 454 = some (5, 1, 0) := rfl
theorem jlk_12_41 : px_lk 12 41 = some (0, 12, 16) := rfl
theorem jlk_12_95 : px_lk 12 95 = some (0, 12, 54) := rfl
theorem jlk_12_184 : px_lk 12 184 = some (0, 12, 24) := rfl
theorem jlk_12_187 : px_lk 12 187 = some (0, 12, 25) := rfl
theorem jd_0 : px_kd 0 = 11 := rfl
theorem jd_3 : px_kd 3 = 1 := rfl
theorem jd_5 : px_kd 5 = 20 := rfl
theorem jd_6 : px_kd 6 = 20 := rfl
theorem jd_15 : px_kd 15 = 1 := rfl
theorem jd_17 : px_kd 17 = 20 := rfl
theorem jd_18 : px_kd 18 = 20 := rfl
theorem jd_47 : px_kd 47 = 6 := rfl
theorem jd_48 : px_kd 48 = 20 := rfl
theorem jd_64 : px_kd 64 = 6 := rfl
theorem jd_65 : px_kd 65 = 20 := rfl
theorem jd_67 : px_kd 67 = 12 := rfl
theorem jd_76 : px_kd 76 = 20 := rfl
theorem jd_94 : px_kd 94 = 20 := rfl
theorem jn_5 : ((px_ln 5 : Nat) : Int) = 12 := rfl
theorem jn_6 : ((px_ln 6 : Nat) : Int) = 12 := rfl
theorem jn_17 : ((px_ln 17 : Nat) : Int) = 12 := rfl
theorem jn_18 : ((px_ln 18 : Nat) : Int) = 12 := rfl
theorem jn_48 : ((px_ln 48 : Nat) : Int) = 52 := rfl
theorem jn_65 : ((px_ln 65 : Nat) : Int) = 52 := rfl
theorem jn_76 : ((px_ln 76 : Nat) : Int) = 24 := rfl
theorem jn_94 : ((px_ln 94 : Nat) : Int) = 8 := rfl
theorem jq_153 : jq 153 1 := ⟨rfl, jl rfl, by decide, rfl, fun h => absurd h (by decide)⟩
theorem jbd_153 : px_bud 153 = (0, 0) := rfl
theorem jo_153 : px_own 153 = 11 := rfl
theorem jq_16 : jq 16 0 := ⟨rfl, jl rfl, by decide, rfl, fun _ => jl rfl⟩
theorem jbd_16 : px_bud 16 = (0, 0) := rfl
theorem jo_16 : px_own 16 = 1 := rfl
theorem jq_57 : jq 57 0 := ⟨rfl, jl rfl, by decide, rfl, fun _ => jl rfl⟩
theorem jbd_57 : px_bud 57 = (0, 0) := rfl
theorem jo_57 : px_own 57 = 6 := rfl
theorem jq_59 : jq 59 0 := ⟨rfl, jl rfl, by decide, rfl, fun _ => jl rfl⟩
theorem jbd_59 : px_bud 59 = (0, 0) := rfl
theorem jo_59 : px_own 59 = 6 := rfl
theorem jq_58 : jq 58 0 := ⟨rfl, jl rfl, by decide, rfl, fun _ => jl rfl⟩
theorem jbd_58 : px_bud 58 = (0, 0) := rfl
theorem jo_58 : px_own 58 = 6 := rfl
theorem jq_61 : jq 61 0 := ⟨rfl, jl rfl, by decide, rfl, fun _ => jl rfl⟩
theorem jbd_61 : px_bud 61 = (0, 0) := rfl
theorem jo_61 : px_own 61 = 6 := rfl
theorem jq_60 : jq 60 0 := ⟨rfl, jl rfl, by decide, rfl, fun _ => jl rfl⟩
theorem jbd_60 : px_bud 60 = (0, 0) := rfl
theorem jo_60 : px_own 60 = 6 := rfl
theorem jq_154 : jq 154 0 := ⟨rfl, jl rfl, by decide, rfl, fun _ => jl rfl⟩
theorem jo_154 : px_own 154 = 11 := rfl
theorem jq_152 : jq 152 0 := ⟨rfl, jl rfl, by decide, rfl, fun _ => jl rfl⟩
theorem jo_152 : px_own 152 = 11 := rfl
theorem jq_160 : jq 160 0 := ⟨rfl, jl rfl, by decide, rfl, fun _ => jl rfl⟩
theorem jo_160 : px_own 160 = 11 := rfl
theorem jq_276 : jq 276 0 := ⟨rfl, jl rfl, by decide, rfl, fun _ => jl rfl⟩
theorem jbd_276 : px_bud 276 = (0, 0) := rfl
theorem jo_276 : px_own 276 = 12 := rfl
