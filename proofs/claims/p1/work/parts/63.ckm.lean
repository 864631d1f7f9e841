theorem ck_125_0 : (List.range 44).all (fun i => ckI 125 (0 + i)) = true := by decide +kernel
theorem pz_125 (pc : Nat) (h : 44 ≤ pc) : pg_125 pc = (0, 0, 0, 0, 0) := by
  unfold pg_125
  rw [nb_lt (k := 22) (n := 44) h (by decide), cond_false, nb_lt (k := 31) (n := 44) h (by decide), cond_false, nb_lt (k := 36) (n := 44) h (by decide), cond_false, nb_lt (k := 42) (n := 44) h (by decide), cond_false, nb_lt (k := 43) (n := 44) h (by decide), cond_false, nb_eq (k := 43) (n := 44) h (by decide), cond_false]
set_option maxRecDepth 100000 in
theorem ck_125 (pc : Nat) : ckI 125 pc = true := by
  by_cases h0 : 44 ≤ pc
  · exact ck_z (show pg 125 pc = _ from pz_125 pc h0)
  exact ck_at ck_125_0 (by omega) (by omega)
theorem ch_125 : ckH 125 = true := by decide +kernel
theorem ck_126_0 : (List.range 67).all (fun i => ckI 126 (0 + i)) = true := by decide +kernel
theorem pz_126 (pc : Nat) (h : 67 ≤ pc) : pg_126 pc = (0, 0, 0, 0, 0) := by
  unfold pg_126
  rw [nb_lt (k := 34) (n := 67) h (by decide), cond_false, nb_lt (k := 48) (n := 67) h (by decide), cond_false, nb_lt (k := 57) (n := 67) h (by decide), cond_false, nb_lt (k := 62) (n := 67) h (by decide), cond_false, nb_lt (k := 65) (n := 67) h (by decide), cond_false, nb_lt (k := 66) (n := 67) h (by decide), cond_false, nb_eq (k := 66) (n := 67) h (by decide), cond_false]
set_option maxRecDepth 100000 in
theorem ck_126 (pc : Nat) : ckI 126 pc = true := by
  by_cases h0 : 67 ≤ pc
  · exact ck_z (show pg 126 pc = _ from pz_126 pc h0)
  exact ck_at ck_126_0 (by omega) (by omega)
theorem ch_126 : ckH 126 = true := by decide +kernel
theorem ck_127_0 : (List.range 51).all (fun i => ckI 127 (0 + i)) = true := by decide +kernel
theorem pz_127 (pc : Nat) (h : 51 ≤ pc) : pg_127 pc = (0, 0, 0, 0, 0) := by
  unfold pg_127
  rw [nb_lt (k := 25) (n := 51) h (by decide), cond_false, nb_lt (k := 37) (n := 51) h (by decide), cond_false, nb_lt (k := 43) (n := 51) h (by decide), cond_false, nb_lt (k := 49) (n := 51) h (by decide), cond_false, nb_lt (k := 50) (n := 51) h (by decide), cond_false, nb_eq (k := 50) (n := 51) h (by decide), cond_false]
set_option maxRecDepth 100000 in
theorem ck_127 (pc : Nat) : ckI 127 pc = true := by
  by_cases h0 : 51 ≤ pc
  · exact ck_z (show pg 127 pc = _ from pz_127 pc h0)
  exact ck_at ck_127_0 (by omega) (by omega)
theorem ch_127 : ckH 127 = true := by decide +kernel
theorem ck_128_0 : (List.range 83).all (fun i => ckI 128 (0 + i)) = true := by decide +kernel
theorem ck_128_1 : (List.range 80).all (fun i => ckI 128 (83 + i)) = true := by decide +kernel
theorem pz_128 (pc : Nat) (h : 163 ≤ pc) : pg_128 pc = (0, 0, 0, 0, 0) := by
  unfold pg_128
  rw [nb_lt (k := 80) (n := 163) h (by decide), cond_false, nb_lt (k := 123) (n := 163) h (by decide), cond_false, nb_lt (k := 140) (n := 163) h (by decide), cond_false, nb_lt (k := 153) (n := 163) h (by decide), cond_false, nb_lt (k := 158) (n := 163) h (by decide), cond_false, nb_lt (k := 159) (n := 163) h (by decide), cond_false, nb_lt (k := 162) (n := 163) h (by decide), cond_false, nb_eq (k := 162) (n := 163) h (by decide), cond_false]
set_option maxRecDepth 100000 in
theorem ck_128 (pc : Nat) : ckI 128 pc = true := by
  by_cases h0 : 163 ≤ pc
  · exact ck_z (show pg 128 pc = _ from pz_128 pc h0)
  by_cases h1 : pc < 83
  · exact ck_at ck_128_0 (by omega) (by omega)
  exact ck_at ck_128_1 (by omega) (by omega)
theorem ch_128 : ckH 128 = true := by decide +kernel
theorem ck_129_0 : (List.range 71).all (fun i => ckI 129 (0 + i)) = true := by decide +kernel
theorem pz_129 (pc : Nat) (h : 71 ≤ pc) : pg_129 pc = (0, 0, 0, 0, 0) := by
  unfold pg_129
  rw [nb_lt (k := 34) (n := 71) h (by decide), cond_false, nb_lt (k := 50) (n := 71) h (by decide), cond_false, nb_lt (k := 59) (n := 71) h (by decide), cond_false, nb_lt (k := 66) (n := 71) h (by decide), cond_false, nb_lt (k := 69) (n := 71) h (by decide), cond_false, nb_lt (k := 70) (n := 71) h (by decide), cond_false, nb_eq (k := 70) (n := 71) h (by decide), cond_false]
set_option maxRecDepth 100000 in
theorem ck_129 (pc : Nat) : ckI 129 pc = true := by
  by_cases h0 : 71 ≤ pc
  · exact ck_z (show pg 129 pc = _ from pz_129 pc h0)
  exact ck_at ck_129_0 (by omega) (by omega)
theorem ch_129 : ckH 129 = true := by decide +kernel
theorem ck_130_0 : (List.range 80).all (fun i => ckI 130 (0 + i)) = true := by decide +kernel
theorem ck_130_1 : (List.range 17).all (fun i => ckI 130 (80 + i)) = true := by decide +kernel
theorem pz_130 (pc : Nat) (h : 97 ≤ pc) : pg_130 pc = (0, 0, 0, 0, 0) := by
  unfold pg_130
  rw [nb_lt (k := 44) (n := 97) h (by decide), cond_false, nb_lt (k := 68) (n := 97) h (by decide), cond_false, nb_lt (k := 83) (n := 97) h (by decide), cond_false, nb_lt (k := 90) (n := 97) h (by decide), cond_false, nb_lt (k := 94) (n := 97) h (by decide), cond_false, nb_lt (k := 96) (n := 97) h (by decide), cond_false, nb_eq (k := 96) (n := 97) h (by decide), cond_false]
set_option maxRecDepth 100000 in
theorem ck_130 (pc : Nat) : ckI 130 pc = true := by
  by_cases h0 : 97 ≤ pc
  · exact ck_z (show pg 130 pc = _ from pz_130 pc h0)
  by_cases h1 : pc < 80
  · exact ck_at ck_130_0 (by omega) (by omega)
  exact ck_at ck_130_1 (by omega) (by omega)
theorem ch_130 : ckH 130 = true := by decide +kernel
theorem ck_131_0 : (List.range 82).all (fun i => ckI 131 (0 + i)) = true := by decide +kernel
theorem ck_131_1 : (List.range 73).all (fun i => ckI 131 (82 + i)) = true := by decide +kernel
theorem pz_131 (pc : Nat) (h : 155 ≤ pc) : pg_131 pc = (0, 0, 0, 0, 0) := by
  unfold pg_131
  rw [nb_lt (k := 76) (n := 155) h (by decide), cond_false, nb_lt (k := 111) (n := 155) h (by decide), cond_false, nb_lt (k := 128) (n := 155) h (by decide), cond_false, nb_lt (k := 139) (n := 155) h (by decide), cond_false, nb_lt (k := 148) (n := 155) h (by decide), cond_false, nb_lt (k := 151) (n := 155) h (by decide), cond_false, nb_lt (k := 154) (n := 155) h (by decide), cond_false, nb_eq (k := 154) (n := 155) h (by decide), cond_false]
set_option maxRecDepth 100000 in
theorem ck_131 (pc : Nat) : ckI 131 pc = true := by
  by_cases h0 : 155 ≤ pc
  · exact ck_z (show pg 131 pc = _ from pz_131 pc h0)
  by_cases h1 : pc < 82
  · exact ck_at ck_131_0 (by omega) (by omega)
  exact ck_at ck_131_1 (by omega) (by omega)
theorem ch_131 : ckH 131 = true := by decide +kernel
theorem ck_132_0 : (List.range 84).all (fun i => ckI 132 (0 + i)) = true := by decide +kernel
theorem ck_132_1 : (List.range 20).all (fun i => ckI 132 (84 + i)) = true := by decide +kernel
theorem pz_132 (pc : Nat) (h : 104 ≤ pc) : pg_132 pc = (0, 0, 0, 0, 0) := by
  unfold pg_132
  rw [nb_lt (k := 52) (n := 104) h (by decide), cond_false, nb_lt (k := 79) (n := 104) h (by decide), cond_false, nb_lt (k := 92) (n := 104) h (by decide), cond_false, nb_lt (k := 99) (n := 104) h (by decide), cond_false, nb_lt (k := 102) (n := 104) h (by decide), cond_false, nb_lt (k := 103) (n := 104) h (by decide), cond_false, nb_eq (k := 103) (n := 104) h (by decide), cond_false]
set_option maxRecDepth 100000 in
theorem ck_132 (pc : Nat) : ckI 132 pc = true := by
  by_cases h0 : 104 ≤ pc
  · exact ck_z (show pg 132 pc = _ from pz_132 pc h0)
  by_cases h1 : pc < 84
  · exact ck_at ck_132_0 (by omega) (by omega)
  exact ck_at ck_132_1 (by omega) (by omega)
theorem ch_132 : ckH 132 = true := by decide +kernel
theorem ck_133_0 : (List.range 24).all (fun i => ckI 133 (0 + i)) = true := by decide +kernel
theorem pz_133 (pc : Nat) (h : 24 ≤ pc) : pg_133 pc = (0, 0, 0, 0, 0) := by
  unfold pg_133
  rw [nb_lt (k := 11) (n := 24) h (by decide), cond_false, nb_lt (k := 18) (n := 24) h (by decide), cond_false, nb_lt (k := 22) (n := 24) h (by decide), cond_false, nb_lt (k := 23) (n := 24) h (by decide), cond_false, nb_eq (k := 23) (n := 24) h (by decide), cond_false]
set_option maxRecDepth 100000 in
theorem ck_133 (pc : Nat) : ckI 133 pc = true := by
  by_cases h0 : 24 ≤ pc
  · exact ck_z (show pg 133 pc = _ from pz_133 pc h0)
  exact ck_at ck_133_0 (by omega) (by omega)
theorem ch_133 : ckH 133 = true := by decide +kernel
theorem ck_134_0 : (List.range 73).all (fun i => ckI 134 (0 + i)) = true := by decide +kernel
theorem pz_134 (pc : Nat) (h : 73 ≤ pc) : pg_134 pc = (0, 0, 0, 0, 0) := by
  unfold pg_134
  rw [nb_lt (k := 35) (n := 73) h (by decide), cond_false, nb_lt (k := 53) (n := 73) h (by decide), cond_false, nb_lt (k := 62) (n := 73) h (by decide), cond_false, nb_lt (k := 68) (n := 73) h (by decide), cond_false, nb_lt (k := 71) (n := 73) h (by decide), cond_false, nb_lt (k := 72) (n := 73) h (by decide), cond_false, nb_eq (k := 72) (n := 73) h (by decide), cond_false]
set_option maxRecDepth 100000 in
theorem ck_134 (pc : Nat) : ckI 134 pc = true := by
  by_cases h0 : 73 ≤ pc
  · exact ck_z (show pg 134 pc = _ from pz_134 pc h0)
  exact ck_at ck_134_0 (by omega) (by omega)
theorem ch_134 : ckH 134 = true := by decide +kernel
theorem ck_135_0 : (List.range 76).all (fun i => ckI 135 (0 + i)) = true := by decide +kernel
theorem ck_135_1 : (List.range 43).all (fun i => ckI 135 (76 + i)) = true := by decide +kernel
theorem pz_135 (pc : Nat) (h : 119 ≤ pc) : pg_135 pc = (0, 0, 0, 0, 0) := by
  unfold pg_135
  rw [nb_lt (k := 55) (n := 119) h (by decide), cond_false, nb_lt (k := 85) (n := 119) h (by decide), cond_false, nb_lt (k := 98) (n := 119) h (by decide), cond_false, nb_lt (k := 110) (n := 119) h (by decide), cond_false, nb_lt (k := 114) (n := 119) h (by decide), cond_false, nb_lt (k := 115) (n := 119) h (by decide), cond_false, nb_lt (k := 118) (n := 119) h (by decide), cond_false, nb_eq (k := 118) (n := 119) h (by decide), cond_false]
set_option maxRecDepth 100000 in
theorem ck_135 (pc : Nat) : ckI 135 pc = true := by
  by_cases h0 : 119 ≤ pc
  · exact ck_z (show pg 135 pc = _ from pz_135 pc h0)
  by_cases h1 : pc < 76
  · exact ck_at ck_135_0 (by omega) (by omega)
  exact ck_at ck_135_1 (by omega) (by omega)
theorem ch_135 : ckH 135 = true := by decide +kernel
theorem ck_136_0 : (List.range 80).all (fun i => ckI 136 (0 + i)) = true := by decide +kernel
theorem ck_136_1 : (List.range 86).all (fun i => ckI 136 (80 + i)) = true := by decide +kernel
theorem ck_136_2 : (List.range 95).all (fun i => ckI 136 (166 + i)) = true := by decide +kernel
theorem ck_136_3 : (List.range 89).all (fun i => ckI 136 (261 + i)) = true := by decide +kernel
theorem ck_136_4 : (List.range 16).all (fun i => ckI 136 (350 + i)) = true := by decide +kernel
theorem pz_136 (pc : Nat) (h : 366 ≤ pc) : pg_136 pc = (0, 0, 0, 0, 0) := by
  unfold pg_136
  rw [nb_lt (k := 173) (n := 366) h (by decide), cond_false, nb_lt (k := 270) (n := 366) h (by decide), cond_false, nb_lt (k := 315) (n := 366) h (by decide), cond_false, nb_lt (k := 339) (n := 366) h (by decide), cond_false, nb_lt (k := 353) (n := 366) h (by decide), cond_false, nb_lt (k := 360) (n := 366) h (by decide), cond_false, nb_lt (k := 363) (n := 366) h (by decide), cond_false, nb_lt (k := 365) (n := 366) h (by decide), cond_false, nb_eq (k := 365) (n := 366) h (by decide), cond_false]
set_option maxRecDepth 100000 in
theorem ck_136 (pc : Nat) : ckI 136 pc = true := by
  by_cases h0 : 366 ≤ pc
  · exact ck_z (show pg 136 pc = _ from pz_136 pc h0)
  by_cases h1 : pc < 80
  · exact ck_at ck_136_0 (by omega) (by omega)
  by_cases h2 : pc < 166
  · exact ck_at ck_136_1 (by omega) (by omega)
  by_cases h3 : pc < 261
  · exact ck_at ck_136_2 (by omega) (by omega)
  by_cases h4 : pc < 350
  · exact ck_at ck_136_3 (by omega) (by omega)
  exact ck_at ck_136_4 (by omega) (by omega)
theorem ch_136 : ckH 136 = true := by decide +kernel
theorem ck_137_0 : (List.range 31).all (fun i => ckI 137 (0 + i)) = true := by decide +kernel
theorem pz_137 (pc : Nat) (h : 31 ≤ pc) : pg_137 pc = (0, 0, 0, 0, 0) := by
  unfold pg_137
  rw [nb_lt (k := 13) (n := 31) h (by decide), cond_false, nb_lt (k := 22) (n := 31) h (by decide), cond_false, nb_lt (k := 26) (n := 31) h (by decide), cond_false, nb_lt (k := 29) (n := 31) h (by decide), cond_false, nb_lt (k := 30) (n := 31) h (by decide), cond_false, nb_eq (k := 30) (n := 31) h (by decide), cond_false]
set_option maxRecDepth 100000 in
theorem ck_137 (pc : Nat) : ckI 137 pc = true := by
  by_cases h0 : 31 ≤ pc
  · exact ck_z (show pg 137 pc = _ from pz_137 pc h0)
  exact ck_at ck_137_0 (by omega) (by omega)
theorem ch_137 : ckH 137 = true := by decide +kernel
theorem ck_138_0 : (List.range 52).all (fun i => ckI 138 (0 + i)) = true := by decide +kernel
theorem pz_138 (pc : Nat) (h : 52 ≤ pc) : pg_138 pc = (0, 0, 0, 0, 0) := by
  unfold pg_138
  rw [nb_lt (k := 24) (n := 52) h (by decide), cond_false, nb_lt (k := 35) (n := 52) h (by decide), cond_false, nb_lt (k := 42) (n := 52) h (by decide), cond_false, nb_lt (k := 47) (n := 52) h (by decide), cond_false, nb_lt (k := 50) (n := 52) h (by decide), cond_false, nb_lt (k := 51) (n := 52) h (by decide), cond_false, nb_eq (k := 51) (n := 52) h (by decide), cond_false]
set_option maxRecDepth 100000 in
theorem ck_138 (pc : Nat) : ckI 138 pc = true := by
  by_cases h0 : 52 ≤ pc
  · exact ck_z (show pg 138 pc = _ from pz_138 pc h0)
  exact ck_at ck_138_0 (by omega) (by omega)
theorem ch_138 : ckH 138 = true := by decide +kernel
theorem ck_139_0 : (List.range 10).all (fun i => ckI 139 (0 + i)) = true := by decide +kernel
theorem pz_139 (pc : Nat) (h : 10 ≤ pc) : pg_139 pc = (0, 0, 0, 0, 0) := by
  unfold pg_139
  rw [nb_lt (k := 3) (n := 10) h (by decide), cond_false, nb_lt (k := 6) (n := 10) h (by decide), cond_false, nb_lt (k := 9) (n := 10) h (by decide), cond_false, nb_eq (k := 9) (n := 10) h (by decide), cond_false]
set_option maxRecDepth 100000 in
theorem ck_139 (pc : Nat) : ckI 139 pc = true := by
  by_cases h0 : 10 ≤ pc
  · exact ck_z (show pg 139 pc = _ from pz_139 pc h0)
  exact ck_at ck_139_0 (by omega) (by omega)
theorem ch_139 : ckH 139 = true := by decide +kernel
theorem ck_140_0 : (List.range 10).all (fun i => ckI 140 (0 + i)) = true := by decide +kernel
theorem pz_140 (pc : Nat) (h : 10 ≤ pc) : pg_140 pc = (0, 0, 0, 0, 0) := by
  unfold pg_140
  rw [nb_lt (k := 3) (n := 10) h (by decide), cond_false, nb_lt (k := 6) (n := 10) h (by decide), cond_false, nb_lt (k := 9) (n := 10) h (by decide), cond_false, nb_eq (k := 9) (n := 10) h (by decide), cond_false]
set_option maxRecDepth 100000 in
theorem ck_140 (pc : Nat) : ckI 140 pc = true := by
  by_cases h0 : 10 ≤ pc
  · exact ck_z (show pg 140 pc = _ from pz_140 pc h0)
  exact ck_at ck_140_0 (by omega) (by omega)
theorem ch_140 : ckH 140 = true := by decide +kernel
theorem ck_141_0 : (List.range 78).all (fun i => ckI 141 (0 + i)) = true := by decide +kernel
theorem pz_141 (pc : Nat) (h : 78 ≤ pc) : pg_141 pc = (0, 0, 0, 0, 0) := by
  unfold pg_141
  rw [nb_lt (k := 35) (n := 78) h (by decide), cond_false, nb_lt (k := 54) (n := 78) h (by decide), cond_false, nb_lt (k := 66) (n := 78) h (by decide), cond_false, nb_lt (k := 72) (n := 78) h (by decide), cond_false, nb_lt (k := 75) (n := 78) h (by decide), cond_false, nb_lt (k := 77) (n := 78) h (by decide), cond_false, nb_eq (k := 77) (n := 78) h (by decide), cond_false]
set_option maxRecDepth 100000 in
theorem ck_141 (pc : Nat) : ckI 141 pc = true := by
  by_cases h0 : 78 ≤ pc
  · exact ck_z (show pg 141 pc = _ from pz_141 pc h0)
  exact ck_at ck_141_0 (by omega) (by omega)
theorem ch_141 : ckH 141 = true := by decide +kernel
theorem ck_142_0 : (List.range 18).all (fun i => ckI 142 (0 + i)) = true := by decide +kernel
theorem pz_142 (pc : Nat) (h : 18 ≤ pc) : pg_142 pc = (0, 0, 0, 0, 0) := by
  unfold pg_142
  rw [nb_lt (k := 9) (n := 18) h (by decide), cond_false, nb_lt (k := 11) (n := 18) h (by decide), cond_false, nb_lt (k := 14) (n := 18) h (by decide), cond_false, nb_lt (k := 17) (n := 18) h (by decide), cond_false, nb_eq (k := 17) (n := 18) h (by decide), cond_false]
set_option maxRecDepth 100000 in
theorem ck_142 (pc : Nat) : ckI 142 pc = true := by
  by_cases h0 : 18 ≤ pc
  · exact ck_z (show pg 142 pc = _ from pz_142 pc h0)
  exact ck_at ck_142_0 (by omega) (by omega)
theorem ch_142 : ckH 142 = true := by decide +kernel
theorem ck_143_0 : (List.range 61).all (fun i => ckI 143 (0 + i)) = true := by decide +kernel
theorem pz_143 (pc : Nat) (h : 61 ≤ pc) : pg_143 pc = (0, 0, 0, 0, 0) := by
  unfold pg_143
  rw [nb_lt (k := 30) (n := 61) h (by decide), cond_false, nb_lt (k := 45) (n := 61) h (by decide), cond_false, nb_lt (k := 52) (n := 61) h (by decide), cond_false, nb_lt (k := 55) (n := 61) h (by decide), cond_false, nb_lt (k := 58) (n := 61) h (by decide), cond_false, nb_lt (k := 60) (n := 61) h (by decide), cond_false, nb_eq (k := 60) (n := 61) h (by decide), cond_false]
set_option maxRecDepth 100000 in
theorem ck_143 (pc : Nat) : ckI 143 pc = true := by
  by_cases h0 : 61 ≤ pc
  · exact ck_z (show pg 143 pc = _ from pz_143 pc h0)
  exact ck_at ck_143_0 (by omega) (by omega)
theorem ch_143 : ckH 143 = true := by decide +kernel
theorem ck_144_0 : (List.range 78).all (fun i => ckI 144 (0 + i)) = true := by decide +kernel
theorem pz_144 (pc : Nat) (h : 78 ≤ pc) : pg_144 pc = (0, 0, 0, 0, 0) := by
  unfold pg_144
  rw [nb_lt (k := 35) (n := 78) h (by decide), cond_false, nb_lt (k := 55) (n := 78) h (by decide), cond_false, nb_lt (k := 66) (n := 78) h (by decide), cond_false, nb_lt (k := 72) (n := 78) h (by decide), cond_false, nb_lt (k := 75) (n := 78) h (by decide), cond_false, nb_lt (k := 77) (n := 78) h (by decide), cond_false, nb_eq (k := 77) (n := 78) h (by decide), cond_false]
set_option maxRecDepth 100000 in
theorem ck_144 (pc : Nat) : ckI 144 pc = true := by
  by_cases h0 : 78 ≤ pc
  · exact ck_z (show pg 144 pc = _ from pz_144 pc h0)
  exact ck_at ck_144_0 (by omega) (by omega)
theorem ch_144 : ckH 144 = true := by decide +kernel
theorem ck_145_0 : (List.range 82).all (fun i => ckI 145 (0 + i)) = true := by decide +kernel
theorem ck_145_1 : (List.range 69).all (fun i => ckI 145 (82 + i)) = true := by decide +kernel
theorem pz_145 (pc : Nat) (h : 151 ≤ pc) : pg_145 pc = (0, 0, 0, 0, 0) := by
  unfold pg_145
  rw [nb_lt (k := 72) (n := 151) h (by decide), cond_false, nb_lt (k := 114) (n := 151) h (by decide), cond_false, nb_lt (k := 133) (n := 151) h (by decide), cond_false, nb_lt (k := 143) (n := 151) h (by decide), cond_false, nb_lt (k := 146) (n := 151) h (by decide), cond_false, nb_lt (k := 149) (n := 151) h (by decide), cond_false, nb_lt (k := 150) (n := 151) h (by decide), cond_false, nb_eq (k := 150) (n := 151) h (by decide), cond_false]
set_option maxRecDepth 100000 in
theorem ck_145 (pc : Nat) : ckI 145 pc = true := by
  by_cases h0 : 151 ≤ pc
  · exact ck_z (show pg 145 pc = _ from pz_145 pc h0)
  by_cases h1 : pc < 82
  · exact ck_at ck_145_0 (by omega) (by omega)
  exact ck_at ck_145_1 (by omega) (by omega)
theorem ch_145 : ckH 145 = true := by decide +kernel
theorem ck_146_0 : (List.range 72).all (fun i => ckI 146 (0 + i)) = true := by decide +kernel
theorem pz_146 (pc : Nat) (h : 72 ≤ pc) : pg_146 pc = (0, 0, 0, 0, 0) := by
  unfold pg_146
  rw [nb_lt (k := 36) (n := 72) h (by decide), cond_false, nb_lt (k := 52) (n := 72) h (by decide), cond_false, nb_lt (k := 61) (n := 72) h (by decide), cond_false, nb_lt (k := 66) (n := 72) h (by decide), cond_false, nb_lt (k := 69) (n := 72) h (by decide), cond_false, nb_lt (k := 71) (n := 72) h (by decide), cond_false, nb_eq (k := 71) (n := 72) h (by decide), cond_false]
set_option maxRecDepth 100000 in
theorem ck_146 (pc : Nat) : ckI 146 pc = true := by
  by_cases h0 : 72 ≤ pc
  · exact ck_z (show pg 146 pc = _ from pz_146 pc h0)
  exact ck_at ck_146_0 (by omega) (by omega)
theorem ch_146 : ckH 146 = true := by decide +kernel
theorem ck_147_0 : (List.range 81).all (fun i => ckI 147 (0 + i)) = true := by decide +kernel
theorem ck_147_1 : (List.range 80).all (fun i => ckI 147 (81 + i)) = true := by decide +kernel
theorem ck_147_2 : (List.range 70).all (fun i => ckI 147 (161 + i)) = true := by decide +kernel
theorem pz_147 (pc : Nat) (h : 231 ≤ pc) : pg_147 pc = (0, 0, 0, 0, 0) := by
  unfold pg_147
  rw [nb_lt (k := 113) (n := 231) h (by decide), cond_false, nb_lt (k := 170) (n := 231) h (by decide), cond_false, nb_lt (k := 202) (n := 231) h (by decide), cond_false, nb_lt (k := 218) (n := 231) h (by decide), cond_false, nb_lt (k := 223) (n := 231) h (by decide), cond_false, nb_lt (k := 229) (n := 231) h (by decide), cond_false, nb_lt (k := 230) (n := 231) h (by decide), cond_false, nb_eq (k := 230) (n := 231) h (by decide), cond_false]
set_option maxRecDepth 100000 in
theorem ck_147 (pc : Nat) : ckI 147 pc = true := by
  by_cases h0 : 231 ≤ pc
  · exact ck_z (show pg 147 pc = _ from pz_147 pc h0)
  by_cases h1 : pc < 81
  · exact ck_at ck_147_0 (by omega) (by omega)
  by_cases h2 : pc < 161
  · exact ck_at ck_147_1 (by omega) (by omega)
  exact ck_at ck_147_2 (by omega) (by omega)
theorem ch_147 : ckH 147 = true := by decide +kernel
theorem ck_148_0 : (List.range 71).all (fun i => ckI 148 (0 + i)) = true := by decide +kernel
theorem ck_148_1 : (List.range 89).all (fun i => ckI 148 (71 + i)) = true := by decide +kernel
theorem ck_148_2 : (List.range 11).all (fun i => ckI 148 (160 + i)) = true := by decide +kernel
theorem pz_148 (pc : Nat) (h : 171 ≤ pc) : pg_148 pc = (0, 0, 0, 0, 0) := by
  unfold pg_148
  rw [nb_lt (k := 76) (n := 171) h (by decide), cond_false, nb_lt (k := 124) (n := 171) h (by decide), cond_false, nb_lt (k := 147) (n := 171) h (by decide), cond_false, nb_lt (k := 160) (n := 171) h (by decide), cond_false, nb_lt (k := 164) (n := 171) h (by decide), cond_false, nb_lt (k := 167) (n := 171) h (by decide), cond_false, nb_lt (k := 170) (n := 171) h (by decide), cond_false, nb_eq (k := 170) (n := 171) h (by decide), cond_false]
set_option maxRecDepth 100000 in
theorem ck_148 (pc : Nat) : ckI 148 pc = true := by
  by_cases h0 : 171 ≤ pc
  · exact ck_z (show pg 148 pc = _ from pz_148 pc h0)
  by_cases h1 : pc < 71
  · exact ck_at ck_148_0 (by omega) (by omega)
  by_cases h2 : pc < 160
  · exact ck_at ck_148_1 (by omega) (by omega)
  exact ck_at ck_148_2 (by omega) (by omega)
theorem ch_148 : ckH 148 = true := by decide +kernel
theorem ck_149_0 : (List.range 82).all (fun i => ckI 149 (0 + i)) = true := by decide +kernel
theorem ck_149_1 : (List.range 81).all (fun i => ckI 149 (82 + i)) = true := by decide +kernel
theorem ck_149_2 : (List.range 53).all (fun i => ckI 149 (163 + i)) = true := by decide +kernel
theorem pz_149 (pc : Nat) (h : 216 ≤ pc) : pg_149 pc = (0, 0, 0, 0, 0) := by
  unfold pg_149
  rw [nb_lt (k := 104) (n := 216) h (by decide), cond_false, nb_lt (k := 157) (n := 216) h (by decide), cond_false, nb_lt (k := 187) (n := 216) h (by decide), cond_false, nb_lt (k := 201) (n := 216) h (by decide), cond_false, nb_lt (k := 209) (n := 216) h (by decide), cond_false, nb_lt (k := 213) (n := 216) h (by decide), cond_false, nb_lt (k := 215) (n := 216) h (by decide), cond_false, nb_eq (k := 215) (n := 216) h (by decide), cond_false]
set_option maxRecDepth 100000 in
theorem ck_149 (pc : Nat) : ckI 149 pc = true := by
  by_cases h0 : 216 ≤ pc
  · exact ck_z (show pg 149 pc = _ from pz_149 pc h0)
  by_cases h1 : pc < 82
  · exact ck_at ck_149_0 (by omega) (by omega)
  by_cases h2 : pc < 163
  · exact ck_at ck_149_1 (by omega) (by omega)
  exact ck_at ck_149_2 (by omega) (by omega)
theorem ch_149 : ckH 149 = true := by decide +kernel
theorem ck_150_0 : (List.range 80).all (fun i => ckI 150 (0 + i)) = true := by decide +kernel
theorem ck_150_1 : (List.range 36).all (fun i => ckI 150 (80 + i)) = true := by decide +kernel
theorem pz_150 (pc : Nat) (h : 116 ≤ pc) : pg_150 pc = (0, 0, 0, 0, 0) := by
  unfold pg_150
  rw [nb_lt (k := 55) (n := 116) h (by decide), cond_false, nb_lt (k := 83) (n := 116) h (by decide), cond_false, nb_lt (k := 100) (n := 116) h (by decide), cond_false, nb_lt (k := 110) (n := 116) h (by decide), cond_false, nb_lt (k := 114) (n := 116) h (by decide), cond_false, nb_lt (k := 115) (n := 116) h (by decide), cond_false, nb_eq (k := 115) (n := 116) h (by decide), cond_false]
set_option maxRecDepth 100000 in
theorem ck_150 (pc : Nat) : ckI 150 pc = true := by
  by_cases h0 : 116 ≤ pc
  · exact ck_z (show pg 150 pc = _ from pz_150 pc h0)
  by_cases h1 : pc < 80
  · exact ck_at ck_150_0 (by omega) (by omega)
  exact ck_at ck_150_1 (by omega) (by omega)
theorem ch_150 : ckH 150 = true := by decide +kernel
theorem ck_151_0 : (List.range 17).all (fun i => ckI 151 (0 + i)) = true := by decide +kernel
theorem pz_151 (pc : Nat) (h : 17 ≤ pc) : pg_151 pc = (0, 0, 0, 0, 0) := by
  unfold pg_151
  rw [nb_lt (k := 9) (n := 17) h (by decide), cond_false, nb_lt (k := 12) (n := 17) h (by decide), cond_false, nb_lt (k := 15) (n := 17) h (by decide), cond_false, nb_lt (k := 16) (n := 17) h (by decide), cond_false, nb_eq (k := 16) (n := 17) h (by decide), cond_false]
set_option maxRecDepth 100000 in
theorem ck_151 (pc : Nat) : ckI 151 pc = true := by
  by_cases h0 : 17 ≤ pc
  · exact ck_z (show pg 151 pc = _ from pz_151 pc h0)
  exact ck_at ck_151_0 (by omega) (by omega)
theorem ch_151 : ckH 151 = true := by decide +kernel
theorem ck_152_0 : (List.range 70).all (fun i => ckI 152 (0 + i)) = true := by decide +kernel
theorem ck_152_1 : (List.range 42).all (fun i => ckI 152 (70 + i)) = true := by decide +kernel
theorem pz_152 (pc : Nat) (h : 112 ≤ pc) : pg_152 pc = (0, 0, 0, 0, 0) := by
  unfold pg_152
  rw [nb_lt (k := 58) (n := 112) h (by decide), cond_false, nb_lt (k := 82) (n := 112) h (by decide), cond_false, nb_lt (k := 96) (n := 112) h (by decide), cond_false, nb_lt (k := 103) (n := 112) h (by decide), cond_false, nb_lt (k := 107) (n := 112) h (by decide), cond_false, nb_lt (k := 110) (n := 112) h (by decide), cond_false, nb_lt (k := 111) (n := 112) h (by decide), cond_false, nb_eq (k := 111) (n := 112) h (by decide), cond_false]
set_option maxRecDepth 100000 in
theorem ck_152 (pc : Nat) : ckI 152 pc = true := by
  by_cases h0 : 112 ≤ pc
  · exact ck_z (show pg 152 pc = _ from pz_152 pc h0)
  by_cases h1 : pc < 70
  · exact ck_at ck_152_0 (by omega) (by omega)
  exact ck_at ck_152_1 (by omega) (by omega)
theorem ch_152 : ckH 152 = true := by decide +kernel
theorem ck_153_0 : (List.range 70).all (fun i => ckI 153 (0 + i)) = true := by decide +kernel
theorem ck_153_1 : (List.range 49).all (fun i => ckI 153 (70 + i)) = true := by decide +kernel
theorem pz_153 (pc : Nat) (h : 119 ≤ pc) : pg_153 pc = (0, 0, 0, 0, 0) := by
  unfold pg_153
  rw [nb_lt (k := 61) (n := 119) h (by decide), cond_false, nb_lt (k := 89) (n := 119) h (by decide), cond_false, nb_lt (k := 103) (n := 119) h (by decide), cond_false, nb_lt (k := 112) (n := 119) h (by decide), cond_false, nb_lt (k := 114) (n := 119) h (by decide), cond_false, nb_lt (k := 117) (n := 119) h (by decide), cond_false, nb_lt (k := 118) (n := 119) h (by decide), cond_false, nb_eq (k := 118) (n := 119) h (by decide), cond_false]
set_option maxRecDepth 100000 in
theorem ck_153 (pc : Nat) : ckI 153 pc = true := by
  by_cases h0 : 119 ≤ pc
  · exact ck_z (show pg 153 pc = _ from pz_153 pc h0)
  by_cases h1 : pc < 70
  · exact ck_at ck_153_0 (by omega) (by omega)
  exact ck_at ck_153_1 (by omega) (by omega)
theorem ch_153 : ckH 153 = true := by decide +kernel
theorem ck_154_0 : (List.range 93).all (fun i => ckI 154 (0 + i)) = true := by decide +kernel
theorem pz_154 (pc : Nat) (h : 93 ≤ pc) : pg_154 pc = (0, 0, 0, 0, 0) := by
  unfold pg_154
  rw [nb_lt (k := 67) (n := 93) h (by decide), cond_false, nb_lt (k := 81) (n := 93) h (by decide), cond_false, nb_lt (k := 87) (n := 93) h (by decide), cond_false, nb_lt (k := 91) (n := 93) h (by decide), cond_false, nb_lt (k := 92) (n := 93) h (by decide), cond_false, nb_eq (k := 92) (n := 93) h (by decide), cond_false]
set_option maxRecDepth 100000 in
theorem ck_154 (pc : Nat) : ckI 154 pc = true := by
  by_cases h0 : 93 ≤ pc
  · exact ck_z (show pg 154 pc = _ from pz_154 pc h0)
  exact ck_at ck_154_0 (by omega) (by omega)
theorem ch_154 : ckH 154 = true := by decide +kernel
theorem ck_155_0 : (List.range 10).all (fun i => ckI 155 (0 + i)) = true := by decide +kernel
theorem pz_155 (pc : Nat) (h : 10 ≤ pc) : pg_155 pc = (0, 0, 0, 0, 0) := by
  unfold pg_155
  rw [nb_lt (k := 5) (n := 10) h (by decide), cond_false, nb_lt (k := 6) (n := 10) h (by decide), cond_false, nb_lt (k := 9) (n := 10) h (by decide), cond_false, nb_eq (k := 9) (n := 10) h (by decide), cond_false]
set_option maxRecDepth 100000 in
theorem ck_155 (pc : Nat) : ckI 155 pc = true := by
  by_cases h0 : 10 ≤ pc
  · exact ck_z (show pg 155 pc = _ from pz_155 pc h0)
  exact ck_at ck_155_0 (by omega) (by omega)
theorem ch_155 : ckH 155 = true := by decide +kernel
theorem ck_156_0 : (List.range 33).all (fun i => ckI 156 (0 + i)) = true := by decide +kernel
theorem pz_156 (pc : Nat) (h : 33 ≤ pc) : pg_156 pc = (0, 0, 0, 0, 0) := by
  unfold pg_156
  rw [nb_lt (k := 14) (n := 33) h (by decide), cond_false, nb_lt (k := 25) (n := 33) h (by decide), cond_false, nb_lt (k := 30) (n := 33) h (by decide), cond_false, nb_lt (k := 31) (n := 33) h (by decide), cond_false, nb_lt (k := 32) (n := 33) h (by decide), cond_false, nb_eq (k := 32) (n := 33) h (by decide), cond_false]
set_option maxRecDepth 100000 in
theorem ck_156 (pc : Nat) : ckI 156 pc = true := by
  by_cases h0 : 33 ≤ pc
  · exact ck_z (show pg 156 pc = _ from pz_156 pc h0)
  exact ck_at ck_156_0 (by omega) (by omega)
theorem ch_156 : ckH 156 = true := by decide +kernel
theorem ck_157_0 : (List.range 47).all (fun i => ckI 157 (0 + i)) = true := by decide +kernel
theorem pz_157 (pc : Nat) (h : 47 ≤ pc) : pg_157 pc = (0, 0, 0, 0, 0) := by
  unfold pg_157
  rw [nb_lt (k := 26) (n := 47) h (by decide), cond_false, nb_lt (k := 36) (n := 47) h (by decide), cond_false, nb_lt (k := 41) (n := 47) h (by decide), cond_false, nb_lt (k := 43) (n := 47) h (by decide), cond_false, nb_lt (k := 46) (n := 47) h (by decide), cond_false, nb_eq (k := 46) (n := 47) h (by decide), cond_false]
set_option maxRecDepth 100000 in
theorem ck_157 (pc : Nat) : ckI 157 pc = true := by
  by_cases h0 : 47 ≤ pc
  · exact ck_z (show pg 157 pc = _ from pz_157 pc h0)
  exact ck_at ck_157_0 (by omega) (by omega)
theorem ch_157 : ckH 157 = true := by decide +kernel
theorem ck_158_0 : (List.range 57).all (fun i => ckI 158 (0 + i)) = true := by decide +kernel
theorem pz_158 (pc : Nat) (h : 57 ≤ pc) : pg_158 pc = (0, 0, 0, 0, 0) := by
  unfold pg_158
  rw [nb_lt (k := 24) (n := 57) h (by decide), cond_false, nb_lt (k := 41) (n := 57) h (by decide), cond_false, nb_lt (k := 47) (n := 57) h (by decide), cond_false, nb_lt (k := 53) (n := 57) h (by decide), cond_false, nb_lt (k := 56) (n := 57) h (by decide), cond_false, nb_eq (k := 56) (n := 57) h (by decide), cond_false]
set_option maxRecDepth 100000 in
theorem ck_158 (pc : Nat) : ckI 158 pc = true := by
  by_cases h0 : 57 ≤ pc
  · exact ck_z (show pg 158 pc = _ from pz_158 pc h0)
  exact ck_at ck_158_0 (by omega) (by omega)
theorem ch_158 : ckH 158 = true := by decide +kernel
theorem ck_159_0 : (List.range 39).all (fun i => ckI 159 (0 + i)) = true := by decide +kernel
theorem pz_159 (pc : Nat) (h : 39 ≤ pc) : pg_159 pc = (0, 0, 0, 0, 0) := by
  unfold pg_159
  rw [nb_lt (k := 20) (n := 39) h (by decide), cond_false, nb_lt (k := 29) (n := 39) h (by decide), cond_false, nb_lt (k := 34) (n := 39) h (by decide), cond_false, nb_lt (k := 35) (n := 39) h (by decide), cond_false, nb_lt (k := 38) (n := 39) h (by decide), cond_false, nb_eq (k := 38) (n := 39) h (by decide), cond_false]
set_option maxRecDepth 100000 in
theorem ck_159 (pc : Nat) : ckI 159 pc = true := by
  by_cases h0 : 39 ≤ pc
  · exact ck_z (show pg 159 pc = _ from pz_159 pc h0)
  exact ck_at ck_159_0 (by omega) (by omega)
theorem ch_159 : ckH 159 = true := by decide +kernel
theorem ck_160_0 : (List.range 91).all (fun i => ckI 160 (0 + i)) = true := by decide +kernel
theorem ck_160_1 : (List.range 9).all (fun i => ckI 160 (91 + i)) = true := by decide +kernel
theorem pz_160 (pc : Nat) (h : 100 ≤ pc) : pg_160 pc = (0, 0, 0, 0, 0) := by
  unfold pg_160
  rw [nb_lt (k := 51) (n := 100) h (by decide), cond_false, nb_lt (k := 74) (n := 100) h (by decide), cond_false, nb_lt (k := 87) (n := 100) h (by decide), cond_false, nb_lt (k := 94) (n := 100) h (by decide), cond_false, nb_lt (k := 96) (n := 100) h (by decide), cond_false, nb_lt (k := 99) (n := 100) h (by decide), cond_false, nb_eq (k := 99) (n := 100) h (by decide), cond_false]
set_option maxRecDepth 100000 in
theorem ck_160 (pc : Nat) : ckI 160 pc = true := by
  by_cases h0 : 100 ≤ pc
  · exact ck_z (show pg 160 pc = _ from pz_160 pc h0)
  by_cases h1 : pc < 91
  · exact ck_at ck_160_0 (by omega) (by omega)
  exact ck_at ck_160_1 (by omega) (by omega)
theorem ch_160 : ckH 160 = true := by decide +kernel
theorem ck_161_0 : (List.range 45).all (fun i => ckI 161 (0 + i)) = true := by decide +kernel
theorem pz_161 (pc : Nat) (h : 45 ≤ pc) : pg_161 pc = (0, 0, 0, 0, 0) := by
  unfold pg_161
  rw [nb_lt (k := 25) (n := 45) h (by decide), cond_false, nb_lt (k := 35) (n := 45) h (by decide), cond_false, nb_lt (k := 40) (n := 45) h (by decide), cond_false, nb_lt (k := 41) (n := 45) h (by decide), cond_false, nb_lt (k := 44) (n := 45) h (by decide), cond_false, nb_eq (k := 44) (n := 45) h (by decide), cond_false]
set_option maxRecDepth 100000 in
theorem ck_161 (pc : Nat) : ckI 161 pc = true := by
  by_cases h0 : 45 ≤ pc
  · exact ck_z (show pg 161 pc = _ from pz_161 pc h0)
  exact ck_at ck_161_0 (by omega) (by omega)
theorem ch_161 : ckH 161 = true := by decide +kernel
theorem ck_162_0 : (List.range 56).all (fun i => ckI 162 (0 + i)) = true := by decide +kernel
theorem pz_162 (pc : Nat) (h : 56 ≤ pc) : pg_162 pc = (0, 0, 0, 0, 0) := by
  unfold pg_162
  rw [nb_lt (k := 29) (n := 56) h (by decide), cond_false, nb_lt (k := 45) (n := 56) h (by decide), cond_false, nb_lt (k := 50) (n := 56) h (by decide), cond_false, nb_lt (k := 52) (n := 56) h (by decide), cond_false, nb_lt (k := 55) (n := 56) h (by decide), cond_false, nb_eq (k := 55) (n := 56) h (by decide), cond_false]
set_option maxRecDepth 100000 in
theorem ck_162 (pc : Nat) : ckI 162 pc = true := by
  by_cases h0 : 56 ≤ pc
  · exact ck_z (show pg 162 pc = _ from pz_162 pc h0)
  exact ck_at ck_162_0 (by omega) (by omega)
theorem ch_162 : ckH 162 = true := by decide +kernel
theorem ck_163_0 : (List.range 65).all (fun i => ckI 163 (0 + i)) = true := by decide +kernel
theorem pz_163 (pc : Nat) (h : 65 ≤ pc) : pg_163 pc = (0, 0, 0, 0, 0) := by
  unfold pg_163
  rw [nb_lt (k := 31) (n := 65) h (by decide), cond_false, nb_lt (k := 46) (n := 65) h (by decide), cond_false, nb_lt (k := 56) (n := 65) h (by decide), cond_false, nb_lt (k := 60) (n := 65) h (by decide), cond_false, nb_lt (k := 61) (n := 65) h (by decide), cond_false, nb_lt (k := 64) (n := 65) h (by decide), cond_false, nb_eq (k := 64) (n := 65) h (by decide), cond_false]
set_option maxRecDepth 100000 in
theorem ck_163 (pc : Nat) : ckI 163 pc = true := by
  by_cases h0 : 65 ≤ pc
  · exact ck_z (show pg 163 pc = _ from pz_163 pc h0)
  exact ck_at ck_163_0 (by omega) (by omega)
theorem ch_163 : ckH 163 = true := by decide +kernel
theorem ck_164_0 : (List.range 78).all (fun i => ckI 164 (0 + i)) = true := by decide +kernel
theorem ck_164_1 : (List.range 33).all (fun i => ckI 164 (78 + i)) = true := by decide +kernel
theorem pz_164 (pc : Nat) (h : 111 ≤ pc) : pg_164 pc = (0, 0, 0, 0, 0) := by
  unfold pg_164
  rw [nb_lt (k := 54) (n := 111) h (by decide), cond_false, nb_lt (k := 85) (n := 111) h (by decide), cond_false, nb_lt (k := 95) (n := 111) h (by decide), cond_false, nb_lt (k := 101) (n := 111) h (by decide), cond_false, nb_lt (k := 104) (n := 111) h (by decide), cond_false, nb_lt (k := 107) (n := 111) h (by decide), cond_false, nb_lt (k := 110) (n := 111) h (by decide), cond_false, nb_eq (k := 110) (n := 111) h (by decide), cond_false]
set_option maxRecDepth 100000 in
theorem ck_164 (pc : Nat) : ckI 164 pc = true := by
  by_cases h0 : 111 ≤ pc
  · exact ck_z (show pg 164 pc = _ from pz_164 pc h0)
  by_cases h1 : pc < 78
  · exact ck_at ck_164_0 (by omega) (by omega)
  exact ck_at ck_164_1 (by omega) (by omega)
theorem ch_164 : ckH 164 = true := by decide +kernel
theorem ck_165_0 : (List.range 24).all (fun i => ckI 165 (0 + i)) = true := by decide +kernel
theorem pz_165 (pc : Nat) (h : 24 ≤ pc) : pg_165 pc = (0, 0, 0, 0, 0) := by
  unfold pg_165
  rw [nb_lt (k := 14) (n := 24) h (by decide), cond_false, nb_lt (k := 18) (n := 24) h (by decide), cond_false, nb_lt (k := 22) (n := 24) h (by decide), cond_false, nb_lt (k := 23) (n := 24) h (by decide), cond_false, nb_eq (k := 23) (n := 24) h (by decide), cond_false]
set_option maxRecDepth 100000 in
theorem ck_165 (pc : Nat) : ckI 165 pc = true := by
  by_cases h0 : 24 ≤ pc
  · exact ck_z (show pg 165 pc = _ from pz_165 pc h0)
  exact ck_at ck_165_0 (by omega) (by omega)
theorem ch_165 : ckH 165 = true := by decide +kernel
theorem ck_166_0 : (List.range 40).all (fun i => ckI 166 (0 + i)) = true := by decide +kernel
theorem pz_166 (pc : Nat) (h : 40 ≤ pc) : pg_166 pc = (0, 0, 0, 0, 0) := by
  unfold pg_166
  rw [nb_lt (k := 18) (n := 40) h (by decide), cond_false, nb_lt (k := 30) (n := 40) h (by decide), cond_false, nb_lt (k := 35) (n := 40) h (by decide), cond_false, nb_lt (k := 38) (n := 40) h (by decide), cond_false, nb_lt (k := 39) (n := 40) h (by decide), cond_false, nb_eq (k := 39) (n := 40) h (by decide), cond_false]
set_option maxRecDepth 100000 in
theorem ck_166 (pc : Nat) : ckI 166 pc = true := by
  by_cases h0 : 40 ≤ pc
  · exact ck_z (show pg 166 pc = _ from pz_166 pc h0)
  exact ck_at ck_166_0 (by omega) (by omega)
theorem ch_166 : ckH 166 = true := by decide +kernel
theorem ck_167_0 : (List.range 67).all (fun i => ckI 167 (0 + i)) = true := by decide +kernel
theorem ck_167_1 : (List.range 64).all (fun i => ckI 167 (67 + i)) = true := by decide +kernel
theorem ck_167_2 : (List.range 9).all (fun i => ckI 167 (131 + i)) = true := by decide +kernel
theorem pz_167 (pc : Nat) (h : 140 ≤ pc) : pg_167 pc = (0, 0, 0, 0, 0) := by
  unfold pg_167
  rw [nb_lt (k := 69) (n := 140) h (by decide), cond_false, nb_lt (k := 102) (n := 140) h (by decide), cond_false, nb_lt (k := 120) (n := 140) h (by decide), cond_false, nb_lt (k := 130) (n := 140) h (by decide), cond_false, nb_lt (k := 135) (n := 140) h (by decide), cond_false, nb_lt (k := 138) (n := 140) h (by decide), cond_false, nb_lt (k := 139) (n := 140) h (by decide), cond_false, nb_eq (k := 139) (n := 140) h (by decide), cond_false]
set_option maxRecDepth 100000 in
theorem ck_167 (pc : Nat) : ckI 167 pc = true := by
  by_cases h0 : 140 ≤ pc
  · exact ck_z (show pg 167 pc = _ from pz_167 pc h0)
  by_cases h1 : pc < 67
  · exact ck_at ck_167_0 (by omega) (by omega)
  by_cases h2 : pc < 131
  · exact ck_at ck_167_1 (by omega) (by omega)
  exact ck_at ck_167_2 (by omega) (by omega)
theorem ch_167 : ckH 167 = true := by decide +kernel
theorem ck_168_0 : (List.range 74).all (fun i => ckI 168 (0 + i)) = true := by decide +kernel
theorem pz_168 (pc : Nat) (h : 74 ≤ pc) : pg_168 pc = (0, 0, 0, 0, 0) := by
  unfold pg_168
  rw [nb_lt (k := 35) (n := 74) h (by decide), cond_false, nb_lt (k := 53) (n := 74) h (by decide), cond_false, nb_lt (k := 60) (n := 74) h (by decide), cond_false, nb_lt (k := 69) (n := 74) h (by decide), cond_false, nb_lt (k := 72) (n := 74) h (by decide), cond_false, nb_lt (k := 73) (n := 74) h (by decide), cond_false, nb_eq (k := 73) (n := 74) h (by decide), cond_false]
set_option maxRecDepth 100000 in
theorem ck_168 (pc : Nat) : ckI 168 pc = true := by
  by_cases h0 : 74 ≤ pc
  · exact ck_z (show pg 168 pc = _ from pz_168 pc h0)
  exact ck_at ck_168_0 (by omega) (by omega)
theorem ch_168 : ckH 168 = true := by decide +kernel
theorem ck_169_0 : (List.range 76).all (fun i => ckI 169 (0 + i)) = true := by decide +kernel
theorem ck_169_1 : (List.range 9).all (fun i => ckI 169 (76 + i)) = true := by decide +kernel
theorem pz_169 (pc : Nat) (h : 85 ≤ pc) : pg_169 pc = (0, 0, 0, 0, 0) := by
  unfold pg_169
  rw [nb_lt (k := 40) (n := 85) h (by decide), cond_false, nb_lt (k := 62) (n := 85) h (by decide), cond_false, nb_lt (k := 72) (n := 85) h (by decide), cond_false, nb_lt (k := 76) (n := 85) h (by decide), cond_false, nb_lt (k := 82) (n := 85) h (by decide), cond_false, nb_lt (k := 84) (n := 85) h (by decide), cond_false, nb_eq (k := 84) (n := 85) h (by decide), cond_false]
set_option maxRecDepth 100000 in
theorem ck_169 (pc : Nat) : ckI 169 pc = true := by
  by_cases h0 : 85 ≤ pc
  · exact ck_z (show pg 169 pc = _ from pz_169 pc h0)
  by_cases h1 : pc < 76
  · exact ck_at ck_169_0 (by omega) (by omega)
  exact ck_at ck_169_1 (by omega) (by omega)
theorem ch_169 : ckH 169 = true := by decide +kernel
theorem ck_170_0 : (List.range 76).all (fun i => ckI 170 (0 + i)) = true := by decide +kernel
theorem ck_170_1 : (List.range 50).all (fun i => ckI 170 (76 + i)) = true := by decide +kernel
theorem pz_170 (pc : Nat) (h : 126 ≤ pc) : pg_170 pc = (0, 0, 0, 0, 0) := by
  unfold pg_170
  rw [nb_lt (k := 67) (n := 126) h (by decide), cond_false, nb_lt (k := 95) (n := 126) h (by decide), cond_false, nb_lt (k := 110) (n := 126) h (by decide), cond_false, nb_lt (k := 115) (n := 126) h (by decide), cond_false, nb_lt (k := 120) (n := 126) h (by decide), cond_false, nb_lt (k := 123) (n := 126) h (by decide), cond_false, nb_lt (k := 125) (n := 126) h (by decide), cond_false, nb_eq (k := 125) (n := 126) h (by decide), cond_false]
set_option maxRecDepth 100000 in
theorem ck_170 (pc : Nat) : ckI 170 pc = true := by
  by_cases h0 : 126 ≤ pc
  · exact ck_z (show pg 170 pc = _ from pz_170 pc h0)
  by_cases h1 : pc < 76
  · exact ck_at ck_170_0 (by omega) (by omega)
  exact ck_at ck_170_1 (by omega) (by omega)
theorem ch_170 : ckH 170 = true := by decide +kernel
theorem ck_171_0 : (List.range 36).all (fun i => ckI 171 (0 + i)) = true := by decide +kernel
theorem pz_171 (pc : Nat) (h : 36 ≤ pc) : pg_171 pc = (0, 0, 0, 0, 0) := by
  unfold pg_171
  rw [nb_lt (k := 18) (n := 36) h (by decide), cond_false, nb_lt (k := 28) (n := 36) h (by decide), cond_false, nb_lt (k := 31) (n := 36) h (by decide), cond_false, nb_lt (k := 34) (n := 36) h (by decide), cond_false, nb_lt (k := 35) (n := 36) h (by decide), cond_false, nb_eq (k := 35) (n := 36) h (by decide), cond_false]
set_option maxRecDepth 100000 in
theorem ck_171 (pc : Nat) : ckI 171 pc = true := by
  by_cases h0 : 36 ≤ pc
  · exact ck_z (show pg 171 pc = _ from pz_171 pc h0)
  exact ck_at ck_171_0 (by omega) (by omega)
theorem ch_171 : ckH 171 = true := by decide +kernel
theorem ck_172_0 : (List.range 62).all (fun i => ckI 172 (0 + i)) = true := by decide +kernel
theorem pz_172 (pc : Nat) (h : 62 ≤ pc) : pg_172 pc = (0, 0, 0, 0, 0) := by
  unfold pg_172
  rw [nb_lt (k := 32) (n := 62) h (by decide), cond_false, nb_lt (k := 45) (n := 62) h (by decide), cond_false, nb_lt (k := 53) (n := 62) h (by decide), cond_false, nb_lt (k := 55) (n := 62) h (by decide), cond_false, nb_lt (k := 58) (n := 62) h (by decide), cond_false, nb_lt (k := 61) (n := 62) h (by decide), cond_false, nb_eq (k := 61) (n := 62) h (by decide), cond_false]
set_option maxRecDepth 100000 in
theorem ck_172 (pc : Nat) : ckI 172 pc = true := by
  by_cases h0 : 62 ≤ pc
  · exact ck_z (show pg 172 pc = _ from pz_172 pc h0)
  exact ck_at ck_172_0 (by omega) (by omega)
theorem ch_172 : ckH 172 = true := by decide +kernel
theorem ck_173_0 : (List.range 61).all (fun i => ckI 173 (0 + i)) = true := by decide +kernel
theorem pz_173 (pc : Nat) (h : 61 ≤ pc) : pg_173 pc = (0, 0, 0, 0, 0) := by
  unfold pg_173
  rw [nb_lt (k := 32) (n := 61) h (by decide), cond_false, nb_lt (k := 44) (n := 61) h (by decide), cond_false, nb_lt (k := 50) (n := 61) h (by decide), cond_false, nb_lt (k := 54) (n := 61) h (by decide), cond_false, nb_lt (k := 57) (n := 61) h (by decide), cond_false, nb_lt (k := 60) (n := 61) h (by decide), cond_false, nb_eq (k := 60) (n := 61) h (by decide), cond_false]
set_option maxRecDepth 100000 in
theorem ck_173 (pc : Nat) : ckI 173 pc = true := by
  by_cases h0 : 61 ≤ pc
  · exact ck_z (show pg 173 pc = _ from pz_173 pc h0)
  exact ck_at ck_173_0 (by omega) (by omega)
theorem ch_173 : ckH 173 = true := by decide +kernel
theorem ck_174_0 : (List.range 24).all (fun i => ckI 174 (0 + i)) = true := by decide +kernel
theorem pz_174 (pc : Nat) (h : 24 ≤ pc) : pg_174 pc = (0, 0, 0, 0, 0) := by
  unfold pg_174
  rw [nb_lt (k := 13) (n := 24) h (by decide), cond_false, nb_lt (k := 18) (n := 24) h (by decide), cond_false, nb_lt (k := 22) (n := 24) h (by decide), cond_false, nb_lt (k := 23) (n := 24) h (by decide), cond_false, nb_eq (k := 23) (n := 24) h (by decide), cond_false]
set_option maxRecDepth 100000 in
theorem ck_174 (pc : Nat) : ckI 174 pc = true := by
  by_cases h0 : 24 ≤ pc
  · exact ck_z (show pg 174 pc = _ from pz_174 pc h0)
  exact ck_at ck_174_0 (by omega) (by omega)
theorem ch_174 : ckH 174 = true := by decide +kernel
theorem ck_175_0 : (List.range 21).all (fun i => ckI 175 (0 + i)) = true := by decide +kernel
theorem pz_175 (pc : Nat) (h : 21 ≤ pc) : pg_175 pc = (0, 0, 0, 0, 0) := by
  unfold pg_175
  rw [nb_lt (k := 10) (n := 21) h (by decide), cond_false, nb_lt (k := 17) (n := 21) h (by decide), cond_false, nb_lt (k := 19) (n := 21) h (by decide), cond_false, nb_lt (k := 20) (n := 21) h (by decide), cond_false, nb_eq (k := 20) (n := 21) h (by decide), cond_false]
set_option maxRecDepth 100000 in
theorem ck_175 (pc : Nat) : ckI 175 pc = true := by
  by_cases h0 : 21 ≤ pc
  · exact ck_z (show pg 175 pc = _ from pz_175 pc h0)
  exact ck_at ck_175_0 (by omega) (by omega)
theorem ch_175 : ckH 175 = true := by decide +kernel
theorem ck_176_0 : (List.range 41).all (fun i => ckI 176 (0 + i)) = true := by decide +kernel
theorem pz_176 (pc : Nat) (h : 41 ≤ pc) : pg_176 pc = (0, 0, 0, 0, 0) := by
  unfold pg_176
  rw [nb_lt (k := 20) (n := 41) h (by decide), cond_false, nb_lt (k := 31) (n := 41) h (by decide), cond_false, nb_lt (k := 36) (n := 41) h (by decide), cond_false, nb_lt (k := 39) (n := 41) h (by decide), cond_false, nb_lt (k := 40) (n := 41) h (by decide), cond_false, nb_eq (k := 40) (n := 41) h (by decide), cond_false]
set_option maxRecDepth 100000 in
theorem ck_176 (pc : Nat) : ckI 176 pc = true := by
  by_cases h0 : 41 ≤ pc
  · exact ck_z (show pg 176 pc = _ from pz_176 pc h0)
  exact ck_at ck_176_0 (by omega) (by omega)
theorem ch_176 : ckH 176 = true := by decide +kernel
theorem ck_177_0 : (List.range 70).all (fun i => ckI 177 (0 + i)) = true := by decide +kernel
theorem pz_177 (pc : Nat) (h : 70 ≤ pc) : pg_177 pc = (0, 0, 0, 0, 0) := by
  unfold pg_177
  rw [nb_lt (k := 39) (n := 70) h (by decide), cond_false, nb_lt (k := 54) (n := 70) h (by decide), cond_false, nb_lt (k := 61) (n := 70) h (by decide), cond_false, nb_lt (k := 65) (n := 70) h (by decide), cond_false, nb_lt (k := 66) (n := 70) h (by decide), cond_false, nb_lt (k := 69) (n := 70) h (by decide), cond_false, nb_eq (k := 69) (n := 70) h (by decide), cond_false]
set_option maxRecDepth 100000 in
theorem ck_177 (pc : Nat) : ckI 177 pc = true := by
  by_cases h0 : 70 ≤ pc
  · exact ck_z (show pg 177 pc = _ from pz_177 pc h0)
  exact ck_at ck_177_0 (by omega) (by omega)
theorem ch_177 : ckH 177 = true := by decide +kernel
theorem ck_178_0 : (List.range 34).all (fun i => ckI 178 (0 + i)) = true := by decide +kernel
theorem pz_178 (pc : Nat) (h : 34 ≤ pc) : pg_178 pc = (0, 0, 0, 0, 0) := by
  unfold pg_178
  rw [nb_lt (k := 16) (n := 34) h (by decide), cond_false, nb_lt (k := 23) (n := 34) h (by decide), cond_false, nb_lt (k := 27) (n := 34) h (by decide), cond_false, nb_lt (k := 30) (n := 34) h (by decide), cond_false, nb_lt (k := 33) (n := 34) h (by decide), cond_false, nb_eq (k := 33) (n := 34) h (by decide), cond_false]
set_option maxRecDepth 100000 in
theorem ck_178 (pc : Nat) : ckI 178 pc = true := by
  by_cases h0 : 34 ≤ pc
  · exact ck_z (show pg 178 pc = _ from pz_178 pc h0)
  exact ck_at ck_178_0 (by omega) (by omega)
theorem ch_178 : ckH 178 = true := by decide +kernel
theorem ck_179_0 : (List.range 86).all (fun i => ckI 179 (0 + i)) = true := by decide +kernel
theorem ck_179_1 : (List.range 79).all (fun i => ckI 179 (86 + i)) = true := by decide +kernel
theorem pz_179 (pc : Nat) (h : 165 ≤ pc) : pg_179 pc = (0, 0, 0, 0, 0) := by
  unfold pg_179
  rw [nb_lt (k := 82) (n := 165) h (by decide), cond_false, nb_lt (k := 120) (n := 165) h (by decide), cond_false, nb_lt (k := 140) (n := 165) h (by decide), cond_false, nb_lt (k := 152) (n := 165) h (by decide), cond_false, nb_lt (k := 158) (n := 165) h (by decide), cond_false, nb_lt (k := 161) (n := 165) h (by decide), cond_false, nb_lt (k := 164) (n := 165) h (by decide), cond_false, nb_eq (k := 164) (n := 165) h (by decide), cond_false]
set_option maxRecDepth 100000 in
theorem ck_179 (pc : Nat) : ckI 179 pc = true := by
  by_cases h0 : 165 ≤ pc
  · exact ck_z (show pg 179 pc = _ from pz_179 pc h0)
  by_cases h1 : pc < 86
  · exact ck_at ck_179_0 (by omega) (by omega)
  exact ck_at ck_179_1 (by omega) (by omega)
theorem ch_179 : ckH 179 = true := by decide +kernel
theorem ck_180_0 : (List.range 24).all (fun i => ckI 180 (0 + i)) = true := by decide +kernel
theorem pz_180 (pc : Nat) (h : 24 ≤ pc) : pg_180 pc = (0, 0, 0, 0, 0) := by
  unfold pg_180
  rw [nb_lt (k := 13) (n := 24) h (by decide), cond_false, nb_lt (k := 18) (n := 24) h (by decide), cond_false, nb_lt (k := 22) (n := 24) h (by decide), cond_false, nb_lt (k := 23) (n := 24) h (by decide), cond_false, nb_eq (k := 23) (n := 24) h (by decide), cond_false]
set_option maxRecDepth 100000 in
theorem ck_180 (pc : Nat) : ckI 180 pc = true := by
  by_cases h0 : 24 ≤ pc
  · exact ck_z (show pg 180 pc = _ from pz_180 pc h0)
  exact ck_at ck_180_0 (by omega) (by omega)
theorem ch_180 : ckH 180 = true := by decide +kernel
theorem ck_181_0 : (List.range 60).all (fun i => ckI 181 (0 + i)) = true := by decide +kernel
theorem pz_181 (pc : Nat) (h : 60 ≤ pc) : pg_181 pc = (0, 0, 0, 0, 0) := by
  unfold pg_181
  rw [nb_lt (k := 30) (n := 60) h (by decide), cond_false, nb_lt (k := 41) (n := 60) h (by decide), cond_false, nb_lt (k := 51) (n := 60) h (by decide), cond_false, nb_lt (k := 55) (n := 60) h (by decide), cond_false, nb_lt (k := 56) (n := 60) h (by decide), cond_false, nb_lt (k := 59) (n := 60) h (by decide), cond_false, nb_eq (k := 59) (n := 60) h (by decide), cond_false]
set_option maxRecDepth 100000 in
theorem ck_181 (pc : Nat) : ckI 181 pc = true := by
  by_cases h0 : 60 ≤ pc
  · exact ck_z (show pg 181 pc = _ from pz_181 pc h0)
  exact ck_at ck_181_0 (by omega) (by omega)
theorem ch_181 : ckH 181 = true := by decide +kernel
theorem ck_182_0 : (List.range 64).all (fun i => ckI 182 (0 + i)) = true := by decide +kernel
theorem pz_182 (pc : Nat) (h : 64 ≤ pc) : pg_182 pc = (0, 0, 0, 0, 0) := by
  unfold pg_182
  rw [nb_lt (k := 35) (n := 64) h (by decide), cond_false, nb_lt (k := 47) (n := 64) h (by decide), cond_false, nb_lt (k := 56) (n := 64) h (by decide), cond_false, nb_lt (k := 61) (n := 64) h (by decide), cond_false, nb_lt (k := 62) (n := 64) h (by decide), cond_false, nb_lt (k := 63) (n := 64) h (by decide), cond_false, nb_eq (k := 63) (n := 64) h (by decide), cond_false]
set_option maxRecDepth 100000 in
theorem ck_182 (pc : Nat) : ckI 182 pc = true := by
  by_cases h0 : 64 ≤ pc
  · exact ck_z (show pg 182 pc = _ from pz_182 pc h0)
  exact ck_at ck_182_0 (by omega) (by omega)
theorem ch_182 : ckH 182 = true := by decide +kernel
