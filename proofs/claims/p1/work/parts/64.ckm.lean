theorem ck_183_0 : (List.range 89).all (fun i => ckI 183 (0 + i)) = true := by decide +kernel
theorem ck_183_1 : (List.range 93).all (fun i => ckI 183 (89 + i)) = true := by decide +kernel
theorem ck_183_2 : (List.range 1).all (fun i => ckI 183 (182 + i)) = true := by decide +kernel
theorem pz_183 (pc : Nat) (h : 183 ≤ pc) : pg_183 pc = (0, 0, 0, 0, 0) := by
  unfold pg_183
  rw [nb_lt (k := 89) (n := 183) h (by decide), cond_false, nb_lt (k := 137) (n := 183) h (by decide), cond_false, nb_lt (k := 161) (n := 183) h (by decide), cond_false, nb_lt (k := 173) (n := 183) h (by decide), cond_false, nb_lt (k := 179) (n := 183) h (by decide), cond_false, nb_lt (k := 181) (n := 183) h (by decide), cond_false, nb_lt (k := 182) (n := 183) h (by decide), cond_false, nb_eq (k := 182) (n := 183) h (by decide), cond_false]
set_option maxRecDepth 100000 in
theorem ck_183 (pc : Nat) : ckI 183 pc = true := by
  by_cases h0 : 183 ≤ pc
  · exact ck_z (show pg 183 pc = _ from pz_183 pc h0)
  by_cases h1 : pc < 89
  · exact ck_at ck_183_0 (by omega) (by omega)
  by_cases h2 : pc < 182
  · exact ck_at ck_183_1 (by omega) (by omega)
  exact ck_at ck_183_2 (by omega) (by omega)
theorem ch_183 : ckH 183 = true := by decide +kernel
theorem ck_184_0 : (List.range 32).all (fun i => ckI 184 (0 + i)) = true := by decide +kernel
theorem pz_184 (pc : Nat) (h : 32 ≤ pc) : pg_184 pc = (0, 0, 0, 0, 0) := by
  unfold pg_184
  rw [nb_lt (k := 14) (n := 32) h (by decide), cond_false, nb_lt (k := 25) (n := 32) h (by decide), cond_false, nb_lt (k := 27) (n := 32) h (by decide), cond_false, nb_lt (k := 30) (n := 32) h (by decide), cond_false, nb_lt (k := 31) (n := 32) h (by decide), cond_false, nb_eq (k := 31) (n := 32) h (by decide), cond_false]
set_option maxRecDepth 100000 in
theorem ck_184 (pc : Nat) : ckI 184 pc = true := by
  by_cases h0 : 32 ≤ pc
  · exact ck_z (show pg 184 pc = _ from pz_184 pc h0)
  exact ck_at ck_184_0 (by omega) (by omega)
theorem ch_184 : ckH 184 = true := by decide +kernel
theorem ck_185_0 : (List.range 32).all (fun i => ckI 185 (0 + i)) = true := by decide +kernel
theorem pz_185 (pc : Nat) (h : 32 ≤ pc) : pg_185 pc = (0, 0, 0, 0, 0) := by
  unfold pg_185
  rw [nb_lt (k := 14) (n := 32) h (by decide), cond_false, nb_lt (k := 25) (n := 32) h (by decide), cond_false, nb_lt (k := 27) (n := 32) h (by decide), cond_false, nb_lt (k := 30) (n := 32) h (by decide), cond_false, nb_lt (k := 31) (n := 32) h (by decide), cond_false, nb_eq (k := 31) (n := 32) h (by decide), cond_false]
set_option maxRecDepth 100000 in
theorem ck_185 (pc : Nat) : ckI 185 pc = true := by
  by_cases h0 : 32 ≤ pc
  · exact ck_z (show pg 185 pc = _ from pz_185 pc h0)
  exact ck_at ck_185_0 (by omega) (by omega)
theorem ch_185 : ckH 185 = true := by decide +kernel
theorem ck_186_0 : (List.range 55).all (fun i => ckI 186 (0 + i)) = true := by decide +kernel
theorem pz_186 (pc : Nat) (h : 55 ≤ pc) : pg_186 pc = (0, 0, 0, 0, 0) := by
  unfold pg_186
  rw [nb_lt (k := 24) (n := 55) h (by decide), cond_false, nb_lt (k := 36) (n := 55) h (by decide), cond_false, nb_lt (k := 46) (n := 55) h (by decide), cond_false, nb_lt (k := 52) (n := 55) h (by decide), cond_false, nb_lt (k := 54) (n := 55) h (by decide), cond_false, nb_eq (k := 54) (n := 55) h (by decide), cond_false]
set_option maxRecDepth 100000 in
theorem ck_186 (pc : Nat) : ckI 186 pc = true := by
  by_cases h0 : 55 ≤ pc
  · exact ck_z (show pg 186 pc = _ from pz_186 pc h0)
  exact ck_at ck_186_0 (by omega) (by omega)
theorem ch_186 : ckH 186 = true := by decide +kernel
theorem ck_187_0 : (List.range 83).all (fun i => ckI 187 (0 + i)) = true := by decide +kernel
theorem ck_187_1 : (List.range 1).all (fun i => ckI 187 (83 + i)) = true := by decide +kernel
theorem pz_187 (pc : Nat) (h : 84 ≤ pc) : pg_187 pc = (0, 0, 0, 0, 0) := by
  unfold pg_187
  rw [nb_lt (k := 42) (n := 84) h (by decide), cond_false, nb_lt (k := 62) (n := 84) h (by decide), cond_false, nb_lt (k := 70) (n := 84) h (by decide), cond_false, nb_lt (k := 79) (n := 84) h (by decide), cond_false, nb_lt (k := 82) (n := 84) h (by decide), cond_false, nb_lt (k := 83) (n := 84) h (by decide), cond_false, nb_eq (k := 83) (n := 84) h (by decide), cond_false]
set_option maxRecDepth 100000 in
theorem ck_187 (pc : Nat) : ckI 187 pc = true := by
  by_cases h0 : 84 ≤ pc
  · exact ck_z (show pg 187 pc = _ from pz_187 pc h0)
  by_cases h1 : pc < 83
  · exact ck_at ck_187_0 (by omega) (by omega)
  exact ck_at ck_187_1 (by omega) (by omega)
theorem ch_187 : ckH 187 = true := by decide +kernel
theorem ck_188_0 : (List.range 80).all (fun i => ckI 188 (0 + i)) = true := by decide +kernel
theorem ck_188_1 : (List.range 82).all (fun i => ckI 188 (80 + i)) = true := by decide +kernel
theorem ck_188_2 : (List.range 1).all (fun i => ckI 188 (162 + i)) = true := by decide +kernel
theorem pz_188 (pc : Nat) (h : 163 ≤ pc) : pg_188 pc = (0, 0, 0, 0, 0) := by
  unfold pg_188
  rw [nb_lt (k := 80) (n := 163) h (by decide), cond_false, nb_lt (k := 119) (n := 163) h (by decide), cond_false, nb_lt (k := 139) (n := 163) h (by decide), cond_false, nb_lt (k := 151) (n := 163) h (by decide), cond_false, nb_lt (k := 158) (n := 163) h (by decide), cond_false, nb_lt (k := 161) (n := 163) h (by decide), cond_false, nb_lt (k := 162) (n := 163) h (by decide), cond_false, nb_eq (k := 162) (n := 163) h (by decide), cond_false]
set_option maxRecDepth 100000 in
theorem ck_188 (pc : Nat) : ckI 188 pc = true := by
  by_cases h0 : 163 ≤ pc
  · exact ck_z (show pg 188 pc = _ from pz_188 pc h0)
  by_cases h1 : pc < 80
  · exact ck_at ck_188_0 (by omega) (by omega)
  by_cases h2 : pc < 162
  · exact ck_at ck_188_1 (by omega) (by omega)
  exact ck_at ck_188_2 (by omega) (by omega)
theorem ch_188 : ckH 188 = true := by decide +kernel
theorem ck_189_0 : (List.range 59).all (fun i => ckI 189 (0 + i)) = true := by decide +kernel
theorem pz_189 (pc : Nat) (h : 59 ≤ pc) : pg_189 pc = (0, 0, 0, 0, 0) := by
  unfold pg_189
  rw [nb_lt (k := 27) (n := 59) h (by decide), cond_false, nb_lt (k := 41) (n := 59) h (by decide), cond_false, nb_lt (k := 51) (n := 59) h (by decide), cond_false, nb_lt (k := 57) (n := 59) h (by decide), cond_false, nb_lt (k := 58) (n := 59) h (by decide), cond_false, nb_eq (k := 58) (n := 59) h (by decide), cond_false]
set_option maxRecDepth 100000 in
theorem ck_189 (pc : Nat) : ckI 189 pc = true := by
  by_cases h0 : 59 ≤ pc
  · exact ck_z (show pg 189 pc = _ from pz_189 pc h0)
  exact ck_at ck_189_0 (by omega) (by omega)
theorem ch_189 : ckH 189 = true := by decide +kernel
theorem ck_190_0 : (List.range 68).all (fun i => ckI 190 (0 + i)) = true := by decide +kernel
theorem pz_190 (pc : Nat) (h : 68 ≤ pc) : pg_190 pc = (0, 0, 0, 0, 0) := by
  unfold pg_190
  rw [nb_lt (k := 36) (n := 68) h (by decide), cond_false, nb_lt (k := 53) (n := 68) h (by decide), cond_false, nb_lt (k := 59) (n := 68) h (by decide), cond_false, nb_lt (k := 63) (n := 68) h (by decide), cond_false, nb_lt (k := 64) (n := 68) h (by decide), cond_false, nb_lt (k := 67) (n := 68) h (by decide), cond_false, nb_eq (k := 67) (n := 68) h (by decide), cond_false]
set_option maxRecDepth 100000 in
theorem ck_190 (pc : Nat) : ckI 190 pc = true := by
  by_cases h0 : 68 ≤ pc
  · exact ck_z (show pg 190 pc = _ from pz_190 pc h0)
  exact ck_at ck_190_0 (by omega) (by omega)
theorem ch_190 : ckH 190 = true := by decide +kernel
theorem ck_191_0 : (List.range 88).all (fun i => ckI 191 (0 + i)) = true := by decide +kernel
theorem ck_191_1 : (List.range 55).all (fun i => ckI 191 (88 + i)) = true := by decide +kernel
theorem pz_191 (pc : Nat) (h : 143 ≤ pc) : pg_191 pc = (0, 0, 0, 0, 0) := by
  unfold pg_191
  rw [nb_lt (k := 71) (n := 143) h (by decide), cond_false, nb_lt (k := 107) (n := 143) h (by decide), cond_false, nb_lt (k := 125) (n := 143) h (by decide), cond_false, nb_lt (k := 133) (n := 143) h (by decide), cond_false, nb_lt (k := 138) (n := 143) h (by decide), cond_false, nb_lt (k := 139) (n := 143) h (by decide), cond_false, nb_lt (k := 142) (n := 143) h (by decide), cond_false, nb_eq (k := 142) (n := 143) h (by decide), cond_false]
set_option maxRecDepth 100000 in
theorem ck_191 (pc : Nat) : ckI 191 pc = true := by
  by_cases h0 : 143 ≤ pc
  · exact ck_z (show pg 191 pc = _ from pz_191 pc h0)
  by_cases h1 : pc < 88
  · exact ck_at ck_191_0 (by omega) (by omega)
  exact ck_at ck_191_1 (by omega) (by omega)
theorem ch_191 : ckH 191 = true := by decide +kernel
theorem ck_192_0 : (List.range 40).all (fun i => ckI 192 (0 + i)) = true := by decide +kernel
theorem pz_192 (pc : Nat) (h : 40 ≤ pc) : pg_192 pc = (0, 0, 0, 0, 0) := by
  unfold pg_192
  rw [nb_lt (k := 19) (n := 40) h (by decide), cond_false, nb_lt (k := 30) (n := 40) h (by decide), cond_false, nb_lt (k := 33) (n := 40) h (by decide), cond_false, nb_lt (k := 36) (n := 40) h (by decide), cond_false, nb_lt (k := 39) (n := 40) h (by decide), cond_false, nb_eq (k := 39) (n := 40) h (by decide), cond_false]
set_option maxRecDepth 100000 in
theorem ck_192 (pc : Nat) : ckI 192 pc = true := by
  by_cases h0 : 40 ≤ pc
  · exact ck_z (show pg 192 pc = _ from pz_192 pc h0)
  exact ck_at ck_192_0 (by omega) (by omega)
theorem ch_192 : ckH 192 = true := by decide +kernel
theorem ck_193_0 : (List.range 79).all (fun i => ckI 193 (0 + i)) = true := by decide +kernel
theorem ck_193_1 : (List.range 55).all (fun i => ckI 193 (79 + i)) = true := by decide +kernel
theorem pz_193 (pc : Nat) (h : 134 ≤ pc) : pg_193 pc = (0, 0, 0, 0, 0) := by
  unfold pg_193
  rw [nb_lt (k := 68) (n := 134) h (by decide), cond_false, nb_lt (k := 99) (n := 134) h (by decide), cond_false, nb_lt (k := 114) (n := 134) h (by decide), cond_false, nb_lt (k := 123) (n := 134) h (by decide), cond_false, nb_lt (k := 127) (n := 134) h (by decide), cond_false, nb_lt (k := 130) (n := 134) h (by decide), cond_false, nb_lt (k := 133) (n := 134) h (by decide), cond_false, nb_eq (k := 133) (n := 134) h (by decide), cond_false]
set_option maxRecDepth 100000 in
theorem ck_193 (pc : Nat) : ckI 193 pc = true := by
  by_cases h0 : 134 ≤ pc
  · exact ck_z (show pg 193 pc = _ from pz_193 pc h0)
  by_cases h1 : pc < 79
  · exact ck_at ck_193_0 (by omega) (by omega)
  exact ck_at ck_193_1 (by omega) (by omega)
theorem ch_193 : ckH 193 = true := by decide +kernel
theorem ck_194_0 : (List.range 84).all (fun i => ckI 194 (0 + i)) = true := by decide +kernel
theorem ck_194_1 : (List.range 85).all (fun i => ckI 194 (84 + i)) = true := by decide +kernel
theorem ck_194_2 : (List.range 64).all (fun i => ckI 194 (169 + i)) = true := by decide +kernel
theorem pz_194 (pc : Nat) (h : 233 ≤ pc) : pg_194 pc = (0, 0, 0, 0, 0) := by
  unfold pg_194
  rw [nb_lt (k := 116) (n := 233) h (by decide), cond_false, nb_lt (k := 175) (n := 233) h (by decide), cond_false, nb_lt (k := 203) (n := 233) h (by decide), cond_false, nb_lt (k := 218) (n := 233) h (by decide), cond_false, nb_lt (k := 225) (n := 233) h (by decide), cond_false, nb_lt (k := 231) (n := 233) h (by decide), cond_false, nb_lt (k := 232) (n := 233) h (by decide), cond_false, nb_eq (k := 232) (n := 233) h (by decide), cond_false]
set_option maxRecDepth 100000 in
theorem ck_194 (pc : Nat) : ckI 194 pc = true := by
  by_cases h0 : 233 ≤ pc
  · exact ck_z (show pg 194 pc = _ from pz_194 pc h0)
  by_cases h1 : pc < 84
  · exact ck_at ck_194_0 (by omega) (by omega)
  by_cases h2 : pc < 169
  · exact ck_at ck_194_1 (by omega) (by omega)
  exact ck_at ck_194_2 (by omega) (by omega)
theorem ch_194 : ckH 194 = true := by decide +kernel
theorem ck_195_0 : (List.range 77).all (fun i => ckI 195 (0 + i)) = true := by decide +kernel
theorem ck_195_1 : (List.range 58).all (fun i => ckI 195 (77 + i)) = true := by decide +kernel
theorem pz_195 (pc : Nat) (h : 135 ≤ pc) : pg_195 pc = (0, 0, 0, 0, 0) := by
  unfold pg_195
  rw [nb_lt (k := 62) (n := 135) h (by decide), cond_false, nb_lt (k := 96) (n := 135) h (by decide), cond_false, nb_lt (k := 114) (n := 135) h (by decide), cond_false, nb_lt (k := 124) (n := 135) h (by decide), cond_false, nb_lt (k := 129) (n := 135) h (by decide), cond_false, nb_lt (k := 132) (n := 135) h (by decide), cond_false, nb_lt (k := 134) (n := 135) h (by decide), cond_false, nb_eq (k := 134) (n := 135) h (by decide), cond_false]
set_option maxRecDepth 100000 in
theorem ck_195 (pc : Nat) : ckI 195 pc = true := by
  by_cases h0 : 135 ≤ pc
  · exact ck_z (show pg 195 pc = _ from pz_195 pc h0)
  by_cases h1 : pc < 77
  · exact ck_at ck_195_0 (by omega) (by omega)
  exact ck_at ck_195_1 (by omega) (by omega)
theorem ch_195 : ckH 195 = true := by decide +kernel
theorem ck_196_0 : (List.range 99).all (fun i => ckI 196 (0 + i)) = true := by decide +kernel
theorem ck_196_1 : (List.range 38).all (fun i => ckI 196 (99 + i)) = true := by decide +kernel
theorem pz_196 (pc : Nat) (h : 137 ≤ pc) : pg_196 pc = (0, 0, 0, 0, 0) := by
  unfold pg_196
  rw [nb_lt (k := 73) (n := 137) h (by decide), cond_false, nb_lt (k := 106) (n := 137) h (by decide), cond_false, nb_lt (k := 120) (n := 137) h (by decide), cond_false, nb_lt (k := 128) (n := 137) h (by decide), cond_false, nb_lt (k := 132) (n := 137) h (by decide), cond_false, nb_lt (k := 133) (n := 137) h (by decide), cond_false, nb_lt (k := 136) (n := 137) h (by decide), cond_false, nb_eq (k := 136) (n := 137) h (by decide), cond_false]
set_option maxRecDepth 100000 in
theorem ck_196 (pc : Nat) : ckI 196 pc = true := by
  by_cases h0 : 137 ≤ pc
  · exact ck_z (show pg 196 pc = _ from pz_196 pc h0)
  by_cases h1 : pc < 99
  · exact ck_at ck_196_0 (by omega) (by omega)
  exact ck_at ck_196_1 (by omega) (by omega)
theorem ch_196 : ckH 196 = true := by decide +kernel
theorem ck_197_0 : (List.range 80).all (fun i => ckI 197 (0 + i)) = true := by decide +kernel
theorem ck_197_1 : (List.range 5).all (fun i => ckI 197 (80 + i)) = true := by decide +kernel
theorem pz_197 (pc : Nat) (h : 85 ≤ pc) : pg_197 pc = (0, 0, 0, 0, 0) := by
  unfold pg_197
  rw [nb_lt (k := 45) (n := 85) h (by decide), cond_false, nb_lt (k := 67) (n := 85) h (by decide), cond_false, nb_lt (k := 77) (n := 85) h (by decide), cond_false, nb_lt (k := 80) (n := 85) h (by decide), cond_false, nb_lt (k := 81) (n := 85) h (by decide), cond_false, nb_lt (k := 84) (n := 85) h (by decide), cond_false, nb_eq (k := 84) (n := 85) h (by decide), cond_false]
set_option maxRecDepth 100000 in
theorem ck_197 (pc : Nat) : ckI 197 pc = true := by
  by_cases h0 : 85 ≤ pc
  · exact ck_z (show pg 197 pc = _ from pz_197 pc h0)
  by_cases h1 : pc < 80
  · exact ck_at ck_197_0 (by omega) (by omega)
  exact ck_at ck_197_1 (by omega) (by omega)
theorem ch_197 : ckH 197 = true := by decide +kernel
theorem ck_198_0 : (List.range 80).all (fun i => ckI 198 (0 + i)) = true := by decide +kernel
theorem ck_198_1 : (List.range 22).all (fun i => ckI 198 (80 + i)) = true := by decide +kernel
theorem pz_198 (pc : Nat) (h : 102 ≤ pc) : pg_198 pc = (0, 0, 0, 0, 0) := by
  unfold pg_198
  rw [nb_lt (k := 47) (n := 102) h (by decide), cond_false, nb_lt (k := 75) (n := 102) h (by decide), cond_false, nb_lt (k := 87) (n := 102) h (by decide), cond_false, nb_lt (k := 94) (n := 102) h (by decide), cond_false, nb_lt (k := 100) (n := 102) h (by decide), cond_false, nb_lt (k := 101) (n := 102) h (by decide), cond_false, nb_eq (k := 101) (n := 102) h (by decide), cond_false]
set_option maxRecDepth 100000 in
theorem ck_198 (pc : Nat) : ckI 198 pc = true := by
  by_cases h0 : 102 ≤ pc
  · exact ck_z (show pg 198 pc = _ from pz_198 pc h0)
  by_cases h1 : pc < 80
  · exact ck_at ck_198_0 (by omega) (by omega)
  exact ck_at ck_198_1 (by omega) (by omega)
theorem ch_198 : ckH 198 = true := by decide +kernel
theorem ck_199_0 : (List.range 48).all (fun i => ckI 199 (0 + i)) = true := by decide +kernel
theorem pz_199 (pc : Nat) (h : 48 ≤ pc) : pg_199 pc = (0, 0, 0, 0, 0) := by
  unfold pg_199
  rw [nb_lt (k := 23) (n := 48) h (by decide), cond_false, nb_lt (k := 34) (n := 48) h (by decide), cond_false, nb_lt (k := 41) (n := 48) h (by decide), cond_false, nb_lt (k := 45) (n := 48) h (by decide), cond_false, nb_lt (k := 47) (n := 48) h (by decide), cond_false, nb_eq (k := 47) (n := 48) h (by decide), cond_false]
set_option maxRecDepth 100000 in
theorem ck_199 (pc : Nat) : ckI 199 pc = true := by
  by_cases h0 : 48 ≤ pc
  · exact ck_z (show pg 199 pc = _ from pz_199 pc h0)
  exact ck_at ck_199_0 (by omega) (by omega)
theorem ch_199 : ckH 199 = true := by decide +kernel
theorem ck_200_0 : (List.range 85).all (fun i => ckI 200 (0 + i)) = true := by decide +kernel
theorem ck_200_1 : (List.range 67).all (fun i => ckI 200 (85 + i)) = true := by decide +kernel
theorem pz_200 (pc : Nat) (h : 152 ≤ pc) : pg_200 pc = (0, 0, 0, 0, 0) := by
  unfold pg_200
  rw [nb_lt (k := 80) (n := 152) h (by decide), cond_false, nb_lt (k := 116) (n := 152) h (by decide), cond_false, nb_lt (k := 135) (n := 152) h (by decide), cond_false, nb_lt (k := 142) (n := 152) h (by decide), cond_false, nb_lt (k := 147) (n := 152) h (by decide), cond_false, nb_lt (k := 148) (n := 152) h (by decide), cond_false, nb_lt (k := 151) (n := 152) h (by decide), cond_false, nb_eq (k := 151) (n := 152) h (by decide), cond_false]
set_option maxRecDepth 100000 in
theorem ck_200 (pc : Nat) : ckI 200 pc = true := by
  by_cases h0 : 152 ≤ pc
  · exact ck_z (show pg 200 pc = _ from pz_200 pc h0)
  by_cases h1 : pc < 85
  · exact ck_at ck_200_0 (by omega) (by omega)
  exact ck_at ck_200_1 (by omega) (by omega)
theorem ch_200 : ckH 200 = true := by decide +kernel
theorem ck_201_0 : (List.range 90).all (fun i => ckI 201 (0 + i)) = true := by decide +kernel
theorem ck_201_1 : (List.range 84).all (fun i => ckI 201 (90 + i)) = true := by decide +kernel
theorem pz_201 (pc : Nat) (h : 174 ≤ pc) : pg_201 pc = (0, 0, 0, 0, 0) := by
  unfold pg_201
  rw [nb_lt (k := 88) (n := 174) h (by decide), cond_false, nb_lt (k := 125) (n := 174) h (by decide), cond_false, nb_lt (k := 149) (n := 174) h (by decide), cond_false, nb_lt (k := 162) (n := 174) h (by decide), cond_false, nb_lt (k := 169) (n := 174) h (by decide), cond_false, nb_lt (k := 172) (n := 174) h (by decide), cond_false, nb_lt (k := 173) (n := 174) h (by decide), cond_false, nb_eq (k := 173) (n := 174) h (by decide), cond_false]
set_option maxRecDepth 100000 in
theorem ck_201 (pc : Nat) : ckI 201 pc = true := by
  by_cases h0 : 174 ≤ pc
  · exact ck_z (show pg 201 pc = _ from pz_201 pc h0)
  by_cases h1 : pc < 90
  · exact ck_at ck_201_0 (by omega) (by omega)
  exact ck_at ck_201_1 (by omega) (by omega)
theorem ch_201 : ckH 201 = true := by decide +kernel
theorem ck_202_0 : (List.range 90).all (fun i => ckI 202 (0 + i)) = true := by decide +kernel
theorem ck_202_1 : (List.range 30).all (fun i => ckI 202 (90 + i)) = true := by decide +kernel
theorem pz_202 (pc : Nat) (h : 120 ≤ pc) : pg_202 pc = (0, 0, 0, 0, 0) := by
  unfold pg_202
  rw [nb_lt (k := 60) (n := 120) h (by decide), cond_false, nb_lt (k := 86) (n := 120) h (by decide), cond_false, nb_lt (k := 102) (n := 120) h (by decide), cond_false, nb_lt (k := 112) (n := 120) h (by decide), cond_false, nb_lt (k := 117) (n := 120) h (by decide), cond_false, nb_lt (k := 119) (n := 120) h (by decide), cond_false, nb_eq (k := 119) (n := 120) h (by decide), cond_false]
set_option maxRecDepth 100000 in
theorem ck_202 (pc : Nat) : ckI 202 pc = true := by
  by_cases h0 : 120 ≤ pc
  · exact ck_z (show pg 202 pc = _ from pz_202 pc h0)
  by_cases h1 : pc < 90
  · exact ck_at ck_202_0 (by omega) (by omega)
  exact ck_at ck_202_1 (by omega) (by omega)
theorem ch_202 : ckH 202 = true := by decide +kernel
theorem ck_203_0 : (List.range 45).all (fun i => ckI 203 (0 + i)) = true := by decide +kernel
theorem pz_203 (pc : Nat) (h : 45 ≤ pc) : pg_203 pc = (0, 0, 0, 0, 0) := by
  unfold pg_203
  rw [nb_lt (k := 23) (n := 45) h (by decide), cond_false, nb_lt (k := 32) (n := 45) h (by decide), cond_false, nb_lt (k := 37) (n := 45) h (by decide), cond_false, nb_lt (k := 43) (n := 45) h (by decide), cond_false, nb_lt (k := 44) (n := 45) h (by decide), cond_false, nb_eq (k := 44) (n := 45) h (by decide), cond_false]
set_option maxRecDepth 100000 in
theorem ck_203 (pc : Nat) : ckI 203 pc = true := by
  by_cases h0 : 45 ≤ pc
  · exact ck_z (show pg 203 pc = _ from pz_203 pc h0)
  exact ck_at ck_203_0 (by omega) (by omega)
theorem ch_203 : ckH 203 = true := by decide +kernel
theorem ck_204_0 : (List.range 89).all (fun i => ckI 204 (0 + i)) = true := by decide +kernel
theorem ck_204_1 : (List.range 65).all (fun i => ckI 204 (89 + i)) = true := by decide +kernel
theorem pz_204 (pc : Nat) (h : 154 ≤ pc) : pg_204 pc = (0, 0, 0, 0, 0) := by
  unfold pg_204
  rw [nb_lt (k := 77) (n := 154) h (by decide), cond_false, nb_lt (k := 116) (n := 154) h (by decide), cond_false, nb_lt (k := 132) (n := 154) h (by decide), cond_false, nb_lt (k := 141) (n := 154) h (by decide), cond_false, nb_lt (k := 147) (n := 154) h (by decide), cond_false, nb_lt (k := 150) (n := 154) h (by decide), cond_false, nb_lt (k := 153) (n := 154) h (by decide), cond_false, nb_eq (k := 153) (n := 154) h (by decide), cond_false]
set_option maxRecDepth 100000 in
theorem ck_204 (pc : Nat) : ckI 204 pc = true := by
  by_cases h0 : 154 ≤ pc
  · exact ck_z (show pg 204 pc = _ from pz_204 pc h0)
  by_cases h1 : pc < 89
  · exact ck_at ck_204_0 (by omega) (by omega)
  exact ck_at ck_204_1 (by omega) (by omega)
theorem ch_204 : ckH 204 = true := by decide +kernel
theorem ck_205_0 : (List.range 62).all (fun i => ckI 205 (0 + i)) = true := by decide +kernel
theorem pz_205 (pc : Nat) (h : 62 ≤ pc) : pg_205 pc = (0, 0, 0, 0, 0) := by
  unfold pg_205
  rw [nb_lt (k := 28) (n := 62) h (by decide), cond_false, nb_lt (k := 44) (n := 62) h (by decide), cond_false, nb_lt (k := 52) (n := 62) h (by decide), cond_false, nb_lt (k := 58) (n := 62) h (by decide), cond_false, nb_lt (k := 61) (n := 62) h (by decide), cond_false, nb_eq (k := 61) (n := 62) h (by decide), cond_false]
set_option maxRecDepth 100000 in
theorem ck_205 (pc : Nat) : ckI 205 pc = true := by
  by_cases h0 : 62 ≤ pc
  · exact ck_z (show pg 205 pc = _ from pz_205 pc h0)
  exact ck_at ck_205_0 (by omega) (by omega)
theorem ch_205 : ckH 205 = true := by decide +kernel
theorem ck_206_0 : (List.range 79).all (fun i => ckI 206 (0 + i)) = true := by decide +kernel
theorem pz_206 (pc : Nat) (h : 79 ≤ pc) : pg_206 pc = (0, 0, 0, 0, 0) := by
  unfold pg_206
  rw [nb_lt (k := 36) (n := 79) h (by decide), cond_false, nb_lt (k := 57) (n := 79) h (by decide), cond_false, nb_lt (k := 66) (n := 79) h (by decide), cond_false, nb_lt (k := 72) (n := 79) h (by decide), cond_false, nb_lt (k := 75) (n := 79) h (by decide), cond_false, nb_lt (k := 78) (n := 79) h (by decide), cond_false, nb_eq (k := 78) (n := 79) h (by decide), cond_false]
set_option maxRecDepth 100000 in
theorem ck_206 (pc : Nat) : ckI 206 pc = true := by
  by_cases h0 : 79 ≤ pc
  · exact ck_z (show pg 206 pc = _ from pz_206 pc h0)
  exact ck_at ck_206_0 (by omega) (by omega)
theorem ch_206 : ckH 206 = true := by decide +kernel
theorem ck_207_0 : (List.range 81).all (fun i => ckI 207 (0 + i)) = true := by decide +kernel
theorem ck_207_1 : (List.range 40).all (fun i => ckI 207 (81 + i)) = true := by decide +kernel
theorem pz_207 (pc : Nat) (h : 121 ≤ pc) : pg_207 pc = (0, 0, 0, 0, 0) := by
  unfold pg_207
  rw [nb_lt (k := 62) (n := 121) h (by decide), cond_false, nb_lt (k := 93) (n := 121) h (by decide), cond_false, nb_lt (k := 108) (n := 121) h (by decide), cond_false, nb_lt (k := 112) (n := 121) h (by decide), cond_false, nb_lt (k := 116) (n := 121) h (by decide), cond_false, nb_lt (k := 117) (n := 121) h (by decide), cond_false, nb_lt (k := 120) (n := 121) h (by decide), cond_false, nb_eq (k := 120) (n := 121) h (by decide), cond_false]
set_option maxRecDepth 100000 in
theorem ck_207 (pc : Nat) : ckI 207 pc = true := by
  by_cases h0 : 121 ≤ pc
  · exact ck_z (show pg 207 pc = _ from pz_207 pc h0)
  by_cases h1 : pc < 81
  · exact ck_at ck_207_0 (by omega) (by omega)
  exact ck_at ck_207_1 (by omega) (by omega)
theorem ch_207 : ckH 207 = true := by decide +kernel
theorem ck_208_0 : (List.range 32).all (fun i => ckI 208 (0 + i)) = true := by decide +kernel
theorem pz_208 (pc : Nat) (h : 32 ≤ pc) : pg_208 pc = (0, 0, 0, 0, 0) := by
  unfold pg_208
  rw [nb_lt (k := 17) (n := 32) h (by decide), cond_false, nb_lt (k := 25) (n := 32) h (by decide), cond_false, nb_lt (k := 27) (n := 32) h (by decide), cond_false, nb_lt (k := 30) (n := 32) h (by decide), cond_false, nb_lt (k := 31) (n := 32) h (by decide), cond_false, nb_eq (k := 31) (n := 32) h (by decide), cond_false]
set_option maxRecDepth 100000 in
theorem ck_208 (pc : Nat) : ckI 208 pc = true := by
  by_cases h0 : 32 ≤ pc
  · exact ck_z (show pg 208 pc = _ from pz_208 pc h0)
  exact ck_at ck_208_0 (by omega) (by omega)
theorem ch_208 : ckH 208 = true := by decide +kernel
theorem ck_209_0 : (List.range 32).all (fun i => ckI 209 (0 + i)) = true := by decide +kernel
theorem pz_209 (pc : Nat) (h : 32 ≤ pc) : pg_209 pc = (0, 0, 0, 0, 0) := by
  unfold pg_209
  rw [nb_lt (k := 17) (n := 32) h (by decide), cond_false, nb_lt (k := 25) (n := 32) h (by decide), cond_false, nb_lt (k := 27) (n := 32) h (by decide), cond_false, nb_lt (k := 30) (n := 32) h (by decide), cond_false, nb_lt (k := 31) (n := 32) h (by decide), cond_false, nb_eq (k := 31) (n := 32) h (by decide), cond_false]
set_option maxRecDepth 100000 in
theorem ck_209 (pc : Nat) : ckI 209 pc = true := by
  by_cases h0 : 32 ≤ pc
  · exact ck_z (show pg 209 pc = _ from pz_209 pc h0)
  exact ck_at ck_209_0 (by omega) (by omega)
theorem ch_209 : ckH 209 = true := by decide +kernel
theorem ck_210_0 : (List.range 40).all (fun i => ckI 210 (0 + i)) = true := by decide +kernel
theorem pz_210 (pc : Nat) (h : 40 ≤ pc) : pg_210 pc = (0, 0, 0, 0, 0) := by
  unfold pg_210
  rw [nb_lt (k := 20) (n := 40) h (by decide), cond_false, nb_lt (k := 31) (n := 40) h (by decide), cond_false, nb_lt (k := 35) (n := 40) h (by decide), cond_false, nb_lt (k := 36) (n := 40) h (by decide), cond_false, nb_lt (k := 39) (n := 40) h (by decide), cond_false, nb_eq (k := 39) (n := 40) h (by decide), cond_false]
set_option maxRecDepth 100000 in
theorem ck_210 (pc : Nat) : ckI 210 pc = true := by
  by_cases h0 : 40 ≤ pc
  · exact ck_z (show pg 210 pc = _ from pz_210 pc h0)
  exact ck_at ck_210_0 (by omega) (by omega)
theorem ch_210 : ckH 210 = true := by decide +kernel
theorem ck_211_0 : (List.range 79).all (fun i => ckI 211 (0 + i)) = true := by decide +kernel
theorem ck_211_1 : (List.range 24).all (fun i => ckI 211 (79 + i)) = true := by decide +kernel
theorem pz_211 (pc : Nat) (h : 103 ≤ pc) : pg_211 pc = (0, 0, 0, 0, 0) := by
  unfold pg_211
  rw [nb_lt (k := 50) (n := 103) h (by decide), cond_false, nb_lt (k := 74) (n := 103) h (by decide), cond_false, nb_lt (k := 85) (n := 103) h (by decide), cond_false, nb_lt (k := 93) (n := 103) h (by decide), cond_false, nb_lt (k := 99) (n := 103) h (by decide), cond_false, nb_lt (k := 102) (n := 103) h (by decide), cond_false, nb_eq (k := 102) (n := 103) h (by decide), cond_false]
set_option maxRecDepth 100000 in
theorem ck_211 (pc : Nat) : ckI 211 pc = true := by
  by_cases h0 : 103 ≤ pc
  · exact ck_z (show pg 211 pc = _ from pz_211 pc h0)
  by_cases h1 : pc < 79
  · exact ck_at ck_211_0 (by omega) (by omega)
  exact ck_at ck_211_1 (by omega) (by omega)
theorem ch_211 : ckH 211 = true := by decide +kernel
theorem ck_212_0 : (List.range 82).all (fun i => ckI 212 (0 + i)) = true := by decide +kernel
theorem pz_212 (pc : Nat) (h : 82 ≤ pc) : pg_212 pc = (0, 0, 0, 0, 0) := by
  unfold pg_212
  rw [nb_lt (k := 43) (n := 82) h (by decide), cond_false, nb_lt (k := 62) (n := 82) h (by decide), cond_false, nb_lt (k := 70) (n := 82) h (by decide), cond_false, nb_lt (k := 75) (n := 82) h (by decide), cond_false, nb_lt (k := 78) (n := 82) h (by decide), cond_false, nb_lt (k := 81) (n := 82) h (by decide), cond_false, nb_eq (k := 81) (n := 82) h (by decide), cond_false]
set_option maxRecDepth 100000 in
theorem ck_212 (pc : Nat) : ckI 212 pc = true := by
  by_cases h0 : 82 ≤ pc
  · exact ck_z (show pg 212 pc = _ from pz_212 pc h0)
  exact ck_at ck_212_0 (by omega) (by omega)
theorem ch_212 : ckH 212 = true := by decide +kernel
theorem ck_213_0 : (List.range 44).all (fun i => ckI 213 (0 + i)) = true := by decide +kernel
theorem pz_213 (pc : Nat) (h : 44 ≤ pc) : pg_213 pc = (0, 0, 0, 0, 0) := by
  unfold pg_213
  rw [nb_lt (k := 21) (n := 44) h (by decide), cond_false, nb_lt (k := 33) (n := 44) h (by decide), cond_false, nb_lt (k := 36) (n := 44) h (by decide), cond_false, nb_lt (k := 42) (n := 44) h (by decide), cond_false, nb_lt (k := 43) (n := 44) h (by decide), cond_false, nb_eq (k := 43) (n := 44) h (by decide), cond_false]
set_option maxRecDepth 100000 in
theorem ck_213 (pc : Nat) : ckI 213 pc = true := by
  by_cases h0 : 44 ≤ pc
  · exact ck_z (show pg 213 pc = _ from pz_213 pc h0)
  exact ck_at ck_213_0 (by omega) (by omega)
theorem ch_213 : ckH 213 = true := by decide +kernel
theorem ck_214_0 : (List.range 51).all (fun i => ckI 214 (0 + i)) = true := by decide +kernel
theorem pz_214 (pc : Nat) (h : 51 ≤ pc) : pg_214 pc = (0, 0, 0, 0, 0) := by
  unfold pg_214
  rw [nb_lt (k := 24) (n := 51) h (by decide), cond_false, nb_lt (k := 35) (n := 51) h (by decide), cond_false, nb_lt (k := 43) (n := 51) h (by decide), cond_false, nb_lt (k := 49) (n := 51) h (by decide), cond_false, nb_lt (k := 50) (n := 51) h (by decide), cond_false, nb_eq (k := 50) (n := 51) h (by decide), cond_false]
set_option maxRecDepth 100000 in
theorem ck_214 (pc : Nat) : ckI 214 pc = true := by
  by_cases h0 : 51 ≤ pc
  · exact ck_z (show pg 214 pc = _ from pz_214 pc h0)
  exact ck_at ck_214_0 (by omega) (by omega)
theorem ch_214 : ckH 214 = true := by decide +kernel
theorem ck_215_0 : (List.range 41).all (fun i => ckI 215 (0 + i)) = true := by decide +kernel
theorem pz_215 (pc : Nat) (h : 41 ≤ pc) : pg_215 pc = (0, 0, 0, 0, 0) := by
  unfold pg_215
  rw [nb_lt (k := 21) (n := 41) h (by decide), cond_false, nb_lt (k := 31) (n := 41) h (by decide), cond_false, nb_lt (k := 36) (n := 41) h (by decide), cond_false, nb_lt (k := 39) (n := 41) h (by decide), cond_false, nb_lt (k := 40) (n := 41) h (by decide), cond_false, nb_eq (k := 40) (n := 41) h (by decide), cond_false]
set_option maxRecDepth 100000 in
theorem ck_215 (pc : Nat) : ckI 215 pc = true := by
  by_cases h0 : 41 ≤ pc
  · exact ck_z (show pg 215 pc = _ from pz_215 pc h0)
  exact ck_at ck_215_0 (by omega) (by omega)
theorem ch_215 : ckH 215 = true := by decide +kernel
theorem ck_216_0 : (List.range 49).all (fun i => ckI 216 (0 + i)) = true := by decide +kernel
theorem pz_216 (pc : Nat) (h : 49 ≤ pc) : pg_216 pc = (0, 0, 0, 0, 0) := by
  unfold pg_216
  rw [nb_lt (k := 24) (n := 49) h (by decide), cond_false, nb_lt (k := 35) (n := 49) h (by decide), cond_false, nb_lt (k := 41) (n := 49) h (by decide), cond_false, nb_lt (k := 47) (n := 49) h (by decide), cond_false, nb_lt (k := 48) (n := 49) h (by decide), cond_false, nb_eq (k := 48) (n := 49) h (by decide), cond_false]
set_option maxRecDepth 100000 in
theorem ck_216 (pc : Nat) : ckI 216 pc = true := by
  by_cases h0 : 49 ≤ pc
  · exact ck_z (show pg 216 pc = _ from pz_216 pc h0)
  exact ck_at ck_216_0 (by omega) (by omega)
theorem ch_216 : ckH 216 = true := by decide +kernel
theorem ck_217_0 : (List.range 65).all (fun i => ckI 217 (0 + i)) = true := by decide +kernel
theorem pz_217 (pc : Nat) (h : 65 ≤ pc) : pg_217 pc = (0, 0, 0, 0, 0) := by
  unfold pg_217
  rw [nb_lt (k := 29) (n := 65) h (by decide), cond_false, nb_lt (k := 46) (n := 65) h (by decide), cond_false, nb_lt (k := 52) (n := 65) h (by decide), cond_false, nb_lt (k := 58) (n := 65) h (by decide), cond_false, nb_lt (k := 61) (n := 65) h (by decide), cond_false, nb_lt (k := 64) (n := 65) h (by decide), cond_false, nb_eq (k := 64) (n := 65) h (by decide), cond_false]
set_option maxRecDepth 100000 in
theorem ck_217 (pc : Nat) : ckI 217 pc = true := by
  by_cases h0 : 65 ≤ pc
  · exact ck_z (show pg 217 pc = _ from pz_217 pc h0)
  exact ck_at ck_217_0 (by omega) (by omega)
theorem ch_217 : ckH 217 = true := by decide +kernel
theorem ck_218_0 : (List.range 72).all (fun i => ckI 218 (0 + i)) = true := by decide +kernel
theorem pz_218 (pc : Nat) (h : 72 ≤ pc) : pg_218 pc = (0, 0, 0, 0, 0) := by
  unfold pg_218
  rw [nb_lt (k := 37) (n := 72) h (by decide), cond_false, nb_lt (k := 53) (n := 72) h (by decide), cond_false, nb_lt (k := 63) (n := 72) h (by decide), cond_false, nb_lt (k := 67) (n := 72) h (by decide), cond_false, nb_lt (k := 70) (n := 72) h (by decide), cond_false, nb_lt (k := 71) (n := 72) h (by decide), cond_false, nb_eq (k := 71) (n := 72) h (by decide), cond_false]
set_option maxRecDepth 100000 in
theorem ck_218 (pc : Nat) : ckI 218 pc = true := by
  by_cases h0 : 72 ≤ pc
  · exact ck_z (show pg 218 pc = _ from pz_218 pc h0)
  exact ck_at ck_218_0 (by omega) (by omega)
theorem ch_218 : ckH 218 = true := by decide +kernel
theorem ck_219_0 : (List.range 28).all (fun i => ckI 219 (0 + i)) = true := by decide +kernel
theorem pz_219 (pc : Nat) (h : 28 ≤ pc) : pg_219 pc = (0, 0, 0, 0, 0) := by
  unfold pg_219
  rw [nb_lt (k := 14) (n := 28) h (by decide), cond_false, nb_lt (k := 22) (n := 28) h (by decide), cond_false, nb_lt (k := 26) (n := 28) h (by decide), cond_false, nb_lt (k := 27) (n := 28) h (by decide), cond_false, nb_eq (k := 27) (n := 28) h (by decide), cond_false]
set_option maxRecDepth 100000 in
theorem ck_219 (pc : Nat) : ckI 219 pc = true := by
  by_cases h0 : 28 ≤ pc
  · exact ck_z (show pg 219 pc = _ from pz_219 pc h0)
  exact ck_at ck_219_0 (by omega) (by omega)
theorem ch_219 : ckH 219 = true := by decide +kernel
theorem ck_220_0 : (List.range 24).all (fun i => ckI 220 (0 + i)) = true := by decide +kernel
theorem pz_220 (pc : Nat) (h : 24 ≤ pc) : pg_220 pc = (0, 0, 0, 0, 0) := by
  unfold pg_220
  rw [nb_lt (k := 13) (n := 24) h (by decide), cond_false, nb_lt (k := 18) (n := 24) h (by decide), cond_false, nb_lt (k := 22) (n := 24) h (by decide), cond_false, nb_lt (k := 23) (n := 24) h (by decide), cond_false, nb_eq (k := 23) (n := 24) h (by decide), cond_false]
set_option maxRecDepth 100000 in
theorem ck_220 (pc : Nat) : ckI 220 pc = true := by
  by_cases h0 : 24 ≤ pc
  · exact ck_z (show pg 220 pc = _ from pz_220 pc h0)
  exact ck_at ck_220_0 (by omega) (by omega)
theorem ch_220 : ckH 220 = true := by decide +kernel
theorem ck_221_0 : (List.range 24).all (fun i => ckI 221 (0 + i)) = true := by decide +kernel
theorem pz_221 (pc : Nat) (h : 24 ≤ pc) : pg_221 pc = (0, 0, 0, 0, 0) := by
  unfold pg_221
  rw [nb_lt (k := 13) (n := 24) h (by decide), cond_false, nb_lt (k := 18) (n := 24) h (by decide), cond_false, nb_lt (k := 22) (n := 24) h (by decide), cond_false, nb_lt (k := 23) (n := 24) h (by decide), cond_false, nb_eq (k := 23) (n := 24) h (by decide), cond_false]
set_option maxRecDepth 100000 in
theorem ck_221 (pc : Nat) : ckI 221 pc = true := by
  by_cases h0 : 24 ≤ pc
  · exact ck_z (show pg 221 pc = _ from pz_221 pc h0)
  exact ck_at ck_221_0 (by omega) (by omega)
theorem ch_221 : ckH 221 = true := by decide +kernel
theorem ck_222_0 : (List.range 24).all (fun i => ckI 222 (0 + i)) = true := by decide +kernel
theorem pz_222 (pc : Nat) (h : 24 ≤ pc) : pg_222 pc = (0, 0, 0, 0, 0) := by
  unfold pg_222
  rw [nb_lt (k := 13) (n := 24) h (by decide), cond_false, nb_lt (k := 18) (n := 24) h (by decide), cond_false, nb_lt (k := 22) (n := 24) h (by decide), cond_false, nb_lt (k := 23) (n := 24) h (by decide), cond_false, nb_eq (k := 23) (n := 24) h (by decide), cond_false]
set_option maxRecDepth 100000 in
theorem ck_222 (pc : Nat) : ckI 222 pc = true := by
  by_cases h0 : 24 ≤ pc
  · exact ck_z (show pg 222 pc = _ from pz_222 pc h0)
  exact ck_at ck_222_0 (by omega) (by omega)
theorem ch_222 : ckH 222 = true := by decide +kernel
theorem ck_223_0 : (List.range 24).all (fun i => ckI 223 (0 + i)) = true := by decide +kernel
theorem pz_223 (pc : Nat) (h : 24 ≤ pc) : pg_223 pc = (0, 0, 0, 0, 0) := by
  unfold pg_223
  rw [nb_lt (k := 13) (n := 24) h (by decide), cond_false, nb_lt (k := 18) (n := 24) h (by decide), cond_false, nb_lt (k := 22) (n := 24) h (by decide), cond_false, nb_lt (k := 23) (n := 24) h (by decide), cond_false, nb_eq (k := 23) (n := 24) h (by decide), cond_false]
set_option maxRecDepth 100000 in
theorem ck_223 (pc : Nat) : ckI 223 pc = true := by
  by_cases h0 : 24 ≤ pc
  · exact ck_z (show pg 223 pc = _ from pz_223 pc h0)
  exact ck_at ck_223_0 (by omega) (by omega)
theorem ch_223 : ckH 223 = true := by decide +kernel
theorem ck_224_0 : (List.range 24).all (fun i => ckI 224 (0 + i)) = true := by decide +kernel
theorem pz_224 (pc : Nat) (h : 24 ≤ pc) : pg_224 pc = (0, 0, 0, 0, 0) := by
  unfold pg_224
  rw [nb_lt (k := 13) (n := 24) h (by decide), cond_false, nb_lt (k := 18) (n := 24) h (by decide), cond_false, nb_lt (k := 22) (n := 24) h (by decide), cond_false, nb_lt (k := 23) (n := 24) h (by decide), cond_false, nb_eq (k := 23) (n := 24) h (by decide), cond_false]
set_option maxRecDepth 100000 in
theorem ck_224 (pc : Nat) : ckI 224 pc = true := by
  by_cases h0 : 24 ≤ pc
  · exact ck_z (show pg 224 pc = _ from pz_224 pc h0)
  exact ck_at ck_224_0 (by omega) (by omega)
theorem ch_224 : ckH 224 = true := by decide +kernel
theorem ck_225_0 : (List.range 45).all (fun i => ckI 225 (0 + i)) = true := by decide +kernel
theorem pz_225 (pc : Nat) (h : 45 ≤ pc) : pg_225 pc = (0, 0, 0, 0, 0) := by
  unfold pg_225
  rw [nb_lt (k := 21) (n := 45) h (by decide), cond_false, nb_lt (k := 34) (n := 45) h (by decide), cond_false, nb_lt (k := 39) (n := 45) h (by decide), cond_false, nb_lt (k := 41) (n := 45) h (by decide), cond_false, nb_lt (k := 44) (n := 45) h (by decide), cond_false, nb_eq (k := 44) (n := 45) h (by decide), cond_false]
set_option maxRecDepth 100000 in
theorem ck_225 (pc : Nat) : ckI 225 pc = true := by
  by_cases h0 : 45 ≤ pc
  · exact ck_z (show pg 225 pc = _ from pz_225 pc h0)
  exact ck_at ck_225_0 (by omega) (by omega)
theorem ch_225 : ckH 225 = true := by decide +kernel
theorem ck_226_0 : (List.range 11).all (fun i => ckI 226 (0 + i)) = true := by decide +kernel
theorem pz_226 (pc : Nat) (h : 11 ≤ pc) : pg_226 pc = (0, 0, 0, 0, 0) := by
  unfold pg_226
  rw [nb_lt (k := 5) (n := 11) h (by decide), cond_false, nb_lt (k := 7) (n := 11) h (by decide), cond_false, nb_lt (k := 10) (n := 11) h (by decide), cond_false, nb_eq (k := 10) (n := 11) h (by decide), cond_false]
set_option maxRecDepth 100000 in
theorem ck_226 (pc : Nat) : ckI 226 pc = true := by
  by_cases h0 : 11 ≤ pc
  · exact ck_z (show pg 226 pc = _ from pz_226 pc h0)
  exact ck_at ck_226_0 (by omega) (by omega)
theorem ch_226 : ckH 226 = true := by decide +kernel
theorem ck_227_0 : (List.range 76).all (fun i => ckI 227 (0 + i)) = true := by decide +kernel
theorem ck_227_1 : (List.range 53).all (fun i => ckI 227 (76 + i)) = true := by decide +kernel
theorem pz_227 (pc : Nat) (h : 129 ≤ pc) : pg_227 pc = (0, 0, 0, 0, 0) := by
  unfold pg_227
  rw [nb_lt (k := 62) (n := 129) h (by decide), cond_false, nb_lt (k := 95) (n := 129) h (by decide), cond_false, nb_lt (k := 114) (n := 129) h (by decide), cond_false, nb_lt (k := 120) (n := 129) h (by decide), cond_false, nb_lt (k := 124) (n := 129) h (by decide), cond_false, nb_lt (k := 127) (n := 129) h (by decide), cond_false, nb_lt (k := 128) (n := 129) h (by decide), cond_false, nb_eq (k := 128) (n := 129) h (by decide), cond_false]
set_option maxRecDepth 100000 in
theorem ck_227 (pc : Nat) : ckI 227 pc = true := by
  by_cases h0 : 129 ≤ pc
  · exact ck_z (show pg 227 pc = _ from pz_227 pc h0)
  by_cases h1 : pc < 76
  · exact ck_at ck_227_0 (by omega) (by omega)
  exact ck_at ck_227_1 (by omega) (by omega)
theorem ch_227 : ckH 227 = true := by decide +kernel
theorem ck_228_0 : (List.range 24).all (fun i => ckI 228 (0 + i)) = true := by decide +kernel
theorem pz_228 (pc : Nat) (h : 24 ≤ pc) : pg_228 pc = (0, 0, 0, 0, 0) := by
  unfold pg_228
  rw [nb_lt (k := 11) (n := 24) h (by decide), cond_false, nb_lt (k := 16) (n := 24) h (by decide), cond_false, nb_lt (k := 22) (n := 24) h (by decide), cond_false, nb_lt (k := 23) (n := 24) h (by decide), cond_false, nb_eq (k := 23) (n := 24) h (by decide), cond_false]
set_option maxRecDepth 100000 in
theorem ck_228 (pc : Nat) : ckI 228 pc = true := by
  by_cases h0 : 24 ≤ pc
  · exact ck_z (show pg 228 pc = _ from pz_228 pc h0)
  exact ck_at ck_228_0 (by omega) (by omega)
theorem ch_228 : ckH 228 = true := by decide +kernel
theorem ck_229_0 : (List.range 86).all (fun i => ckI 229 (0 + i)) = true := by decide +kernel
theorem ck_229_1 : (List.range 40).all (fun i => ckI 229 (86 + i)) = true := by decide +kernel
theorem pz_229 (pc : Nat) (h : 126 ≤ pc) : pg_229 pc = (0, 0, 0, 0, 0) := by
  unfold pg_229
  rw [nb_lt (k := 64) (n := 126) h (by decide), cond_false, nb_lt (k := 92) (n := 126) h (by decide), cond_false, nb_lt (k := 110) (n := 126) h (by decide), cond_false, nb_lt (k := 117) (n := 126) h (by decide), cond_false, nb_lt (k := 121) (n := 126) h (by decide), cond_false, nb_lt (k := 124) (n := 126) h (by decide), cond_false, nb_lt (k := 125) (n := 126) h (by decide), cond_false, nb_eq (k := 125) (n := 126) h (by decide), cond_false]
set_option maxRecDepth 100000 in
theorem ck_229 (pc : Nat) : ckI 229 pc = true := by
  by_cases h0 : 126 ≤ pc
  · exact ck_z (show pg 229 pc = _ from pz_229 pc h0)
  by_cases h1 : pc < 86
  · exact ck_at ck_229_0 (by omega) (by omega)
  exact ck_at ck_229_1 (by omega) (by omega)
theorem ch_229 : ckH 229 = true := by decide +kernel
theorem ck_230_0 : (List.range 66).all (fun i => ckI 230 (0 + i)) = true := by decide +kernel
theorem pz_230 (pc : Nat) (h : 66 ≤ pc) : pg_230 pc = (0, 0, 0, 0, 0) := by
  unfold pg_230
  rw [nb_lt (k := 35) (n := 66) h (by decide), cond_false, nb_lt (k := 52) (n := 66) h (by decide), cond_false, nb_lt (k := 58) (n := 66) h (by decide), cond_false, nb_lt (k := 61) (n := 66) h (by decide), cond_false, nb_lt (k := 64) (n := 66) h (by decide), cond_false, nb_lt (k := 65) (n := 66) h (by decide), cond_false, nb_eq (k := 65) (n := 66) h (by decide), cond_false]
set_option maxRecDepth 100000 in
theorem ck_230 (pc : Nat) : ckI 230 pc = true := by
  by_cases h0 : 66 ≤ pc
  · exact ck_z (show pg 230 pc = _ from pz_230 pc h0)
  exact ck_at ck_230_0 (by omega) (by omega)
theorem ch_230 : ckH 230 = true := by decide +kernel
theorem ck_231_0 : (List.range 47).all (fun i => ckI 231 (0 + i)) = true := by decide +kernel
theorem pz_231 (pc : Nat) (h : 47 ≤ pc) : pg_231 pc = (0, 0, 0, 0, 0) := by
  unfold pg_231
  rw [nb_lt (k := 23) (n := 47) h (by decide), cond_false, nb_lt (k := 33) (n := 47) h (by decide), cond_false, nb_lt (k := 40) (n := 47) h (by decide), cond_false, nb_lt (k := 43) (n := 47) h (by decide), cond_false, nb_lt (k := 46) (n := 47) h (by decide), cond_false, nb_eq (k := 46) (n := 47) h (by decide), cond_false]
set_option maxRecDepth 100000 in
theorem ck_231 (pc : Nat) : ckI 231 pc = true := by
  by_cases h0 : 47 ≤ pc
  · exact ck_z (show pg 231 pc = _ from pz_231 pc h0)
  exact ck_at ck_231_0 (by omega) (by omega)
theorem ch_231 : ckH 231 = true := by decide +kernel
theorem ck_232_0 : (List.range 62).all (fun i => ckI 232 (0 + i)) = true := by decide +kernel
theorem pz_232 (pc : Nat) (h : 62 ≤ pc) : pg_232 pc = (0, 0, 0, 0, 0) := by
  unfold pg_232
  rw [nb_lt (k := 33) (n := 62) h (by decide), cond_false, nb_lt (k := 47) (n := 62) h (by decide), cond_false, nb_lt (k := 53) (n := 62) h (by decide), cond_false, nb_lt (k := 57) (n := 62) h (by decide), cond_false, nb_lt (k := 58) (n := 62) h (by decide), cond_false, nb_lt (k := 61) (n := 62) h (by decide), cond_false, nb_eq (k := 61) (n := 62) h (by decide), cond_false]
set_option maxRecDepth 100000 in
theorem ck_232 (pc : Nat) : ckI 232 pc = true := by
  by_cases h0 : 62 ≤ pc
  · exact ck_z (show pg 232 pc = _ from pz_232 pc h0)
  exact ck_at ck_232_0 (by omega) (by omega)
theorem ch_232 : ckH 232 = true := by decide +kernel
theorem ck_233_0 : (List.range 73).all (fun i => ckI 233 (0 + i)) = true := by decide +kernel
theorem pz_233 (pc : Nat) (h : 73 ≤ pc) : pg_233 pc = (0, 0, 0, 0, 0) := by
  unfold pg_233
  rw [nb_lt (k := 36) (n := 73) h (by decide), cond_false, nb_lt (k := 54) (n := 73) h (by decide), cond_false, nb_lt (k := 61) (n := 73) h (by decide), cond_false, nb_lt (k := 68) (n := 73) h (by decide), cond_false, nb_lt (k := 71) (n := 73) h (by decide), cond_false, nb_lt (k := 72) (n := 73) h (by decide), cond_false, nb_eq (k := 72) (n := 73) h (by decide), cond_false]
set_option maxRecDepth 100000 in
theorem ck_233 (pc : Nat) : ckI 233 pc = true := by
  by_cases h0 : 73 ≤ pc
  · exact ck_z (show pg 233 pc = _ from pz_233 pc h0)
  exact ck_at ck_233_0 (by omega) (by omega)
theorem ch_233 : ckH 233 = true := by decide +kernel
theorem ck_234_0 : (List.range 21).all (fun i => ckI 234 (0 + i)) = true := by decide +kernel
theorem pz_234 (pc : Nat) (h : 21 ≤ pc) : pg_234 pc = (0, 0, 0, 0, 0) := by
  unfold pg_234
  rw [nb_lt (k := 12) (n := 21) h (by decide), cond_false, nb_lt (k := 15) (n := 21) h (by decide), cond_false, nb_lt (k := 19) (n := 21) h (by decide), cond_false, nb_lt (k := 20) (n := 21) h (by decide), cond_false, nb_eq (k := 20) (n := 21) h (by decide), cond_false]
set_option maxRecDepth 100000 in
theorem ck_234 (pc : Nat) : ckI 234 pc = true := by
  by_cases h0 : 21 ≤ pc
  · exact ck_z (show pg 234 pc = _ from pz_234 pc h0)
  exact ck_at ck_234_0 (by omega) (by omega)
theorem ch_234 : ckH 234 = true := by decide +kernel
theorem ck_235_0 : (List.range 32).all (fun i => ckI 235 (0 + i)) = true := by decide +kernel
theorem pz_235 (pc : Nat) (h : 32 ≤ pc) : pg_235 pc = (0, 0, 0, 0, 0) := by
  unfold pg_235
  rw [nb_lt (k := 17) (n := 32) h (by decide), cond_false, nb_lt (k := 25) (n := 32) h (by decide), cond_false, nb_lt (k := 27) (n := 32) h (by decide), cond_false, nb_lt (k := 30) (n := 32) h (by decide), cond_false, nb_lt (k := 31) (n := 32) h (by decide), cond_false, nb_eq (k := 31) (n := 32) h (by decide), cond_false]
set_option maxRecDepth 100000 in
theorem ck_235 (pc : Nat) : ckI 235 pc = true := by
  by_cases h0 : 32 ≤ pc
  · exact ck_z (show pg 235 pc = _ from pz_235 pc h0)
  exact ck_at ck_235_0 (by omega) (by omega)
theorem ch_235 : ckH 235 = true := by decide +kernel
theorem ck_236_0 : (List.range 23).all (fun i => ckI 236 (0 + i)) = true := by decide +kernel
theorem pz_236 (pc : Nat) (h : 23 ≤ pc) : pg_236 pc = (0, 0, 0, 0, 0) := by
  unfold pg_236
  rw [nb_lt (k := 13) (n := 23) h (by decide), cond_false, nb_lt (k := 17) (n := 23) h (by decide), cond_false, nb_lt (k := 21) (n := 23) h (by decide), cond_false, nb_lt (k := 22) (n := 23) h (by decide), cond_false, nb_eq (k := 22) (n := 23) h (by decide), cond_false]
set_option maxRecDepth 100000 in
theorem ck_236 (pc : Nat) : ckI 236 pc = true := by
  by_cases h0 : 23 ≤ pc
  · exact ck_z (show pg 236 pc = _ from pz_236 pc h0)
  exact ck_at ck_236_0 (by omega) (by omega)
theorem ch_236 : ckH 236 = true := by decide +kernel
theorem ck_237_0 : (List.range 35).all (fun i => ckI 237 (0 + i)) = true := by decide +kernel
theorem pz_237 (pc : Nat) (h : 35 ≤ pc) : pg_237 pc = (0, 0, 0, 0, 0) := by
  unfold pg_237
  rw [nb_lt (k := 16) (n := 35) h (by decide), cond_false, nb_lt (k := 24) (n := 35) h (by decide), cond_false, nb_lt (k := 30) (n := 35) h (by decide), cond_false, nb_lt (k := 33) (n := 35) h (by decide), cond_false, nb_lt (k := 34) (n := 35) h (by decide), cond_false, nb_eq (k := 34) (n := 35) h (by decide), cond_false]
set_option maxRecDepth 100000 in
theorem ck_237 (pc : Nat) : ckI 237 pc = true := by
  by_cases h0 : 35 ≤ pc
  · exact ck_z (show pg 237 pc = _ from pz_237 pc h0)
  exact ck_at ck_237_0 (by omega) (by omega)
theorem ch_237 : ckH 237 = true := by decide +kernel
theorem ck_238_0 : (List.range 43).all (fun i => ckI 238 (0 + i)) = true := by decide +kernel
theorem pz_238 (pc : Nat) (h : 43 ≤ pc) : pg_238 pc = (0, 0, 0, 0, 0) := by
  unfold pg_238
  rw [nb_lt (k := 19) (n := 43) h (by decide), cond_false, nb_lt (k := 30) (n := 43) h (by decide), cond_false, nb_lt (k := 37) (n := 43) h (by decide), cond_false, nb_lt (k := 39) (n := 43) h (by decide), cond_false, nb_lt (k := 42) (n := 43) h (by decide), cond_false, nb_eq (k := 42) (n := 43) h (by decide), cond_false]
set_option maxRecDepth 100000 in
theorem ck_238 (pc : Nat) : ckI 238 pc = true := by
  by_cases h0 : 43 ≤ pc
  · exact ck_z (show pg 238 pc = _ from pz_238 pc h0)
  exact ck_at ck_238_0 (by omega) (by omega)
theorem ch_238 : ckH 238 = true := by decide +kernel
theorem ck_239_0 : (List.range 69).all (fun i => ckI 239 (0 + i)) = true := by decide +kernel
theorem pz_239 (pc : Nat) (h : 69 ≤ pc) : pg_239 pc = (0, 0, 0, 0, 0) := by
  unfold pg_239
  rw [nb_lt (k := 34) (n := 69) h (by decide), cond_false, nb_lt (k := 51) (n := 69) h (by decide), cond_false, nb_lt (k := 62) (n := 69) h (by decide), cond_false, nb_lt (k := 64) (n := 69) h (by decide), cond_false, nb_lt (k := 65) (n := 69) h (by decide), cond_false, nb_lt (k := 68) (n := 69) h (by decide), cond_false, nb_eq (k := 68) (n := 69) h (by decide), cond_false]
set_option maxRecDepth 100000 in
theorem ck_239 (pc : Nat) : ckI 239 pc = true := by
  by_cases h0 : 69 ≤ pc
  · exact ck_z (show pg 239 pc = _ from pz_239 pc h0)
  exact ck_at ck_239_0 (by omega) (by omega)
theorem ch_239 : ckH 239 = true := by decide +kernel
theorem ck_240_0 : (List.range 50).all (fun i => ckI 240 (0 + i)) = true := by decide +kernel
theorem pz_240 (pc : Nat) (h : 50 ≤ pc) : pg_240 pc = (0, 0, 0, 0, 0) := by
  unfold pg_240
  rw [nb_lt (k := 24) (n := 50) h (by decide), cond_false, nb_lt (k := 36) (n := 50) h (by decide), cond_false, nb_lt (k := 44) (n := 50) h (by decide), cond_false, nb_lt (k := 46) (n := 50) h (by decide), cond_false, nb_lt (k := 49) (n := 50) h (by decide), cond_false, nb_eq (k := 49) (n := 50) h (by decide), cond_false]
set_option maxRecDepth 100000 in
theorem ck_240 (pc : Nat) : ckI 240 pc = true := by
  by_cases h0 : 50 ≤ pc
  · exact ck_z (show pg 240 pc = _ from pz_240 pc h0)
  exact ck_at ck_240_0 (by omega) (by omega)
theorem ch_240 : ckH 240 = true := by decide +kernel
theorem ck_241_0 : (List.range 104).all (fun i => ckI 241 (0 + i)) = true := by decide +kernel
theorem ck_241_1 : (List.range 6).all (fun i => ckI 241 (104 + i)) = true := by decide +kernel
theorem pz_241 (pc : Nat) (h : 110 ≤ pc) : pg_241 pc = (0, 0, 0, 0, 0) := by
  unfold pg_241
  rw [nb_lt (k := 70) (n := 110) h (by decide), cond_false, nb_lt (k := 90) (n := 110) h (by decide), cond_false, nb_lt (k := 99) (n := 110) h (by decide), cond_false, nb_lt (k := 104) (n := 110) h (by decide), cond_false, nb_lt (k := 106) (n := 110) h (by decide), cond_false, nb_lt (k := 109) (n := 110) h (by decide), cond_false, nb_eq (k := 109) (n := 110) h (by decide), cond_false]
set_option maxRecDepth 100000 in
theorem ck_241 (pc : Nat) : ckI 241 pc = true := by
  by_cases h0 : 110 ≤ pc
  · exact ck_z (show pg 241 pc = _ from pz_241 pc h0)
  by_cases h1 : pc < 104
  · exact ck_at ck_241_0 (by omega) (by omega)
  exact ck_at ck_241_1 (by omega) (by omega)
theorem ch_241 : ckH 241 = true := by decide +kernel
theorem ck_242_0 : (List.range 87).all (fun i => ckI 242 (0 + i)) = true := by decide +kernel
theorem ck_242_1 : (List.range 8).all (fun i => ckI 242 (87 + i)) = true := by decide +kernel
theorem pz_242 (pc : Nat) (h : 95 ≤ pc) : pg_242 pc = (0, 0, 0, 0, 0) := by
  unfold pg_242
  rw [nb_lt (k := 48) (n := 95) h (by decide), cond_false, nb_lt (k := 72) (n := 95) h (by decide), cond_false, nb_lt (k := 86) (n := 95) h (by decide), cond_false, nb_lt (k := 91) (n := 95) h (by decide), cond_false, nb_lt (k := 93) (n := 95) h (by decide), cond_false, nb_lt (k := 94) (n := 95) h (by decide), cond_false, nb_eq (k := 94) (n := 95) h (by decide), cond_false]
set_option maxRecDepth 100000 in
theorem ck_242 (pc : Nat) : ckI 242 pc = true := by
  by_cases h0 : 95 ≤ pc
  · exact ck_z (show pg 242 pc = _ from pz_242 pc h0)
  by_cases h1 : pc < 87
  · exact ck_at ck_242_0 (by omega) (by omega)
  exact ck_at ck_242_1 (by omega) (by omega)
theorem ch_242 : ckH 242 = true := by decide +kernel
theorem ck_243_0 : (List.range 40).all (fun i => ckI 243 (0 + i)) = true := by decide +kernel
theorem pz_243 (pc : Nat) (h : 40 ≤ pc) : pg_243 pc = (0, 0, 0, 0, 0) := by
  unfold pg_243
  rw [nb_lt (k := 19) (n := 40) h (by decide), cond_false, nb_lt (k := 28) (n := 40) h (by decide), cond_false, nb_lt (k := 35) (n := 40) h (by decide), cond_false, nb_lt (k := 38) (n := 40) h (by decide), cond_false, nb_lt (k := 39) (n := 40) h (by decide), cond_false, nb_eq (k := 39) (n := 40) h (by decide), cond_false]
set_option maxRecDepth 100000 in
theorem ck_243 (pc : Nat) : ckI 243 pc = true := by
  by_cases h0 : 40 ≤ pc
  · exact ck_z (show pg 243 pc = _ from pz_243 pc h0)
  exact ck_at ck_243_0 (by omega) (by omega)
theorem ch_243 : ckH 243 = true := by decide +kernel
theorem ck_244_0 : (List.range 51).all (fun i => ckI 244 (0 + i)) = true := by decide +kernel
theorem pz_244 (pc : Nat) (h : 51 ≤ pc) : pg_244 pc = (0, 0, 0, 0, 0) := by
  unfold pg_244
  rw [nb_lt (k := 27) (n := 51) h (by decide), cond_false, nb_lt (k := 41) (n := 51) h (by decide), cond_false, nb_lt (k := 45) (n := 51) h (by decide), cond_false, nb_lt (k := 49) (n := 51) h (by decide), cond_false, nb_lt (k := 50) (n := 51) h (by decide), cond_false, nb_eq (k := 50) (n := 51) h (by decide), cond_false]
set_option maxRecDepth 100000 in
theorem ck_244 (pc : Nat) : ckI 244 pc = true := by
  by_cases h0 : 51 ≤ pc
  · exact ck_z (show pg 244 pc = _ from pz_244 pc h0)
  exact ck_at ck_244_0 (by omega) (by omega)
theorem ch_244 : ckH 244 = true := by decide +kernel
theorem ck_245_0 : (List.range 19).all (fun i => ckI 245 (0 + i)) = true := by decide +kernel
theorem pz_245 (pc : Nat) (h : 19 ≤ pc) : pg_245 pc = (0, 0, 0, 0, 0) := by
  unfold pg_245
  rw [nb_lt (k := 10) (n := 19) h (by decide), cond_false, nb_lt (k := 14) (n := 19) h (by decide), cond_false, nb_lt (k := 17) (n := 19) h (by decide), cond_false, nb_lt (k := 18) (n := 19) h (by decide), cond_false, nb_eq (k := 18) (n := 19) h (by decide), cond_false]
set_option maxRecDepth 100000 in
theorem ck_245 (pc : Nat) : ckI 245 pc = true := by
  by_cases h0 : 19 ≤ pc
  · exact ck_z (show pg 245 pc = _ from pz_245 pc h0)
  exact ck_at ck_245_0 (by omega) (by omega)
theorem ch_245 : ckH 245 = true := by decide +kernel
theorem ck_246_0 : (List.range 65).all (fun i => ckI 246 (0 + i)) = true := by decide +kernel
theorem pz_246 (pc : Nat) (h : 65 ≤ pc) : pg_246 pc = (0, 0, 0, 0, 0) := by
  unfold pg_246
  rw [nb_lt (k := 35) (n := 65) h (by decide), cond_false, nb_lt (k := 50) (n := 65) h (by decide), cond_false, nb_lt (k := 58) (n := 65) h (by decide), cond_false, nb_lt (k := 60) (n := 65) h (by decide), cond_false, nb_lt (k := 63) (n := 65) h (by decide), cond_false, nb_lt (k := 64) (n := 65) h (by decide), cond_false, nb_eq (k := 64) (n := 65) h (by decide), cond_false]
set_option maxRecDepth 100000 in
theorem ck_246 (pc : Nat) : ckI 246 pc = true := by
  by_cases h0 : 65 ≤ pc
  · exact ck_z (show pg 246 pc = _ from pz_246 pc h0)
  exact ck_at ck_246_0 (by omega) (by omega)
theorem ch_246 : ckH 246 = true := by decide +kernel
theorem ck_247_0 : (List.range 46).all (fun i => ckI 247 (0 + i)) = true := by decide +kernel
theorem pz_247 (pc : Nat) (h : 46 ≤ pc) : pg_247 pc = (0, 0, 0, 0, 0) := by
  unfold pg_247
  rw [nb_lt (k := 23) (n := 46) h (by decide), cond_false, nb_lt (k := 31) (n := 46) h (by decide), cond_false, nb_lt (k := 36) (n := 46) h (by decide), cond_false, nb_lt (k := 42) (n := 46) h (by decide), cond_false, nb_lt (k := 45) (n := 46) h (by decide), cond_false, nb_eq (k := 45) (n := 46) h (by decide), cond_false]
set_option maxRecDepth 100000 in
theorem ck_247 (pc : Nat) : ckI 247 pc = true := by
  by_cases h0 : 46 ≤ pc
  · exact ck_z (show pg 247 pc = _ from pz_247 pc h0)
  exact ck_at ck_247_0 (by omega) (by omega)
theorem ch_247 : ckH 247 = true := by decide +kernel
theorem ck_248_0 : (List.range 49).all (fun i => ckI 248 (0 + i)) = true := by decide +kernel
theorem pz_248 (pc : Nat) (h : 49 ≤ pc) : pg_248 pc = (0, 0, 0, 0, 0) := by
  unfold pg_248
  rw [nb_lt (k := 25) (n := 49) h (by decide), cond_false, nb_lt (k := 38) (n := 49) h (by decide), cond_false, nb_lt (k := 43) (n := 49) h (by decide), cond_false, nb_lt (k := 45) (n := 49) h (by decide), cond_false, nb_lt (k := 48) (n := 49) h (by decide), cond_false, nb_eq (k := 48) (n := 49) h (by decide), cond_false]
set_option maxRecDepth 100000 in
theorem ck_248 (pc : Nat) : ckI 248 pc = true := by
  by_cases h0 : 49 ≤ pc
  · exact ck_z (show pg 248 pc = _ from pz_248 pc h0)
  exact ck_at ck_248_0 (by omega) (by omega)
theorem ch_248 : ckH 248 = true := by decide +kernel
theorem ck_249_0 : (List.range 6).all (fun i => ckI 249 (0 + i)) = true := by decide +kernel
theorem pz_249 (pc : Nat) (h : 6 ≤ pc) : pg_249 pc = (0, 0, 0, 0, 0) := by
  unfold pg_249
  rw [nb_lt (k := 3) (n := 6) h (by decide), cond_false, nb_lt (k := 4) (n := 6) h (by decide), cond_false, nb_lt (k := 5) (n := 6) h (by decide), cond_false, nb_eq (k := 5) (n := 6) h (by decide), cond_false]
set_option maxRecDepth 100000 in
theorem ck_249 (pc : Nat) : ckI 249 pc = true := by
  by_cases h0 : 6 ≤ pc
  · exact ck_z (show pg 249 pc = _ from pz_249 pc h0)
  exact ck_at ck_249_0 (by omega) (by omega)
theorem ch_249 : ckH 249 = true := by decide +kernel
theorem ck_250_0 : (List.range 4).all (fun i => ckI 250 (0 + i)) = true := by decide +kernel
theorem pz_250 (pc : Nat) (h : 4 ≤ pc) : pg_250 pc = (0, 0, 0, 0, 0) := by
  unfold pg_250
  rw [nb_lt (k := 2) (n := 4) h (by decide), cond_false, nb_lt (k := 3) (n := 4) h (by decide), cond_false, nb_eq (k := 3) (n := 4) h (by decide), cond_false]
set_option maxRecDepth 100000 in
theorem ck_250 (pc : Nat) : ckI 250 pc = true := by
  by_cases h0 : 4 ≤ pc
  · exact ck_z (show pg 250 pc = _ from pz_250 pc h0)
  exact ck_at ck_250_0 (by omega) (by omega)
theorem ch_250 : ckH 250 = true := by decide +kernel
theorem ck_251_0 : (List.range 5).all (fun i => ckI 251 (0 + i)) = true := by decide +kernel
theorem pz_251 (pc : Nat) (h : 5 ≤ pc) : pg_251 pc = (0, 0, 0, 0, 0) := by
  unfold pg_251
  rw [nb_lt (k := 3) (n := 5) h (by decide), cond_false, nb_lt (k := 4) (n := 5) h (by decide), cond_false, nb_eq (k := 4) (n := 5) h (by decide), cond_false]
set_option maxRecDepth 100000 in
theorem ck_251 (pc : Nat) : ckI 251 pc = true := by
  by_cases h0 : 5 ≤ pc
  · exact ck_z (show pg 251 pc = _ from pz_251 pc h0)
  exact ck_at ck_251_0 (by omega) (by omega)
theorem ch_251 : ckH 251 = true := by decide +kernel
theorem ck_252_0 : (List.range 32).all (fun i => ckI 252 (0 + i)) = true := by decide +kernel
theorem pz_252 (pc : Nat) (h : 32 ≤ pc) : pg_252 pc = (0, 0, 0, 0, 0) := by
  unfold pg_252
  rw [nb_lt (k := 17) (n := 32) h (by decide), cond_false, nb_lt (k := 25) (n := 32) h (by decide), cond_false, nb_lt (k := 27) (n := 32) h (by decide), cond_false, nb_lt (k := 30) (n := 32) h (by decide), cond_false, nb_lt (k := 31) (n := 32) h (by decide), cond_false, nb_eq (k := 31) (n := 32) h (by decide), cond_false]
set_option maxRecDepth 100000 in
theorem ck_252 (pc : Nat) : ckI 252 pc = true := by
  by_cases h0 : 32 ≤ pc
  · exact ck_z (show pg 252 pc = _ from pz_252 pc h0)
  exact ck_at ck_252_0 (by omega) (by omega)
theorem ch_252 : ckH 252 = true := by decide +kernel
