theorem ck_253_0 : (List.range 32).all (fun i => ckI 253 (0 + i)) = true := by decide +kernel
theorem pz_253 (pc : Nat) (h : 32 ≤ pc) : pg_253 pc = (0, 0, 0, 0, 0) := by
  unfold pg_253
  rw [nb_lt (k := 17) (n := 32) h (by decide), cond_false, nb_lt (k := 25) (n := 32) h (by decide), cond_false, nb_lt (k := 27) (n := 32) h (by decide), cond_false, nb_lt (k := 30) (n := 32) h (by decide), cond_false, nb_lt (k := 31) (n := 32) h (by decide), cond_false, nb_eq (k := 31) (n := 32) h (by decide), cond_false]
set_option maxRecDepth 100000 in
theorem ck_253 (pc : Nat) : ckI 253 pc = true := by
  by_cases h0 : 32 ≤ pc
  · exact ck_z (show pg 253 pc = _ from pz_253 pc h0)
  exact ck_at ck_253_0 (by omega) (by omega)
theorem ch_253 : ckH 253 = true := by decide +kernel
theorem ck_254_0 : (List.range 10).all (fun i => ckI 254 (0 + i)) = true := by decide +kernel
theorem pz_254 (pc : Nat) (h : 10 ≤ pc) : pg_254 pc = (0, 0, 0, 0, 0) := by
  unfold pg_254
  rw [nb_lt (k := 5) (n := 10) h (by decide), cond_false, nb_lt (k := 6) (n := 10) h (by decide), cond_false, nb_lt (k := 9) (n := 10) h (by decide), cond_false, nb_eq (k := 9) (n := 10) h (by decide), cond_false]
set_option maxRecDepth 100000 in
theorem ck_254 (pc : Nat) : ckI 254 pc = true := by
  by_cases h0 : 10 ≤ pc
  · exact ck_z (show pg 254 pc = _ from pz_254 pc h0)
  exact ck_at ck_254_0 (by omega) (by omega)
theorem ch_254 : ckH 254 = true := by decide +kernel
theorem ck_255_0 : (List.range 59).all (fun i => ckI 255 (0 + i)) = true := by decide +kernel
theorem pz_255 (pc : Nat) (h : 59 ≤ pc) : pg_255 pc = (0, 0, 0, 0, 0) := by
  unfold pg_255
  rw [nb_lt (k := 32) (n := 59) h (by decide), cond_false, nb_lt (k := 44) (n := 59) h (by decide), cond_false, nb_lt (k := 50) (n := 59) h (by decide), cond_false, nb_lt (k := 54) (n := 59) h (by decide), cond_false, nb_lt (k := 55) (n := 59) h (by decide), cond_false, nb_lt (k := 58) (n := 59) h (by decide), cond_false, nb_eq (k := 58) (n := 59) h (by decide), cond_false]
set_option maxRecDepth 100000 in
theorem ck_255 (pc : Nat) : ckI 255 pc = true := by
  by_cases h0 : 59 ≤ pc
  · exact ck_z (show pg 255 pc = _ from pz_255 pc h0)
  exact ck_at ck_255_0 (by omega) (by omega)
theorem ch_255 : ckH 255 = true := by decide +kernel
theorem ck_256_0 : (List.range 31).all (fun i => ckI 256 (0 + i)) = true := by decide +kernel
theorem pz_256 (pc : Nat) (h : 31 ≤ pc) : pg_256 pc = (0, 0, 0, 0, 0) := by
  unfold pg_256
  rw [nb_lt (k := 12) (n := 31) h (by decide), cond_false, nb_lt (k := 18) (n := 31) h (by decide), cond_false, nb_lt (k := 24) (n := 31) h (by decide), cond_false, nb_lt (k := 27) (n := 31) h (by decide), cond_false, nb_lt (k := 30) (n := 31) h (by decide), cond_false, nb_eq (k := 30) (n := 31) h (by decide), cond_false]
set_option maxRecDepth 100000 in
theorem ck_256 (pc : Nat) : ckI 256 pc = true := by
  by_cases h0 : 31 ≤ pc
  · exact ck_z (show pg 256 pc = _ from pz_256 pc h0)
  exact ck_at ck_256_0 (by omega) (by omega)
theorem ch_256 : ckH 256 = true := by decide +kernel
theorem ck_257_0 : (List.range 74).all (fun i => ckI 257 (0 + i)) = true := by decide +kernel
theorem ck_257_1 : (List.range 13).all (fun i => ckI 257 (74 + i)) = true := by decide +kernel
theorem pz_257 (pc : Nat) (h : 87 ≤ pc) : pg_257 pc = (0, 0, 0, 0, 0) := by
  unfold pg_257
  rw [nb_lt (k := 45) (n := 87) h (by decide), cond_false, nb_lt (k := 66) (n := 87) h (by decide), cond_false, nb_lt (k := 77) (n := 87) h (by decide), cond_false, nb_lt (k := 81) (n := 87) h (by decide), cond_false, nb_lt (k := 85) (n := 87) h (by decide), cond_false, nb_lt (k := 86) (n := 87) h (by decide), cond_false, nb_eq (k := 86) (n := 87) h (by decide), cond_false]
set_option maxRecDepth 100000 in
theorem ck_257 (pc : Nat) : ckI 257 pc = true := by
  by_cases h0 : 87 ≤ pc
  · exact ck_z (show pg 257 pc = _ from pz_257 pc h0)
  by_cases h1 : pc < 74
  · exact ck_at ck_257_0 (by omega) (by omega)
  exact ck_at ck_257_1 (by omega) (by omega)
theorem ch_257 : ckH 257 = true := by decide +kernel
theorem ck_258_0 : (List.range 73).all (fun i => ckI 258 (0 + i)) = true := by decide +kernel
theorem ck_258_1 : (List.range 9).all (fun i => ckI 258 (73 + i)) = true := by decide +kernel
theorem pz_258 (pc : Nat) (h : 82 ≤ pc) : pg_258 pc = (0, 0, 0, 0, 0) := by
  unfold pg_258
  rw [nb_lt (k := 41) (n := 82) h (by decide), cond_false, nb_lt (k := 63) (n := 82) h (by decide), cond_false, nb_lt (k := 71) (n := 82) h (by decide), cond_false, nb_lt (k := 74) (n := 82) h (by decide), cond_false, nb_lt (k := 78) (n := 82) h (by decide), cond_false, nb_lt (k := 81) (n := 82) h (by decide), cond_false, nb_eq (k := 81) (n := 82) h (by decide), cond_false]
set_option maxRecDepth 100000 in
theorem ck_258 (pc : Nat) : ckI 258 pc = true := by
  by_cases h0 : 82 ≤ pc
  · exact ck_z (show pg 258 pc = _ from pz_258 pc h0)
  by_cases h1 : pc < 73
  · exact ck_at ck_258_0 (by omega) (by omega)
  exact ck_at ck_258_1 (by omega) (by omega)
theorem ch_258 : ckH 258 = true := by decide +kernel
theorem ck_259_0 : (List.range 20).all (fun i => ckI 259 (0 + i)) = true := by decide +kernel
theorem pz_259 (pc : Nat) (h : 20 ≤ pc) : pg_259 pc = (0, 0, 0, 0, 0) := by
  unfold pg_259
  rw [nb_lt (k := 10) (n := 20) h (by decide), cond_false, nb_lt (k := 15) (n := 20) h (by decide), cond_false, nb_lt (k := 18) (n := 20) h (by decide), cond_false, nb_lt (k := 19) (n := 20) h (by decide), cond_false, nb_eq (k := 19) (n := 20) h (by decide), cond_false]
set_option maxRecDepth 100000 in
theorem ck_259 (pc : Nat) : ckI 259 pc = true := by
  by_cases h0 : 20 ≤ pc
  · exact ck_z (show pg 259 pc = _ from pz_259 pc h0)
  exact ck_at ck_259_0 (by omega) (by omega)
theorem ch_259 : ckH 259 = true := by decide +kernel
theorem ck_260_0 : (List.range 42).all (fun i => ckI 260 (0 + i)) = true := by decide +kernel
theorem pz_260 (pc : Nat) (h : 42 ≤ pc) : pg_260 pc = (0, 0, 0, 0, 0) := by
  unfold pg_260
  rw [nb_lt (k := 21) (n := 42) h (by decide), cond_false, nb_lt (k := 30) (n := 42) h (by decide), cond_false, nb_lt (k := 37) (n := 42) h (by decide), cond_false, nb_lt (k := 40) (n := 42) h (by decide), cond_false, nb_lt (k := 41) (n := 42) h (by decide), cond_false, nb_eq (k := 41) (n := 42) h (by decide), cond_false]
set_option maxRecDepth 100000 in
theorem ck_260 (pc : Nat) : ckI 260 pc = true := by
  by_cases h0 : 42 ≤ pc
  · exact ck_z (show pg 260 pc = _ from pz_260 pc h0)
  exact ck_at ck_260_0 (by omega) (by omega)
theorem ch_260 : ckH 260 = true := by decide +kernel
theorem ck_261_0 : (List.range 30).all (fun i => ckI 261 (0 + i)) = true := by decide +kernel
theorem pz_261 (pc : Nat) (h : 30 ≤ pc) : pg_261 pc = (0, 0, 0, 0, 0) := by
  unfold pg_261
  rw [nb_lt (k := 12) (n := 30) h (by decide), cond_false, nb_lt (k := 21) (n := 30) h (by decide), cond_false, nb_lt (k := 26) (n := 30) h (by decide), cond_false, nb_lt (k := 29) (n := 30) h (by decide), cond_false, nb_eq (k := 29) (n := 30) h (by decide), cond_false]
set_option maxRecDepth 100000 in
theorem ck_261 (pc : Nat) : ckI 261 pc = true := by
  by_cases h0 : 30 ≤ pc
  · exact ck_z (show pg 261 pc = _ from pz_261 pc h0)
  exact ck_at ck_261_0 (by omega) (by omega)
theorem ch_261 : ckH 261 = true := by decide +kernel
theorem ck_262_0 : (List.range 85).all (fun i => ckI 262 (0 + i)) = true := by decide +kernel
theorem ck_262_1 : (List.range 11).all (fun i => ckI 262 (85 + i)) = true := by decide +kernel
theorem pz_262 (pc : Nat) (h : 96 ≤ pc) : pg_262 pc = (0, 0, 0, 0, 0) := by
  unfold pg_262
  rw [nb_lt (k := 47) (n := 96) h (by decide), cond_false, nb_lt (k := 71) (n := 96) h (by decide), cond_false, nb_lt (k := 82) (n := 96) h (by decide), cond_false, nb_lt (k := 88) (n := 96) h (by decide), cond_false, nb_lt (k := 94) (n := 96) h (by decide), cond_false, nb_lt (k := 95) (n := 96) h (by decide), cond_false, nb_eq (k := 95) (n := 96) h (by decide), cond_false]
set_option maxRecDepth 100000 in
theorem ck_262 (pc : Nat) : ckI 262 pc = true := by
  by_cases h0 : 96 ≤ pc
  · exact ck_z (show pg 262 pc = _ from pz_262 pc h0)
  by_cases h1 : pc < 85
  · exact ck_at ck_262_0 (by omega) (by omega)
  exact ck_at ck_262_1 (by omega) (by omega)
theorem ch_262 : ckH 262 = true := by decide +kernel
theorem ck_263_0 : (List.range 75).all (fun i => ckI 263 (0 + i)) = true := by decide +kernel
theorem pz_263 (pc : Nat) (h : 75 ≤ pc) : pg_263 pc = (0, 0, 0, 0, 0) := by
  unfold pg_263
  rw [nb_lt (k := 38) (n := 75) h (by decide), cond_false, nb_lt (k := 54) (n := 75) h (by decide), cond_false, nb_lt (k := 66) (n := 75) h (by decide), cond_false, nb_lt (k := 70) (n := 75) h (by decide), cond_false, nb_lt (k := 73) (n := 75) h (by decide), cond_false, nb_lt (k := 74) (n := 75) h (by decide), cond_false, nb_eq (k := 74) (n := 75) h (by decide), cond_false]
set_option maxRecDepth 100000 in
theorem ck_263 (pc : Nat) : ckI 263 pc = true := by
  by_cases h0 : 75 ≤ pc
  · exact ck_z (show pg 263 pc = _ from pz_263 pc h0)
  exact ck_at ck_263_0 (by omega) (by omega)
theorem ch_263 : ckH 263 = true := by decide +kernel
theorem ck_264_0 : (List.range 81).all (fun i => ckI 264 (0 + i)) = true := by decide +kernel
theorem pz_264 (pc : Nat) (h : 81 ≤ pc) : pg_264 pc = (0, 0, 0, 0, 0) := by
  unfold pg_264
  rw [nb_lt (k := 36) (n := 81) h (by decide), cond_false, nb_lt (k := 57) (n := 81) h (by decide), cond_false, nb_lt (k := 67) (n := 81) h (by decide), cond_false, nb_lt (k := 76) (n := 81) h (by decide), cond_false, nb_lt (k := 79) (n := 81) h (by decide), cond_false, nb_lt (k := 80) (n := 81) h (by decide), cond_false, nb_eq (k := 80) (n := 81) h (by decide), cond_false]
set_option maxRecDepth 100000 in
theorem ck_264 (pc : Nat) : ckI 264 pc = true := by
  by_cases h0 : 81 ≤ pc
  · exact ck_z (show pg 264 pc = _ from pz_264 pc h0)
  exact ck_at ck_264_0 (by omega) (by omega)
theorem ch_264 : ckH 264 = true := by decide +kernel
theorem ck_265_0 : (List.range 90).all (fun i => ckI 265 (0 + i)) = true := by decide +kernel
theorem ck_265_1 : (List.range 7).all (fun i => ckI 265 (90 + i)) = true := by decide +kernel
theorem pz_265 (pc : Nat) (h : 97 ≤ pc) : pg_265 pc = (0, 0, 0, 0, 0) := by
  unfold pg_265
  rw [nb_lt (k := 48) (n := 97) h (by decide), cond_false, nb_lt (k := 71) (n := 97) h (by decide), cond_false, nb_lt (k := 83) (n := 97) h (by decide), cond_false, nb_lt (k := 90) (n := 97) h (by decide), cond_false, nb_lt (k := 94) (n := 97) h (by decide), cond_false, nb_lt (k := 96) (n := 97) h (by decide), cond_false, nb_eq (k := 96) (n := 97) h (by decide), cond_false]
set_option maxRecDepth 100000 in
theorem ck_265 (pc : Nat) : ckI 265 pc = true := by
  by_cases h0 : 97 ≤ pc
  · exact ck_z (show pg 265 pc = _ from pz_265 pc h0)
  by_cases h1 : pc < 90
  · exact ck_at ck_265_0 (by omega) (by omega)
  exact ck_at ck_265_1 (by omega) (by omega)
theorem ch_265 : ckH 265 = true := by decide +kernel
theorem ck_266_0 : (List.range 23).all (fun i => ckI 266 (0 + i)) = true := by decide +kernel
theorem pz_266 (pc : Nat) (h : 23 ≤ pc) : pg_266 pc = (0, 0, 0, 0, 0) := by
  unfold pg_266
  rw [nb_lt (k := 11) (n := 23) h (by decide), cond_false, nb_lt (k := 18) (n := 23) h (by decide), cond_false, nb_lt (k := 19) (n := 23) h (by decide), cond_false, nb_lt (k := 22) (n := 23) h (by decide), cond_false, nb_eq (k := 22) (n := 23) h (by decide), cond_false]
set_option maxRecDepth 100000 in
theorem ck_266 (pc : Nat) : ckI 266 pc = true := by
  by_cases h0 : 23 ≤ pc
  · exact ck_z (show pg 266 pc = _ from pz_266 pc h0)
  exact ck_at ck_266_0 (by omega) (by omega)
theorem ch_266 : ckH 266 = true := by decide +kernel
theorem ck_267_0 : (List.range 60).all (fun i => ckI 267 (0 + i)) = true := by decide +kernel
theorem pz_267 (pc : Nat) (h : 60 ≤ pc) : pg_267 pc = (0, 0, 0, 0, 0) := by
  unfold pg_267
  rw [nb_lt (k := 25) (n := 60) h (by decide), cond_false, nb_lt (k := 41) (n := 60) h (by decide), cond_false, nb_lt (k := 51) (n := 60) h (by decide), cond_false, nb_lt (k := 57) (n := 60) h (by decide), cond_false, nb_lt (k := 59) (n := 60) h (by decide), cond_false, nb_eq (k := 59) (n := 60) h (by decide), cond_false]
set_option maxRecDepth 100000 in
theorem ck_267 (pc : Nat) : ckI 267 pc = true := by
  by_cases h0 : 60 ≤ pc
  · exact ck_z (show pg 267 pc = _ from pz_267 pc h0)
  exact ck_at ck_267_0 (by omega) (by omega)
theorem ch_267 : ckH 267 = true := by decide +kernel
theorem ck_268_0 : (List.range 84).all (fun i => ckI 268 (0 + i)) = true := by decide +kernel
theorem ck_268_1 : (List.range 68).all (fun i => ckI 268 (84 + i)) = true := by decide +kernel
theorem pz_268 (pc : Nat) (h : 152 ≤ pc) : pg_268 pc = (0, 0, 0, 0, 0) := by
  unfold pg_268
  rw [nb_lt (k := 71) (n := 152) h (by decide), cond_false, nb_lt (k := 108) (n := 152) h (by decide), cond_false, nb_lt (k := 128) (n := 152) h (by decide), cond_false, nb_lt (k := 140) (n := 152) h (by decide), cond_false, nb_lt (k := 146) (n := 152) h (by decide), cond_false, nb_lt (k := 149) (n := 152) h (by decide), cond_false, nb_lt (k := 151) (n := 152) h (by decide), cond_false, nb_eq (k := 151) (n := 152) h (by decide), cond_false]
set_option maxRecDepth 100000 in
theorem ck_268 (pc : Nat) : ckI 268 pc = true := by
  by_cases h0 : 152 ≤ pc
  · exact ck_z (show pg 268 pc = _ from pz_268 pc h0)
  by_cases h1 : pc < 84
  · exact ck_at ck_268_0 (by omega) (by omega)
  exact ck_at ck_268_1 (by omega) (by omega)
theorem ch_268 : ckH 268 = true := by decide +kernel
theorem ck_269_0 : (List.range 67).all (fun i => ckI 269 (0 + i)) = true := by decide +kernel
theorem pz_269 (pc : Nat) (h : 67 ≤ pc) : pg_269 pc = (0, 0, 0, 0, 0) := by
  unfold pg_269
  rw [nb_lt (k := 31) (n := 67) h (by decide), cond_false, nb_lt (k := 47) (n := 67) h (by decide), cond_false, nb_lt (k := 56) (n := 67) h (by decide), cond_false, nb_lt (k := 62) (n := 67) h (by decide), cond_false, nb_lt (k := 63) (n := 67) h (by decide), cond_false, nb_lt (k := 66) (n := 67) h (by decide), cond_false, nb_eq (k := 66) (n := 67) h (by decide), cond_false]
set_option maxRecDepth 100000 in
theorem ck_269 (pc : Nat) : ckI 269 pc = true := by
  by_cases h0 : 67 ≤ pc
  · exact ck_z (show pg 269 pc = _ from pz_269 pc h0)
  exact ck_at ck_269_0 (by omega) (by omega)
theorem ch_269 : ckH 269 = true := by decide +kernel
theorem ck_270_0 : (List.range 32).all (fun i => ckI 270 (0 + i)) = true := by decide +kernel
theorem pz_270 (pc : Nat) (h : 32 ≤ pc) : pg_270 pc = (0, 0, 0, 0, 0) := by
  unfold pg_270
  rw [nb_lt (k := 15) (n := 32) h (by decide), cond_false, nb_lt (k := 23) (n := 32) h (by decide), cond_false, nb_lt (k := 27) (n := 32) h (by decide), cond_false, nb_lt (k := 30) (n := 32) h (by decide), cond_false, nb_lt (k := 31) (n := 32) h (by decide), cond_false, nb_eq (k := 31) (n := 32) h (by decide), cond_false]
set_option maxRecDepth 100000 in
theorem ck_270 (pc : Nat) : ckI 270 pc = true := by
  by_cases h0 : 32 ≤ pc
  · exact ck_z (show pg 270 pc = _ from pz_270 pc h0)
  exact ck_at ck_270_0 (by omega) (by omega)
theorem ch_270 : ckH 270 = true := by decide +kernel
theorem ck_271_0 : (List.range 45).all (fun i => ckI 271 (0 + i)) = true := by decide +kernel
theorem pz_271 (pc : Nat) (h : 45 ≤ pc) : pg_271 pc = (0, 0, 0, 0, 0) := by
  unfold pg_271
  rw [nb_lt (k := 20) (n := 45) h (by decide), cond_false, nb_lt (k := 33) (n := 45) h (by decide), cond_false, nb_lt (k := 39) (n := 45) h (by decide), cond_false, nb_lt (k := 42) (n := 45) h (by decide), cond_false, nb_lt (k := 44) (n := 45) h (by decide), cond_false, nb_eq (k := 44) (n := 45) h (by decide), cond_false]
set_option maxRecDepth 100000 in
theorem ck_271 (pc : Nat) : ckI 271 pc = true := by
  by_cases h0 : 45 ≤ pc
  · exact ck_z (show pg 271 pc = _ from pz_271 pc h0)
  exact ck_at ck_271_0 (by omega) (by omega)
theorem ch_271 : ckH 271 = true := by decide +kernel
theorem ck_272_0 : (List.range 70).all (fun i => ckI 272 (0 + i)) = true := by decide +kernel
theorem pz_272 (pc : Nat) (h : 70 ≤ pc) : pg_272 pc = (0, 0, 0, 0, 0) := by
  unfold pg_272
  rw [nb_lt (k := 31) (n := 70) h (by decide), cond_false, nb_lt (k := 49) (n := 70) h (by decide), cond_false, nb_lt (k := 59) (n := 70) h (by decide), cond_false, nb_lt (k := 65) (n := 70) h (by decide), cond_false, nb_lt (k := 68) (n := 70) h (by decide), cond_false, nb_lt (k := 69) (n := 70) h (by decide), cond_false, nb_eq (k := 69) (n := 70) h (by decide), cond_false]
set_option maxRecDepth 100000 in
theorem ck_272 (pc : Nat) : ckI 272 pc = true := by
  by_cases h0 : 70 ≤ pc
  · exact ck_z (show pg 272 pc = _ from pz_272 pc h0)
  exact ck_at ck_272_0 (by omega) (by omega)
theorem ch_272 : ckH 272 = true := by decide +kernel
theorem ck_273_0 : (List.range 6).all (fun i => ckI 273 (0 + i)) = true := by decide +kernel
theorem pz_273 (pc : Nat) (h : 6 ≤ pc) : pg_273 pc = (0, 0, 0, 0, 0) := by
  unfold pg_273
  rw [nb_lt (k := 3) (n := 6) h (by decide), cond_false, nb_lt (k := 4) (n := 6) h (by decide), cond_false, nb_lt (k := 5) (n := 6) h (by decide), cond_false, nb_eq (k := 5) (n := 6) h (by decide), cond_false]
set_option maxRecDepth 100000 in
theorem ck_273 (pc : Nat) : ckI 273 pc = true := by
  by_cases h0 : 6 ≤ pc
  · exact ck_z (show pg 273 pc = _ from pz_273 pc h0)
  exact ck_at ck_273_0 (by omega) (by omega)
theorem ch_273 : ckH 273 = true := by decide +kernel
theorem ck_274_0 : (List.range 8).all (fun i => ckI 274 (0 + i)) = true := by decide +kernel
theorem pz_274 (pc : Nat) (h : 8 ≤ pc) : pg_274 pc = (0, 0, 0, 0, 0) := by
  unfold pg_274
  rw [nb_lt (k := 4) (n := 8) h (by decide), cond_false, nb_lt (k := 6) (n := 8) h (by decide), cond_false, nb_lt (k := 7) (n := 8) h (by decide), cond_false, nb_eq (k := 7) (n := 8) h (by decide), cond_false]
set_option maxRecDepth 100000 in
theorem ck_274 (pc : Nat) : ckI 274 pc = true := by
  by_cases h0 : 8 ≤ pc
  · exact ck_z (show pg 274 pc = _ from pz_274 pc h0)
  exact ck_at ck_274_0 (by omega) (by omega)
theorem ch_274 : ckH 274 = true := by decide +kernel
theorem ck_275_0 : (List.range 6).all (fun i => ckI 275 (0 + i)) = true := by decide +kernel
theorem pz_275 (pc : Nat) (h : 6 ≤ pc) : pg_275 pc = (0, 0, 0, 0, 0) := by
  unfold pg_275
  rw [nb_lt (k := 4) (n := 6) h (by decide), cond_false, nb_lt (k := 5) (n := 6) h (by decide), cond_false, nb_eq (k := 5) (n := 6) h (by decide), cond_false]
set_option maxRecDepth 100000 in
theorem ck_275 (pc : Nat) : ckI 275 pc = true := by
  by_cases h0 : 6 ≤ pc
  · exact ck_z (show pg 275 pc = _ from pz_275 pc h0)
  exact ck_at ck_275_0 (by omega) (by omega)
theorem ch_275 : ckH 275 = true := by decide +kernel
theorem ck_276_0 : (List.range 18).all (fun i => ckI 276 (0 + i)) = true := by decide +kernel
theorem pz_276 (pc : Nat) (h : 18 ≤ pc) : pg_276 pc = (0, 0, 0, 0, 0) := by
  unfold pg_276
  rw [nb_lt (k := 9) (n := 18) h (by decide), cond_false, nb_lt (k := 13) (n := 18) h (by decide), cond_false, nb_lt (k := 16) (n := 18) h (by decide), cond_false, nb_lt (k := 17) (n := 18) h (by decide), cond_false, nb_eq (k := 17) (n := 18) h (by decide), cond_false]
set_option maxRecDepth 100000 in
theorem ck_276 (pc : Nat) : ckI 276 pc = true := by
  by_cases h0 : 18 ≤ pc
  · exact ck_z (show pg 276 pc = _ from pz_276 pc h0)
  exact ck_at ck_276_0 (by omega) (by omega)
theorem ch_276 : ckH 276 = true := by decide +kernel
theorem ck_277_0 : (List.range 32).all (fun i => ckI 277 (0 + i)) = true := by decide +kernel
theorem pz_277 (pc : Nat) (h : 32 ≤ pc) : pg_277 pc = (0, 0, 0, 0, 0) := by
  unfold pg_277
  rw [nb_lt (k := 17) (n := 32) h (by decide), cond_false, nb_lt (k := 25) (n := 32) h (by decide), cond_false, nb_lt (k := 28) (n := 32) h (by decide), cond_false, nb_lt (k := 30) (n := 32) h (by decide), cond_false, nb_lt (k := 31) (n := 32) h (by decide), cond_false, nb_eq (k := 31) (n := 32) h (by decide), cond_false]
set_option maxRecDepth 100000 in
theorem ck_277 (pc : Nat) : ckI 277 pc = true := by
  by_cases h0 : 32 ≤ pc
  · exact ck_z (show pg 277 pc = _ from pz_277 pc h0)
  exact ck_at ck_277_0 (by omega) (by omega)
theorem ch_277 : ckH 277 = true := by decide +kernel
theorem ck_278_0 : (List.range 65).all (fun i => ckI 278 (0 + i)) = true := by decide +kernel
theorem ck_278_1 : (List.range 15).all (fun i => ckI 278 (65 + i)) = true := by decide +kernel
theorem pz_278 (pc : Nat) (h : 80 ≤ pc) : pg_278 pc = (0, 0, 0, 0, 0) := by
  unfold pg_278
  rw [nb_lt (k := 40) (n := 80) h (by decide), cond_false, nb_lt (k := 63) (n := 80) h (by decide), cond_false, nb_lt (k := 71) (n := 80) h (by decide), cond_false, nb_lt (k := 76) (n := 80) h (by decide), cond_false, nb_lt (k := 78) (n := 80) h (by decide), cond_false, nb_lt (k := 79) (n := 80) h (by decide), cond_false, nb_eq (k := 79) (n := 80) h (by decide), cond_false]
set_option maxRecDepth 100000 in
theorem ck_278 (pc : Nat) : ckI 278 pc = true := by
  by_cases h0 : 80 ≤ pc
  · exact ck_z (show pg 278 pc = _ from pz_278 pc h0)
  by_cases h1 : pc < 65
  · exact ck_at ck_278_0 (by omega) (by omega)
  exact ck_at ck_278_1 (by omega) (by omega)
theorem ch_278 : ckH 278 = true := by decide +kernel
theorem ck_279_0 : (List.range 56).all (fun i => ckI 279 (0 + i)) = true := by decide +kernel
theorem pz_279 (pc : Nat) (h : 56 ≤ pc) : pg_279 pc = (0, 0, 0, 0, 0) := by
  unfold pg_279
  rw [nb_lt (k := 30) (n := 56) h (by decide), cond_false, nb_lt (k := 42) (n := 56) h (by decide), cond_false, nb_lt (k := 47) (n := 56) h (by decide), cond_false, nb_lt (k := 51) (n := 56) h (by decide), cond_false, nb_lt (k := 54) (n := 56) h (by decide), cond_false, nb_lt (k := 55) (n := 56) h (by decide), cond_false, nb_eq (k := 55) (n := 56) h (by decide), cond_false]
set_option maxRecDepth 100000 in
theorem ck_279 (pc : Nat) : ckI 279 pc = true := by
  by_cases h0 : 56 ≤ pc
  · exact ck_z (show pg 279 pc = _ from pz_279 pc h0)
  exact ck_at ck_279_0 (by omega) (by omega)
theorem ch_279 : ckH 279 = true := by decide +kernel
theorem ck_280_0 : (List.range 78).all (fun i => ckI 280 (0 + i)) = true := by decide +kernel
theorem pz_280 (pc : Nat) (h : 78 ≤ pc) : pg_280 pc = (0, 0, 0, 0, 0) := by
  unfold pg_280
  rw [nb_lt (k := 37) (n := 78) h (by decide), cond_false, nb_lt (k := 52) (n := 78) h (by decide), cond_false, nb_lt (k := 64) (n := 78) h (by decide), cond_false, nb_lt (k := 71) (n := 78) h (by decide), cond_false, nb_lt (k := 74) (n := 78) h (by decide), cond_false, nb_lt (k := 77) (n := 78) h (by decide), cond_false, nb_eq (k := 77) (n := 78) h (by decide), cond_false]
set_option maxRecDepth 100000 in
theorem ck_280 (pc : Nat) : ckI 280 pc = true := by
  by_cases h0 : 78 ≤ pc
  · exact ck_z (show pg 280 pc = _ from pz_280 pc h0)
  exact ck_at ck_280_0 (by omega) (by omega)
theorem ch_280 : ckH 280 = true := by decide +kernel
theorem ck_281_0 : (List.range 40).all (fun i => ckI 281 (0 + i)) = true := by decide +kernel
theorem pz_281 (pc : Nat) (h : 40 ≤ pc) : pg_281 pc = (0, 0, 0, 0, 0) := by
  unfold pg_281
  rw [nb_lt (k := 19) (n := 40) h (by decide), cond_false, nb_lt (k := 30) (n := 40) h (by decide), cond_false, nb_lt (k := 35) (n := 40) h (by decide), cond_false, nb_lt (k := 38) (n := 40) h (by decide), cond_false, nb_lt (k := 39) (n := 40) h (by decide), cond_false, nb_eq (k := 39) (n := 40) h (by decide), cond_false]
set_option maxRecDepth 100000 in
theorem ck_281 (pc : Nat) : ckI 281 pc = true := by
  by_cases h0 : 40 ≤ pc
  · exact ck_z (show pg 281 pc = _ from pz_281 pc h0)
  exact ck_at ck_281_0 (by omega) (by omega)
theorem ch_281 : ckH 281 = true := by decide +kernel
theorem ck_282_0 : (List.range 68).all (fun i => ckI 282 (0 + i)) = true := by decide +kernel
theorem ck_282_1 : (List.range 35).all (fun i => ckI 282 (68 + i)) = true := by decide +kernel
theorem pz_282 (pc : Nat) (h : 103 ≤ pc) : pg_282 pc = (0, 0, 0, 0, 0) := by
  unfold pg_282
  rw [nb_lt (k := 49) (n := 103) h (by decide), cond_false, nb_lt (k := 74) (n := 103) h (by decide), cond_false, nb_lt (k := 89) (n := 103) h (by decide), cond_false, nb_lt (k := 95) (n := 103) h (by decide), cond_false, nb_lt (k := 98) (n := 103) h (by decide), cond_false, nb_lt (k := 99) (n := 103) h (by decide), cond_false, nb_lt (k := 102) (n := 103) h (by decide), cond_false, nb_eq (k := 102) (n := 103) h (by decide), cond_false]
set_option maxRecDepth 100000 in
theorem ck_282 (pc : Nat) : ckI 282 pc = true := by
  by_cases h0 : 103 ≤ pc
  · exact ck_z (show pg 282 pc = _ from pz_282 pc h0)
  by_cases h1 : pc < 68
  · exact ck_at ck_282_0 (by omega) (by omega)
  exact ck_at ck_282_1 (by omega) (by omega)
theorem ch_282 : ckH 282 = true := by decide +kernel
theorem ck_283_0 : (List.range 41).all (fun i => ckI 283 (0 + i)) = true := by decide +kernel
theorem pz_283 (pc : Nat) (h : 41 ≤ pc) : pg_283 pc = (0, 0, 0, 0, 0) := by
  unfold pg_283
  rw [nb_lt (k := 21) (n := 41) h (by decide), cond_false, nb_lt (k := 32) (n := 41) h (by decide), cond_false, nb_lt (k := 36) (n := 41) h (by decide), cond_false, nb_lt (k := 37) (n := 41) h (by decide), cond_false, nb_lt (k := 40) (n := 41) h (by decide), cond_false, nb_eq (k := 40) (n := 41) h (by decide), cond_false]
set_option maxRecDepth 100000 in
theorem ck_283 (pc : Nat) : ckI 283 pc = true := by
  by_cases h0 : 41 ≤ pc
  · exact ck_z (show pg 283 pc = _ from pz_283 pc h0)
  exact ck_at ck_283_0 (by omega) (by omega)
theorem ch_283 : ckH 283 = true := by decide +kernel
theorem ck_284_0 : (List.range 81).all (fun i => ckI 284 (0 + i)) = true := by decide +kernel
theorem ck_284_1 : (List.range 84).all (fun i => ckI 284 (81 + i)) = true := by decide +kernel
theorem ck_284_2 : (List.range 41).all (fun i => ckI 284 (165 + i)) = true := by decide +kernel
theorem pz_284 (pc : Nat) (h : 206 ≤ pc) : pg_284 pc = (0, 0, 0, 0, 0) := by
  unfold pg_284
  rw [nb_lt (k := 102) (n := 206) h (by decide), cond_false, nb_lt (k := 153) (n := 206) h (by decide), cond_false, nb_lt (k := 183) (n := 206) h (by decide), cond_false, nb_lt (k := 193) (n := 206) h (by decide), cond_false, nb_lt (k := 197) (n := 206) h (by decide), cond_false, nb_lt (k := 203) (n := 206) h (by decide), cond_false, nb_lt (k := 205) (n := 206) h (by decide), cond_false, nb_eq (k := 205) (n := 206) h (by decide), cond_false]
set_option maxRecDepth 100000 in
theorem ck_284 (pc : Nat) : ckI 284 pc = true := by
  by_cases h0 : 206 ≤ pc
  · exact ck_z (show pg 284 pc = _ from pz_284 pc h0)
  by_cases h1 : pc < 81
  · exact ck_at ck_284_0 (by omega) (by omega)
  by_cases h2 : pc < 165
  · exact ck_at ck_284_1 (by omega) (by omega)
  exact ck_at ck_284_2 (by omega) (by omega)
theorem ch_284 : ckH 284 = true := by decide +kernel
theorem ck_285_0 : (List.range 62).all (fun i => ckI 285 (0 + i)) = true := by decide +kernel
theorem pz_285 (pc : Nat) (h : 62 ≤ pc) : pg_285 pc = (0, 0, 0, 0, 0) := by
  unfold pg_285
  rw [nb_lt (k := 26) (n := 62) h (by decide), cond_false, nb_lt (k := 40) (n := 62) h (by decide), cond_false, nb_lt (k := 49) (n := 62) h (by decide), cond_false, nb_lt (k := 55) (n := 62) h (by decide), cond_false, nb_lt (k := 58) (n := 62) h (by decide), cond_false, nb_lt (k := 61) (n := 62) h (by decide), cond_false, nb_eq (k := 61) (n := 62) h (by decide), cond_false]
set_option maxRecDepth 100000 in
theorem ck_285 (pc : Nat) : ckI 285 pc = true := by
  by_cases h0 : 62 ≤ pc
  · exact ck_z (show pg 285 pc = _ from pz_285 pc h0)
  exact ck_at ck_285_0 (by omega) (by omega)
theorem ch_285 : ckH 285 = true := by decide +kernel
theorem ck_286_0 : (List.range 39).all (fun i => ckI 286 (0 + i)) = true := by decide +kernel
theorem pz_286 (pc : Nat) (h : 39 ≤ pc) : pg_286 pc = (0, 0, 0, 0, 0) := by
  unfold pg_286
  rw [nb_lt (k := 22) (n := 39) h (by decide), cond_false, nb_lt (k := 29) (n := 39) h (by decide), cond_false, nb_lt (k := 34) (n := 39) h (by decide), cond_false, nb_lt (k := 35) (n := 39) h (by decide), cond_false, nb_lt (k := 38) (n := 39) h (by decide), cond_false, nb_eq (k := 38) (n := 39) h (by decide), cond_false]
set_option maxRecDepth 100000 in
theorem ck_286 (pc : Nat) : ckI 286 pc = true := by
  by_cases h0 : 39 ≤ pc
  · exact ck_z (show pg 286 pc = _ from pz_286 pc h0)
  exact ck_at ck_286_0 (by omega) (by omega)
theorem ch_286 : ckH 286 = true := by decide +kernel
theorem ck_287_0 : (List.range 37).all (fun i => ckI 287 (0 + i)) = true := by decide +kernel
theorem pz_287 (pc : Nat) (h : 37 ≤ pc) : pg_287 pc = (0, 0, 0, 0, 0) := by
  unfold pg_287
  rw [nb_lt (k := 20) (n := 37) h (by decide), cond_false, nb_lt (k := 27) (n := 37) h (by decide), cond_false, nb_lt (k := 32) (n := 37) h (by decide), cond_false, nb_lt (k := 35) (n := 37) h (by decide), cond_false, nb_lt (k := 36) (n := 37) h (by decide), cond_false, nb_eq (k := 36) (n := 37) h (by decide), cond_false]
set_option maxRecDepth 100000 in
theorem ck_287 (pc : Nat) : ckI 287 pc = true := by
  by_cases h0 : 37 ≤ pc
  · exact ck_z (show pg 287 pc = _ from pz_287 pc h0)
  exact ck_at ck_287_0 (by omega) (by omega)
theorem ch_287 : ckH 287 = true := by decide +kernel
theorem ck_288_0 : (List.range 90).all (fun i => ckI 288 (0 + i)) = true := by decide +kernel
theorem ck_288_1 : (List.range 1).all (fun i => ckI 288 (90 + i)) = true := by decide +kernel
theorem pz_288 (pc : Nat) (h : 91 ≤ pc) : pg_288 pc = (0, 0, 0, 0, 0) := by
  unfold pg_288
  rw [nb_lt (k := 45) (n := 91) h (by decide), cond_false, nb_lt (k := 66) (n := 91) h (by decide), cond_false, nb_lt (k := 80) (n := 91) h (by decide), cond_false, nb_lt (k := 86) (n := 91) h (by decide), cond_false, nb_lt (k := 89) (n := 91) h (by decide), cond_false, nb_lt (k := 90) (n := 91) h (by decide), cond_false, nb_eq (k := 90) (n := 91) h (by decide), cond_false]
set_option maxRecDepth 100000 in
theorem ck_288 (pc : Nat) : ckI 288 pc = true := by
  by_cases h0 : 91 ≤ pc
  · exact ck_z (show pg 288 pc = _ from pz_288 pc h0)
  by_cases h1 : pc < 90
  · exact ck_at ck_288_0 (by omega) (by omega)
  exact ck_at ck_288_1 (by omega) (by omega)
theorem ch_288 : ckH 288 = true := by decide +kernel
theorem ck_289_0 : (List.range 85).all (fun i => ckI 289 (0 + i)) = true := by decide +kernel
theorem ck_289_1 : (List.range 28).all (fun i => ckI 289 (85 + i)) = true := by decide +kernel
theorem pz_289 (pc : Nat) (h : 113 ≤ pc) : pg_289 pc = (0, 0, 0, 0, 0) := by
  unfold pg_289
  rw [nb_lt (k := 57) (n := 113) h (by decide), cond_false, nb_lt (k := 85) (n := 113) h (by decide), cond_false, nb_lt (k := 97) (n := 113) h (by decide), cond_false, nb_lt (k := 103) (n := 113) h (by decide), cond_false, nb_lt (k := 109) (n := 113) h (by decide), cond_false, nb_lt (k := 112) (n := 113) h (by decide), cond_false, nb_eq (k := 112) (n := 113) h (by decide), cond_false]
set_option maxRecDepth 100000 in
theorem ck_289 (pc : Nat) : ckI 289 pc = true := by
  by_cases h0 : 113 ≤ pc
  · exact ck_z (show pg 289 pc = _ from pz_289 pc h0)
  by_cases h1 : pc < 85
  · exact ck_at ck_289_0 (by omega) (by omega)
  exact ck_at ck_289_1 (by omega) (by omega)
theorem ch_289 : ckH 289 = true := by decide +kernel
theorem ck_290_0 : (List.range 18).all (fun i => ckI 290 (0 + i)) = true := by decide +kernel
theorem pz_290 (pc : Nat) (h : 18 ≤ pc) : pg_290 pc = (0, 0, 0, 0, 0) := by
  unfold pg_290
  rw [nb_lt (k := 9) (n := 18) h (by decide), cond_false, nb_lt (k := 13) (n := 18) h (by decide), cond_false, nb_lt (k := 14) (n := 18) h (by decide), cond_false, nb_lt (k := 17) (n := 18) h (by decide), cond_false, nb_eq (k := 17) (n := 18) h (by decide), cond_false]
set_option maxRecDepth 100000 in
theorem ck_290 (pc : Nat) : ckI 290 pc = true := by
  by_cases h0 : 18 ≤ pc
  · exact ck_z (show pg 290 pc = _ from pz_290 pc h0)
  exact ck_at ck_290_0 (by omega) (by omega)
theorem ch_290 : ckH 290 = true := by decide +kernel
theorem ck_291_0 : (List.range 6).all (fun i => ckI 291 (0 + i)) = true := by decide +kernel
theorem pz_291 (pc : Nat) (h : 6 ≤ pc) : pg_291 pc = (0, 0, 0, 0, 0) := by
  unfold pg_291
  rw [nb_lt (k := 2) (n := 6) h (by decide), cond_false, nb_lt (k := 5) (n := 6) h (by decide), cond_false, nb_eq (k := 5) (n := 6) h (by decide), cond_false]
set_option maxRecDepth 100000 in
theorem ck_291 (pc : Nat) : ckI 291 pc = true := by
  by_cases h0 : 6 ≤ pc
  · exact ck_z (show pg 291 pc = _ from pz_291 pc h0)
  exact ck_at ck_291_0 (by omega) (by omega)
theorem ch_291 : ckH 291 = true := by decide +kernel
theorem ck_292_0 : (List.range 24).all (fun i => ckI 292 (0 + i)) = true := by decide +kernel
theorem pz_292 (pc : Nat) (h : 24 ≤ pc) : pg_292 pc = (0, 0, 0, 0, 0) := by
  unfold pg_292
  rw [nb_lt (k := 9) (n := 24) h (by decide), cond_false, nb_lt (k := 14) (n := 24) h (by decide), cond_false, nb_lt (k := 20) (n := 24) h (by decide), cond_false, nb_lt (k := 23) (n := 24) h (by decide), cond_false, nb_eq (k := 23) (n := 24) h (by decide), cond_false]
set_option maxRecDepth 100000 in
theorem ck_292 (pc : Nat) : ckI 292 pc = true := by
  by_cases h0 : 24 ≤ pc
  · exact ck_z (show pg 292 pc = _ from pz_292 pc h0)
  exact ck_at ck_292_0 (by omega) (by omega)
theorem ch_292 : ckH 292 = true := by decide +kernel
theorem ck_293_0 : (List.range 40).all (fun i => ckI 293 (0 + i)) = true := by decide +kernel
theorem pz_293 (pc : Nat) (h : 40 ≤ pc) : pg_293 pc = (0, 0, 0, 0, 0) := by
  unfold pg_293
  rw [nb_lt (k := 23) (n := 40) h (by decide), cond_false, nb_lt (k := 30) (n := 40) h (by decide), cond_false, nb_lt (k := 35) (n := 40) h (by decide), cond_false, nb_lt (k := 36) (n := 40) h (by decide), cond_false, nb_lt (k := 39) (n := 40) h (by decide), cond_false, nb_eq (k := 39) (n := 40) h (by decide), cond_false]
set_option maxRecDepth 100000 in
theorem ck_293 (pc : Nat) : ckI 293 pc = true := by
  by_cases h0 : 40 ≤ pc
  · exact ck_z (show pg 293 pc = _ from pz_293 pc h0)
  exact ck_at ck_293_0 (by omega) (by omega)
theorem ch_293 : ckH 293 = true := by decide +kernel
theorem ck_294_0 : (List.range 29).all (fun i => ckI 294 (0 + i)) = true := by decide +kernel
theorem pz_294 (pc : Nat) (h : 29 ≤ pc) : pg_294 pc = (0, 0, 0, 0, 0) := by
  unfold pg_294
  rw [nb_lt (k := 14) (n := 29) h (by decide), cond_false, nb_lt (k := 22) (n := 29) h (by decide), cond_false, nb_lt (k := 26) (n := 29) h (by decide), cond_false, nb_lt (k := 27) (n := 29) h (by decide), cond_false, nb_lt (k := 28) (n := 29) h (by decide), cond_false, nb_eq (k := 28) (n := 29) h (by decide), cond_false]
set_option maxRecDepth 100000 in
theorem ck_294 (pc : Nat) : ckI 294 pc = true := by
  by_cases h0 : 29 ≤ pc
  · exact ck_z (show pg 294 pc = _ from pz_294 pc h0)
  exact ck_at ck_294_0 (by omega) (by omega)
theorem ch_294 : ckH 294 = true := by decide +kernel
theorem ck_295_0 : (List.range 13).all (fun i => ckI 295 (0 + i)) = true := by decide +kernel
theorem pz_295 (pc : Nat) (h : 13 ≤ pc) : pg_295 pc = (0, 0, 0, 0, 0) := by
  unfold pg_295
  rw [nb_lt (k := 4) (n := 13) h (by decide), cond_false, nb_lt (k := 8) (n := 13) h (by decide), cond_false, nb_lt (k := 9) (n := 13) h (by decide), cond_false, nb_lt (k := 12) (n := 13) h (by decide), cond_false, nb_eq (k := 12) (n := 13) h (by decide), cond_false]
set_option maxRecDepth 100000 in
theorem ck_295 (pc : Nat) : ckI 295 pc = true := by
  by_cases h0 : 13 ≤ pc
  · exact ck_z (show pg 295 pc = _ from pz_295 pc h0)
  exact ck_at ck_295_0 (by omega) (by omega)
theorem ch_295 : ckH 295 = true := by decide +kernel
theorem ck_296_0 : (List.range 32).all (fun i => ckI 296 (0 + i)) = true := by decide +kernel
theorem pz_296 (pc : Nat) (h : 32 ≤ pc) : pg_296 pc = (0, 0, 0, 0, 0) := by
  unfold pg_296
  rw [nb_lt (k := 17) (n := 32) h (by decide), cond_false, nb_lt (k := 25) (n := 32) h (by decide), cond_false, nb_lt (k := 27) (n := 32) h (by decide), cond_false, nb_lt (k := 30) (n := 32) h (by decide), cond_false, nb_lt (k := 31) (n := 32) h (by decide), cond_false, nb_eq (k := 31) (n := 32) h (by decide), cond_false]
set_option maxRecDepth 100000 in
theorem ck_296 (pc : Nat) : ckI 296 pc = true := by
  by_cases h0 : 32 ≤ pc
  · exact ck_z (show pg 296 pc = _ from pz_296 pc h0)
  exact ck_at ck_296_0 (by omega) (by omega)
theorem ch_296 : ckH 296 = true := by decide +kernel
theorem ckx_297_0 : (List.range 18).all (fun pc => ckI 297 pc || Nat.beq (pg 297 pc).1 46) = true := by decide +kernel
theorem pz_297 (pc : Nat) (h : 18 ≤ pc) : pg_297 pc = (0, 0, 0, 0, 0) := by
  unfold pg_297
  rw [nb_lt (k := 8) (n := 18) h (by decide), cond_false, nb_lt (k := 14) (n := 18) h (by decide), cond_false, nb_lt (k := 16) (n := 18) h (by decide), cond_false, nb_lt (k := 17) (n := 18) h (by decide), cond_false, nb_eq (k := 17) (n := 18) h (by decide), cond_false]
set_option maxRecDepth 100000 in
theorem ckx_297 (pc : Nat) : ckI 297 pc = true ∨ (pg 297 pc).1 = 46 := by
  by_cases h0 : 18 ≤ pc
  · exact Or.inl (ck_z (show pg 297 pc = _ from pz_297 pc h0))
  · have := List.all_eq_true.mp ckx_297_0 pc (List.mem_range.mpr (by omega))
    rw [Bool.or_eq_true] at this
    exact this.imp id Nat.eq_of_beq_eq_true
theorem ckx_298_0 : (List.range 16).all (fun pc => ckI 298 pc || Nat.beq (pg 298 pc).1 46) = true := by decide +kernel
theorem pz_298 (pc : Nat) (h : 16 ≤ pc) : pg_298 pc = (0, 0, 0, 0, 0) := by
  unfold pg_298
  rw [nb_lt (k := 8) (n := 16) h (by decide), cond_false, nb_lt (k := 13) (n := 16) h (by decide), cond_false, nb_lt (k := 14) (n := 16) h (by decide), cond_false, nb_lt (k := 15) (n := 16) h (by decide), cond_false, nb_eq (k := 15) (n := 16) h (by decide), cond_false]
set_option maxRecDepth 100000 in
theorem ckx_298 (pc : Nat) : ckI 298 pc = true ∨ (pg 298 pc).1 = 46 := by
  by_cases h0 : 16 ≤ pc
  · exact Or.inl (ck_z (show pg 298 pc = _ from pz_298 pc h0))
  · have := List.all_eq_true.mp ckx_298_0 pc (List.mem_range.mpr (by omega))
    rw [Bool.or_eq_true] at this
    exact this.imp id Nat.eq_of_beq_eq_true
theorem ck_299_0 : (List.range 253).all (fun i => ckI 299 (0 + i)) = true := by decide +kernel
theorem ck_299_1 : (List.range 69).all (fun i => ckI 299 (253 + i)) = true := by decide +kernel
theorem ck_299_2 : (List.range 62).all (fun i => ckI 299 (322 + i)) = true := by decide +kernel
theorem ck_299_3 : (List.range 68).all (fun i => ckI 299 (384 + i)) = true := by decide +kernel
theorem ck_299_4 : (List.range 59).all (fun i => ckI 299 (452 + i)) = true := by decide +kernel
theorem ck_299_5 : (List.range 63).all (fun i => ckI 299 (511 + i)) = true := by decide +kernel
theorem ck_299_6 : (List.range 63).all (fun i => ckI 299 (574 + i)) = true := by decide +kernel
theorem ck_299_7 : (List.range 72).all (fun i => ckI 299 (637 + i)) = true := by decide +kernel
theorem ck_299_8 : (List.range 66).all (fun i => ckI 299 (709 + i)) = true := by decide +kernel
theorem ck_299_9 : (List.range 62).all (fun i => ckI 299 (775 + i)) = true := by decide +kernel
theorem ck_299_10 : (List.range 66).all (fun i => ckI 299 (837 + i)) = true := by decide +kernel
theorem ck_299_11 : (List.range 59).all (fun i => ckI 299 (903 + i)) = true := by decide +kernel
theorem ck_299_12 : (List.range 66).all (fun i => ckI 299 (962 + i)) = true := by decide +kernel
theorem ck_299_13 : (List.range 76).all (fun i => ckI 299 (1028 + i)) = true := by decide +kernel
theorem ck_299_14 : (List.range 59).all (fun i => ckI 299 (1104 + i)) = true := by decide +kernel
theorem ck_299_15 : (List.range 60).all (fun i => ckI 299 (1163 + i)) = true := by decide +kernel
theorem ck_299_16 : (List.range 60).all (fun i => ckI 299 (1223 + i)) = true := by decide +kernel
theorem ck_299_17 : (List.range 59).all (fun i => ckI 299 (1283 + i)) = true := by decide +kernel
theorem ck_299_18 : (List.range 62).all (fun i => ckI 299 (1342 + i)) = true := by decide +kernel
theorem ck_299_19 : (List.range 60).all (fun i => ckI 299 (1404 + i)) = true := by decide +kernel
theorem ck_299_20 : (List.range 63).all (fun i => ckI 299 (1464 + i)) = true := by decide +kernel
theorem ck_299_21 : (List.range 65).all (fun i => ckI 299 (1527 + i)) = true := by decide +kernel
theorem ck_299_22 : (List.range 64).all (fun i => ckI 299 (1592 + i)) = true := by decide +kernel
theorem ck_299_23 : (List.range 69).all (fun i => ckI 299 (1656 + i)) = true := by decide +kernel
theorem ck_299_24 : (List.range 46).all (fun i => ckI 299 (1725 + i)) = true := by decide +kernel
theorem pz_299 (pc : Nat) (h : 1771 ≤ pc) : pg_299 pc = (0, 0, 0, 0, 0) := by
  unfold pg_299
  rw [nb_lt (k := 979) (n := 1771) h (by decide), cond_false, nb_lt (k := 1368) (n := 1771) h (by decide), cond_false, nb_lt (k := 1556) (n := 1771) h (by decide), cond_false, nb_lt (k := 1658) (n := 1771) h (by decide), cond_false, nb_lt (k := 1712) (n := 1771) h (by decide), cond_false, nb_lt (k := 1739) (n := 1771) h (by decide), cond_false, nb_lt (k := 1754) (n := 1771) h (by decide), cond_false, nb_lt (k := 1760) (n := 1771) h (by decide), cond_false, nb_lt (k := 1766) (n := 1771) h (by decide), cond_false, nb_lt (k := 1769) (n := 1771) h (by decide), cond_false, nb_lt (k := 1770) (n := 1771) h (by decide), cond_false, nb_eq (k := 1770) (n := 1771) h (by decide), cond_false]
set_option maxRecDepth 100000 in
theorem ck_299 (pc : Nat) : ckI 299 pc = true := by
  by_cases h0 : 1771 ≤ pc
  · exact ck_z (show pg 299 pc = _ from pz_299 pc h0)
  by_cases h1 : pc < 253
  · exact ck_at ck_299_0 (by omega) (by omega)
  by_cases h2 : pc < 322
  · exact ck_at ck_299_1 (by omega) (by omega)
  by_cases h3 : pc < 384
  · exact ck_at ck_299_2 (by omega) (by omega)
  by_cases h4 : pc < 452
  · exact ck_at ck_299_3 (by omega) (by omega)
  by_cases h5 : pc < 511
  · exact ck_at ck_299_4 (by omega) (by omega)
  by_cases h6 : pc < 574
  · exact ck_at ck_299_5 (by omega) (by omega)
  by_cases h7 : pc < 637
  · exact ck_at ck_299_6 (by omega) (by omega)
  by_cases h8 : pc < 709
  · exact ck_at ck_299_7 (by omega) (by omega)
  by_cases h9 : pc < 775
  · exact ck_at ck_299_8 (by omega) (by omega)
  by_cases h10 : pc < 837
  · exact ck_at ck_299_9 (by omega) (by omega)
  by_cases h11 : pc < 903
  · exact ck_at ck_299_10 (by omega) (by omega)
  by_cases h12 : pc < 962
  · exact ck_at ck_299_11 (by omega) (by omega)
  by_cases h13 : pc < 1028
  · exact ck_at ck_299_12 (by omega) (by omega)
  by_cases h14 : pc < 1104
  · exact ck_at ck_299_13 (by omega) (by omega)
  by_cases h15 : pc < 1163
  · exact ck_at ck_299_14 (by omega) (by omega)
  by_cases h16 : pc < 1223
  · exact ck_at ck_299_15 (by omega) (by omega)
  by_cases h17 : pc < 1283
  · exact ck_at ck_299_16 (by omega) (by omega)
  by_cases h18 : pc < 1342
  · exact ck_at ck_299_17 (by omega) (by omega)
  by_cases h19 : pc < 1404
  · exact ck_at ck_299_18 (by omega) (by omega)
  by_cases h20 : pc < 1464
  · exact ck_at ck_299_19 (by omega) (by omega)
  by_cases h21 : pc < 1527
  · exact ck_at ck_299_20 (by omega) (by omega)
  by_cases h22 : pc < 1592
  · exact ck_at ck_299_21 (by omega) (by omega)
  by_cases h23 : pc < 1656
  · exact ck_at ck_299_22 (by omega) (by omega)
  by_cases h24 : pc < 1725
  · exact ck_at ck_299_23 (by omega) (by omega)
  exact ck_at ck_299_24 (by omega) (by omega)
