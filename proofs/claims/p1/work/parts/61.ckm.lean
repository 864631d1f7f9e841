theorem nb_lt {pc k n : Nat} (h : n ≤ pc) (hk : k ≤ n) : Nat.blt pc k = false := by
  cases hb : Nat.blt pc k with
  | false => rfl
  | true => have : pc < k := Nat.le_of_ble_eq_true hb; omega
theorem nb_eq {pc k n : Nat} (h : n ≤ pc) (hk : k < n) : Nat.beq pc k = false := by
  cases hb : Nat.beq pc k with
  | false => rfl
  | true => have := Nat.eq_of_beq_eq_true hb; omega
theorem ck_z {M pc : Nat} (h : pg M pc = (0, 0, 0, 0, 0)) : ckI M pc = true := by unfold ckI; rw [h]; rfl
theorem ck_at {M a n pc : Nat} (h : (List.range n).all (fun i => ckI M (a + i)) = true) (h1 : a ≤ pc) (h2 : pc < a + n) : ckI M pc = true := by
  have := List.all_eq_true.mp h (pc - a) (List.mem_range.mpr (by omega))
  rwa [show a + (pc - a) = pc by omega] at this
theorem ck_0_0 : (List.range 87).all (fun i => ckI 0 (0 + i)) = true := by decide +kernel
theorem ck_0_1 : (List.range 56).all (fun i => ckI 0 (87 + i)) = true := by decide +kernel
theorem pz_0 (pc : Nat) (h : 143 ≤ pc) : pg_0 pc = (0, 0, 0, 0, 0) := by
  unfold pg_0
  rw [nb_lt (k := 74) (n := 143) h (by decide), cond_false, nb_lt (k := 109) (n := 143) h (by decide), cond_false, nb_lt (k := 125) (n := 143) h (by decide), cond_false, nb_lt (k := 134) (n := 143) h (by decide), cond_false, nb_lt (k := 136) (n := 143) h (by decide), cond_false, nb_lt (k := 139) (n := 143) h (by decide), cond_false, nb_lt (k := 142) (n := 143) h (by decide), cond_false, nb_eq (k := 142) (n := 143) h (by decide), cond_false]
set_option maxRecDepth 100000 in
theorem ck_0 (pc : Nat) : ckI 0 pc = true := by
  by_cases h0 : 143 ≤ pc
  · exact ck_z (show pg 0 pc = _ from pz_0 pc h0)
  by_cases h1 : pc < 87
  · exact ck_at ck_0_0 (by omega) (by omega)
  exact ck_at ck_0_1 (by omega) (by omega)
theorem ch_0 : ckH 0 = true := by decide +kernel
theorem ck_1_0 : (List.range 23).all (fun i => ckI 1 (0 + i)) = true := by decide +kernel
theorem pz_1 (pc : Nat) (h : 23 ≤ pc) : pg_1 pc = (0, 0, 0, 0, 0) := by
  unfold pg_1
  rw [nb_lt (k := 11) (n := 23) h (by decide), cond_false, nb_lt (k := 18) (n := 23) h (by decide), cond_false, nb_lt (k := 21) (n := 23) h (by decide), cond_false, nb_lt (k := 22) (n := 23) h (by decide), cond_false, nb_eq (k := 22) (n := 23) h (by decide), cond_false]
set_option maxRecDepth 100000 in
theorem ck_1 (pc : Nat) : ckI 1 pc = true := by
  by_cases h0 : 23 ≤ pc
  · exact ck_z (show pg 1 pc = _ from pz_1 pc h0)
  exact ck_at ck_1_0 (by omega) (by omega)
theorem ch_1 : ckH 1 = true := by decide +kernel
theorem ck_2_0 : (List.range 9).all (fun i => ckI 2 (0 + i)) = true := by decide +kernel
theorem pz_2 (pc : Nat) (h : 9 ≤ pc) : pg_2 pc = (0, 0, 0, 0, 0) := by
  unfold pg_2
  rw [nb_lt (k := 4) (n := 9) h (by decide), cond_false, nb_lt (k := 5) (n := 9) h (by decide), cond_false, nb_lt (k := 8) (n := 9) h (by decide), cond_false, nb_eq (k := 8) (n := 9) h (by decide), cond_false]
set_option maxRecDepth 100000 in
theorem ck_2 (pc : Nat) : ckI 2 pc = true := by
  by_cases h0 : 9 ≤ pc
  · exact ck_z (show pg 2 pc = _ from pz_2 pc h0)
  exact ck_at ck_2_0 (by omega) (by omega)
theorem ch_2 : ckH 2 = true := by decide +kernel
theorem ck_3_0 : (List.range 45).all (fun i => ckI 3 (0 + i)) = true := by decide +kernel
theorem pz_3 (pc : Nat) (h : 45 ≤ pc) : pg_3 pc = (0, 0, 0, 0, 0) := by
  unfold pg_3
  rw [nb_lt (k := 23) (n := 45) h (by decide), cond_false, nb_lt (k := 33) (n := 45) h (by decide), cond_false, nb_lt (k := 40) (n := 45) h (by decide), cond_false, nb_lt (k := 43) (n := 45) h (by decide), cond_false, nb_lt (k := 44) (n := 45) h (by decide), cond_false, nb_eq (k := 44) (n := 45) h (by decide), cond_false]
set_option maxRecDepth 100000 in
theorem ck_3 (pc : Nat) : ckI 3 pc = true := by
  by_cases h0 : 45 ≤ pc
  · exact ck_z (show pg 3 pc = _ from pz_3 pc h0)
  exact ck_at ck_3_0 (by omega) (by omega)
theorem ch_3 : ckH 3 = true := by decide +kernel
theorem ck_4_0 : (List.range 50).all (fun i => ckI 4 (0 + i)) = true := by decide +kernel
theorem pz_4 (pc : Nat) (h : 50 ≤ pc) : pg_4 pc = (0, 0, 0, 0, 0) := by
  unfold pg_4
  rw [nb_lt (k := 28) (n := 50) h (by decide), cond_false, nb_lt (k := 39) (n := 50) h (by decide), cond_false, nb_lt (k := 44) (n := 50) h (by decide), cond_false, nb_lt (k := 46) (n := 50) h (by decide), cond_false, nb_lt (k := 49) (n := 50) h (by decide), cond_false, nb_eq (k := 49) (n := 50) h (by decide), cond_false]
set_option maxRecDepth 100000 in
theorem ck_4 (pc : Nat) : ckI 4 pc = true := by
  by_cases h0 : 50 ≤ pc
  · exact ck_z (show pg 4 pc = _ from pz_4 pc h0)
  exact ck_at ck_4_0 (by omega) (by omega)
theorem ch_4 : ckH 4 = true := by decide +kernel
theorem ck_5_0 : (List.range 21).all (fun i => ckI 5 (0 + i)) = true := by decide +kernel
theorem pz_5 (pc : Nat) (h : 21 ≤ pc) : pg_5 pc = (0, 0, 0, 0, 0) := by
  unfold pg_5
  rw [nb_lt (k := 8) (n := 21) h (by decide), cond_false, nb_lt (k := 15) (n := 21) h (by decide), cond_false, nb_lt (k := 17) (n := 21) h (by decide), cond_false, nb_lt (k := 20) (n := 21) h (by decide), cond_false, nb_eq (k := 20) (n := 21) h (by decide), cond_false]
set_option maxRecDepth 100000 in
theorem ck_5 (pc : Nat) : ckI 5 pc = true := by
  by_cases h0 : 21 ≤ pc
  · exact ck_z (show pg 5 pc = _ from pz_5 pc h0)
  exact ck_at ck_5_0 (by omega) (by omega)
theorem ch_5 : ckH 5 = true := by decide +kernel
theorem ck_6_0 : (List.range 26).all (fun i => ckI 6 (0 + i)) = true := by decide +kernel
theorem pz_6 (pc : Nat) (h : 26 ≤ pc) : pg_6 pc = (0, 0, 0, 0, 0) := by
  unfold pg_6
  rw [nb_lt (k := 13) (n := 26) h (by decide), cond_false, nb_lt (k := 18) (n := 26) h (by decide), cond_false, nb_lt (k := 22) (n := 26) h (by decide), cond_false, nb_lt (k := 25) (n := 26) h (by decide), cond_false, nb_eq (k := 25) (n := 26) h (by decide), cond_false]
set_option maxRecDepth 100000 in
theorem ck_6 (pc : Nat) : ckI 6 pc = true := by
  by_cases h0 : 26 ≤ pc
  · exact ck_z (show pg 6 pc = _ from pz_6 pc h0)
  exact ck_at ck_6_0 (by omega) (by omega)
theorem ch_6 : ckH 6 = true := by decide +kernel
theorem ck_7_0 : (List.range 78).all (fun i => ckI 7 (0 + i)) = true := by decide +kernel
theorem pz_7 (pc : Nat) (h : 78 ≤ pc) : pg_7 pc = (0, 0, 0, 0, 0) := by
  unfold pg_7
  rw [nb_lt (k := 41) (n := 78) h (by decide), cond_false, nb_lt (k := 56) (n := 78) h (by decide), cond_false, nb_lt (k := 67) (n := 78) h (by decide), cond_false, nb_lt (k := 71) (n := 78) h (by decide), cond_false, nb_lt (k := 74) (n := 78) h (by decide), cond_false, nb_lt (k := 77) (n := 78) h (by decide), cond_false, nb_eq (k := 77) (n := 78) h (by decide), cond_false]
set_option maxRecDepth 100000 in
theorem ck_7 (pc : Nat) : ckI 7 pc = true := by
  by_cases h0 : 78 ≤ pc
  · exact ck_z (show pg 7 pc = _ from pz_7 pc h0)
  exact ck_at ck_7_0 (by omega) (by omega)
theorem ch_7 : ckH 7 = true := by decide +kernel
theorem ck_8_0 : (List.range 43).all (fun i => ckI 8 (0 + i)) = true := by decide +kernel
theorem pz_8 (pc : Nat) (h : 43 ≤ pc) : pg_8 pc = (0, 0, 0, 0, 0) := by
  unfold pg_8
  rw [nb_lt (k := 22) (n := 43) h (by decide), cond_false, nb_lt (k := 32) (n := 43) h (by decide), cond_false, nb_lt (k := 37) (n := 43) h (by decide), cond_false, nb_lt (k := 41) (n := 43) h (by decide), cond_false, nb_lt (k := 42) (n := 43) h (by decide), cond_false, nb_eq (k := 42) (n := 43) h (by decide), cond_false]
set_option maxRecDepth 100000 in
theorem ck_8 (pc : Nat) : ckI 8 pc = true := by
  by_cases h0 : 43 ≤ pc
  · exact ck_z (show pg 8 pc = _ from pz_8 pc h0)
  exact ck_at ck_8_0 (by omega) (by omega)
theorem ch_8 : ckH 8 = true := by decide +kernel
theorem ck_9_0 : (List.range 81).all (fun i => ckI 9 (0 + i)) = true := by decide +kernel
theorem ck_9_1 : (List.range 43).all (fun i => ckI 9 (81 + i)) = true := by decide +kernel
theorem pz_9 (pc : Nat) (h : 124 ≤ pc) : pg_9 pc = (0, 0, 0, 0, 0) := by
  unfold pg_9
  rw [nb_lt (k := 58) (n := 124) h (by decide), cond_false, nb_lt (k := 88) (n := 124) h (by decide), cond_false, nb_lt (k := 105) (n := 124) h (by decide), cond_false, nb_lt (k := 113) (n := 124) h (by decide), cond_false, nb_lt (k := 118) (n := 124) h (by decide), cond_false, nb_lt (k := 121) (n := 124) h (by decide), cond_false, nb_lt (k := 123) (n := 124) h (by decide), cond_false, nb_eq (k := 123) (n := 124) h (by decide), cond_false]
set_option maxRecDepth 100000 in
theorem ck_9 (pc : Nat) : ckI 9 pc = true := by
  by_cases h0 : 124 ≤ pc
  · exact ck_z (show pg 9 pc = _ from pz_9 pc h0)
  by_cases h1 : pc < 81
  · exact ck_at ck_9_0 (by omega) (by omega)
  exact ck_at ck_9_1 (by omega) (by omega)
theorem ch_9 : ckH 9 = true := by decide +kernel
theorem ck_10_0 : (List.range 19).all (fun i => ckI 10 (0 + i)) = true := by decide +kernel
theorem pz_10 (pc : Nat) (h : 19 ≤ pc) : pg_10 pc = (0, 0, 0, 0, 0) := by
  unfold pg_10
  rw [nb_lt (k := 8) (n := 19) h (by decide), cond_false, nb_lt (k := 13) (n := 19) h (by decide), cond_false, nb_lt (k := 17) (n := 19) h (by decide), cond_false, nb_lt (k := 18) (n := 19) h (by decide), cond_false, nb_eq (k := 18) (n := 19) h (by decide), cond_false]
set_option maxRecDepth 100000 in
theorem ck_10 (pc : Nat) : ckI 10 pc = true := by
  by_cases h0 : 19 ≤ pc
  · exact ck_z (show pg 10 pc = _ from pz_10 pc h0)
  exact ck_at ck_10_0 (by omega) (by omega)
theorem ch_10 : ckH 10 = true := by decide +kernel
theorem ck_11_0 : (List.range 31).all (fun i => ckI 11 (0 + i)) = true := by decide +kernel
theorem pz_11 (pc : Nat) (h : 31 ≤ pc) : pg_11 pc = (0, 0, 0, 0, 0) := by
  unfold pg_11
  rw [nb_lt (k := 14) (n := 31) h (by decide), cond_false, nb_lt (k := 22) (n := 31) h (by decide), cond_false, nb_lt (k := 26) (n := 31) h (by decide), cond_false, nb_lt (k := 29) (n := 31) h (by decide), cond_false, nb_lt (k := 30) (n := 31) h (by decide), cond_false, nb_eq (k := 30) (n := 31) h (by decide), cond_false]
set_option maxRecDepth 100000 in
theorem ck_11 (pc : Nat) : ckI 11 pc = true := by
  by_cases h0 : 31 ≤ pc
  · exact ck_z (show pg 11 pc = _ from pz_11 pc h0)
  exact ck_at ck_11_0 (by omega) (by omega)
theorem ch_11 : ckH 11 = true := by decide +kernel
theorem ck_12_0 : (List.range 10).all (fun i => ckI 12 (0 + i)) = true := by decide +kernel
theorem pz_12 (pc : Nat) (h : 10 ≤ pc) : pg_12 pc = (0, 0, 0, 0, 0) := by
  unfold pg_12
  rw [nb_lt (k := 5) (n := 10) h (by decide), cond_false, nb_lt (k := 6) (n := 10) h (by decide), cond_false, nb_lt (k := 9) (n := 10) h (by decide), cond_false, nb_eq (k := 9) (n := 10) h (by decide), cond_false]
set_option maxRecDepth 100000 in
theorem ck_12 (pc : Nat) : ckI 12 pc = true := by
  by_cases h0 : 10 ≤ pc
  · exact ck_z (show pg 12 pc = _ from pz_12 pc h0)
  exact ck_at ck_12_0 (by omega) (by omega)
theorem ch_12 : ckH 12 = true := by decide +kernel
theorem ck_13_0 : (List.range 65).all (fun i => ckI 13 (0 + i)) = true := by decide +kernel
theorem pz_13 (pc : Nat) (h : 65 ≤ pc) : pg_13 pc = (0, 0, 0, 0, 0) := by
  unfold pg_13
  rw [nb_lt (k := 28) (n := 65) h (by decide), cond_false, nb_lt (k := 44) (n := 65) h (by decide), cond_false, nb_lt (k := 54) (n := 65) h (by decide), cond_false, nb_lt (k := 60) (n := 65) h (by decide), cond_false, nb_lt (k := 61) (n := 65) h (by decide), cond_false, nb_lt (k := 64) (n := 65) h (by decide), cond_false, nb_eq (k := 64) (n := 65) h (by decide), cond_false]
set_option maxRecDepth 100000 in
theorem ck_13 (pc : Nat) : ckI 13 pc = true := by
  by_cases h0 : 65 ≤ pc
  · exact ck_z (show pg 13 pc = _ from pz_13 pc h0)
  exact ck_at ck_13_0 (by omega) (by omega)
theorem ch_13 : ckH 13 = true := by decide +kernel
theorem ck_14_0 : (List.range 84).all (fun i => ckI 14 (0 + i)) = true := by decide +kernel
theorem ck_14_1 : (List.range 19).all (fun i => ckI 14 (84 + i)) = true := by decide +kernel
theorem pz_14 (pc : Nat) (h : 103 ≤ pc) : pg_14 pc = (0, 0, 0, 0, 0) := by
  unfold pg_14
  rw [nb_lt (k := 52) (n := 103) h (by decide), cond_false, nb_lt (k := 73) (n := 103) h (by decide), cond_false, nb_lt (k := 88) (n := 103) h (by decide), cond_false, nb_lt (k := 95) (n := 103) h (by decide), cond_false, nb_lt (k := 101) (n := 103) h (by decide), cond_false, nb_lt (k := 102) (n := 103) h (by decide), cond_false, nb_eq (k := 102) (n := 103) h (by decide), cond_false]
set_option maxRecDepth 100000 in
theorem ck_14 (pc : Nat) : ckI 14 pc = true := by
  by_cases h0 : 103 ≤ pc
  · exact ck_z (show pg 14 pc = _ from pz_14 pc h0)
  by_cases h1 : pc < 84
  · exact ck_at ck_14_0 (by omega) (by omega)
  exact ck_at ck_14_1 (by omega) (by omega)
theorem ch_14 : ckH 14 = true := by decide +kernel
theorem ck_15_0 : (List.range 69).all (fun i => ckI 15 (0 + i)) = true := by decide +kernel
theorem pz_15 (pc : Nat) (h : 69 ≤ pc) : pg_15 pc = (0, 0, 0, 0, 0) := by
  unfold pg_15
  rw [nb_lt (k := 34) (n := 69) h (by decide), cond_false, nb_lt (k := 53) (n := 69) h (by decide), cond_false, nb_lt (k := 62) (n := 69) h (by decide), cond_false, nb_lt (k := 64) (n := 69) h (by decide), cond_false, nb_lt (k := 65) (n := 69) h (by decide), cond_false, nb_lt (k := 68) (n := 69) h (by decide), cond_false, nb_eq (k := 68) (n := 69) h (by decide), cond_false]
set_option maxRecDepth 100000 in
theorem ck_15 (pc : Nat) : ckI 15 pc = true := by
  by_cases h0 : 69 ≤ pc
  · exact ck_z (show pg 15 pc = _ from pz_15 pc h0)
  exact ck_at ck_15_0 (by omega) (by omega)
theorem ch_15 : ckH 15 = true := by decide +kernel
theorem ck_16_0 : (List.range 88).all (fun i => ckI 16 (0 + i)) = true := by decide +kernel
theorem ck_16_1 : (List.range 19).all (fun i => ckI 16 (88 + i)) = true := by decide +kernel
theorem pz_16 (pc : Nat) (h : 107 ≤ pc) : pg_16 pc = (0, 0, 0, 0, 0) := by
  unfold pg_16
  rw [nb_lt (k := 49) (n := 107) h (by decide), cond_false, nb_lt (k := 75) (n := 107) h (by decide), cond_false, nb_lt (k := 92) (n := 107) h (by decide), cond_false, nb_lt (k := 99) (n := 107) h (by decide), cond_false, nb_lt (k := 105) (n := 107) h (by decide), cond_false, nb_lt (k := 106) (n := 107) h (by decide), cond_false, nb_eq (k := 106) (n := 107) h (by decide), cond_false]
set_option maxRecDepth 100000 in
theorem ck_16 (pc : Nat) : ckI 16 pc = true := by
  by_cases h0 : 107 ≤ pc
  · exact ck_z (show pg 16 pc = _ from pz_16 pc h0)
  by_cases h1 : pc < 88
  · exact ck_at ck_16_0 (by omega) (by omega)
  exact ck_at ck_16_1 (by omega) (by omega)
theorem ch_16 : ckH 16 = true := by decide +kernel
theorem ck_17_0 : (List.range 56).all (fun i => ckI 17 (0 + i)) = true := by decide +kernel
theorem pz_17 (pc : Nat) (h : 56 ≤ pc) : pg_17 pc = (0, 0, 0, 0, 0) := by
  unfold pg_17
  rw [nb_lt (k := 27) (n := 56) h (by decide), cond_false, nb_lt (k := 41) (n := 56) h (by decide), cond_false, nb_lt (k := 48) (n := 56) h (by decide), cond_false, nb_lt (k := 52) (n := 56) h (by decide), cond_false, nb_lt (k := 55) (n := 56) h (by decide), cond_false, nb_eq (k := 55) (n := 56) h (by decide), cond_false]
set_option maxRecDepth 100000 in
theorem ck_17 (pc : Nat) : ckI 17 pc = true := by
  by_cases h0 : 56 ≤ pc
  · exact ck_z (show pg 17 pc = _ from pz_17 pc h0)
  exact ck_at ck_17_0 (by omega) (by omega)
theorem ch_17 : ckH 17 = true := by decide +kernel
theorem ck_18_0 : (List.range 30).all (fun i => ckI 18 (0 + i)) = true := by decide +kernel
theorem pz_18 (pc : Nat) (h : 30 ≤ pc) : pg_18 pc = (0, 0, 0, 0, 0) := by
  unfold pg_18
  rw [nb_lt (k := 15) (n := 30) h (by decide), cond_false, nb_lt (k := 20) (n := 30) h (by decide), cond_false, nb_lt (k := 26) (n := 30) h (by decide), cond_false, nb_lt (k := 29) (n := 30) h (by decide), cond_false, nb_eq (k := 29) (n := 30) h (by decide), cond_false]
set_option maxRecDepth 100000 in
theorem ck_18 (pc : Nat) : ckI 18 pc = true := by
  by_cases h0 : 30 ≤ pc
  · exact ck_z (show pg 18 pc = _ from pz_18 pc h0)
  exact ck_at ck_18_0 (by omega) (by omega)
theorem ch_18 : ckH 18 = true := by decide +kernel
theorem ck_19_0 : (List.range 67).all (fun i => ckI 19 (0 + i)) = true := by decide +kernel
theorem pz_19 (pc : Nat) (h : 67 ≤ pc) : pg_19 pc = (0, 0, 0, 0, 0) := by
  unfold pg_19
  rw [nb_lt (k := 34) (n := 67) h (by decide), cond_false, nb_lt (k := 51) (n := 67) h (by decide), cond_false, nb_lt (k := 58) (n := 67) h (by decide), cond_false, nb_lt (k := 62) (n := 67) h (by decide), cond_false, nb_lt (k := 65) (n := 67) h (by decide), cond_false, nb_lt (k := 66) (n := 67) h (by decide), cond_false, nb_eq (k := 66) (n := 67) h (by decide), cond_false]
set_option maxRecDepth 100000 in
theorem ck_19 (pc : Nat) : ckI 19 pc = true := by
  by_cases h0 : 67 ≤ pc
  · exact ck_z (show pg 19 pc = _ from pz_19 pc h0)
  exact ck_at ck_19_0 (by omega) (by omega)
theorem ch_19 : ckH 19 = true := by decide +kernel
theorem ck_20_0 : (List.range 79).all (fun i => ckI 20 (0 + i)) = true := by decide +kernel
theorem ck_20_1 : (List.range 74).all (fun i => ckI 20 (79 + i)) = true := by decide +kernel
theorem pz_20 (pc : Nat) (h : 153 ≤ pc) : pg_20 pc = (0, 0, 0, 0, 0) := by
  unfold pg_20
  rw [nb_lt (k := 70) (n := 153) h (by decide), cond_false, nb_lt (k := 106) (n := 153) h (by decide), cond_false, nb_lt (k := 131) (n := 153) h (by decide), cond_false, nb_lt (k := 142) (n := 153) h (by decide), cond_false, nb_lt (k := 147) (n := 153) h (by decide), cond_false, nb_lt (k := 150) (n := 153) h (by decide), cond_false, nb_lt (k := 152) (n := 153) h (by decide), cond_false, nb_eq (k := 152) (n := 153) h (by decide), cond_false]
set_option maxRecDepth 100000 in
theorem ck_20 (pc : Nat) : ckI 20 pc = true := by
  by_cases h0 : 153 ≤ pc
  · exact ck_z (show pg 20 pc = _ from pz_20 pc h0)
  by_cases h1 : pc < 79
  · exact ck_at ck_20_0 (by omega) (by omega)
  exact ck_at ck_20_1 (by omega) (by omega)
theorem ch_20 : ckH 20 = true := by decide +kernel
theorem ck_21_0 : (List.range 83).all (fun i => ckI 21 (0 + i)) = true := by decide +kernel
theorem pz_21 (pc : Nat) (h : 83 ≤ pc) : pg_21 pc = (0, 0, 0, 0, 0) := by
  unfold pg_21
  rw [nb_lt (k := 40) (n := 83) h (by decide), cond_false, nb_lt (k := 60) (n := 83) h (by decide), cond_false, nb_lt (k := 71) (n := 83) h (by decide), cond_false, nb_lt (k := 78) (n := 83) h (by decide), cond_false, nb_lt (k := 79) (n := 83) h (by decide), cond_false, nb_lt (k := 82) (n := 83) h (by decide), cond_false, nb_eq (k := 82) (n := 83) h (by decide), cond_false]
set_option maxRecDepth 100000 in
theorem ck_21 (pc : Nat) : ckI 21 pc = true := by
  by_cases h0 : 83 ≤ pc
  · exact ck_z (show pg 21 pc = _ from pz_21 pc h0)
  exact ck_at ck_21_0 (by omega) (by omega)
theorem ch_21 : ckH 21 = true := by decide +kernel
theorem ck_22_0 : (List.range 59).all (fun i => ckI 22 (0 + i)) = true := by decide +kernel
theorem pz_22 (pc : Nat) (h : 59 ≤ pc) : pg_22 pc = (0, 0, 0, 0, 0) := by
  unfold pg_22
  rw [nb_lt (k := 29) (n := 59) h (by decide), cond_false, nb_lt (k := 43) (n := 59) h (by decide), cond_false, nb_lt (k := 51) (n := 59) h (by decide), cond_false, nb_lt (k := 55) (n := 59) h (by decide), cond_false, nb_lt (k := 58) (n := 59) h (by decide), cond_false, nb_eq (k := 58) (n := 59) h (by decide), cond_false]
set_option maxRecDepth 100000 in
theorem ck_22 (pc : Nat) : ckI 22 pc = true := by
  by_cases h0 : 59 ≤ pc
  · exact ck_z (show pg 22 pc = _ from pz_22 pc h0)
  exact ck_at ck_22_0 (by omega) (by omega)
theorem ch_22 : ckH 22 = true := by decide +kernel
theorem ck_23_0 : (List.range 86).all (fun i => ckI 23 (0 + i)) = true := by decide +kernel
theorem ck_23_1 : (List.range 72).all (fun i => ckI 23 (86 + i)) = true := by decide +kernel
theorem pz_23 (pc : Nat) (h : 158 ≤ pc) : pg_23 pc = (0, 0, 0, 0, 0) := by
  unfold pg_23
  rw [nb_lt (k := 76) (n := 158) h (by decide), cond_false, nb_lt (k := 116) (n := 158) h (by decide), cond_false, nb_lt (k := 133) (n := 158) h (by decide), cond_false, nb_lt (k := 144) (n := 158) h (by decide), cond_false, nb_lt (k := 152) (n := 158) h (by decide), cond_false, nb_lt (k := 155) (n := 158) h (by decide), cond_false, nb_lt (k := 157) (n := 158) h (by decide), cond_false, nb_eq (k := 157) (n := 158) h (by decide), cond_false]
set_option maxRecDepth 100000 in
theorem ck_23 (pc : Nat) : ckI 23 pc = true := by
  by_cases h0 : 158 ≤ pc
  · exact ck_z (show pg 23 pc = _ from pz_23 pc h0)
  by_cases h1 : pc < 86
  · exact ck_at ck_23_0 (by omega) (by omega)
  exact ck_at ck_23_1 (by omega) (by omega)
theorem ch_23 : ckH 23 = true := by decide +kernel
theorem ck_24_0 : (List.range 93).all (fun i => ckI 24 (0 + i)) = true := by decide +kernel
theorem ck_24_1 : (List.range 6).all (fun i => ckI 24 (93 + i)) = true := by decide +kernel
theorem pz_24 (pc : Nat) (h : 99 ≤ pc) : pg_24 pc = (0, 0, 0, 0, 0) := by
  unfold pg_24
  rw [nb_lt (k := 47) (n := 99) h (by decide), cond_false, nb_lt (k := 72) (n := 99) h (by decide), cond_false, nb_lt (k := 85) (n := 99) h (by decide), cond_false, nb_lt (k := 93) (n := 99) h (by decide), cond_false, nb_lt (k := 95) (n := 99) h (by decide), cond_false, nb_lt (k := 98) (n := 99) h (by decide), cond_false, nb_eq (k := 98) (n := 99) h (by decide), cond_false]
set_option maxRecDepth 100000 in
theorem ck_24 (pc : Nat) : ckI 24 pc = true := by
  by_cases h0 : 99 ≤ pc
  · exact ck_z (show pg 24 pc = _ from pz_24 pc h0)
  by_cases h1 : pc < 93
  · exact ck_at ck_24_0 (by omega) (by omega)
  exact ck_at ck_24_1 (by omega) (by omega)
theorem ch_24 : ckH 24 = true := by decide +kernel
theorem ck_25_0 : (List.range 88).all (fun i => ckI 25 (0 + i)) = true := by decide +kernel
theorem ck_25_1 : (List.range 42).all (fun i => ckI 25 (88 + i)) = true := by decide +kernel
theorem pz_25 (pc : Nat) (h : 130 ≤ pc) : pg_25 pc = (0, 0, 0, 0, 0) := by
  unfold pg_25
  rw [nb_lt (k := 69) (n := 130) h (by decide), cond_false, nb_lt (k := 99) (n := 130) h (by decide), cond_false, nb_lt (k := 115) (n := 130) h (by decide), cond_false, nb_lt (k := 122) (n := 130) h (by decide), cond_false, nb_lt (k := 127) (n := 130) h (by decide), cond_false, nb_lt (k := 128) (n := 130) h (by decide), cond_false, nb_lt (k := 129) (n := 130) h (by decide), cond_false, nb_eq (k := 129) (n := 130) h (by decide), cond_false]
set_option maxRecDepth 100000 in
theorem ck_25 (pc : Nat) : ckI 25 pc = true := by
  by_cases h0 : 130 ≤ pc
  · exact ck_z (show pg 25 pc = _ from pz_25 pc h0)
  by_cases h1 : pc < 88
  · exact ck_at ck_25_0 (by omega) (by omega)
  exact ck_at ck_25_1 (by omega) (by omega)
theorem ch_25 : ckH 25 = true := by decide +kernel
theorem ck_26_0 : (List.range 81).all (fun i => ckI 26 (0 + i)) = true := by decide +kernel
theorem pz_26 (pc : Nat) (h : 81 ≤ pc) : pg_26 pc = (0, 0, 0, 0, 0) := by
  unfold pg_26
  rw [nb_lt (k := 39) (n := 81) h (by decide), cond_false, nb_lt (k := 61) (n := 81) h (by decide), cond_false, nb_lt (k := 68) (n := 81) h (by decide), cond_false, nb_lt (k := 76) (n := 81) h (by decide), cond_false, nb_lt (k := 79) (n := 81) h (by decide), cond_false, nb_lt (k := 80) (n := 81) h (by decide), cond_false, nb_eq (k := 80) (n := 81) h (by decide), cond_false]
set_option maxRecDepth 100000 in
theorem ck_26 (pc : Nat) : ckI 26 pc = true := by
  by_cases h0 : 81 ≤ pc
  · exact ck_z (show pg 26 pc = _ from pz_26 pc h0)
  exact ck_at ck_26_0 (by omega) (by omega)
theorem ch_26 : ckH 26 = true := by decide +kernel
theorem ck_27_0 : (List.range 54).all (fun i => ckI 27 (0 + i)) = true := by decide +kernel
theorem pz_27 (pc : Nat) (h : 54 ≤ pc) : pg_27 pc = (0, 0, 0, 0, 0) := by
  unfold pg_27
  rw [nb_lt (k := 27) (n := 54) h (by decide), cond_false, nb_lt (k := 39) (n := 54) h (by decide), cond_false, nb_lt (k := 46) (n := 54) h (by decide), cond_false, nb_lt (k := 50) (n := 54) h (by decide), cond_false, nb_lt (k := 53) (n := 54) h (by decide), cond_false, nb_eq (k := 53) (n := 54) h (by decide), cond_false]
set_option maxRecDepth 100000 in
theorem ck_27 (pc : Nat) : ckI 27 pc = true := by
  by_cases h0 : 54 ≤ pc
  · exact ck_z (show pg 27 pc = _ from pz_27 pc h0)
  exact ck_at ck_27_0 (by omega) (by omega)
theorem ch_27 : ckH 27 = true := by decide +kernel
theorem ck_28_0 : (List.range 86).all (fun i => ckI 28 (0 + i)) = true := by decide +kernel
theorem ck_28_1 : (List.range 31).all (fun i => ckI 28 (86 + i)) = true := by decide +kernel
theorem pz_28 (pc : Nat) (h : 117 ≤ pc) : pg_28 pc = (0, 0, 0, 0, 0) := by
  unfold pg_28
  rw [nb_lt (k := 55) (n := 117) h (by decide), cond_false, nb_lt (k := 86) (n := 117) h (by decide), cond_false, nb_lt (k := 102) (n := 117) h (by decide), cond_false, nb_lt (k := 111) (n := 117) h (by decide), cond_false, nb_lt (k := 115) (n := 117) h (by decide), cond_false, nb_lt (k := 116) (n := 117) h (by decide), cond_false, nb_eq (k := 116) (n := 117) h (by decide), cond_false]
set_option maxRecDepth 100000 in
theorem ck_28 (pc : Nat) : ckI 28 pc = true := by
  by_cases h0 : 117 ≤ pc
  · exact ck_z (show pg 28 pc = _ from pz_28 pc h0)
  by_cases h1 : pc < 86
  · exact ck_at ck_28_0 (by omega) (by omega)
  exact ck_at ck_28_1 (by omega) (by omega)
theorem ch_28 : ckH 28 = true := by decide +kernel
theorem ck_29_0 : (List.range 83).all (fun i => ckI 29 (0 + i)) = true := by decide +kernel
theorem ck_29_1 : (List.range 69).all (fun i => ckI 29 (83 + i)) = true := by decide +kernel
theorem pz_29 (pc : Nat) (h : 152 ≤ pc) : pg_29 pc = (0, 0, 0, 0, 0) := by
  unfold pg_29
  rw [nb_lt (k := 71) (n := 152) h (by decide), cond_false, nb_lt (k := 112) (n := 152) h (by decide), cond_false, nb_lt (k := 134) (n := 152) h (by decide), cond_false, nb_lt (k := 143) (n := 152) h (by decide), cond_false, nb_lt (k := 147) (n := 152) h (by decide), cond_false, nb_lt (k := 150) (n := 152) h (by decide), cond_false, nb_lt (k := 151) (n := 152) h (by decide), cond_false, nb_eq (k := 151) (n := 152) h (by decide), cond_false]
set_option maxRecDepth 100000 in
theorem ck_29 (pc : Nat) : ckI 29 pc = true := by
  by_cases h0 : 152 ≤ pc
  · exact ck_z (show pg 29 pc = _ from pz_29 pc h0)
  by_cases h1 : pc < 83
  · exact ck_at ck_29_0 (by omega) (by omega)
  exact ck_at ck_29_1 (by omega) (by omega)
theorem ch_29 : ckH 29 = true := by decide +kernel
theorem ck_30_0 : (List.range 72).all (fun i => ckI 30 (0 + i)) = true := by decide +kernel
theorem pz_30 (pc : Nat) (h : 72 ≤ pc) : pg_30 pc = (0, 0, 0, 0, 0) := by
  unfold pg_30
  rw [nb_lt (k := 37) (n := 72) h (by decide), cond_false, nb_lt (k := 55) (n := 72) h (by decide), cond_false, nb_lt (k := 62) (n := 72) h (by decide), cond_false, nb_lt (k := 67) (n := 72) h (by decide), cond_false, nb_lt (k := 70) (n := 72) h (by decide), cond_false, nb_lt (k := 71) (n := 72) h (by decide), cond_false, nb_eq (k := 71) (n := 72) h (by decide), cond_false]
set_option maxRecDepth 100000 in
theorem ck_30 (pc : Nat) : ckI 30 pc = true := by
  by_cases h0 : 72 ≤ pc
  · exact ck_z (show pg 30 pc = _ from pz_30 pc h0)
  exact ck_at ck_30_0 (by omega) (by omega)
theorem ch_30 : ckH 30 = true := by decide +kernel
theorem ck_31_0 : (List.range 80).all (fun i => ckI 31 (0 + i)) = true := by decide +kernel
theorem ck_31_1 : (List.range 13).all (fun i => ckI 31 (80 + i)) = true := by decide +kernel
theorem pz_31 (pc : Nat) (h : 93 ≤ pc) : pg_31 pc = (0, 0, 0, 0, 0) := by
  unfold pg_31
  rw [nb_lt (k := 44) (n := 93) h (by decide), cond_false, nb_lt (k := 70) (n := 93) h (by decide), cond_false, nb_lt (k := 80) (n := 93) h (by decide), cond_false, nb_lt (k := 87) (n := 93) h (by decide), cond_false, nb_lt (k := 91) (n := 93) h (by decide), cond_false, nb_lt (k := 92) (n := 93) h (by decide), cond_false, nb_eq (k := 92) (n := 93) h (by decide), cond_false]
set_option maxRecDepth 100000 in
theorem ck_31 (pc : Nat) : ckI 31 pc = true := by
  by_cases h0 : 93 ≤ pc
  · exact ck_z (show pg 31 pc = _ from pz_31 pc h0)
  by_cases h1 : pc < 80
  · exact ck_at ck_31_0 (by omega) (by omega)
  exact ck_at ck_31_1 (by omega) (by omega)
theorem ch_31 : ckH 31 = true := by decide +kernel
theorem ck_32_0 : (List.range 81).all (fun i => ckI 32 (0 + i)) = true := by decide +kernel
theorem pz_32 (pc : Nat) (h : 81 ≤ pc) : pg_32 pc = (0, 0, 0, 0, 0) := by
  unfold pg_32
  rw [nb_lt (k := 40) (n := 81) h (by decide), cond_false, nb_lt (k := 61) (n := 81) h (by decide), cond_false, nb_lt (k := 72) (n := 81) h (by decide), cond_false, nb_lt (k := 76) (n := 81) h (by decide), cond_false, nb_lt (k := 79) (n := 81) h (by decide), cond_false, nb_lt (k := 80) (n := 81) h (by decide), cond_false, nb_eq (k := 80) (n := 81) h (by decide), cond_false]
set_option maxRecDepth 100000 in
theorem ck_32 (pc : Nat) : ckI 32 pc = true := by
  by_cases h0 : 81 ≤ pc
  · exact ck_z (show pg 32 pc = _ from pz_32 pc h0)
  exact ck_at ck_32_0 (by omega) (by omega)
theorem ch_32 : ckH 32 = true := by decide +kernel
theorem ck_33_0 : (List.range 87).all (fun i => ckI 33 (0 + i)) = true := by decide +kernel
theorem ck_33_1 : (List.range 46).all (fun i => ckI 33 (87 + i)) = true := by decide +kernel
theorem pz_33 (pc : Nat) (h : 133 ≤ pc) : pg_33 pc = (0, 0, 0, 0, 0) := by
  unfold pg_33
  rw [nb_lt (k := 59) (n := 133) h (by decide), cond_false, nb_lt (k := 95) (n := 133) h (by decide), cond_false, nb_lt (k := 115) (n := 133) h (by decide), cond_false, nb_lt (k := 123) (n := 133) h (by decide), cond_false, nb_lt (k := 127) (n := 133) h (by decide), cond_false, nb_lt (k := 130) (n := 133) h (by decide), cond_false, nb_lt (k := 132) (n := 133) h (by decide), cond_false, nb_eq (k := 132) (n := 133) h (by decide), cond_false]
set_option maxRecDepth 100000 in
theorem ck_33 (pc : Nat) : ckI 33 pc = true := by
  by_cases h0 : 133 ≤ pc
  · exact ck_z (show pg 33 pc = _ from pz_33 pc h0)
  by_cases h1 : pc < 87
  · exact ck_at ck_33_0 (by omega) (by omega)
  exact ck_at ck_33_1 (by omega) (by omega)
theorem ch_33 : ckH 33 = true := by decide +kernel
theorem ck_34_0 : (List.range 91).all (fun i => ckI 34 (0 + i)) = true := by decide +kernel
theorem ck_34_1 : (List.range 36).all (fun i => ckI 34 (91 + i)) = true := by decide +kernel
theorem pz_34 (pc : Nat) (h : 127 ≤ pc) : pg_34 pc = (0, 0, 0, 0, 0) := by
  unfold pg_34
  rw [nb_lt (k := 60) (n := 127) h (by decide), cond_false, nb_lt (k := 94) (n := 127) h (by decide), cond_false, nb_lt (k := 111) (n := 127) h (by decide), cond_false, nb_lt (k := 120) (n := 127) h (by decide), cond_false, nb_lt (k := 124) (n := 127) h (by decide), cond_false, nb_lt (k := 126) (n := 127) h (by decide), cond_false, nb_eq (k := 126) (n := 127) h (by decide), cond_false]
set_option maxRecDepth 100000 in
theorem ck_34 (pc : Nat) : ckI 34 pc = true := by
  by_cases h0 : 127 ≤ pc
  · exact ck_z (show pg 34 pc = _ from pz_34 pc h0)
  by_cases h1 : pc < 91
  · exact ck_at ck_34_0 (by omega) (by omega)
  exact ck_at ck_34_1 (by omega) (by omega)
theorem ch_34 : ckH 34 = true := by decide +kernel
theorem ck_35_0 : (List.range 91).all (fun i => ckI 35 (0 + i)) = true := by decide +kernel
theorem ck_35_1 : (List.range 93).all (fun i => ckI 35 (91 + i)) = true := by decide +kernel
theorem ck_35_2 : (List.range 9).all (fun i => ckI 35 (184 + i)) = true := by decide +kernel
theorem pz_35 (pc : Nat) (h : 193 ≤ pc) : pg_35 pc = (0, 0, 0, 0, 0) := by
  unfold pg_35
  rw [nb_lt (k := 95) (n := 193) h (by decide), cond_false, nb_lt (k := 141) (n := 193) h (by decide), cond_false, nb_lt (k := 164) (n := 193) h (by decide), cond_false, nb_lt (k := 179) (n := 193) h (by decide), cond_false, nb_lt (k := 187) (n := 193) h (by decide), cond_false, nb_lt (k := 190) (n := 193) h (by decide), cond_false, nb_lt (k := 192) (n := 193) h (by decide), cond_false, nb_eq (k := 192) (n := 193) h (by decide), cond_false]
set_option maxRecDepth 100000 in
theorem ck_35 (pc : Nat) : ckI 35 pc = true := by
  by_cases h0 : 193 ≤ pc
  · exact ck_z (show pg 35 pc = _ from pz_35 pc h0)
  by_cases h1 : pc < 91
  · exact ck_at ck_35_0 (by omega) (by omega)
  by_cases h2 : pc < 184
  · exact ck_at ck_35_1 (by omega) (by omega)
  exact ck_at ck_35_2 (by omega) (by omega)
theorem ch_35 : ckH 35 = true := by decide +kernel
theorem ck_36_0 : (List.range 81).all (fun i => ckI 36 (0 + i)) = true := by decide +kernel
theorem pz_36 (pc : Nat) (h : 81 ≤ pc) : pg_36 pc = (0, 0, 0, 0, 0) := by
  unfold pg_36
  rw [nb_lt (k := 35) (n := 81) h (by decide), cond_false, nb_lt (k := 55) (n := 81) h (by decide), cond_false, nb_lt (k := 67) (n := 81) h (by decide), cond_false, nb_lt (k := 75) (n := 81) h (by decide), cond_false, nb_lt (k := 78) (n := 81) h (by decide), cond_false, nb_lt (k := 80) (n := 81) h (by decide), cond_false, nb_eq (k := 80) (n := 81) h (by decide), cond_false]
set_option maxRecDepth 100000 in
theorem ck_36 (pc : Nat) : ckI 36 pc = true := by
  by_cases h0 : 81 ≤ pc
  · exact ck_z (show pg 36 pc = _ from pz_36 pc h0)
  exact ck_at ck_36_0 (by omega) (by omega)
theorem ch_36 : ckH 36 = true := by decide +kernel
theorem ck_37_0 : (List.range 92).all (fun i => ckI 37 (0 + i)) = true := by decide +kernel
theorem ck_37_1 : (List.range 21).all (fun i => ckI 37 (92 + i)) = true := by decide +kernel
theorem pz_37 (pc : Nat) (h : 113 ≤ pc) : pg_37 pc = (0, 0, 0, 0, 0) := by
  unfold pg_37
  rw [nb_lt (k := 52) (n := 113) h (by decide), cond_false, nb_lt (k := 80) (n := 113) h (by decide), cond_false, nb_lt (k := 98) (n := 113) h (by decide), cond_false, nb_lt (k := 104) (n := 113) h (by decide), cond_false, nb_lt (k := 110) (n := 113) h (by decide), cond_false, nb_lt (k := 112) (n := 113) h (by decide), cond_false, nb_eq (k := 112) (n := 113) h (by decide), cond_false]
set_option maxRecDepth 100000 in
theorem ck_37 (pc : Nat) : ckI 37 pc = true := by
  by_cases h0 : 113 ≤ pc
  · exact ck_z (show pg 37 pc = _ from pz_37 pc h0)
  by_cases h1 : pc < 92
  · exact ck_at ck_37_0 (by omega) (by omega)
  exact ck_at ck_37_1 (by omega) (by omega)
theorem ch_37 : ckH 37 = true := by decide +kernel
theorem ck_38_0 : (List.range 68).all (fun i => ckI 38 (0 + i)) = true := by decide +kernel
theorem pz_38 (pc : Nat) (h : 68 ≤ pc) : pg_38 pc = (0, 0, 0, 0, 0) := by
  unfold pg_38
  rw [nb_lt (k := 29) (n := 68) h (by decide), cond_false, nb_lt (k := 51) (n := 68) h (by decide), cond_false, nb_lt (k := 60) (n := 68) h (by decide), cond_false, nb_lt (k := 64) (n := 68) h (by decide), cond_false, nb_lt (k := 66) (n := 68) h (by decide), cond_false, nb_lt (k := 67) (n := 68) h (by decide), cond_false, nb_eq (k := 67) (n := 68) h (by decide), cond_false]
set_option maxRecDepth 100000 in
theorem ck_38 (pc : Nat) : ckI 38 pc = true := by
  by_cases h0 : 68 ≤ pc
  · exact ck_z (show pg 38 pc = _ from pz_38 pc h0)
  exact ck_at ck_38_0 (by omega) (by omega)
theorem ch_38 : ckH 38 = true := by decide +kernel
theorem ck_39_0 : (List.range 52).all (fun i => ckI 39 (0 + i)) = true := by decide +kernel
theorem pz_39 (pc : Nat) (h : 52 ≤ pc) : pg_39 pc = (0, 0, 0, 0, 0) := by
  unfold pg_39
  rw [nb_lt (k := 25) (n := 52) h (by decide), cond_false, nb_lt (k := 37) (n := 52) h (by decide), cond_false, nb_lt (k := 42) (n := 52) h (by decide), cond_false, nb_lt (k := 48) (n := 52) h (by decide), cond_false, nb_lt (k := 51) (n := 52) h (by decide), cond_false, nb_eq (k := 51) (n := 52) h (by decide), cond_false]
set_option maxRecDepth 100000 in
theorem ck_39 (pc : Nat) : ckI 39 pc = true := by
  by_cases h0 : 52 ≤ pc
  · exact ck_z (show pg 39 pc = _ from pz_39 pc h0)
  exact ck_at ck_39_0 (by omega) (by omega)
theorem ch_39 : ckH 39 = true := by decide +kernel
theorem ck_40_0 : (List.range 67).all (fun i => ckI 40 (0 + i)) = true := by decide +kernel
theorem pz_40 (pc : Nat) (h : 67 ≤ pc) : pg_40 pc = (0, 0, 0, 0, 0) := by
  unfold pg_40
  rw [nb_lt (k := 27) (n := 67) h (by decide), cond_false, nb_lt (k := 48) (n := 67) h (by decide), cond_false, nb_lt (k := 57) (n := 67) h (by decide), cond_false, nb_lt (k := 61) (n := 67) h (by decide), cond_false, nb_lt (k := 64) (n := 67) h (by decide), cond_false, nb_lt (k := 66) (n := 67) h (by decide), cond_false, nb_eq (k := 66) (n := 67) h (by decide), cond_false]
set_option maxRecDepth 100000 in
theorem ck_40 (pc : Nat) : ckI 40 pc = true := by
  by_cases h0 : 67 ≤ pc
  · exact ck_z (show pg 40 pc = _ from pz_40 pc h0)
  exact ck_at ck_40_0 (by omega) (by omega)
theorem ch_40 : ckH 40 = true := by decide +kernel
theorem ck_41_0 : (List.range 62).all (fun i => ckI 41 (0 + i)) = true := by decide +kernel
theorem pz_41 (pc : Nat) (h : 62 ≤ pc) : pg_41 pc = (0, 0, 0, 0, 0) := by
  unfold pg_41
  rw [nb_lt (k := 23) (n := 62) h (by decide), cond_false, nb_lt (k := 42) (n := 62) h (by decide), cond_false, nb_lt (k := 50) (n := 62) h (by decide), cond_false, nb_lt (k := 56) (n := 62) h (by decide), cond_false, nb_lt (k := 59) (n := 62) h (by decide), cond_false, nb_lt (k := 61) (n := 62) h (by decide), cond_false, nb_eq (k := 61) (n := 62) h (by decide), cond_false]
set_option maxRecDepth 100000 in
theorem ck_41 (pc : Nat) : ckI 41 pc = true := by
  by_cases h0 : 62 ≤ pc
  · exact ck_z (show pg 41 pc = _ from pz_41 pc h0)
  exact ck_at ck_41_0 (by omega) (by omega)
theorem ch_41 : ckH 41 = true := by decide +kernel
theorem ck_42_0 : (List.range 45).all (fun i => ckI 42 (0 + i)) = true := by decide +kernel
theorem pz_42 (pc : Nat) (h : 45 ≤ pc) : pg_42 pc = (0, 0, 0, 0, 0) := by
  unfold pg_42
  rw [nb_lt (k := 20) (n := 45) h (by decide), cond_false, nb_lt (k := 32) (n := 45) h (by decide), cond_false, nb_lt (k := 40) (n := 45) h (by decide), cond_false, nb_lt (k := 43) (n := 45) h (by decide), cond_false, nb_lt (k := 44) (n := 45) h (by decide), cond_false, nb_eq (k := 44) (n := 45) h (by decide), cond_false]
set_option maxRecDepth 100000 in
theorem ck_42 (pc : Nat) : ckI 42 pc = true := by
  by_cases h0 : 45 ≤ pc
  · exact ck_z (show pg 42 pc = _ from pz_42 pc h0)
  exact ck_at ck_42_0 (by omega) (by omega)
theorem ch_42 : ckH 42 = true := by decide +kernel
theorem ck_43_0 : (List.range 18).all (fun i => ckI 43 (0 + i)) = true := by decide +kernel
theorem pz_43 (pc : Nat) (h : 18 ≤ pc) : pg_43 pc = (0, 0, 0, 0, 0) := by
  unfold pg_43
  rw [nb_lt (k := 9) (n := 18) h (by decide), cond_false, nb_lt (k := 13) (n := 18) h (by decide), cond_false, nb_lt (k := 16) (n := 18) h (by decide), cond_false, nb_lt (k := 17) (n := 18) h (by decide), cond_false, nb_eq (k := 17) (n := 18) h (by decide), cond_false]
set_option maxRecDepth 100000 in
theorem ck_43 (pc : Nat) : ckI 43 pc = true := by
  by_cases h0 : 18 ≤ pc
  · exact ck_z (show pg 43 pc = _ from pz_43 pc h0)
  exact ck_at ck_43_0 (by omega) (by omega)
theorem ch_43 : ckH 43 = true := by decide +kernel
theorem ck_44_0 : (List.range 49).all (fun i => ckI 44 (0 + i)) = true := by decide +kernel
theorem pz_44 (pc : Nat) (h : 49 ≤ pc) : pg_44 pc = (0, 0, 0, 0, 0) := by
  unfold pg_44
  rw [nb_lt (k := 24) (n := 49) h (by decide), cond_false, nb_lt (k := 37) (n := 49) h (by decide), cond_false, nb_lt (k := 43) (n := 49) h (by decide), cond_false, nb_lt (k := 47) (n := 49) h (by decide), cond_false, nb_lt (k := 48) (n := 49) h (by decide), cond_false, nb_eq (k := 48) (n := 49) h (by decide), cond_false]
set_option maxRecDepth 100000 in
theorem ck_44 (pc : Nat) : ckI 44 pc = true := by
  by_cases h0 : 49 ≤ pc
  · exact ck_z (show pg 44 pc = _ from pz_44 pc h0)
  exact ck_at ck_44_0 (by omega) (by omega)
theorem ch_44 : ckH 44 = true := by decide +kernel
theorem ck_45_0 : (List.range 56).all (fun i => ckI 45 (0 + i)) = true := by decide +kernel
theorem pz_45 (pc : Nat) (h : 56 ≤ pc) : pg_45 pc = (0, 0, 0, 0, 0) := by
  unfold pg_45
  rw [nb_lt (k := 28) (n := 56) h (by decide), cond_false, nb_lt (k := 44) (n := 56) h (by decide), cond_false, nb_lt (k := 50) (n := 56) h (by decide), cond_false, nb_lt (k := 54) (n := 56) h (by decide), cond_false, nb_lt (k := 55) (n := 56) h (by decide), cond_false, nb_eq (k := 55) (n := 56) h (by decide), cond_false]
set_option maxRecDepth 100000 in
theorem ck_45 (pc : Nat) : ckI 45 pc = true := by
  by_cases h0 : 56 ≤ pc
  · exact ck_z (show pg 45 pc = _ from pz_45 pc h0)
  exact ck_at ck_45_0 (by omega) (by omega)
theorem ch_45 : ckH 45 = true := by decide +kernel
theorem ck_46_0 : (List.range 105).all (fun i => ckI 46 (0 + i)) = true := by decide +kernel
theorem pz_46 (pc : Nat) (h : 105 ≤ pc) : pg_46 pc = (0, 0, 0, 0, 0) := by
  unfold pg_46
  rw [nb_lt (k := 74) (n := 105) h (by decide), cond_false, nb_lt (k := 88) (n := 105) h (by decide), cond_false, nb_lt (k := 96) (n := 105) h (by decide), cond_false, nb_lt (k := 102) (n := 105) h (by decide), cond_false, nb_lt (k := 103) (n := 105) h (by decide), cond_false, nb_lt (k := 104) (n := 105) h (by decide), cond_false, nb_eq (k := 104) (n := 105) h (by decide), cond_false]
set_option maxRecDepth 100000 in
theorem ck_46 (pc : Nat) : ckI 46 pc = true := by
  by_cases h0 : 105 ≤ pc
  · exact ck_z (show pg 46 pc = _ from pz_46 pc h0)
  exact ck_at ck_46_0 (by omega) (by omega)
theorem ch_46 : ckH 46 = true := by decide +kernel
theorem ck_47_0 : (List.range 11).all (fun i => ckI 47 (0 + i)) = true := by decide +kernel
theorem pz_47 (pc : Nat) (h : 11 ≤ pc) : pg_47 pc = (0, 0, 0, 0, 0) := by
  unfold pg_47
  rw [nb_lt (k := 4) (n := 11) h (by decide), cond_false, nb_lt (k := 7) (n := 11) h (by decide), cond_false, nb_lt (k := 10) (n := 11) h (by decide), cond_false, nb_eq (k := 10) (n := 11) h (by decide), cond_false]
set_option maxRecDepth 100000 in
theorem ck_47 (pc : Nat) : ckI 47 pc = true := by
  by_cases h0 : 11 ≤ pc
  · exact ck_z (show pg 47 pc = _ from pz_47 pc h0)
  exact ck_at ck_47_0 (by omega) (by omega)
theorem ch_47 : ckH 47 = true := by decide +kernel
theorem ck_48_0 : (List.range 32).all (fun i => ckI 48 (0 + i)) = true := by decide +kernel
theorem pz_48 (pc : Nat) (h : 32 ≤ pc) : pg_48 pc = (0, 0, 0, 0, 0) := by
  unfold pg_48
  rw [nb_lt (k := 12) (n := 32) h (by decide), cond_false, nb_lt (k := 24) (n := 32) h (by decide), cond_false, nb_lt (k := 28) (n := 32) h (by decide), cond_false, nb_lt (k := 31) (n := 32) h (by decide), cond_false, nb_eq (k := 31) (n := 32) h (by decide), cond_false]
set_option maxRecDepth 100000 in
theorem ck_48 (pc : Nat) : ckI 48 pc = true := by
  by_cases h0 : 32 ≤ pc
  · exact ck_z (show pg 48 pc = _ from pz_48 pc h0)
  exact ck_at ck_48_0 (by omega) (by omega)
theorem ch_48 : ckH 48 = true := by decide +kernel
theorem ck_49_0 : (List.range 23).all (fun i => ckI 49 (0 + i)) = true := by decide +kernel
theorem pz_49 (pc : Nat) (h : 23 ≤ pc) : pg_49 pc = (0, 0, 0, 0, 0) := by
  unfold pg_49
  rw [nb_lt (k := 11) (n := 23) h (by decide), cond_false, nb_lt (k := 18) (n := 23) h (by decide), cond_false, nb_lt (k := 19) (n := 23) h (by decide), cond_false, nb_lt (k := 22) (n := 23) h (by decide), cond_false, nb_eq (k := 22) (n := 23) h (by decide), cond_false]
set_option maxRecDepth 100000 in
theorem ck_49 (pc : Nat) : ckI 49 pc = true := by
  by_cases h0 : 23 ≤ pc
  · exact ck_z (show pg 49 pc = _ from pz_49 pc h0)
  exact ck_at ck_49_0 (by omega) (by omega)
theorem ch_49 : ckH 49 = true := by decide +kernel
theorem ck_50_0 : (List.range 23).all (fun i => ckI 50 (0 + i)) = true := by decide +kernel
theorem pz_50 (pc : Nat) (h : 23 ≤ pc) : pg_50 pc = (0, 0, 0, 0, 0) := by
  unfold pg_50
  rw [nb_lt (k := 11) (n := 23) h (by decide), cond_false, nb_lt (k := 18) (n := 23) h (by decide), cond_false, nb_lt (k := 19) (n := 23) h (by decide), cond_false, nb_lt (k := 22) (n := 23) h (by decide), cond_false, nb_eq (k := 22) (n := 23) h (by decide), cond_false]
set_option maxRecDepth 100000 in
theorem ck_50 (pc : Nat) : ckI 50 pc = true := by
  by_cases h0 : 23 ≤ pc
  · exact ck_z (show pg 50 pc = _ from pz_50 pc h0)
  exact ck_at ck_50_0 (by omega) (by omega)
theorem ch_50 : ckH 50 = true := by decide +kernel
theorem ck_51_0 : (List.range 23).all (fun i => ckI 51 (0 + i)) = true := by decide +kernel
theorem pz_51 (pc : Nat) (h : 23 ≤ pc) : pg_51 pc = (0, 0, 0, 0, 0) := by
  unfold pg_51
  rw [nb_lt (k := 11) (n := 23) h (by decide), cond_false, nb_lt (k := 18) (n := 23) h (by decide), cond_false, nb_lt (k := 19) (n := 23) h (by decide), cond_false, nb_lt (k := 22) (n := 23) h (by decide), cond_false, nb_eq (k := 22) (n := 23) h (by decide), cond_false]
set_option maxRecDepth 100000 in
theorem ck_51 (pc : Nat) : ckI 51 pc = true := by
  by_cases h0 : 23 ≤ pc
  · exact ck_z (show pg 51 pc = _ from pz_51 pc h0)
  exact ck_at ck_51_0 (by omega) (by omega)
theorem ch_51 : ckH 51 = true := by decide +kernel
theorem ck_52_0 : (List.range 23).all (fun i => ckI 52 (0 + i)) = true := by decide +kernel
theorem pz_52 (pc : Nat) (h : 23 ≤ pc) : pg_52 pc = (0, 0, 0, 0, 0) := by
  unfold pg_52
  rw [nb_lt (k := 11) (n := 23) h (by decide), cond_false, nb_lt (k := 18) (n := 23) h (by decide), cond_false, nb_lt (k := 19) (n := 23) h (by decide), cond_false, nb_lt (k := 22) (n := 23) h (by decide), cond_false, nb_eq (k := 22) (n := 23) h (by decide), cond_false]
set_option maxRecDepth 100000 in
theorem ck_52 (pc : Nat) : ckI 52 pc = true := by
  by_cases h0 : 23 ≤ pc
  · exact ck_z (show pg 52 pc = _ from pz_52 pc h0)
  exact ck_at ck_52_0 (by omega) (by omega)
theorem ch_52 : ckH 52 = true := by decide +kernel
theorem ck_53_0 : (List.range 70).all (fun i => ckI 53 (0 + i)) = true := by decide +kernel
theorem pz_53 (pc : Nat) (h : 70 ≤ pc) : pg_53 pc = (0, 0, 0, 0, 0) := by
  unfold pg_53
  rw [nb_lt (k := 36) (n := 70) h (by decide), cond_false, nb_lt (k := 52) (n := 70) h (by decide), cond_false, nb_lt (k := 63) (n := 70) h (by decide), cond_false, nb_lt (k := 67) (n := 70) h (by decide), cond_false, nb_lt (k := 68) (n := 70) h (by decide), cond_false, nb_lt (k := 69) (n := 70) h (by decide), cond_false, nb_eq (k := 69) (n := 70) h (by decide), cond_false]
set_option maxRecDepth 100000 in
theorem ck_53 (pc : Nat) : ckI 53 pc = true := by
  by_cases h0 : 70 ≤ pc
  · exact ck_z (show pg 53 pc = _ from pz_53 pc h0)
  exact ck_at ck_53_0 (by omega) (by omega)
theorem ch_53 : ckH 53 = true := by decide +kernel
theorem ck_54_0 : (List.range 5).all (fun i => ckI 54 (0 + i)) = true := by decide +kernel
theorem pz_54 (pc : Nat) (h : 5 ≤ pc) : pg_54 pc = (0, 0, 0, 0, 0) := by
  unfold pg_54
  rw [nb_lt (k := 1) (n := 5) h (by decide), cond_false, nb_lt (k := 4) (n := 5) h (by decide), cond_false, nb_eq (k := 4) (n := 5) h (by decide), cond_false]
set_option maxRecDepth 100000 in
theorem ck_54 (pc : Nat) : ckI 54 pc = true := by
  by_cases h0 : 5 ≤ pc
  · exact ck_z (show pg 54 pc = _ from pz_54 pc h0)
  exact ck_at ck_54_0 (by omega) (by omega)
theorem ch_54 : ckH 54 = true := by decide +kernel
theorem ck_55_0 : (List.range 7).all (fun i => ckI 55 (0 + i)) = true := by decide +kernel
theorem pz_55 (pc : Nat) (h : 7 ≤ pc) : pg_55 pc = (0, 0, 0, 0, 0) := by
  unfold pg_55
  rw [nb_lt (k := 2) (n := 7) h (by decide), cond_false, nb_lt (k := 5) (n := 7) h (by decide), cond_false, nb_lt (k := 6) (n := 7) h (by decide), cond_false, nb_eq (k := 6) (n := 7) h (by decide), cond_false]
set_option maxRecDepth 100000 in
theorem ck_55 (pc : Nat) : ckI 55 pc = true := by
  by_cases h0 : 7 ≤ pc
  · exact ck_z (show pg 55 pc = _ from pz_55 pc h0)
  exact ck_at ck_55_0 (by omega) (by omega)
theorem ch_55 : ckH 55 = true := by decide +kernel
theorem ck_56_0 : (List.range 19).all (fun i => ckI 56 (0 + i)) = true := by decide +kernel
theorem pz_56 (pc : Nat) (h : 19 ≤ pc) : pg_56 pc = (0, 0, 0, 0, 0) := by
  unfold pg_56
  rw [nb_lt (k := 9) (n := 19) h (by decide), cond_false, nb_lt (k := 14) (n := 19) h (by decide), cond_false, nb_lt (k := 17) (n := 19) h (by decide), cond_false, nb_lt (k := 18) (n := 19) h (by decide), cond_false, nb_eq (k := 18) (n := 19) h (by decide), cond_false]
set_option maxRecDepth 100000 in
theorem ck_56 (pc : Nat) : ckI 56 pc = true := by
  by_cases h0 : 19 ≤ pc
  · exact ck_z (show pg 56 pc = _ from pz_56 pc h0)
  exact ck_at ck_56_0 (by omega) (by omega)
theorem ch_56 : ckH 56 = true := by decide +kernel
theorem ck_57_0 : (List.range 10).all (fun i => ckI 57 (0 + i)) = true := by decide +kernel
theorem pz_57 (pc : Nat) (h : 10 ≤ pc) : pg_57 pc = (0, 0, 0, 0, 0) := by
  unfold pg_57
  rw [nb_lt (k := 5) (n := 10) h (by decide), cond_false, nb_lt (k := 8) (n := 10) h (by decide), cond_false, nb_lt (k := 9) (n := 10) h (by decide), cond_false, nb_eq (k := 9) (n := 10) h (by decide), cond_false]
set_option maxRecDepth 100000 in
theorem ck_57 (pc : Nat) : ckI 57 pc = true := by
  by_cases h0 : 10 ≤ pc
  · exact ck_z (show pg 57 pc = _ from pz_57 pc h0)
  exact ck_at ck_57_0 (by omega) (by omega)
theorem ch_57 : ckH 57 = true := by decide +kernel
theorem ck_58_0 : (List.range 21).all (fun i => ckI 58 (0 + i)) = true := by decide +kernel
theorem pz_58 (pc : Nat) (h : 21 ≤ pc) : pg_58 pc = (0, 0, 0, 0, 0) := by
  unfold pg_58
  rw [nb_lt (k := 10) (n := 21) h (by decide), cond_false, nb_lt (k := 15) (n := 21) h (by decide), cond_false, nb_lt (k := 17) (n := 21) h (by decide), cond_false, nb_lt (k := 20) (n := 21) h (by decide), cond_false, nb_eq (k := 20) (n := 21) h (by decide), cond_false]
set_option maxRecDepth 100000 in
theorem ck_58 (pc : Nat) : ckI 58 pc = true := by
  by_cases h0 : 21 ≤ pc
  · exact ck_z (show pg 58 pc = _ from pz_58 pc h0)
  exact ck_at ck_58_0 (by omega) (by omega)
theorem ch_58 : ckH 58 = true := by decide +kernel
theorem ck_59_0 : (List.range 87).all (fun i => ckI 59 (0 + i)) = true := by decide +kernel
theorem ck_59_1 : (List.range 94).all (fun i => ckI 59 (87 + i)) = true := by decide +kernel
theorem ck_59_2 : (List.range 97).all (fun i => ckI 59 (181 + i)) = true := by decide +kernel
theorem ck_59_3 : (List.range 64).all (fun i => ckI 59 (278 + i)) = true := by decide +kernel
theorem pz_59 (pc : Nat) (h : 342 ≤ pc) : pg_59 pc = (0, 0, 0, 0, 0) := by
  unfold pg_59
  rw [nb_lt (k := 177) (n := 342) h (by decide), cond_false, nb_lt (k := 267) (n := 342) h (by decide), cond_false, nb_lt (k := 305) (n := 342) h (by decide), cond_false, nb_lt (k := 322) (n := 342) h (by decide), cond_false, nb_lt (k := 332) (n := 342) h (by decide), cond_false, nb_lt (k := 335) (n := 342) h (by decide), cond_false, nb_lt (k := 338) (n := 342) h (by decide), cond_false, nb_lt (k := 341) (n := 342) h (by decide), cond_false, nb_eq (k := 341) (n := 342) h (by decide), cond_false]
set_option maxRecDepth 100000 in
theorem ck_59 (pc : Nat) : ckI 59 pc = true := by
  by_cases h0 : 342 ≤ pc
  · exact ck_z (show pg 59 pc = _ from pz_59 pc h0)
  by_cases h1 : pc < 87
  · exact ck_at ck_59_0 (by omega) (by omega)
  by_cases h2 : pc < 181
  · exact ck_at ck_59_1 (by omega) (by omega)
  by_cases h3 : pc < 278
  · exact ck_at ck_59_2 (by omega) (by omega)
  exact ck_at ck_59_3 (by omega) (by omega)
theorem ch_59 : ckH 59 = true := by decide +kernel
theorem ck_60_0 : (List.range 21).all (fun i => ckI 60 (0 + i)) = true := by decide +kernel
theorem pz_60 (pc : Nat) (h : 21 ≤ pc) : pg_60 pc = (0, 0, 0, 0, 0) := by
  unfold pg_60
  rw [nb_lt (k := 8) (n := 21) h (by decide), cond_false, nb_lt (k := 13) (n := 21) h (by decide), cond_false, nb_lt (k := 19) (n := 21) h (by decide), cond_false, nb_lt (k := 20) (n := 21) h (by decide), cond_false, nb_eq (k := 20) (n := 21) h (by decide), cond_false]
set_option maxRecDepth 100000 in
theorem ck_60 (pc : Nat) : ckI 60 pc = true := by
  by_cases h0 : 21 ≤ pc
  · exact ck_z (show pg 60 pc = _ from pz_60 pc h0)
  exact ck_at ck_60_0 (by omega) (by omega)
theorem ch_60 : ckH 60 = true := by decide +kernel
theorem ck_61_0 : (List.range 66).all (fun i => ckI 61 (0 + i)) = true := by decide +kernel
theorem pz_61 (pc : Nat) (h : 66 ≤ pc) : pg_61 pc = (0, 0, 0, 0, 0) := by
  unfold pg_61
  rw [nb_lt (k := 29) (n := 66) h (by decide), cond_false, nb_lt (k := 48) (n := 66) h (by decide), cond_false, nb_lt (k := 58) (n := 66) h (by decide), cond_false, nb_lt (k := 61) (n := 66) h (by decide), cond_false, nb_lt (k := 64) (n := 66) h (by decide), cond_false, nb_lt (k := 65) (n := 66) h (by decide), cond_false, nb_eq (k := 65) (n := 66) h (by decide), cond_false]
set_option maxRecDepth 100000 in
theorem ck_61 (pc : Nat) : ckI 61 pc = true := by
  by_cases h0 : 66 ≤ pc
  · exact ck_z (show pg 61 pc = _ from pz_61 pc h0)
  exact ck_at ck_61_0 (by omega) (by omega)
theorem ch_61 : ckH 61 = true := by decide +kernel
theorem ck_62_0 : (List.range 68).all (fun i => ckI 62 (0 + i)) = true := by decide +kernel
theorem pz_62 (pc : Nat) (h : 68 ≤ pc) : pg_62 pc = (0, 0, 0, 0, 0) := by
  unfold pg_62
  rw [nb_lt (k := 33) (n := 68) h (by decide), cond_false, nb_lt (k := 47) (n := 68) h (by decide), cond_false, nb_lt (k := 58) (n := 68) h (by decide), cond_false, nb_lt (k := 63) (n := 68) h (by decide), cond_false, nb_lt (k := 64) (n := 68) h (by decide), cond_false, nb_lt (k := 67) (n := 68) h (by decide), cond_false, nb_eq (k := 67) (n := 68) h (by decide), cond_false]
set_option maxRecDepth 100000 in
theorem ck_62 (pc : Nat) : ckI 62 pc = true := by
  by_cases h0 : 68 ≤ pc
  · exact ck_z (show pg 62 pc = _ from pz_62 pc h0)
  exact ck_at ck_62_0 (by omega) (by omega)
theorem ch_62 : ckH 62 = true := by decide +kernel
theorem ck_63_0 : (List.range 28).all (fun i => ckI 63 (0 + i)) = true := by decide +kernel
theorem pz_63 (pc : Nat) (h : 28 ≤ pc) : pg_63 pc = (0, 0, 0, 0, 0) := by
  unfold pg_63
  rw [nb_lt (k := 13) (n := 28) h (by decide), cond_false, nb_lt (k := 21) (n := 28) h (by decide), cond_false, nb_lt (k := 23) (n := 28) h (by decide), cond_false, nb_lt (k := 26) (n := 28) h (by decide), cond_false, nb_lt (k := 27) (n := 28) h (by decide), cond_false, nb_eq (k := 27) (n := 28) h (by decide), cond_false]
set_option maxRecDepth 100000 in
theorem ck_63 (pc : Nat) : ckI 63 pc = true := by
  by_cases h0 : 28 ≤ pc
  · exact ck_z (show pg 63 pc = _ from pz_63 pc h0)
  exact ck_at ck_63_0 (by omega) (by omega)
theorem ch_63 : ckH 63 = true := by decide +kernel
theorem ck_64_0 : (List.range 27).all (fun i => ckI 64 (0 + i)) = true := by decide +kernel
theorem pz_64 (pc : Nat) (h : 27 ≤ pc) : pg_64 pc = (0, 0, 0, 0, 0) := by
  unfold pg_64
  rw [nb_lt (k := 12) (n := 27) h (by decide), cond_false, nb_lt (k := 19) (n := 27) h (by decide), cond_false, nb_lt (k := 25) (n := 27) h (by decide), cond_false, nb_lt (k := 26) (n := 27) h (by decide), cond_false, nb_eq (k := 26) (n := 27) h (by decide), cond_false]
set_option maxRecDepth 100000 in
theorem ck_64 (pc : Nat) : ckI 64 pc = true := by
  by_cases h0 : 27 ≤ pc
  · exact ck_z (show pg 64 pc = _ from pz_64 pc h0)
  exact ck_at ck_64_0 (by omega) (by omega)
theorem ch_64 : ckH 64 = true := by decide +kernel
theorem ck_65_0 : (List.range 45).all (fun i => ckI 65 (0 + i)) = true := by decide +kernel
theorem pz_65 (pc : Nat) (h : 45 ≤ pc) : pg_65 pc = (0, 0, 0, 0, 0) := by
  unfold pg_65
  rw [nb_lt (k := 24) (n := 45) h (by decide), cond_false, nb_lt (k := 32) (n := 45) h (by decide), cond_false, nb_lt (k := 39) (n := 45) h (by decide), cond_false, nb_lt (k := 43) (n := 45) h (by decide), cond_false, nb_lt (k := 44) (n := 45) h (by decide), cond_false, nb_eq (k := 44) (n := 45) h (by decide), cond_false]
set_option maxRecDepth 100000 in
theorem ck_65 (pc : Nat) : ckI 65 pc = true := by
  by_cases h0 : 45 ≤ pc
  · exact ck_z (show pg 65 pc = _ from pz_65 pc h0)
  exact ck_at ck_65_0 (by omega) (by omega)
theorem ch_65 : ckH 65 = true := by decide +kernel
theorem ck_66_0 : (List.range 39).all (fun i => ckI 66 (0 + i)) = true := by decide +kernel
theorem pz_66 (pc : Nat) (h : 39 ≤ pc) : pg_66 pc = (0, 0, 0, 0, 0) := by
  unfold pg_66
  rw [nb_lt (k := 19) (n := 39) h (by decide), cond_false, nb_lt (k := 30) (n := 39) h (by decide), cond_false, nb_lt (k := 34) (n := 39) h (by decide), cond_false, nb_lt (k := 37) (n := 39) h (by decide), cond_false, nb_lt (k := 38) (n := 39) h (by decide), cond_false, nb_eq (k := 38) (n := 39) h (by decide), cond_false]
set_option maxRecDepth 100000 in
theorem ck_66 (pc : Nat) : ckI 66 pc = true := by
  by_cases h0 : 39 ≤ pc
  · exact ck_z (show pg 66 pc = _ from pz_66 pc h0)
  exact ck_at ck_66_0 (by omega) (by omega)
theorem ch_66 : ckH 66 = true := by decide +kernel
theorem ck_67_0 : (List.range 59).all (fun i => ckI 67 (0 + i)) = true := by decide +kernel
theorem pz_67 (pc : Nat) (h : 59 ≤ pc) : pg_67 pc = (0, 0, 0, 0, 0) := by
  unfold pg_67
  rw [nb_lt (k := 31) (n := 59) h (by decide), cond_false, nb_lt (k := 42) (n := 59) h (by decide), cond_false, nb_lt (k := 48) (n := 59) h (by decide), cond_false, nb_lt (k := 54) (n := 59) h (by decide), cond_false, nb_lt (k := 57) (n := 59) h (by decide), cond_false, nb_lt (k := 58) (n := 59) h (by decide), cond_false, nb_eq (k := 58) (n := 59) h (by decide), cond_false]
set_option maxRecDepth 100000 in
theorem ck_67 (pc : Nat) : ckI 67 pc = true := by
  by_cases h0 : 59 ≤ pc
  · exact ck_z (show pg 67 pc = _ from pz_67 pc h0)
  exact ck_at ck_67_0 (by omega) (by omega)
theorem ch_67 : ckH 67 = true := by decide +kernel
theorem ck_68_0 : (List.range 58).all (fun i => ckI 68 (0 + i)) = true := by decide +kernel
theorem pz_68 (pc : Nat) (h : 58 ≤ pc) : pg_68 pc = (0, 0, 0, 0, 0) := by
  unfold pg_68
  rw [nb_lt (k := 28) (n := 58) h (by decide), cond_false, nb_lt (k := 44) (n := 58) h (by decide), cond_false, nb_lt (k := 52) (n := 58) h (by decide), cond_false, nb_lt (k := 56) (n := 58) h (by decide), cond_false, nb_lt (k := 57) (n := 58) h (by decide), cond_false, nb_eq (k := 57) (n := 58) h (by decide), cond_false]
set_option maxRecDepth 100000 in
theorem ck_68 (pc : Nat) : ckI 68 pc = true := by
  by_cases h0 : 58 ≤ pc
  · exact ck_z (show pg 68 pc = _ from pz_68 pc h0)
  exact ck_at ck_68_0 (by omega) (by omega)
theorem ch_68 : ckH 68 = true := by decide +kernel
theorem ck_69_0 : (List.range 39).all (fun i => ckI 69 (0 + i)) = true := by decide +kernel
theorem pz_69 (pc : Nat) (h : 39 ≤ pc) : pg_69 pc = (0, 0, 0, 0, 0) := by
  unfold pg_69
  rw [nb_lt (k := 19) (n := 39) h (by decide), cond_false, nb_lt (k := 27) (n := 39) h (by decide), cond_false, nb_lt (k := 32) (n := 39) h (by decide), cond_false, nb_lt (k := 37) (n := 39) h (by decide), cond_false, nb_lt (k := 38) (n := 39) h (by decide), cond_false, nb_eq (k := 38) (n := 39) h (by decide), cond_false]
set_option maxRecDepth 100000 in
theorem ck_69 (pc : Nat) : ckI 69 pc = true := by
  by_cases h0 : 39 ≤ pc
  · exact ck_z (show pg 69 pc = _ from pz_69 pc h0)
  exact ck_at ck_69_0 (by omega) (by omega)
theorem ch_69 : ckH 69 = true := by decide +kernel
theorem ck_70_0 : (List.range 82).all (fun i => ckI 70 (0 + i)) = true := by decide +kernel
theorem ck_70_1 : (List.range 76).all (fun i => ckI 70 (82 + i)) = true := by decide +kernel
theorem ck_70_2 : (List.range 12).all (fun i => ckI 70 (158 + i)) = true := by decide +kernel
theorem pz_70 (pc : Nat) (h : 170 ≤ pc) : pg_70 pc = (0, 0, 0, 0, 0) := by
  unfold pg_70
  rw [nb_lt (k := 90) (n := 170) h (by decide), cond_false, nb_lt (k := 129) (n := 170) h (by decide), cond_false, nb_lt (k := 149) (n := 170) h (by decide), cond_false, nb_lt (k := 159) (n := 170) h (by decide), cond_false, nb_lt (k := 164) (n := 170) h (by decide), cond_false, nb_lt (k := 168) (n := 170) h (by decide), cond_false, nb_lt (k := 169) (n := 170) h (by decide), cond_false, nb_eq (k := 169) (n := 170) h (by decide), cond_false]
set_option maxRecDepth 100000 in
theorem ck_70 (pc : Nat) : ckI 70 pc = true := by
  by_cases h0 : 170 ≤ pc
  · exact ck_z (show pg 70 pc = _ from pz_70 pc h0)
  by_cases h1 : pc < 82
  · exact ck_at ck_70_0 (by omega) (by omega)
  by_cases h2 : pc < 158
  · exact ck_at ck_70_1 (by omega) (by omega)
  exact ck_at ck_70_2 (by omega) (by omega)
theorem ch_70 : ckH 70 = true := by decide +kernel
