theorem ck_71_0 : (List.range 79).all (fun i => ckI 71 (0 + i)) = true := by decide +kernel
theorem ck_71_1 : (List.range 72).all (fun i => ckI 71 (79 + i)) = true := by decide +kernel
theorem pz_71 (pc : Nat) (h : 151 ≤ pc) : pg_71 pc = (0, 0, 0, 0, 0) := by
  unfold pg_71
  rw [nb_lt (k := 72) (n := 151) h (by decide), cond_false, nb_lt (k := 111) (n := 151) h (by decide), cond_false, nb_lt (k := 130) (n := 151) h (by decide), cond_false, nb_lt (k := 141) (n := 151) h (by decide), cond_false, nb_lt (k := 146) (n := 151) h (by decide), cond_false, nb_lt (k := 149) (n := 151) h (by decide), cond_false, nb_lt (k := 150) (n := 151) h (by decide), cond_false, nb_eq (k := 150) (n := 151) h (by decide), cond_false]
set_option maxRecDepth 100000 in
theorem ck_71 (pc : Nat) : ckI 71 pc = true := by
  by_cases h0 : 151 ≤ pc
  · exact ck_z (show pg 71 pc = _ from pz_71 pc h0)
  by_cases h1 : pc < 79
  · exact ck_at ck_71_0 (by omega) (by omega)
  exact ck_at ck_71_1 (by omega) (by omega)
theorem ch_71 : ckH 71 = true := by decide +kernel
theorem ck_72_0 : (List.range 16).all (fun i => ckI 72 (0 + i)) = true := by decide +kernel
theorem pz_72 (pc : Nat) (h : 16 ≤ pc) : pg_72 pc = (0, 0, 0, 0, 0) := by
  unfold pg_72
  rw [nb_lt (k := 7) (n := 16) h (by decide), cond_false, nb_lt (k := 11) (n := 16) h (by decide), cond_false, nb_lt (k := 12) (n := 16) h (by decide), cond_false, nb_lt (k := 15) (n := 16) h (by decide), cond_false, nb_eq (k := 15) (n := 16) h (by decide), cond_false]
set_option maxRecDepth 100000 in
theorem ck_72 (pc : Nat) : ckI 72 pc = true := by
  by_cases h0 : 16 ≤ pc
  · exact ck_z (show pg 72 pc = _ from pz_72 pc h0)
  exact ck_at ck_72_0 (by omega) (by omega)
theorem ch_72 : ckH 72 = true := by decide +kernel
theorem ck_73_0 : (List.range 44).all (fun i => ckI 73 (0 + i)) = true := by decide +kernel
theorem pz_73 (pc : Nat) (h : 44 ≤ pc) : pg_73 pc = (0, 0, 0, 0, 0) := by
  unfold pg_73
  rw [nb_lt (k := 20) (n := 44) h (by decide), cond_false, nb_lt (k := 33) (n := 44) h (by decide), cond_false, nb_lt (k := 38) (n := 44) h (by decide), cond_false, nb_lt (k := 40) (n := 44) h (by decide), cond_false, nb_lt (k := 43) (n := 44) h (by decide), cond_false, nb_eq (k := 43) (n := 44) h (by decide), cond_false]
set_option maxRecDepth 100000 in
theorem ck_73 (pc : Nat) : ckI 73 pc = true := by
  by_cases h0 : 44 ≤ pc
  · exact ck_z (show pg 73 pc = _ from pz_73 pc h0)
  exact ck_at ck_73_0 (by omega) (by omega)
theorem ch_73 : ckH 73 = true := by decide +kernel
theorem ck_74_0 : (List.range 26).all (fun i => ckI 74 (0 + i)) = true := by decide +kernel
theorem pz_74 (pc : Nat) (h : 26 ≤ pc) : pg_74 pc = (0, 0, 0, 0, 0) := by
  unfold pg_74
  rw [nb_lt (k := 14) (n := 26) h (by decide), cond_false, nb_lt (k := 20) (n := 26) h (by decide), cond_false, nb_lt (k := 22) (n := 26) h (by decide), cond_false, nb_lt (k := 25) (n := 26) h (by decide), cond_false, nb_eq (k := 25) (n := 26) h (by decide), cond_false]
set_option maxRecDepth 100000 in
theorem ck_74 (pc : Nat) : ckI 74 pc = true := by
  by_cases h0 : 26 ≤ pc
  · exact ck_z (show pg 74 pc = _ from pz_74 pc h0)
  exact ck_at ck_74_0 (by omega) (by omega)
theorem ch_74 : ckH 74 = true := by decide +kernel
theorem ck_75_0 : (List.range 42).all (fun i => ckI 75 (0 + i)) = true := by decide +kernel
theorem pz_75 (pc : Nat) (h : 42 ≤ pc) : pg_75 pc = (0, 0, 0, 0, 0) := by
  unfold pg_75
  rw [nb_lt (k := 22) (n := 42) h (by decide), cond_false, nb_lt (k := 29) (n := 42) h (by decide), cond_false, nb_lt (k := 35) (n := 42) h (by decide), cond_false, nb_lt (k := 40) (n := 42) h (by decide), cond_false, nb_lt (k := 41) (n := 42) h (by decide), cond_false, nb_eq (k := 41) (n := 42) h (by decide), cond_false]
set_option maxRecDepth 100000 in
theorem ck_75 (pc : Nat) : ckI 75 pc = true := by
  by_cases h0 : 42 ≤ pc
  · exact ck_z (show pg 75 pc = _ from pz_75 pc h0)
  exact ck_at ck_75_0 (by omega) (by omega)
theorem ch_75 : ckH 75 = true := by decide +kernel
theorem ck_76_0 : (List.range 77).all (fun i => ckI 76 (0 + i)) = true := by decide +kernel
theorem ck_76_1 : (List.range 11).all (fun i => ckI 76 (77 + i)) = true := by decide +kernel
theorem pz_76 (pc : Nat) (h : 88 ≤ pc) : pg_76 pc = (0, 0, 0, 0, 0) := by
  unfold pg_76
  rw [nb_lt (k := 46) (n := 88) h (by decide), cond_false, nb_lt (k := 67) (n := 88) h (by decide), cond_false, nb_lt (k := 77) (n := 88) h (by decide), cond_false, nb_lt (k := 82) (n := 88) h (by decide), cond_false, nb_lt (k := 86) (n := 88) h (by decide), cond_false, nb_lt (k := 87) (n := 88) h (by decide), cond_false, nb_eq (k := 87) (n := 88) h (by decide), cond_false]
set_option maxRecDepth 100000 in
theorem ck_76 (pc : Nat) : ckI 76 pc = true := by
  by_cases h0 : 88 ≤ pc
  · exact ck_z (show pg 76 pc = _ from pz_76 pc h0)
  by_cases h1 : pc < 77
  · exact ck_at ck_76_0 (by omega) (by omega)
  exact ck_at ck_76_1 (by omega) (by omega)
theorem ch_76 : ckH 76 = true := by decide +kernel
theorem ck_77_0 : (List.range 47).all (fun i => ckI 77 (0 + i)) = true := by decide +kernel
theorem pz_77 (pc : Nat) (h : 47 ≤ pc) : pg_77 pc = (0, 0, 0, 0, 0) := by
  unfold pg_77
  rw [nb_lt (k := 26) (n := 47) h (by decide), cond_false, nb_lt (k := 37) (n := 47) h (by decide), cond_false, nb_lt (k := 43) (n := 47) h (by decide), cond_false, nb_lt (k := 45) (n := 47) h (by decide), cond_false, nb_lt (k := 46) (n := 47) h (by decide), cond_false, nb_eq (k := 46) (n := 47) h (by decide), cond_false]
set_option maxRecDepth 100000 in
theorem ck_77 (pc : Nat) : ckI 77 pc = true := by
  by_cases h0 : 47 ≤ pc
  · exact ck_z (show pg 77 pc = _ from pz_77 pc h0)
  exact ck_at ck_77_0 (by omega) (by omega)
theorem ch_77 : ckH 77 = true := by decide +kernel
theorem ck_78_0 : (List.range 82).all (fun i => ckI 78 (0 + i)) = true := by decide +kernel
theorem ck_78_1 : (List.range 67).all (fun i => ckI 78 (82 + i)) = true := by decide +kernel
theorem pz_78 (pc : Nat) (h : 149 ≤ pc) : pg_78 pc = (0, 0, 0, 0, 0) := by
  unfold pg_78
  rw [nb_lt (k := 71) (n := 149) h (by decide), cond_false, nb_lt (k := 111) (n := 149) h (by decide), cond_false, nb_lt (k := 128) (n := 149) h (by decide), cond_false, nb_lt (k := 138) (n := 149) h (by decide), cond_false, nb_lt (k := 143) (n := 149) h (by decide), cond_false, nb_lt (k := 146) (n := 149) h (by decide), cond_false, nb_lt (k := 148) (n := 149) h (by decide), cond_false, nb_eq (k := 148) (n := 149) h (by decide), cond_false]
set_option maxRecDepth 100000 in
theorem ck_78 (pc : Nat) : ckI 78 pc = true := by
  by_cases h0 : 149 ≤ pc
  · exact ck_z (show pg 78 pc = _ from pz_78 pc h0)
  by_cases h1 : pc < 82
  · exact ck_at ck_78_0 (by omega) (by omega)
  exact ck_at ck_78_1 (by omega) (by omega)
theorem ch_78 : ckH 78 = true := by decide +kernel
theorem ck_79_0 : (List.range 31).all (fun i => ckI 79 (0 + i)) = true := by decide +kernel
theorem pz_79 (pc : Nat) (h : 31 ≤ pc) : pg_79 pc = (0, 0, 0, 0, 0) := by
  unfold pg_79
  rw [nb_lt (k := 17) (n := 31) h (by decide), cond_false, nb_lt (k := 24) (n := 31) h (by decide), cond_false, nb_lt (k := 26) (n := 31) h (by decide), cond_false, nb_lt (k := 29) (n := 31) h (by decide), cond_false, nb_lt (k := 30) (n := 31) h (by decide), cond_false, nb_eq (k := 30) (n := 31) h (by decide), cond_false]
set_option maxRecDepth 100000 in
theorem ck_79 (pc : Nat) : ckI 79 pc = true := by
  by_cases h0 : 31 ≤ pc
  · exact ck_z (show pg 79 pc = _ from pz_79 pc h0)
  exact ck_at ck_79_0 (by omega) (by omega)
theorem ch_79 : ckH 79 = true := by decide +kernel
theorem ck_80_0 : (List.range 68).all (fun i => ckI 80 (0 + i)) = true := by decide +kernel
theorem ck_80_1 : (List.range 18).all (fun i => ckI 80 (68 + i)) = true := by decide +kernel
theorem pz_80 (pc : Nat) (h : 86 ≤ pc) : pg_80 pc = (0, 0, 0, 0, 0) := by
  unfold pg_80
  rw [nb_lt (k := 44) (n := 86) h (by decide), cond_false, nb_lt (k := 65) (n := 86) h (by decide), cond_false, nb_lt (k := 76) (n := 86) h (by decide), cond_false, nb_lt (k := 79) (n := 86) h (by decide), cond_false, nb_lt (k := 84) (n := 86) h (by decide), cond_false, nb_lt (k := 85) (n := 86) h (by decide), cond_false, nb_eq (k := 85) (n := 86) h (by decide), cond_false]
set_option maxRecDepth 100000 in
theorem ck_80 (pc : Nat) : ckI 80 pc = true := by
  by_cases h0 : 86 ≤ pc
  · exact ck_z (show pg 80 pc = _ from pz_80 pc h0)
  by_cases h1 : pc < 68
  · exact ck_at ck_80_0 (by omega) (by omega)
  exact ck_at ck_80_1 (by omega) (by omega)
theorem ch_80 : ckH 80 = true := by decide +kernel
theorem ck_81_0 : (List.range 43).all (fun i => ckI 81 (0 + i)) = true := by decide +kernel
theorem pz_81 (pc : Nat) (h : 43 ≤ pc) : pg_81 pc = (0, 0, 0, 0, 0) := by
  unfold pg_81
  rw [nb_lt (k := 22) (n := 43) h (by decide), cond_false, nb_lt (k := 31) (n := 43) h (by decide), cond_false, nb_lt (k := 37) (n := 43) h (by decide), cond_false, nb_lt (k := 41) (n := 43) h (by decide), cond_false, nb_lt (k := 42) (n := 43) h (by decide), cond_false, nb_eq (k := 42) (n := 43) h (by decide), cond_false]
set_option maxRecDepth 100000 in
theorem ck_81 (pc : Nat) : ckI 81 pc = true := by
  by_cases h0 : 43 ≤ pc
  · exact ck_z (show pg 81 pc = _ from pz_81 pc h0)
  exact ck_at ck_81_0 (by omega) (by omega)
theorem ch_81 : ckH 81 = true := by decide +kernel
theorem ck_82_0 : (List.range 51).all (fun i => ckI 82 (0 + i)) = true := by decide +kernel
theorem pz_82 (pc : Nat) (h : 51 ≤ pc) : pg_82 pc = (0, 0, 0, 0, 0) := by
  unfold pg_82
  rw [nb_lt (k := 27) (n := 51) h (by decide), cond_false, nb_lt (k := 39) (n := 51) h (by decide), cond_false, nb_lt (k := 45) (n := 51) h (by decide), cond_false, nb_lt (k := 48) (n := 51) h (by decide), cond_false, nb_lt (k := 49) (n := 51) h (by decide), cond_false, nb_lt (k := 50) (n := 51) h (by decide), cond_false, nb_eq (k := 50) (n := 51) h (by decide), cond_false]
set_option maxRecDepth 100000 in
theorem ck_82 (pc : Nat) : ckI 82 pc = true := by
  by_cases h0 : 51 ≤ pc
  · exact ck_z (show pg 82 pc = _ from pz_82 pc h0)
  exact ck_at ck_82_0 (by omega) (by omega)
theorem ch_82 : ckH 82 = true := by decide +kernel
theorem ck_83_0 : (List.range 31).all (fun i => ckI 83 (0 + i)) = true := by decide +kernel
theorem pz_83 (pc : Nat) (h : 31 ≤ pc) : pg_83 pc = (0, 0, 0, 0, 0) := by
  unfold pg_83
  rw [nb_lt (k := 15) (n := 31) h (by decide), cond_false, nb_lt (k := 22) (n := 31) h (by decide), cond_false, nb_lt (k := 26) (n := 31) h (by decide), cond_false, nb_lt (k := 27) (n := 31) h (by decide), cond_false, nb_lt (k := 30) (n := 31) h (by decide), cond_false, nb_eq (k := 30) (n := 31) h (by decide), cond_false]
set_option maxRecDepth 100000 in
theorem ck_83 (pc : Nat) : ckI 83 pc = true := by
  by_cases h0 : 31 ≤ pc
  · exact ck_z (show pg 83 pc = _ from pz_83 pc h0)
  exact ck_at ck_83_0 (by omega) (by omega)
theorem ch_83 : ckH 83 = true := by decide +kernel
theorem ck_84_0 : (List.range 23).all (fun i => ckI 84 (0 + i)) = true := by decide +kernel
theorem pz_84 (pc : Nat) (h : 23 ≤ pc) : pg_84 pc = (0, 0, 0, 0, 0) := by
  unfold pg_84
  rw [nb_lt (k := 10) (n := 23) h (by decide), cond_false, nb_lt (k := 16) (n := 23) h (by decide), cond_false, nb_lt (k := 19) (n := 23) h (by decide), cond_false, nb_lt (k := 22) (n := 23) h (by decide), cond_false, nb_eq (k := 22) (n := 23) h (by decide), cond_false]
set_option maxRecDepth 100000 in
theorem ck_84 (pc : Nat) : ckI 84 pc = true := by
  by_cases h0 : 23 ≤ pc
  · exact ck_z (show pg 84 pc = _ from pz_84 pc h0)
  exact ck_at ck_84_0 (by omega) (by omega)
theorem ch_84 : ckH 84 = true := by decide +kernel
theorem ck_85_0 : (List.range 90).all (fun i => ckI 85 (0 + i)) = true := by decide +kernel
theorem ck_85_1 : (List.range 81).all (fun i => ckI 85 (90 + i)) = true := by decide +kernel
theorem pz_85 (pc : Nat) (h : 171 ≤ pc) : pg_85 pc = (0, 0, 0, 0, 0) := by
  unfold pg_85
  rw [nb_lt (k := 86) (n := 171) h (by decide), cond_false, nb_lt (k := 127) (n := 171) h (by decide), cond_false, nb_lt (k := 146) (n := 171) h (by decide), cond_false, nb_lt (k := 159) (n := 171) h (by decide), cond_false, nb_lt (k := 166) (n := 171) h (by decide), cond_false, nb_lt (k := 169) (n := 171) h (by decide), cond_false, nb_lt (k := 170) (n := 171) h (by decide), cond_false, nb_eq (k := 170) (n := 171) h (by decide), cond_false]
set_option maxRecDepth 100000 in
theorem ck_85 (pc : Nat) : ckI 85 pc = true := by
  by_cases h0 : 171 ≤ pc
  · exact ck_z (show pg 85 pc = _ from pz_85 pc h0)
  by_cases h1 : pc < 90
  · exact ck_at ck_85_0 (by omega) (by omega)
  exact ck_at ck_85_1 (by omega) (by omega)
theorem ch_85 : ckH 85 = true := by decide +kernel
theorem ck_86_0 : (List.range 26).all (fun i => ckI 86 (0 + i)) = true := by decide +kernel
theorem pz_86 (pc : Nat) (h : 26 ≤ pc) : pg_86 pc = (0, 0, 0, 0, 0) := by
  unfold pg_86
  rw [nb_lt (k := 13) (n := 26) h (by decide), cond_false, nb_lt (k := 19) (n := 26) h (by decide), cond_false, nb_lt (k := 22) (n := 26) h (by decide), cond_false, nb_lt (k := 25) (n := 26) h (by decide), cond_false, nb_eq (k := 25) (n := 26) h (by decide), cond_false]
set_option maxRecDepth 100000 in
theorem ck_86 (pc : Nat) : ckI 86 pc = true := by
  by_cases h0 : 26 ≤ pc
  · exact ck_z (show pg 86 pc = _ from pz_86 pc h0)
  exact ck_at ck_86_0 (by omega) (by omega)
theorem ch_86 : ckH 86 = true := by decide +kernel
theorem ck_87_0 : (List.range 63).all (fun i => ckI 87 (0 + i)) = true := by decide +kernel
theorem pz_87 (pc : Nat) (h : 63 ≤ pc) : pg_87 pc = (0, 0, 0, 0, 0) := by
  unfold pg_87
  rw [nb_lt (k := 27) (n := 63) h (by decide), cond_false, nb_lt (k := 42) (n := 63) h (by decide), cond_false, nb_lt (k := 51) (n := 63) h (by decide), cond_false, nb_lt (k := 57) (n := 63) h (by decide), cond_false, nb_lt (k := 60) (n := 63) h (by decide), cond_false, nb_lt (k := 62) (n := 63) h (by decide), cond_false, nb_eq (k := 62) (n := 63) h (by decide), cond_false]
set_option maxRecDepth 100000 in
theorem ck_87 (pc : Nat) : ckI 87 pc = true := by
  by_cases h0 : 63 ≤ pc
  · exact ck_z (show pg 87 pc = _ from pz_87 pc h0)
  exact ck_at ck_87_0 (by omega) (by omega)
theorem ch_87 : ckH 87 = true := by decide +kernel
theorem ck_88_0 : (List.range 25).all (fun i => ckI 88 (0 + i)) = true := by decide +kernel
theorem pz_88 (pc : Nat) (h : 25 ≤ pc) : pg_88 pc = (0, 0, 0, 0, 0) := by
  unfold pg_88
  rw [nb_lt (k := 12) (n := 25) h (by decide), cond_false, nb_lt (k := 21) (n := 25) h (by decide), cond_false, nb_lt (k := 23) (n := 25) h (by decide), cond_false, nb_lt (k := 24) (n := 25) h (by decide), cond_false, nb_eq (k := 24) (n := 25) h (by decide), cond_false]
set_option maxRecDepth 100000 in
theorem ck_88 (pc : Nat) : ckI 88 pc = true := by
  by_cases h0 : 25 ≤ pc
  · exact ck_z (show pg 88 pc = _ from pz_88 pc h0)
  exact ck_at ck_88_0 (by omega) (by omega)
theorem ch_88 : ckH 88 = true := by decide +kernel
theorem ck_89_0 : (List.range 88).all (fun i => ckI 89 (0 + i)) = true := by decide +kernel
theorem ck_89_1 : (List.range 8).all (fun i => ckI 89 (88 + i)) = true := by decide +kernel
theorem pz_89 (pc : Nat) (h : 96 ≤ pc) : pg_89 pc = (0, 0, 0, 0, 0) := by
  unfold pg_89
  rw [nb_lt (k := 41) (n := 96) h (by decide), cond_false, nb_lt (k := 67) (n := 96) h (by decide), cond_false, nb_lt (k := 79) (n := 96) h (by decide), cond_false, nb_lt (k := 88) (n := 96) h (by decide), cond_false, nb_lt (k := 94) (n := 96) h (by decide), cond_false, nb_lt (k := 95) (n := 96) h (by decide), cond_false, nb_eq (k := 95) (n := 96) h (by decide), cond_false]
set_option maxRecDepth 100000 in
theorem ck_89 (pc : Nat) : ckI 89 pc = true := by
  by_cases h0 : 96 ≤ pc
  · exact ck_z (show pg 89 pc = _ from pz_89 pc h0)
  by_cases h1 : pc < 88
  · exact ck_at ck_89_0 (by omega) (by omega)
  exact ck_at ck_89_1 (by omega) (by omega)
theorem ch_89 : ckH 89 = true := by decide +kernel
theorem ck_90_0 : (List.range 79).all (fun i => ckI 90 (0 + i)) = true := by decide +kernel
theorem ck_90_1 : (List.range 49).all (fun i => ckI 90 (79 + i)) = true := by decide +kernel
theorem pz_90 (pc : Nat) (h : 128 ≤ pc) : pg_90 pc = (0, 0, 0, 0, 0) := by
  unfold pg_90
  rw [nb_lt (k := 64) (n := 128) h (by decide), cond_false, nb_lt (k := 96) (n := 128) h (by decide), cond_false, nb_lt (k := 109) (n := 128) h (by decide), cond_false, nb_lt (k := 117) (n := 128) h (by decide), cond_false, nb_lt (k := 123) (n := 128) h (by decide), cond_false, nb_lt (k := 126) (n := 128) h (by decide), cond_false, nb_lt (k := 127) (n := 128) h (by decide), cond_false, nb_eq (k := 127) (n := 128) h (by decide), cond_false]
set_option maxRecDepth 100000 in
theorem ck_90 (pc : Nat) : ckI 90 pc = true := by
  by_cases h0 : 128 ≤ pc
  · exact ck_z (show pg 90 pc = _ from pz_90 pc h0)
  by_cases h1 : pc < 79
  · exact ck_at ck_90_0 (by omega) (by omega)
  exact ck_at ck_90_1 (by omega) (by omega)
theorem ch_90 : ckH 90 = true := by decide +kernel
theorem ck_91_0 : (List.range 57).all (fun i => ckI 91 (0 + i)) = true := by decide +kernel
theorem pz_91 (pc : Nat) (h : 57 ≤ pc) : pg_91 pc = (0, 0, 0, 0, 0) := by
  unfold pg_91
  rw [nb_lt (k := 29) (n := 57) h (by decide), cond_false, nb_lt (k := 41) (n := 57) h (by decide), cond_false, nb_lt (k := 49) (n := 57) h (by decide), cond_false, nb_lt (k := 53) (n := 57) h (by decide), cond_false, nb_lt (k := 56) (n := 57) h (by decide), cond_false, nb_eq (k := 56) (n := 57) h (by decide), cond_false]
set_option maxRecDepth 100000 in
theorem ck_91 (pc : Nat) : ckI 91 pc = true := by
  by_cases h0 : 57 ≤ pc
  · exact ck_z (show pg 91 pc = _ from pz_91 pc h0)
  exact ck_at ck_91_0 (by omega) (by omega)
theorem ch_91 : ckH 91 = true := by decide +kernel
theorem ck_92_0 : (List.range 78).all (fun i => ckI 92 (0 + i)) = true := by decide +kernel
theorem ck_92_1 : (List.range 53).all (fun i => ckI 92 (78 + i)) = true := by decide +kernel
theorem pz_92 (pc : Nat) (h : 131 ≤ pc) : pg_92 pc = (0, 0, 0, 0, 0) := by
  unfold pg_92
  rw [nb_lt (k := 61) (n := 131) h (by decide), cond_false, nb_lt (k := 93) (n := 131) h (by decide), cond_false, nb_lt (k := 112) (n := 131) h (by decide), cond_false, nb_lt (k := 120) (n := 131) h (by decide), cond_false, nb_lt (k := 126) (n := 131) h (by decide), cond_false, nb_lt (k := 129) (n := 131) h (by decide), cond_false, nb_lt (k := 130) (n := 131) h (by decide), cond_false, nb_eq (k := 130) (n := 131) h (by decide), cond_false]
set_option maxRecDepth 100000 in
theorem ck_92 (pc : Nat) : ckI 92 pc = true := by
  by_cases h0 : 131 ≤ pc
  · exact ck_z (show pg 92 pc = _ from pz_92 pc h0)
  by_cases h1 : pc < 78
  · exact ck_at ck_92_0 (by omega) (by omega)
  exact ck_at ck_92_1 (by omega) (by omega)
theorem ch_92 : ckH 92 = true := by decide +kernel
theorem ck_93_0 : (List.range 42).all (fun i => ckI 93 (0 + i)) = true := by decide +kernel
theorem pz_93 (pc : Nat) (h : 42 ≤ pc) : pg_93 pc = (0, 0, 0, 0, 0) := by
  unfold pg_93
  rw [nb_lt (k := 20) (n := 42) h (by decide), cond_false, nb_lt (k := 30) (n := 42) h (by decide), cond_false, nb_lt (k := 37) (n := 42) h (by decide), cond_false, nb_lt (k := 38) (n := 42) h (by decide), cond_false, nb_lt (k := 41) (n := 42) h (by decide), cond_false, nb_eq (k := 41) (n := 42) h (by decide), cond_false]
set_option maxRecDepth 100000 in
theorem ck_93 (pc : Nat) : ckI 93 pc = true := by
  by_cases h0 : 42 ≤ pc
  · exact ck_z (show pg 93 pc = _ from pz_93 pc h0)
  exact ck_at ck_93_0 (by omega) (by omega)
theorem ch_93 : ckH 93 = true := by decide +kernel
theorem ck_94_0 : (List.range 18).all (fun i => ckI 94 (0 + i)) = true := by decide +kernel
theorem pz_94 (pc : Nat) (h : 18 ≤ pc) : pg_94 pc = (0, 0, 0, 0, 0) := by
  unfold pg_94
  rw [nb_lt (k := 7) (n := 18) h (by decide), cond_false, nb_lt (k := 13) (n := 18) h (by decide), cond_false, nb_lt (k := 14) (n := 18) h (by decide), cond_false, nb_lt (k := 17) (n := 18) h (by decide), cond_false, nb_eq (k := 17) (n := 18) h (by decide), cond_false]
set_option maxRecDepth 100000 in
theorem ck_94 (pc : Nat) : ckI 94 pc = true := by
  by_cases h0 : 18 ≤ pc
  · exact ck_z (show pg 94 pc = _ from pz_94 pc h0)
  exact ck_at ck_94_0 (by omega) (by omega)
theorem ch_94 : ckH 94 = true := by decide +kernel
theorem ck_95_0 : (List.range 78).all (fun i => ckI 95 (0 + i)) = true := by decide +kernel
theorem ck_95_1 : (List.range 7).all (fun i => ckI 95 (78 + i)) = true := by decide +kernel
theorem pz_95 (pc : Nat) (h : 85 ≤ pc) : pg_95 pc = (0, 0, 0, 0, 0) := by
  unfold pg_95
  rw [nb_lt (k := 40) (n := 85) h (by decide), cond_false, nb_lt (k := 61) (n := 85) h (by decide), cond_false, nb_lt (k := 73) (n := 85) h (by decide), cond_false, nb_lt (k := 78) (n := 85) h (by decide), cond_false, nb_lt (k := 81) (n := 85) h (by decide), cond_false, nb_lt (k := 84) (n := 85) h (by decide), cond_false, nb_eq (k := 84) (n := 85) h (by decide), cond_false]
set_option maxRecDepth 100000 in
theorem ck_95 (pc : Nat) : ckI 95 pc = true := by
  by_cases h0 : 85 ≤ pc
  · exact ck_z (show pg 95 pc = _ from pz_95 pc h0)
  by_cases h1 : pc < 78
  · exact ck_at ck_95_0 (by omega) (by omega)
  exact ck_at ck_95_1 (by omega) (by omega)
theorem ch_95 : ckH 95 = true := by decide +kernel
theorem ck_96_0 : (List.range 79).all (fun i => ckI 96 (0 + i)) = true := by decide +kernel
theorem ck_96_1 : (List.range 69).all (fun i => ckI 96 (79 + i)) = true := by decide +kernel
theorem pz_96 (pc : Nat) (h : 148 ≤ pc) : pg_96 pc = (0, 0, 0, 0, 0) := by
  unfold pg_96
  rw [nb_lt (k := 70) (n := 148) h (by decide), cond_false, nb_lt (k := 106) (n := 148) h (by decide), cond_false, nb_lt (k := 128) (n := 148) h (by decide), cond_false, nb_lt (k := 139) (n := 148) h (by decide), cond_false, nb_lt (k := 142) (n := 148) h (by decide), cond_false, nb_lt (k := 145) (n := 148) h (by decide), cond_false, nb_lt (k := 147) (n := 148) h (by decide), cond_false, nb_eq (k := 147) (n := 148) h (by decide), cond_false]
set_option maxRecDepth 100000 in
theorem ck_96 (pc : Nat) : ckI 96 pc = true := by
  by_cases h0 : 148 ≤ pc
  · exact ck_z (show pg 96 pc = _ from pz_96 pc h0)
  by_cases h1 : pc < 79
  · exact ck_at ck_96_0 (by omega) (by omega)
  exact ck_at ck_96_1 (by omega) (by omega)
theorem ch_96 : ckH 96 = true := by decide +kernel
theorem ck_97_0 : (List.range 28).all (fun i => ckI 97 (0 + i)) = true := by decide +kernel
theorem pz_97 (pc : Nat) (h : 28 ≤ pc) : pg_97 pc = (0, 0, 0, 0, 0) := by
  unfold pg_97
  rw [nb_lt (k := 14) (n := 28) h (by decide), cond_false, nb_lt (k := 22) (n := 28) h (by decide), cond_false, nb_lt (k := 24) (n := 28) h (by decide), cond_false, nb_lt (k := 27) (n := 28) h (by decide), cond_false, nb_eq (k := 27) (n := 28) h (by decide), cond_false]
set_option maxRecDepth 100000 in
theorem ck_97 (pc : Nat) : ckI 97 pc = true := by
  by_cases h0 : 28 ≤ pc
  · exact ck_z (show pg 97 pc = _ from pz_97 pc h0)
  exact ck_at ck_97_0 (by omega) (by omega)
theorem ch_97 : ckH 97 = true := by decide +kernel
theorem ck_98_0 : (List.range 13).all (fun i => ckI 98 (0 + i)) = true := by decide +kernel
theorem pz_98 (pc : Nat) (h : 13 ≤ pc) : pg_98 pc = (0, 0, 0, 0, 0) := by
  unfold pg_98
  rw [nb_lt (k := 6) (n := 13) h (by decide), cond_false, nb_lt (k := 10) (n := 13) h (by decide), cond_false, nb_lt (k := 11) (n := 13) h (by decide), cond_false, nb_lt (k := 12) (n := 13) h (by decide), cond_false, nb_eq (k := 12) (n := 13) h (by decide), cond_false]
set_option maxRecDepth 100000 in
theorem ck_98 (pc : Nat) : ckI 98 pc = true := by
  by_cases h0 : 13 ≤ pc
  · exact ck_z (show pg 98 pc = _ from pz_98 pc h0)
  exact ck_at ck_98_0 (by omega) (by omega)
theorem ch_98 : ckH 98 = true := by decide +kernel
theorem ck_99_0 : (List.range 49).all (fun i => ckI 99 (0 + i)) = true := by decide +kernel
theorem pz_99 (pc : Nat) (h : 49 ≤ pc) : pg_99 pc = (0, 0, 0, 0, 0) := by
  unfold pg_99
  rw [nb_lt (k := 25) (n := 49) h (by decide), cond_false, nb_lt (k := 37) (n := 49) h (by decide), cond_false, nb_lt (k := 43) (n := 49) h (by decide), cond_false, nb_lt (k := 47) (n := 49) h (by decide), cond_false, nb_lt (k := 48) (n := 49) h (by decide), cond_false, nb_eq (k := 48) (n := 49) h (by decide), cond_false]
set_option maxRecDepth 100000 in
theorem ck_99 (pc : Nat) : ckI 99 pc = true := by
  by_cases h0 : 49 ≤ pc
  · exact ck_z (show pg 99 pc = _ from pz_99 pc h0)
  exact ck_at ck_99_0 (by omega) (by omega)
theorem ch_99 : ckH 99 = true := by decide +kernel
theorem ck_100_0 : (List.range 61).all (fun i => ckI 100 (0 + i)) = true := by decide +kernel
theorem pz_100 (pc : Nat) (h : 61 ≤ pc) : pg_100 pc = (0, 0, 0, 0, 0) := by
  unfold pg_100
  rw [nb_lt (k := 30) (n := 61) h (by decide), cond_false, nb_lt (k := 45) (n := 61) h (by decide), cond_false, nb_lt (k := 54) (n := 61) h (by decide), cond_false, nb_lt (k := 56) (n := 61) h (by decide), cond_false, nb_lt (k := 59) (n := 61) h (by decide), cond_false, nb_lt (k := 60) (n := 61) h (by decide), cond_false, nb_eq (k := 60) (n := 61) h (by decide), cond_false]
set_option maxRecDepth 100000 in
theorem ck_100 (pc : Nat) : ckI 100 pc = true := by
  by_cases h0 : 61 ≤ pc
  · exact ck_z (show pg 100 pc = _ from pz_100 pc h0)
  exact ck_at ck_100_0 (by omega) (by omega)
theorem ch_100 : ckH 100 = true := by decide +kernel
theorem ck_101_0 : (List.range 14).all (fun i => ckI 101 (0 + i)) = true := by decide +kernel
theorem pz_101 (pc : Nat) (h : 14 ≤ pc) : pg_101 pc = (0, 0, 0, 0, 0) := by
  unfold pg_101
  rw [nb_lt (k := 8) (n := 14) h (by decide), cond_false, nb_lt (k := 12) (n := 14) h (by decide), cond_false, nb_lt (k := 13) (n := 14) h (by decide), cond_false, nb_eq (k := 13) (n := 14) h (by decide), cond_false]
set_option maxRecDepth 100000 in
theorem ck_101 (pc : Nat) : ckI 101 pc = true := by
  by_cases h0 : 14 ≤ pc
  · exact ck_z (show pg 101 pc = _ from pz_101 pc h0)
  exact ck_at ck_101_0 (by omega) (by omega)
theorem ch_101 : ckH 101 = true := by decide +kernel
theorem ck_102_0 : (List.range 83).all (fun i => ckI 102 (0 + i)) = true := by decide +kernel
theorem ck_102_1 : (List.range 42).all (fun i => ckI 102 (83 + i)) = true := by decide +kernel
theorem pz_102 (pc : Nat) (h : 125 ≤ pc) : pg_102 pc = (0, 0, 0, 0, 0) := by
  unfold pg_102
  rw [nb_lt (k := 57) (n := 125) h (by decide), cond_false, nb_lt (k := 88) (n := 125) h (by decide), cond_false, nb_lt (k := 104) (n := 125) h (by decide), cond_false, nb_lt (k := 114) (n := 125) h (by decide), cond_false, nb_lt (k := 120) (n := 125) h (by decide), cond_false, nb_lt (k := 123) (n := 125) h (by decide), cond_false, nb_lt (k := 124) (n := 125) h (by decide), cond_false, nb_eq (k := 124) (n := 125) h (by decide), cond_false]
set_option maxRecDepth 100000 in
theorem ck_102 (pc : Nat) : ckI 102 pc = true := by
  by_cases h0 : 125 ≤ pc
  · exact ck_z (show pg 102 pc = _ from pz_102 pc h0)
  by_cases h1 : pc < 83
  · exact ck_at ck_102_0 (by omega) (by omega)
  exact ck_at ck_102_1 (by omega) (by omega)
theorem ch_102 : ckH 102 = true := by decide +kernel
theorem ck_103_0 : (List.range 70).all (fun i => ckI 103 (0 + i)) = true := by decide +kernel
theorem ck_103_1 : (List.range 87).all (fun i => ckI 103 (70 + i)) = true := by decide +kernel
theorem ck_103_2 : (List.range 24).all (fun i => ckI 103 (157 + i)) = true := by decide +kernel
theorem pz_103 (pc : Nat) (h : 181 ≤ pc) : pg_103 pc = (0, 0, 0, 0, 0) := by
  unfold pg_103
  rw [nb_lt (k := 81) (n := 181) h (by decide), cond_false, nb_lt (k := 129) (n := 181) h (by decide), cond_false, nb_lt (k := 156) (n := 181) h (by decide), cond_false, nb_lt (k := 167) (n := 181) h (by decide), cond_false, nb_lt (k := 173) (n := 181) h (by decide), cond_false, nb_lt (k := 177) (n := 181) h (by decide), cond_false, nb_lt (k := 180) (n := 181) h (by decide), cond_false, nb_eq (k := 180) (n := 181) h (by decide), cond_false]
set_option maxRecDepth 100000 in
theorem ck_103 (pc : Nat) : ckI 103 pc = true := by
  by_cases h0 : 181 ≤ pc
  · exact ck_z (show pg 103 pc = _ from pz_103 pc h0)
  by_cases h1 : pc < 70
  · exact ck_at ck_103_0 (by omega) (by omega)
  by_cases h2 : pc < 157
  · exact ck_at ck_103_1 (by omega) (by omega)
  exact ck_at ck_103_2 (by omega) (by omega)
theorem ch_103 : ckH 103 = true := by decide +kernel
theorem ck_104_0 : (List.range 33).all (fun i => ckI 104 (0 + i)) = true := by decide +kernel
theorem pz_104 (pc : Nat) (h : 33 ≤ pc) : pg_104 pc = (0, 0, 0, 0, 0) := by
  unfold pg_104
  rw [nb_lt (k := 15) (n := 33) h (by decide), cond_false, nb_lt (k := 24) (n := 33) h (by decide), cond_false, nb_lt (k := 26) (n := 33) h (by decide), cond_false, nb_lt (k := 29) (n := 33) h (by decide), cond_false, nb_lt (k := 32) (n := 33) h (by decide), cond_false, nb_eq (k := 32) (n := 33) h (by decide), cond_false]
set_option maxRecDepth 100000 in
theorem ck_104 (pc : Nat) : ckI 104 pc = true := by
  by_cases h0 : 33 ≤ pc
  · exact ck_z (show pg 104 pc = _ from pz_104 pc h0)
  exact ck_at ck_104_0 (by omega) (by omega)
theorem ch_104 : ckH 104 = true := by decide +kernel
theorem ck_105_0 : (List.range 79).all (fun i => ckI 105 (0 + i)) = true := by decide +kernel
theorem ck_105_1 : (List.range 85).all (fun i => ckI 105 (79 + i)) = true := by decide +kernel
theorem ck_105_2 : (List.range 83).all (fun i => ckI 105 (164 + i)) = true := by decide +kernel
theorem ck_105_3 : (List.range 11).all (fun i => ckI 105 (247 + i)) = true := by decide +kernel
theorem pz_105 (pc : Nat) (h : 258 ≤ pc) : pg_105 pc = (0, 0, 0, 0, 0) := by
  unfold pg_105
  rw [nb_lt (k := 130) (n := 258) h (by decide), cond_false, nb_lt (k := 190) (n := 258) h (by decide), cond_false, nb_lt (k := 224) (n := 258) h (by decide), cond_false, nb_lt (k := 242) (n := 258) h (by decide), cond_false, nb_lt (k := 249) (n := 258) h (by decide), cond_false, nb_lt (k := 251) (n := 258) h (by decide), cond_false, nb_lt (k := 254) (n := 258) h (by decide), cond_false, nb_lt (k := 257) (n := 258) h (by decide), cond_false, nb_eq (k := 257) (n := 258) h (by decide), cond_false]
set_option maxRecDepth 100000 in
theorem ck_105 (pc : Nat) : ckI 105 pc = true := by
  by_cases h0 : 258 ≤ pc
  · exact ck_z (show pg 105 pc = _ from pz_105 pc h0)
  by_cases h1 : pc < 79
  · exact ck_at ck_105_0 (by omega) (by omega)
  by_cases h2 : pc < 164
  · exact ck_at ck_105_1 (by omega) (by omega)
  by_cases h3 : pc < 247
  · exact ck_at ck_105_2 (by omega) (by omega)
  exact ck_at ck_105_3 (by omega) (by omega)
theorem ch_105 : ckH 105 = true := by decide +kernel
theorem ck_106_0 : (List.range 14).all (fun i => ckI 106 (0 + i)) = true := by decide +kernel
theorem pz_106 (pc : Nat) (h : 14 ≤ pc) : pg_106 pc = (0, 0, 0, 0, 0) := by
  unfold pg_106
  rw [nb_lt (k := 8) (n := 14) h (by decide), cond_false, nb_lt (k := 12) (n := 14) h (by decide), cond_false, nb_lt (k := 13) (n := 14) h (by decide), cond_false, nb_eq (k := 13) (n := 14) h (by decide), cond_false]
set_option maxRecDepth 100000 in
theorem ck_106 (pc : Nat) : ckI 106 pc = true := by
  by_cases h0 : 14 ≤ pc
  · exact ck_z (show pg 106 pc = _ from pz_106 pc h0)
  exact ck_at ck_106_0 (by omega) (by omega)
theorem ch_106 : ckH 106 = true := by decide +kernel
theorem ck_107_0 : (List.range 78).all (fun i => ckI 107 (0 + i)) = true := by decide +kernel
theorem ck_107_1 : (List.range 20).all (fun i => ckI 107 (78 + i)) = true := by decide +kernel
theorem pz_107 (pc : Nat) (h : 98 ≤ pc) : pg_107 pc = (0, 0, 0, 0, 0) := by
  unfold pg_107
  rw [nb_lt (k := 49) (n := 98) h (by decide), cond_false, nb_lt (k := 73) (n := 98) h (by decide), cond_false, nb_lt (k := 84) (n := 98) h (by decide), cond_false, nb_lt (k := 90) (n := 98) h (by decide), cond_false, nb_lt (k := 94) (n := 98) h (by decide), cond_false, nb_lt (k := 97) (n := 98) h (by decide), cond_false, nb_eq (k := 97) (n := 98) h (by decide), cond_false]
set_option maxRecDepth 100000 in
theorem ck_107 (pc : Nat) : ckI 107 pc = true := by
  by_cases h0 : 98 ≤ pc
  · exact ck_z (show pg 107 pc = _ from pz_107 pc h0)
  by_cases h1 : pc < 78
  · exact ck_at ck_107_0 (by omega) (by omega)
  exact ck_at ck_107_1 (by omega) (by omega)
theorem ch_107 : ckH 107 = true := by decide +kernel
theorem ck_108_0 : (List.range 81).all (fun i => ckI 108 (0 + i)) = true := by decide +kernel
theorem ck_108_1 : (List.range 10).all (fun i => ckI 108 (81 + i)) = true := by decide +kernel
theorem pz_108 (pc : Nat) (h : 91 ≤ pc) : pg_108 pc = (0, 0, 0, 0, 0) := by
  unfold pg_108
  rw [nb_lt (k := 44) (n := 91) h (by decide), cond_false, nb_lt (k := 66) (n := 91) h (by decide), cond_false, nb_lt (k := 76) (n := 91) h (by decide), cond_false, nb_lt (k := 81) (n := 91) h (by decide), cond_false, nb_lt (k := 87) (n := 91) h (by decide), cond_false, nb_lt (k := 90) (n := 91) h (by decide), cond_false, nb_eq (k := 90) (n := 91) h (by decide), cond_false]
set_option maxRecDepth 100000 in
theorem ck_108 (pc : Nat) : ckI 108 pc = true := by
  by_cases h0 : 91 ≤ pc
  · exact ck_z (show pg 108 pc = _ from pz_108 pc h0)
  by_cases h1 : pc < 81
  · exact ck_at ck_108_0 (by omega) (by omega)
  exact ck_at ck_108_1 (by omega) (by omega)
theorem ch_108 : ckH 108 = true := by decide +kernel
theorem ck_109_0 : (List.range 81).all (fun i => ckI 109 (0 + i)) = true := by decide +kernel
theorem ck_109_1 : (List.range 50).all (fun i => ckI 109 (81 + i)) = true := by decide +kernel
theorem pz_109 (pc : Nat) (h : 131 ≤ pc) : pg_109 pc = (0, 0, 0, 0, 0) := by
  unfold pg_109
  rw [nb_lt (k := 63) (n := 131) h (by decide), cond_false, nb_lt (k := 96) (n := 131) h (by decide), cond_false, nb_lt (k := 111) (n := 131) h (by decide), cond_false, nb_lt (k := 121) (n := 131) h (by decide), cond_false, nb_lt (k := 125) (n := 131) h (by decide), cond_false, nb_lt (k := 128) (n := 131) h (by decide), cond_false, nb_lt (k := 130) (n := 131) h (by decide), cond_false, nb_eq (k := 130) (n := 131) h (by decide), cond_false]
set_option maxRecDepth 100000 in
theorem ck_109 (pc : Nat) : ckI 109 pc = true := by
  by_cases h0 : 131 ≤ pc
  · exact ck_z (show pg 109 pc = _ from pz_109 pc h0)
  by_cases h1 : pc < 81
  · exact ck_at ck_109_0 (by omega) (by omega)
  exact ck_at ck_109_1 (by omega) (by omega)
theorem ch_109 : ckH 109 = true := by decide +kernel
theorem ck_110_0 : (List.range 86).all (fun i => ckI 110 (0 + i)) = true := by decide +kernel
theorem ck_110_1 : (List.range 25).all (fun i => ckI 110 (86 + i)) = true := by decide +kernel
theorem pz_110 (pc : Nat) (h : 111 ≤ pc) : pg_110 pc = (0, 0, 0, 0, 0) := by
  unfold pg_110
  rw [nb_lt (k := 54) (n := 111) h (by decide), cond_false, nb_lt (k := 81) (n := 111) h (by decide), cond_false, nb_lt (k := 93) (n := 111) h (by decide), cond_false, nb_lt (k := 101) (n := 111) h (by decide), cond_false, nb_lt (k := 107) (n := 111) h (by decide), cond_false, nb_lt (k := 110) (n := 111) h (by decide), cond_false, nb_eq (k := 110) (n := 111) h (by decide), cond_false]
set_option maxRecDepth 100000 in
theorem ck_110 (pc : Nat) : ckI 110 pc = true := by
  by_cases h0 : 111 ≤ pc
  · exact ck_z (show pg 110 pc = _ from pz_110 pc h0)
  by_cases h1 : pc < 86
  · exact ck_at ck_110_0 (by omega) (by omega)
  exact ck_at ck_110_1 (by omega) (by omega)
theorem ch_110 : ckH 110 = true := by decide +kernel
theorem ck_111_0 : (List.range 80).all (fun i => ckI 111 (0 + i)) = true := by decide +kernel
theorem pz_111 (pc : Nat) (h : 80 ≤ pc) : pg_111 pc = (0, 0, 0, 0, 0) := by
  unfold pg_111
  rw [nb_lt (k := 44) (n := 80) h (by decide), cond_false, nb_lt (k := 63) (n := 80) h (by decide), cond_false, nb_lt (k := 70) (n := 80) h (by decide), cond_false, nb_lt (k := 77) (n := 80) h (by decide), cond_false, nb_lt (k := 78) (n := 80) h (by decide), cond_false, nb_lt (k := 79) (n := 80) h (by decide), cond_false, nb_eq (k := 79) (n := 80) h (by decide), cond_false]
set_option maxRecDepth 100000 in
theorem ck_111 (pc : Nat) : ckI 111 pc = true := by
  by_cases h0 : 80 ≤ pc
  · exact ck_z (show pg 111 pc = _ from pz_111 pc h0)
  exact ck_at ck_111_0 (by omega) (by omega)
theorem ch_111 : ckH 111 = true := by decide +kernel
theorem ck_112_0 : (List.range 52).all (fun i => ckI 112 (0 + i)) = true := by decide +kernel
theorem pz_112 (pc : Nat) (h : 52 ≤ pc) : pg_112 pc = (0, 0, 0, 0, 0) := by
  unfold pg_112
  rw [nb_lt (k := 24) (n := 52) h (by decide), cond_false, nb_lt (k := 38) (n := 52) h (by decide), cond_false, nb_lt (k := 43) (n := 52) h (by decide), cond_false, nb_lt (k := 49) (n := 52) h (by decide), cond_false, nb_lt (k := 51) (n := 52) h (by decide), cond_false, nb_eq (k := 51) (n := 52) h (by decide), cond_false]
set_option maxRecDepth 100000 in
theorem ck_112 (pc : Nat) : ckI 112 pc = true := by
  by_cases h0 : 52 ≤ pc
  · exact ck_z (show pg 112 pc = _ from pz_112 pc h0)
  exact ck_at ck_112_0 (by omega) (by omega)
theorem ch_112 : ckH 112 = true := by decide +kernel
theorem ck_113_0 : (List.range 72).all (fun i => ckI 113 (0 + i)) = true := by decide +kernel
theorem ck_113_1 : (List.range 81).all (fun i => ckI 113 (72 + i)) = true := by decide +kernel
theorem ck_113_2 : (List.range 1).all (fun i => ckI 113 (153 + i)) = true := by decide +kernel
theorem pz_113 (pc : Nat) (h : 154 ≤ pc) : pg_113 pc = (0, 0, 0, 0, 0) := by
  unfold pg_113
  rw [nb_lt (k := 72) (n := 154) h (by decide), cond_false, nb_lt (k := 113) (n := 154) h (by decide), cond_false, nb_lt (k := 132) (n := 154) h (by decide), cond_false, nb_lt (k := 142) (n := 154) h (by decide), cond_false, nb_lt (k := 149) (n := 154) h (by decide), cond_false, nb_lt (k := 152) (n := 154) h (by decide), cond_false, nb_lt (k := 153) (n := 154) h (by decide), cond_false, nb_eq (k := 153) (n := 154) h (by decide), cond_false]
set_option maxRecDepth 100000 in
theorem ck_113 (pc : Nat) : ckI 113 pc = true := by
  by_cases h0 : 154 ≤ pc
  · exact ck_z (show pg 113 pc = _ from pz_113 pc h0)
  by_cases h1 : pc < 72
  · exact ck_at ck_113_0 (by omega) (by omega)
  by_cases h2 : pc < 153
  · exact ck_at ck_113_1 (by omega) (by omega)
  exact ck_at ck_113_2 (by omega) (by omega)
theorem ch_113 : ckH 113 = true := by decide +kernel
theorem ck_114_0 : (List.range 87).all (fun i => ckI 114 (0 + i)) = true := by decide +kernel
theorem ck_114_1 : (List.range 68).all (fun i => ckI 114 (87 + i)) = true := by decide +kernel
theorem pz_114 (pc : Nat) (h : 155 ≤ pc) : pg_114 pc = (0, 0, 0, 0, 0) := by
  unfold pg_114
  rw [nb_lt (k := 76) (n := 155) h (by decide), cond_false, nb_lt (k := 114) (n := 155) h (by decide), cond_false, nb_lt (k := 137) (n := 155) h (by decide), cond_false, nb_lt (k := 146) (n := 155) h (by decide), cond_false, nb_lt (k := 150) (n := 155) h (by decide), cond_false, nb_lt (k := 151) (n := 155) h (by decide), cond_false, nb_lt (k := 154) (n := 155) h (by decide), cond_false, nb_eq (k := 154) (n := 155) h (by decide), cond_false]
set_option maxRecDepth 100000 in
theorem ck_114 (pc : Nat) : ckI 114 pc = true := by
  by_cases h0 : 155 ≤ pc
  · exact ck_z (show pg 114 pc = _ from pz_114 pc h0)
  by_cases h1 : pc < 87
  · exact ck_at ck_114_0 (by omega) (by omega)
  exact ck_at ck_114_1 (by omega) (by omega)
theorem ch_114 : ckH 114 = true := by decide +kernel
theorem ck_115_0 : (List.range 58).all (fun i => ckI 115 (0 + i)) = true := by decide +kernel
theorem pz_115 (pc : Nat) (h : 58 ≤ pc) : pg_115 pc = (0, 0, 0, 0, 0) := by
  unfold pg_115
  rw [nb_lt (k := 26) (n := 58) h (by decide), cond_false, nb_lt (k := 43) (n := 58) h (by decide), cond_false, nb_lt (k := 49) (n := 58) h (by decide), cond_false, nb_lt (k := 55) (n := 58) h (by decide), cond_false, nb_lt (k := 57) (n := 58) h (by decide), cond_false, nb_eq (k := 57) (n := 58) h (by decide), cond_false]
set_option maxRecDepth 100000 in
theorem ck_115 (pc : Nat) : ckI 115 pc = true := by
  by_cases h0 : 58 ≤ pc
  · exact ck_z (show pg 115 pc = _ from pz_115 pc h0)
  exact ck_at ck_115_0 (by omega) (by omega)
theorem ch_115 : ckH 115 = true := by decide +kernel
theorem ck_116_0 : (List.range 16).all (fun i => ckI 116 (0 + i)) = true := by decide +kernel
theorem pz_116 (pc : Nat) (h : 16 ≤ pc) : pg_116 pc = (0, 0, 0, 0, 0) := by
  unfold pg_116
  rw [nb_lt (k := 7) (n := 16) h (by decide), cond_false, nb_lt (k := 11) (n := 16) h (by decide), cond_false, nb_lt (k := 12) (n := 16) h (by decide), cond_false, nb_lt (k := 15) (n := 16) h (by decide), cond_false, nb_eq (k := 15) (n := 16) h (by decide), cond_false]
set_option maxRecDepth 100000 in
theorem ck_116 (pc : Nat) : ckI 116 pc = true := by
  by_cases h0 : 16 ≤ pc
  · exact ck_z (show pg 116 pc = _ from pz_116 pc h0)
  exact ck_at ck_116_0 (by omega) (by omega)
theorem ch_116 : ckH 116 = true := by decide +kernel
theorem ck_117_0 : (List.range 72).all (fun i => ckI 117 (0 + i)) = true := by decide +kernel
theorem ck_117_1 : (List.range 71).all (fun i => ckI 117 (72 + i)) = true := by decide +kernel
theorem ck_117_2 : (List.range 68).all (fun i => ckI 117 (143 + i)) = true := by decide +kernel
theorem ck_117_3 : (List.range 71).all (fun i => ckI 117 (211 + i)) = true := by decide +kernel
theorem ck_117_4 : (List.range 13).all (fun i => ckI 117 (282 + i)) = true := by decide +kernel
theorem pz_117 (pc : Nat) (h : 295 ≤ pc) : pg_117 pc = (0, 0, 0, 0, 0) := by
  unfold pg_117
  rw [nb_lt (k := 149) (n := 295) h (by decide), cond_false, nb_lt (k := 218) (n := 295) h (by decide), cond_false, nb_lt (k := 256) (n := 295) h (by decide), cond_false, nb_lt (k := 275) (n := 295) h (by decide), cond_false, nb_lt (k := 285) (n := 295) h (by decide), cond_false, nb_lt (k := 290) (n := 295) h (by decide), cond_false, nb_lt (k := 293) (n := 295) h (by decide), cond_false, nb_lt (k := 294) (n := 295) h (by decide), cond_false, nb_eq (k := 294) (n := 295) h (by decide), cond_false]
set_option maxRecDepth 100000 in
theorem ck_117 (pc : Nat) : ckI 117 pc = true := by
  by_cases h0 : 295 ≤ pc
  · exact ck_z (show pg 117 pc = _ from pz_117 pc h0)
  by_cases h1 : pc < 72
  · exact ck_at ck_117_0 (by omega) (by omega)
  by_cases h2 : pc < 143
  · exact ck_at ck_117_1 (by omega) (by omega)
  by_cases h3 : pc < 211
  · exact ck_at ck_117_2 (by omega) (by omega)
  by_cases h4 : pc < 282
  · exact ck_at ck_117_3 (by omega) (by omega)
  exact ck_at ck_117_4 (by omega) (by omega)
theorem ch_117 : ckH 117 = true := by decide +kernel
theorem ck_118_0 : (List.range 82).all (fun i => ckI 118 (0 + i)) = true := by decide +kernel
theorem ck_118_1 : (List.range 26).all (fun i => ckI 118 (82 + i)) = true := by decide +kernel
theorem pz_118 (pc : Nat) (h : 108 ≤ pc) : pg_118 pc = (0, 0, 0, 0, 0) := by
  unfold pg_118
  rw [nb_lt (k := 52) (n := 108) h (by decide), cond_false, nb_lt (k := 79) (n := 108) h (by decide), cond_false, nb_lt (k := 94) (n := 108) h (by decide), cond_false, nb_lt (k := 104) (n := 108) h (by decide), cond_false, nb_lt (k := 106) (n := 108) h (by decide), cond_false, nb_lt (k := 107) (n := 108) h (by decide), cond_false, nb_eq (k := 107) (n := 108) h (by decide), cond_false]
set_option maxRecDepth 100000 in
theorem ck_118 (pc : Nat) : ckI 118 pc = true := by
  by_cases h0 : 108 ≤ pc
  · exact ck_z (show pg 118 pc = _ from pz_118 pc h0)
  by_cases h1 : pc < 82
  · exact ck_at ck_118_0 (by omega) (by omega)
  exact ck_at ck_118_1 (by omega) (by omega)
theorem ch_118 : ckH 118 = true := by decide +kernel
theorem ck_119_0 : (List.range 78).all (fun i => ckI 119 (0 + i)) = true := by decide +kernel
theorem ck_119_1 : (List.range 17).all (fun i => ckI 119 (78 + i)) = true := by decide +kernel
theorem pz_119 (pc : Nat) (h : 95 ≤ pc) : pg_119 pc = (0, 0, 0, 0, 0) := by
  unfold pg_119
  rw [nb_lt (k := 50) (n := 95) h (by decide), cond_false, nb_lt (k := 73) (n := 95) h (by decide), cond_false, nb_lt (k := 84) (n := 95) h (by decide), cond_false, nb_lt (k := 89) (n := 95) h (by decide), cond_false, nb_lt (k := 93) (n := 95) h (by decide), cond_false, nb_lt (k := 94) (n := 95) h (by decide), cond_false, nb_eq (k := 94) (n := 95) h (by decide), cond_false]
set_option maxRecDepth 100000 in
theorem ck_119 (pc : Nat) : ckI 119 pc = true := by
  by_cases h0 : 95 ≤ pc
  · exact ck_z (show pg 119 pc = _ from pz_119 pc h0)
  by_cases h1 : pc < 78
  · exact ck_at ck_119_0 (by omega) (by omega)
  exact ck_at ck_119_1 (by omega) (by omega)
theorem ch_119 : ckH 119 = true := by decide +kernel
theorem ck_120_0 : (List.range 77).all (fun i => ckI 120 (0 + i)) = true := by decide +kernel
theorem ck_120_1 : (List.range 51).all (fun i => ckI 120 (77 + i)) = true := by decide +kernel
theorem pz_120 (pc : Nat) (h : 128 ≤ pc) : pg_120 pc = (0, 0, 0, 0, 0) := by
  unfold pg_120
  rw [nb_lt (k := 63) (n := 128) h (by decide), cond_false, nb_lt (k := 94) (n := 128) h (by decide), cond_false, nb_lt (k := 111) (n := 128) h (by decide), cond_false, nb_lt (k := 119) (n := 128) h (by decide), cond_false, nb_lt (k := 123) (n := 128) h (by decide), cond_false, nb_lt (k := 126) (n := 128) h (by decide), cond_false, nb_lt (k := 127) (n := 128) h (by decide), cond_false, nb_eq (k := 127) (n := 128) h (by decide), cond_false]
set_option maxRecDepth 100000 in
theorem ck_120 (pc : Nat) : ckI 120 pc = true := by
  by_cases h0 : 128 ≤ pc
  · exact ck_z (show pg 120 pc = _ from pz_120 pc h0)
  by_cases h1 : pc < 77
  · exact ck_at ck_120_0 (by omega) (by omega)
  exact ck_at ck_120_1 (by omega) (by omega)
theorem ch_120 : ckH 120 = true := by decide +kernel
theorem ck_121_0 : (List.range 65).all (fun i => ckI 121 (0 + i)) = true := by decide +kernel
theorem pz_121 (pc : Nat) (h : 65 ≤ pc) : pg_121 pc = (0, 0, 0, 0, 0) := by
  unfold pg_121
  rw [nb_lt (k := 33) (n := 65) h (by decide), cond_false, nb_lt (k := 50) (n := 65) h (by decide), cond_false, nb_lt (k := 55) (n := 65) h (by decide), cond_false, nb_lt (k := 60) (n := 65) h (by decide), cond_false, nb_lt (k := 63) (n := 65) h (by decide), cond_false, nb_lt (k := 64) (n := 65) h (by decide), cond_false, nb_eq (k := 64) (n := 65) h (by decide), cond_false]
set_option maxRecDepth 100000 in
theorem ck_121 (pc : Nat) : ckI 121 pc = true := by
  by_cases h0 : 65 ≤ pc
  · exact ck_z (show pg 121 pc = _ from pz_121 pc h0)
  exact ck_at ck_121_0 (by omega) (by omega)
theorem ch_121 : ckH 121 = true := by decide +kernel
theorem ck_122_0 : (List.range 74).all (fun i => ckI 122 (0 + i)) = true := by decide +kernel
theorem ck_122_1 : (List.range 23).all (fun i => ckI 122 (74 + i)) = true := by decide +kernel
theorem pz_122 (pc : Nat) (h : 97 ≤ pc) : pg_122 pc = (0, 0, 0, 0, 0) := by
  unfold pg_122
  rw [nb_lt (k := 46) (n := 97) h (by decide), cond_false, nb_lt (k := 70) (n := 97) h (by decide), cond_false, nb_lt (k := 81) (n := 97) h (by decide), cond_false, nb_lt (k := 89) (n := 97) h (by decide), cond_false, nb_lt (k := 93) (n := 97) h (by decide), cond_false, nb_lt (k := 96) (n := 97) h (by decide), cond_false, nb_eq (k := 96) (n := 97) h (by decide), cond_false]
set_option maxRecDepth 100000 in
theorem ck_122 (pc : Nat) : ckI 122 pc = true := by
  by_cases h0 : 97 ≤ pc
  · exact ck_z (show pg 122 pc = _ from pz_122 pc h0)
  by_cases h1 : pc < 74
  · exact ck_at ck_122_0 (by omega) (by omega)
  exact ck_at ck_122_1 (by omega) (by omega)
theorem ch_122 : ckH 122 = true := by decide +kernel
theorem ck_123_0 : (List.range 68).all (fun i => ckI 123 (0 + i)) = true := by decide +kernel
theorem ck_123_1 : (List.range 63).all (fun i => ckI 123 (68 + i)) = true := by decide +kernel
theorem pz_123 (pc : Nat) (h : 131 ≤ pc) : pg_123 pc = (0, 0, 0, 0, 0) := by
  unfold pg_123
  rw [nb_lt (k := 66) (n := 131) h (by decide), cond_false, nb_lt (k := 99) (n := 131) h (by decide), cond_false, nb_lt (k := 112) (n := 131) h (by decide), cond_false, nb_lt (k := 119) (n := 131) h (by decide), cond_false, nb_lt (k := 124) (n := 131) h (by decide), cond_false, nb_lt (k := 127) (n := 131) h (by decide), cond_false, nb_lt (k := 130) (n := 131) h (by decide), cond_false, nb_eq (k := 130) (n := 131) h (by decide), cond_false]
set_option maxRecDepth 100000 in
theorem ck_123 (pc : Nat) : ckI 123 pc = true := by
  by_cases h0 : 131 ≤ pc
  · exact ck_z (show pg 123 pc = _ from pz_123 pc h0)
  by_cases h1 : pc < 68
  · exact ck_at ck_123_0 (by omega) (by omega)
  exact ck_at ck_123_1 (by omega) (by omega)
theorem ch_123 : ckH 123 = true := by decide +kernel
theorem ck_124_0 : (List.range 79).all (fun i => ckI 124 (0 + i)) = true := by decide +kernel
theorem ck_124_1 : (List.range 9).all (fun i => ckI 124 (79 + i)) = true := by decide +kernel
theorem pz_124 (pc : Nat) (h : 88 ≤ pc) : pg_124 pc = (0, 0, 0, 0, 0) := by
  unfold pg_124
  rw [nb_lt (k := 40) (n := 88) h (by decide), cond_false, nb_lt (k := 63) (n := 88) h (by decide), cond_false, nb_lt (k := 75) (n := 88) h (by decide), cond_false, nb_lt (k := 80) (n := 88) h (by decide), cond_false, nb_lt (k := 86) (n := 88) h (by decide), cond_false, nb_lt (k := 87) (n := 88) h (by decide), cond_false, nb_eq (k := 87) (n := 88) h (by decide), cond_false]
set_option maxRecDepth 100000 in
theorem ck_124 (pc : Nat) : ckI 124 pc = true := by
  by_cases h0 : 88 ≤ pc
  · exact ck_z (show pg 124 pc = _ from pz_124 pc h0)
  by_cases h1 : pc < 79
  · exact ck_at ck_124_0 (by omega) (by omega)
  exact ck_at ck_124_1 (by omega) (by omega)
theorem ch_124 : ckH 124 = true := by decide +kernel
