/-! speeches back from minutes, on a fresh object: the model -/
def MC (W : vW) : Prop := PQ W ∧ vct W 25 4 = 0 ∧ vct W 25 12 = 3 ∧ vct W 25 2 = 26 ∧ vkd W 26 = 2 ∧ vln W 26 = 32
def sm (n : Nat) : Int := if n ≤ 7 then 3 ^ n else 6561
theorem sm_le {n : Nat} (h : n ≤ 7) : sm n = ((3 ^ n : Nat) : Int) := by unfold sm; rw [if_pos h]; norm_cast
section MO
variable {d : Nat} {w W W' : vW} {Q : Int → vW → Prop} {i v c x lo hi : Int} {n : Nat} {l : List Int}
theorem FM.mc (h : FM w) : MC w := ⟨h.pq, fm_25_4 h, fm_25_12 h, fm_25_2 h, fmk_26 h, fml_26 h⟩
theorem MC.sv (h : MC W) (h2 : i ≠ 2) (h3 : i ≠ 3) (h4 : i ≠ 4) (h12 : i ≠ 12) : MC (vsv W 25 i v) :=
  ⟨(PQ_sv (fun x => h3 x.2) (by decide)).mpr h.1, (vct_svo (fun x => h4 x.2.symm)).trans h.2.1, (vct_svo (fun x => h12 x.2.symm)).trans h.2.2.1, (vct_svo (fun x => h2 x.2.symm)).trans h.2.2.2.1, vkd_sv.trans h.2.2.2.2.1, vln_sv.trans h.2.2.2.2.2⟩
theorem MC.row (h : MC W) : MC (vsv W 26 i v) :=
  ⟨(PQ_sv (fun x => absurd x.1 (by decide)) (by decide)).mpr h.1, (vct_svo (fun x => absurd x.1 (by decide))).trans h.2.1, (vct_svo (fun x => absurd x.1 (by decide))).trans h.2.2.1, (vct_svo (fun x => absurd x.1 (by decide))).trans h.2.2.2.1, vkd_sv.trans h.2.2.2.2.1, vln_sv.trans h.2.2.2.2.2⟩
theorem y56 : VC (d + 1) 56 [(1, x), (1, lo), (1, hi)] W Q ↔ Q (if lo ≤ x ∧ x ≤ hi then 1 else 0) W := by
  rw [e56, b56_0, b56_6, b56_13, b56_17, b56_18, b56_18, vlc_lt, vlc_gt]
  by_cases h1 : x < lo
  · rw [if_neg (by omega)]; exact ⟨fun g => (g.1 h1).2, fun g => ⟨fun _ => ⟨by decide, g⟩, fun h => absurd h1 h⟩⟩
  · by_cases h2 : hi < x
    · rw [if_neg (by omega)]; exact ⟨fun g => ((g.2 h1).1 h2).2, fun g => ⟨fun h => absurd h h1, fun _ => ⟨fun _ => ⟨by decide, g⟩, fun h => absurd h2 h⟩⟩⟩
    · rw [if_pos (by omega)]; exact ⟨fun g => ((g.2 h1).2 h2).2, fun g => ⟨fun h => absurd h h1, fun _ => ⟨fun h => absurd h h2, fun _ => ⟨by decide, g⟩⟩⟩⟩
theorem y139 : VC (d + 2) 139 [(0, c)] W Q ↔ Q (if 0 ≤ c ∧ c ≤ 2 then 1 else 0) W := by
  rw [e139, b139_0, y56, b139_9]
  exact ⟨fun g => g.2, fun g => ⟨by split <;> decide, g⟩⟩
theorem y140 : VC (d + 2) 140 [(0, c)] W Q ↔ Q (if 0 ≤ c ∧ c ≤ 14 then 1 else 0) W := by
  rw [e140, b140_0, y56, b140_9]
  exact ⟨fun g => g.2, fun g => ⟨by split <;> decide, g⟩⟩
theorem y58 {s : Int} (h : MC W) (hs : vct W 25 1 = s) (h0 : 0 ≤ s) (h1 : s < 32) : VC (d + 1) 58 [(2, 25), (1, v)] W Q ↔ Q 0 (vsv (vsv W 26 s v) 25 1 (s + 1)) := by
  simp only [↓ifbr, vkd_sv, vln_sv, vct_sv, vnt_sv, vkd_nw, vln_nw, vct_nw, vnt_nw, vlc_lt, vlc_gt, vlc_eq, w32_id, w64_id, ne_eq, not_false_eq_true, not_true_eq_false, true_and, and_true, false_and, and_false, true_implies, implies_true, false_implies, Int.zero_add, Int.add_zero, Int.le_refl, Int.lt_irrefl, if_true, if_false, eq_self, and_self, ↓reduceIte, Int.reduceNeg, Int.reduceAdd, Int.reduceSub, Int.reduceMul, Int.reduceLT, Int.reduceLE, Int.reduceEq, Int.reduceNe, Int.reduceToNat, Int.reduceTDiv, Int.reduceTMod, Nat.reduceEqDiff, Nat.reduceAdd, ↓b58_0, ↓b58_10, ↓b58_20, ↓e58, h.1.1, h.2.2.2.1, h.2.2.2.2.1, h.2.2.2.2.2, hs, h0, h1]
  simp only [w32_id (z := s + 1) (by omega) (by omega)]
set_option maxRecDepth 20000 in
theorem y137 (h : MC W) {n : Nat} (hn : n ≤ 14) : VC (d + 1) 137 [(2, 25), (0, (n : Int))] W Q ↔ Q (sm n) W := by
  rcases (show n = 0 ∨ n = 1 ∨ n = 2 ∨ n = 3 ∨ n = 4 ∨ n = 5 ∨ n = 6 ∨ n = 7 ∨ n = 8 ∨ n = 9 ∨ n = 10 ∨ n = 11 ∨ n = 12 ∨ n = 13 ∨ n = 14 by omega) with rfl | rfl | rfl | rfl | rfl | rfl | rfl | rfl | rfl | rfl | rfl | rfl | rfl | rfl | rfl
  · show VC (d + 1) 137 [(2, 25), (0, 0)] W Q ↔ Q 1 W
    simp only [↓ifbr, vkd_sv, vln_sv, vct_sv, vnt_sv, vkd_nw, vln_nw, vct_nw, vnt_nw, vlc_lt, vlc_gt, vlc_eq, w32_id, w64_id, ne_eq, not_false_eq_true, not_true_eq_false, true_and, and_true, false_and, and_false, true_implies, implies_true, false_implies, Int.zero_add, Int.add_zero, Int.le_refl, Int.lt_irrefl, Int.min_def, Int.max_def, if_true, if_false, eq_self, and_self, ↓reduceIte, Int.reduceNeg, Int.reduceAdd, Int.reduceSub, Int.reduceMul, Int.reduceLT, Int.reduceLE, Int.reduceEq, Int.reduceNe, Int.reduceToNat, Int.reduceTDiv, Int.reduceTMod, Nat.reduceEqDiff, Nat.reduceAdd, ↓b137_0, ↓b137_9, ↓b137_16, ↓b137_29, ↓b137_4, ↓e137, h.1.1, h.2.2.1]
  · show VC (d + 1) 137 [(2, 25), (0, 1)] W Q ↔ Q 3 W
    simp only [↓ifbr, vkd_sv, vln_sv, vct_sv, vnt_sv, vkd_nw, vln_nw, vct_nw, vnt_nw, vlc_lt, vlc_gt, vlc_eq, w32_id, w64_id, ne_eq, not_false_eq_true, not_true_eq_false, true_and, and_true, false_and, and_false, true_implies, implies_true, false_implies, Int.zero_add, Int.add_zero, Int.le_refl, Int.lt_irrefl, Int.min_def, Int.max_def, if_true, if_false, eq_self, and_self, ↓reduceIte, Int.reduceNeg, Int.reduceAdd, Int.reduceSub, Int.reduceMul, Int.reduceLT, Int.reduceLE, Int.reduceEq, Int.reduceNe, Int.reduceToNat, Int.reduceTDiv, Int.reduceTMod, Nat.reduceEqDiff, Nat.reduceAdd, ↓b137_0, ↓b137_9, ↓b137_16, ↓b137_29, ↓b137_4, ↓e137, h.1.1, h.2.2.1]
  · show VC (d + 1) 137 [(2, 25), (0, 2)] W Q ↔ Q 9 W
    simp only [↓ifbr, vkd_sv, vln_sv, vct_sv, vnt_sv, vkd_nw, vln_nw, vct_nw, vnt_nw, vlc_lt, vlc_gt, vlc_eq, w32_id, w64_id, ne_eq, not_false_eq_true, not_true_eq_false, true_and, and_true, false_and, and_false, true_implies, implies_true, false_implies, Int.zero_add, Int.add_zero, Int.le_refl, Int.lt_irrefl, Int.min_def, Int.max_def, if_true, if_false, eq_self, and_self, ↓reduceIte, Int.reduceNeg, Int.reduceAdd, Int.reduceSub, Int.reduceMul, Int.reduceLT, Int.reduceLE, Int.reduceEq, Int.reduceNe, Int.reduceToNat, Int.reduceTDiv, Int.reduceTMod, Nat.reduceEqDiff, Nat.reduceAdd, ↓b137_0, ↓b137_9, ↓b137_16, ↓b137_29, ↓b137_4, ↓e137, h.1.1, h.2.2.1]
  · show VC (d + 1) 137 [(2, 25), (0, 3)] W Q ↔ Q 27 W
    simp only [↓ifbr, vkd_sv, vln_sv, vct_sv, vnt_sv, vkd_nw, vln_nw, vct_nw, vnt_nw, vlc_lt, vlc_gt, vlc_eq, w32_id, w64_id, ne_eq, not_false_eq_true, not_true_eq_false, true_and, and_true, false_and, and_false, true_implies, implies_true, false_implies, Int.zero_add, Int.add_zero, Int.le_refl, Int.lt_irrefl, Int.min_def, Int.max_def, if_true, if_false, eq_self, and_self, ↓reduceIte, Int.reduceNeg, Int.reduceAdd, Int.reduceSub, Int.reduceMul, Int.reduceLT, Int.reduceLE, Int.reduceEq, Int.reduceNe, Int.reduceToNat, Int.reduceTDiv, Int.reduceTMod, Nat.reduceEqDiff, Nat.reduceAdd, ↓b137_0, ↓b137_9, ↓b137_16, ↓b137_29, ↓b137_4, ↓e137, h.1.1, h.2.2.1]
  · show VC (d + 1) 137 [(2, 25), (0, 4)] W Q ↔ Q 81 W
    simp only [↓ifbr, vkd_sv, vln_sv, vct_sv, vnt_sv, vkd_nw, vln_nw, vct_nw, vnt_nw, vlc_lt, vlc_gt, vlc_eq, w32_id, w64_id, ne_eq, not_false_eq_true, not_true_eq_false, true_and, and_true, false_and, and_false, true_implies, implies_true, false_implies, Int.zero_add, Int.add_zero, Int.le_refl, Int.lt_irrefl, Int.min_def, Int.max_def, if_true, if_false, eq_self, and_self, ↓reduceIte, Int.reduceNeg, Int.reduceAdd, Int.reduceSub, Int.reduceMul, Int.reduceLT, Int.reduceLE, Int.reduceEq, Int.reduceNe, Int.reduceToNat, Int.reduceTDiv, Int.reduceTMod, Nat.reduceEqDiff, Nat.reduceAdd, ↓b137_0, ↓b137_9, ↓b137_16, ↓b137_29, ↓b137_4, ↓e137, h.1.1, h.2.2.1]
  · show VC (d + 1) 137 [(2, 25), (0, 5)] W Q ↔ Q 243 W
    simp only [↓ifbr, vkd_sv, vln_sv, vct_sv, vnt_sv, vkd_nw, vln_nw, vct_nw, vnt_nw, vlc_lt, vlc_gt, vlc_eq, w32_id, w64_id, ne_eq, not_false_eq_true, not_true_eq_false, true_and, and_true, false_and, and_false, true_implies, implies_true, false_implies, Int.zero_add, Int.add_zero, Int.le_refl, Int.lt_irrefl, Int.min_def, Int.max_def, if_true, if_false, eq_self, and_self, ↓reduceIte, Int.reduceNeg, Int.reduceAdd, Int.reduceSub, Int.reduceMul, Int.reduceLT, Int.reduceLE, Int.reduceEq, Int.reduceNe, Int.reduceToNat, Int.reduceTDiv, Int.reduceTMod, Nat.reduceEqDiff, Nat.reduceAdd, ↓b137_0, ↓b137_9, ↓b137_16, ↓b137_29, ↓b137_4, ↓e137, h.1.1, h.2.2.1]
  · show VC (d + 1) 137 [(2, 25), (0, 6)] W Q ↔ Q 729 W
    simp only [↓ifbr, vkd_sv, vln_sv, vct_sv, vnt_sv, vkd_nw, vln_nw, vct_nw, vnt_nw, vlc_lt, vlc_gt, vlc_eq, w32_id, w64_id, ne_eq, not_false_eq_true, not_true_eq_false, true_and, and_true, false_and, and_false, true_implies, implies_true, false_implies, Int.zero_add, Int.add_zero, Int.le_refl, Int.lt_irrefl, Int.min_def, Int.max_def, if_true, if_false, eq_self, and_self, ↓reduceIte, Int.reduceNeg, Int.reduceAdd, Int.reduceSub, Int.reduceMul, Int.reduceLT, Int.reduceLE, Int.reduceEq, Int.reduceNe, Int.reduceToNat, Int.reduceTDiv, Int.reduceTMod, Nat.reduceEqDiff, Nat.reduceAdd, ↓b137_0, ↓b137_9, ↓b137_16, ↓b137_29, ↓b137_4, ↓e137, h.1.1, h.2.2.1]
  · show VC (d + 1) 137 [(2, 25), (0, 7)] W Q ↔ Q 2187 W
    simp only [↓ifbr, vkd_sv, vln_sv, vct_sv, vnt_sv, vkd_nw, vln_nw, vct_nw, vnt_nw, vlc_lt, vlc_gt, vlc_eq, w32_id, w64_id, ne_eq, not_false_eq_true, not_true_eq_false, true_and, and_true, false_and, and_false, true_implies, implies_true, false_implies, Int.zero_add, Int.add_zero, Int.le_refl, Int.lt_irrefl, Int.min_def, Int.max_def, if_true, if_false, eq_self, and_self, ↓reduceIte, Int.reduceNeg, Int.reduceAdd, Int.reduceSub, Int.reduceMul, Int.reduceLT, Int.reduceLE, Int.reduceEq, Int.reduceNe, Int.reduceToNat, Int.reduceTDiv, Int.reduceTMod, Nat.reduceEqDiff, Nat.reduceAdd, ↓b137_0, ↓b137_9, ↓b137_16, ↓b137_29, ↓b137_4, ↓e137, h.1.1, h.2.2.1]
  · show VC (d + 1) 137 [(2, 25), (0, 8)] W Q ↔ Q 6561 W
    simp only [↓ifbr, vkd_sv, vln_sv, vct_sv, vnt_sv, vkd_nw, vln_nw, vct_nw, vnt_nw, vlc_lt, vlc_gt, vlc_eq, w32_id, w64_id, ne_eq, not_false_eq_true, not_true_eq_false, true_and, and_true, false_and, and_false, true_implies, implies_true, false_implies, Int.zero_add, Int.add_zero, Int.le_refl, Int.lt_irrefl, Int.min_def, Int.max_def, if_true, if_false, eq_self, and_self, ↓reduceIte, Int.reduceNeg, Int.reduceAdd, Int.reduceSub, Int.reduceMul, Int.reduceLT, Int.reduceLE, Int.reduceEq, Int.reduceNe, Int.reduceToNat, Int.reduceTDiv, Int.reduceTMod, Nat.reduceEqDiff, Nat.reduceAdd, ↓b137_0, ↓b137_9, ↓b137_16, ↓b137_29, ↓b137_4, ↓e137, h.1.1, h.2.2.1]
  · show VC (d + 1) 137 [(2, 25), (0, 9)] W Q ↔ Q 6561 W
    simp only [↓ifbr, vkd_sv, vln_sv, vct_sv, vnt_sv, vkd_nw, vln_nw, vct_nw, vnt_nw, vlc_lt, vlc_gt, vlc_eq, w32_id, w64_id, ne_eq, not_false_eq_true, not_true_eq_false, true_and, and_true, false_and, and_false, true_implies, implies_true, false_implies, Int.zero_add, Int.add_zero, Int.le_refl, Int.lt_irrefl, Int.min_def, Int.max_def, if_true, if_false, eq_self, and_self, ↓reduceIte, Int.reduceNeg, Int.reduceAdd, Int.reduceSub, Int.reduceMul, Int.reduceLT, Int.reduceLE, Int.reduceEq, Int.reduceNe, Int.reduceToNat, Int.reduceTDiv, Int.reduceTMod, Nat.reduceEqDiff, Nat.reduceAdd, ↓b137_0, ↓b137_9, ↓b137_16, ↓b137_29, ↓b137_4, ↓e137, h.1.1, h.2.2.1]
  · show VC (d + 1) 137 [(2, 25), (0, 10)] W Q ↔ Q 6561 W
    simp only [↓ifbr, vkd_sv, vln_sv, vct_sv, vnt_sv, vkd_nw, vln_nw, vct_nw, vnt_nw, vlc_lt, vlc_gt, vlc_eq, w32_id, w64_id, ne_eq, not_false_eq_true, not_true_eq_false, true_and, and_true, false_and, and_false, true_implies, implies_true, false_implies, Int.zero_add, Int.add_zero, Int.le_refl, Int.lt_irrefl, Int.min_def, Int.max_def, if_true, if_false, eq_self, and_self, ↓reduceIte, Int.reduceNeg, Int.reduceAdd, Int.reduceSub, Int.reduceMul, Int.reduceLT, Int.reduceLE, Int.reduceEq, Int.reduceNe, Int.reduceToNat, Int.reduceTDiv, Int.reduceTMod, Nat.reduceEqDiff, Nat.reduceAdd, ↓b137_0, ↓b137_9, ↓b137_16, ↓b137_29, ↓b137_4, ↓e137, h.1.1, h.2.2.1]
  · show VC (d + 1) 137 [(2, 25), (0, 11)] W Q ↔ Q 6561 W
    simp only [↓ifbr, vkd_sv, vln_sv, vct_sv, vnt_sv, vkd_nw, vln_nw, vct_nw, vnt_nw, vlc_lt, vlc_gt, vlc_eq, w32_id, w64_id, ne_eq, not_false_eq_true, not_true_eq_false, true_and, and_true, false_and, and_false, true_implies, implies_true, false_implies, Int.zero_add, Int.add_zero, Int.le_refl, Int.lt_irrefl, Int.min_def, Int.max_def, if_true, if_false, eq_self, and_self, ↓reduceIte, Int.reduceNeg, Int.reduceAdd, Int.reduceSub, Int.reduceMul, Int.reduceLT, Int.reduceLE, Int.reduceEq, Int.reduceNe, Int.reduceToNat, Int.reduceTDiv, Int.reduceTMod, Nat.reduceEqDiff, Nat.reduceAdd, ↓b137_0, ↓b137_9, ↓b137_16, ↓b137_29, ↓b137_4, ↓e137, h.1.1, h.2.2.1]
  · show VC (d + 1) 137 [(2, 25), (0, 12)] W Q ↔ Q 6561 W
    simp only [↓ifbr, vkd_sv, vln_sv, vct_sv, vnt_sv, vkd_nw, vln_nw, vct_nw, vnt_nw, vlc_lt, vlc_gt, vlc_eq, w32_id, w64_id, ne_eq, not_false_eq_true, not_true_eq_false, true_and, and_true, false_and, and_false, true_implies, implies_true, false_implies, Int.zero_add, Int.add_zero, Int.le_refl, Int.lt_irrefl, Int.min_def, Int.max_def, if_true, if_false, eq_self, and_self, ↓reduceIte, Int.reduceNeg, Int.reduceAdd, Int.reduceSub, Int.reduceMul, Int.reduceLT, Int.reduceLE, Int.reduceEq, Int.reduceNe, Int.reduceToNat, Int.reduceTDiv, Int.reduceTMod, Nat.reduceEqDiff, Nat.reduceAdd, ↓b137_0, ↓b137_9, ↓b137_16, ↓b137_29, ↓b137_4, ↓e137, h.1.1, h.2.2.1]
  · show VC (d + 1) 137 [(2, 25), (0, 13)] W Q ↔ Q 6561 W
    simp only [↓ifbr, vkd_sv, vln_sv, vct_sv, vnt_sv, vkd_nw, vln_nw, vct_nw, vnt_nw, vlc_lt, vlc_gt, vlc_eq, w32_id, w64_id, ne_eq, not_false_eq_true, not_true_eq_false, true_and, and_true, false_and, and_false, true_implies, implies_true, false_implies, Int.zero_add, Int.add_zero, Int.le_refl, Int.lt_irrefl, Int.min_def, Int.max_def, if_true, if_false, eq_self, and_self, ↓reduceIte, Int.reduceNeg, Int.reduceAdd, Int.reduceSub, Int.reduceMul, Int.reduceLT, Int.reduceLE, Int.reduceEq, Int.reduceNe, Int.reduceToNat, Int.reduceTDiv, Int.reduceTMod, Nat.reduceEqDiff, Nat.reduceAdd, ↓b137_0, ↓b137_9, ↓b137_16, ↓b137_29, ↓b137_4, ↓e137, h.1.1, h.2.2.1]
  · show VC (d + 1) 137 [(2, 25), (0, 14)] W Q ↔ Q 6561 W
    simp only [↓ifbr, vkd_sv, vln_sv, vct_sv, vnt_sv, vkd_nw, vln_nw, vct_nw, vnt_nw, vlc_lt, vlc_gt, vlc_eq, w32_id, w64_id, ne_eq, not_false_eq_true, not_true_eq_false, true_and, and_true, false_and, and_false, true_implies, implies_true, false_implies, Int.zero_add, Int.add_zero, Int.le_refl, Int.lt_irrefl, Int.min_def, Int.max_def, if_true, if_false, eq_self, and_self, ↓reduceIte, Int.reduceNeg, Int.reduceAdd, Int.reduceSub, Int.reduceMul, Int.reduceLT, Int.reduceLE, Int.reduceEq, Int.reduceNe, Int.reduceToNat, Int.reduceTDiv, Int.reduceTMod, Nat.reduceEqDiff, Nat.reduceAdd, ↓b137_0, ↓b137_9, ↓b137_16, ↓b137_29, ↓b137_4, ↓e137, h.1.1, h.2.2.1]
theorem c138 (h : MC W) {k : Nat} (hk : k < 100000) (hn : n ≤ 14) : VC (d + 1) 138 [(2, 25), (0, (n : Int)), (0, (k : Int))] W (fun r w1 => r = c9 (sp k n) ∧ w1 = W) := by
  have hw := h.2.2.1
  have L : ∀ (m p r : Nat) (b : List Int), m + p = n → b.length = p → OKw b → r < 100000 → sp k n = sp r m ++ b → VW d 138 8 [(2, 25), (0, (n : Int)), (0, (k : Int)), (1, c9 b), (9, 0), (0, (r : Int)), (0, (p : Int))] [] W (fun r w1 => r = c9 (sp k n) ∧ w1 = W) := by
    intro m
    induction m with
    | zero =>
      intro p r b hp hb hok hr he
      rw [sp_0, List.nil_append] at he
      exact b138_8.mpr ⟨fun h => absurd h (by omega), fun _ => b138_50.mpr ⟨by rw [he], rfl⟩⟩
    | succ m ih =>
      intro p r b hp hb hok hr he
      have hx : OKL ((((r % 3 : Nat) : Int) + 1) :: b) := ⟨by rw [List.length_cons]; omega, fun y hy => by
        rcases List.mem_cons.mp hy with rfl | hy
        · omega
        · exact hok y hy⟩
      have b1 := c9_bd14 hx
      have b2 := c9_bd hok
      have e9 : c9 ((((r % 3 : Nat) : Int) + 1) :: b) = (((r % 3 : Nat) : Int) + 1) * 9 ^ p + c9 b := by rw [c9_cons, hb]
      rw [e9] at b1
      refine b138_8.mpr ⟨fun _ => b138_14.mpr ?_, fun h => absurd (show (p : Int) < (n : Int) by omega) h⟩
      rw [hw, h.1.2.1, h.1.2.2.2.2 p (by omega)]
      refine ⟨h.1.1, by decide, h.1.1, ⟨h.1.2.2.1, by omega, by rw [h.1.2.2.2.1]; omega⟩, b138_35.mpr ?_⟩
      rw [hw, tmod_nn (by omega), tdiv_nn (by omega), show (r : Int) % 3 = ((r % 3 : Nat) : Int) by omega, w32_id (z := ((r % 3 : Nat) : Int) + 1) (by omega) (by omega)]
      have hpos : 0 ≤ (((r % 3 : Nat) : Int) + 1) * 9 ^ p := Int.mul_nonneg (by omega) (Int.le_of_lt (pow9_pos p))
      rw [w64_id (z := (((r % 3 : Nat) : Int) + 1) * 9 ^ p) (by omega) (by omega), Int.add_comm (c9 b), ← e9, w64_id (z := c9 ((((r % 3 : Nat) : Int) + 1) :: b)) (by rw [e9]; omega) (by rw [e9]; omega), w32_id (z := (r : Int) / 3) (by omega) (by omega), w32_id (z := (p : Int) + 1) (by omega) (by omega), show (r : Int) / 3 = ((r / 3 : Nat) : Int) by omega]
      have h9 := ih (p + 1) (r / 3) ((((r % 3 : Nat) : Int) + 1) :: b) (by omega) (by rw [List.length_cons, hb]) hx.2 (by omega) (by rw [he, sp_s, List.append_assoc]; rfl)
      exact ⟨h.1.1, by decide, by exact_mod_cast h9⟩
  exact e138.mpr (b138_0.mpr (L n 0 k [] rfl rfl OKw.nil hk (by rw [List.append_nil])))
theorem y138 (h : MC W) {k : Nat} (hk : k < 100000) (hn : n ≤ 14) : VC (d + 1) 138 [(2, 25), (0, (n : Int)), (0, (k : Int))] W Q ↔ Q (c9 (sp k n)) W := VC_iff (c138 h hk hn)
theorem m112 {l : List Int} (h : MC W) (hl : OKL l) : VC (d + 3) 112 [(2, 25), (1, c9 l), (0, c), (0, vct W 25 4)] W Q ↔ Q (c9 l) (vsv (vsv W 25 35 0) 25 23 (-1)) := by
  rw [h.2.1]; exact n112 h.1.pw h.1.ne hl.2 (by have := hl.1; omega)
/-- how many come to l -/
theorem c141 (hM : MC W) (h7 : n ≤ 7) (hl : OKL l) (hq : ∀ W', MC W' → fm W W' → Q (cnt n l (3 ^ n)) W') : VC (d + 5) 141 [(2, 25), (0, c), (0, (n : Int)), (1, c9 l)] W Q := by
  have hp := p3_le h7
  have L : ∀ (m j : Nat), m + j = 3 ^ n → ∀ (v7 v8 : vV) W', MC W' → fm W W' → VW (d + 4) 141 13 [(2, 25), (0, c), (0, (n : Int)), (1, c9 l), (9, 0), (0, cnt n l j), (0, (j : Int)), v7, v8] [] W' Q := by
    intro m
    induction m with
    | zero =>
      intro j hj v7 v8 W' M' f'
      have : j = 3 ^ n := by omega
      subst this
      exact b141_13.mpr ⟨M'.1.1, (y137 M' (by omega)).mpr (b141_20.mpr ⟨fun h => absurd h (by rw [sm_le h7]; omega), fun _ => b141_75.mpr (hq W' M' f')⟩)⟩
    | succ m ih =>
      intro j hj v7 v8 W' M' f'
      have hs := sp_okl (show n ≤ 14 by omega) j
      have hc0 := cnt_le (n := n) (l := l) (Nat.zero_le j)
      rw [show cnt n l 0 = 0 from rfl] at hc0
      have M2 : MC (vsv (vsv W' 25 35 0) 25 23 (-1)) := (M'.sv (by decide) (by decide) (by decide) (by decide)).sv (by decide) (by decide) (by decide) (by decide)
      have f2 : fm W (vsv (vsv W' 25 35 0) 25 23 (-1)) := (f'.sv (by decide)).sv (by decide)
      refine b141_13.mpr ⟨M'.1.1, (y137 M' (by omega)).mpr (b141_20.mpr ⟨fun _ => b141_23.mpr ⟨M'.1.1, (y138 M' (by omega) (by omega)).mpr (b141_30.mpr ⟨M'.1.1, M'.1.1, (m112 M' hs).mpr (b141_43.mpr ⟨fun h => ?_, fun h => ?_⟩)⟩)⟩, fun h => absurd (show (j : Int) < sm n by rw [sm_le h7]; omega) h⟩)⟩
      · have e : sp j n = l := c9_inj hs.2 hl.2 (vlc_eq.mp h)
        have e2 : cnt n l j + 1 = cnt n l (j + 1) := by rw [cnt_s, if_pos e]
        have fin : ∀ (u : Int) (v8 : vV), VW (d + 4) 141 63 [(2, 25), (0, c), (0, (n : Int)), (1, c9 l), (9, 0), (0, cnt n l j), (0, (j : Int)), (1, c9 (sp j n)), (9, 0)] [(1, u), (2, 25)] (vsv (vsv W' 25 35 0) 25 23 (-1)) Q := by
          intro u v8
          refine b141_63.mpr ⟨M2.1.1, b141_66.mpr (b141_69.mpr ?_)⟩
          rw [w32_id (z := cnt n l j + 1) (by omega) (by omega), e2, w32_id (z := (j : Int) + 1) (by omega) (by omega)]
          have h9 := ih (j + 1) (by omega) (1, c9 (sp j n)) (9, 0) _ (M2.sv (i := 55) (v := u) (by decide) (by decide) (by decide) (by decide)) (f2.sv (by decide))
          exact_mod_cast h9
        exact b141_48.mpr ⟨fun _ => b141_54.mpr (fin _ (9, 0)), fun _ => b141_59.mpr ⟨M2.1.1, fin _ (9, 0)⟩⟩
      · have e : ¬ sp j n = l := fun e => h (vlc_eq.mpr (by rw [e]))
        have e2 : cnt n l j = cnt n l (j + 1) := by rw [cnt_s, if_neg e]; omega
        refine b141_69.mpr ?_
        rw [e2, w32_id (z := (j : Int) + 1) (by omega) (by omega)]
        have h9 := ih (j + 1) (by omega) (1, c9 (sp j n)) (9, 0) _ M2 f2
        exact_mod_cast h9
  exact e141.mpr (b141_0.mpr ⟨hM.1.1, b141_10.mpr (L (3 ^ n) 0 (by omega) (9, 0) (9, 0) _ (hM.sv (by decide) (by decide) (by decide) (by decide)) (fm.rf.sv (by decide)))⟩)
theorem c142 (hM : MC W) (hq : ∀ W', MC W' → fm W W' → Q 0 W') : VC (d + 2) 142 [(2, 25), (0, c)] W Q := by
  have M1 : MC (vsv W 25 1 0) := hM.sv (by decide) (by decide) (by decide) (by decide)
  have f1 : fm W (vsv W 25 1 0) := fm.rf.sv (by decide)
  exact e142.mpr (b142_0.mpr ⟨hM.1.1, b142_5.mpr ⟨fun _ => b142_9.mpr ⟨M1.1.1, M1.1.1, (y58 M1 vct_svi (by decide) (by decide)).mpr (b142_17.mpr (hq _ (M1.row.sv (by decide) (by decide) (by decide) (by decide)) ((f1.sv (by decide)).sv (by decide))))⟩, fun _ => b142_17.mpr (hq _ M1 f1)⟩⟩)
theorem m_come_n (hM : FM w) {m x : Int} (hno : noS x) (h : ∀ r w1, r = -1 → fm w w1 → Q r w1) : VC (d + 20) 143 [(2, 25), (0, c), (0, m), (1, x)] w Q := by
  have M1 : MC (vsv w 25 0 0) := hM.mc.sv (by decide) (by decide) (by decide) (by decide)
  have no := fun {D : Nat} => b143_27 (d := D) (w := vsv w 25 0 0) (x0 := 25) (x1 := c) (x2 := m) (x3 := x) (Q := Q) |>.mpr (h _ _ rfl (fm.rf.sv (by decide)))
  exact e143.mpr (b143_0.mpr ⟨fmk_25 hM, b143_5.mpr (y139.mpr (b143_9.mpr ⟨fun _ => no, fun _ => b143_12.mpr (y140.mpr (b143_16.mpr ⟨fun _ => no, fun _ => b143_19.mpr ⟨M1.1.1, (y61n M1.1 hno).mpr (b143_24.mpr ⟨fun _ => no, fun h => absurd rfl h⟩)⟩⟩))⟩))⟩)
theorem ite10 {p : Prop} [Decidable p] : (if p then (1 : Int) else 0) = 0 ↔ ¬ p := by
  by_cases h : p
  · rw [if_pos h]; exact ⟨fun x => absurd x (by decide), fun x => absurd h x⟩
  · rw [if_neg h]; exact ⟨fun _ => h, fun _ => rfl⟩
theorem sm_big {n : Nat} : (4096 < sm n ↔ ¬ n ≤ 7) := by
  by_cases h7 : n ≤ 7
  · have := p3_le h7
    rw [sm_le h7]; omega
  · unfold sm; rw [if_neg h7]; omega
theorem m_come_l (hM : FM w) {m : Int} (hl : OKL l) (h : ∀ r w1, COMR c m (cnt m.toNat l (3 ^ m.toNat)) r → fm w w1 → Q r w1) : VC (d + 20) 143 [(2, 25), (0, c), (0, m), (1, c9 l)] w Q := by
  have M1 : MC (vsv w 25 0 0) := hM.mc.sv (by decide) (by decide) (by decide) (by decide)
  have f1 : fm w (vsv w 25 0 0) := fm.rf.sv (by decide)
  have no : ¬ (0 ≤ c ∧ c ≤ 2 ∧ 0 ≤ m ∧ m ≤ 14) → ∀ {D : Nat}, VW D 143 27 [(2, 25), (0, c), (0, m), (1, c9 l), (9, 0), (9, 0)] [] (vsv w 25 0 0) Q := fun hc => b143_27.mpr (h _ _ (Or.inr (Or.inr ⟨hc, rfl⟩)) f1)
  refine e143.mpr (b143_0.mpr ⟨fmk_25 hM, b143_5.mpr (y139.mpr (b143_9.mpr ⟨fun h1 => no (by rw [ite10] at h1; omega), fun h1 => b143_12.mpr (y140.mpr (b143_16.mpr ⟨fun h2 => no (by rw [ite10] at h2; omega), fun h2 => b143_19.mpr ⟨M1.1.1, (y61y M1.1 hl).mpr (b143_24.mpr ⟨fun h => absurd h (by decide), fun _ => b143_29.mpr ⟨M1.1.1, ?_⟩⟩)⟩⟩))⟩))⟩)
  rw [ite10] at h1 h2
  obtain ⟨n, rfl⟩ : ∃ n : Nat, m = n := ⟨m.toNat, by omega⟩
  refine (y137 M1 (by omega)).mpr (b143_34.mpr ⟨fun hb => b143_40.mpr ?_, fun hb => b143_43.mpr ⟨M1.1.1, ?_⟩⟩)
  · rw [sm_big] at hb
    exact h _ _ (Or.inr (Or.inl ⟨by omega, by omega, by omega, by omega, rfl⟩)) f1
  · rw [sm_big] at hb
    exact c141 M1 (by omega) hl fun W2 M2 f2 => b143_50.mpr ⟨M2.1.1, c142 M2 fun W3 M3 f3 => b143_58.mpr (h _ _ (Or.inl ⟨by omega, by omega, by omega, by omega, by rw [Int.toNat_natCast]⟩) ((f1.tr f2).tr f3))⟩
theorem m_short_no (hM : FM w) {x : Int} (hno : noS x) (h : ∀ r w1, r = -1 → fm w w1 → Q r w1) : VC (d + 20) 144 [(2, 25), (0, c), (1, x)] w Q := by
  have M1 : MC (vsv w 25 0 0) := hM.mc.sv (by decide) (by decide) (by decide) (by decide)
  have no := fun {D : Nat} => b144_20 (d := D) (w := vsv w 25 0 0) (x0 := 25) (x1 := c) (x2 := x) (Q := Q) |>.mpr (h _ _ rfl (fm.rf.sv (by decide)))
  exact e144.mpr (b144_0.mpr ⟨fmk_25 hM, b144_5.mpr (y139.mpr (b144_9.mpr ⟨fun _ => no, fun _ => b144_12.mpr ⟨M1.1.1, (y61n M1.1 hno).mpr (b144_17.mpr ⟨fun _ => no, fun h => absurd rfl h⟩)⟩⟩))⟩)
theorem m_short_c (hM : FM w) {x : Int} (hc : ¬ (0 ≤ c ∧ c ≤ 2)) (h : ∀ r w1, r = -1 → fm w w1 → Q r w1) : VC (d + 20) 144 [(2, 25), (0, c), (1, x)] w Q :=
  e144.mpr (b144_0.mpr ⟨fmk_25 hM, b144_5.mpr (y139.mpr (b144_9.mpr ⟨fun _ => b144_20.mpr (h _ _ rfl (fm.rf.sv (by decide))), fun h => absurd (ite10.mpr hc) h⟩))⟩)
theorem m_short_l (hM : FM w) (hl : OKL l) (hc : 0 ≤ c ∧ c ≤ 2) (h : ∀ r w1, r = -2 → fm w w1 → Q r w1) : VC (d + 20) 144 [(2, 25), (0, c), (1, c9 l)] w Q := by
  have M1 : MC (vsv w 25 0 0) := hM.mc.sv (by decide) (by decide) (by decide) (by decide)
  have f1 : fm w (vsv w 25 0 0) := fm.rf.sv (by decide)
  have L : ∀ (m N : Nat), m + N = 15 → l.length < N → ∀ W, MC W → fm w W → VW (d + 19) 144 31 [(2, 25), (0, c), (1, c9 l), (9, 0), (0, (N : Int))] [] W Q := by
    intro m
    induction m with
    | zero =>
      intro N hN hlN W M f
      exact b144_31.mpr ⟨fun _ => b144_75.mpr (h _ _ rfl f), fun h => absurd (show (14 : Int) < (N : Int) by omega) h⟩
    | succ m ih =>
      intro N hN hlN W M f
      refine b144_31.mpr ⟨fun h => absurd h (by omega), fun _ => b144_38.mpr ⟨M.1.1, (y137 M (by omega)).mpr (b144_44.mpr ⟨fun _ => b144_75.mpr (h _ _ rfl f), fun hb => b144_50.mpr ⟨M.1.1, ?_⟩⟩)⟩⟩
      rw [sm_big] at hb
      refine c141 M (by omega) hl fun W2 M2 f2 => b144_58.mpr ⟨fun hpos => absurd hpos (by rw [cnt_no (by omega)]; decide), fun _ => b144_69.mpr ?_⟩
      rw [w32_id (z := (N : Int) + 1) (by omega) (by omega)]
      have h9 := ih (N + 1) (by omega) (by omega) W2 M2 (f.tr f2)
      exact_mod_cast h9
  have hl14 := hl.1
  refine e144.mpr (b144_0.mpr ⟨fmk_25 hM, b144_5.mpr (y139.mpr (b144_9.mpr ⟨fun h => absurd hc (ite10.mp h), fun _ => b144_12.mpr ⟨M1.1.1, (y61y M1.1 hl).mpr (b144_17.mpr ⟨fun h => absurd h (by decide), fun _ => b144_22.mpr ⟨M1.1.1, (y60l hl M1.1).mpr (b144_27.mpr ?_)⟩⟩)⟩⟩))⟩)
  rw [w32_id (z := (l.length : Int) + 1) (by omega) (by omega)]
  have h9 := L (14 - l.length) (l.length + 1) (by omega) (by omega) _ M1 f1
  exact_mod_cast h9
theorem m_longest (hM : FM w) {m : Int} (h : ∀ r w1, COMR c m 0 r → fm w w1 → Q r w1) : VC (d + 20) 145 [(2, 25), (0, c), (0, m)] w Q := by
  have M1 : MC (vsv w 25 0 0) := hM.mc.sv (by decide) (by decide) (by decide) (by decide)
  have f1 : fm w (vsv w 25 0 0) := fm.rf.sv (by decide)
  have no : ¬ (0 ≤ c ∧ c ≤ 2 ∧ 0 ≤ m ∧ m ≤ 14) → ∀ {D : Nat}, VW D 145 19 [(2, 25), (0, c), (0, m), (9, 0), (9, 0), (9, 0), (9, 0), (9, 0), (9, 0), (9, 0)] [] (vsv w 25 0 0) Q := fun hc => b145_19.mpr (h _ _ (Or.inr (Or.inr ⟨hc, rfl⟩)) f1)
  refine e145.mpr (b145_0.mpr ⟨fmk_25 hM, b145_5.mpr (y139.mpr (b145_9.mpr ⟨fun h1 => no (by rw [ite10] at h1; omega), fun h1 => b145_12.mpr (y140.mpr (b145_16.mpr ⟨fun h2 => no (by rw [ite10] at h2; omega), fun h2 => b145_21.mpr ⟨M1.1.1, ?_⟩⟩))⟩))⟩)
  rw [ite10] at h1 h2
  obtain ⟨n, rfl⟩ : ∃ n : Nat, m = n := ⟨m.toNat, by omega⟩
  refine (y137 M1 (by omega)).mpr (b145_26.mpr ⟨fun hb => b145_32.mpr ?_, fun hb => b145_35.mpr ?_⟩)
  · rw [sm_big] at hb
    exact h _ _ (Or.inr (Or.inl ⟨by omega, by omega, by omega, by omega, rfl⟩)) f1
  · rw [sm_big] at hb
    have h7 : n ≤ 7 := by omega
    have hp := p3_le h7
    have L : ∀ (q j : Nat), q + j = 3 ^ n → ∀ (mo fi : Int) (v8 v9 : vV) W, MC W → fm w W → (j = 0 ∧ mo = -1 ∨ 0 < j ∧ mo = 0) → VW (d + 19) 145 48 [(2, 25), (0, c), (0, (n : Int)), (0, mo), (1, fi), (9, 0), (0, (j : Int)), (0, (j : Int)), v8, v9] [] W Q := by
      intro q
      induction q with
      | zero =>
        intro j hj mo fi v8 v9 W M f hv
        refine b145_48.mpr ⟨M.1.1, (y137 M (by omega)).mpr (b145_55.mpr ⟨fun h => absurd h (by rw [sm_le h7]; omega), fun _ => b145_131.mpr ⟨M.1.1, b145_136.mpr ?_⟩⟩)⟩
        have M2 : MC (vsv W 25 1 0) := M.sv (by decide) (by decide) (by decide) (by decide)
        refine ⟨M2.1.1, (y58 M2 vct_svi (by decide) (by decide)).mpr (b145_142.mpr ?_)⟩
        have M3 : MC (vsv (vsv (vsv W 25 1 0) 26 0 fi) 25 1 (0 + 1)) := M2.row.sv (by decide) (by decide) (by decide) (by decide)
        refine ⟨M3.1.1, (y58 M3 vct_svi (by decide) (by decide)).mpr (b145_149.mpr (h _ _ (Or.inl ⟨by omega, by omega, by omega, by omega, by omega⟩) (((((f.sv (by decide)).sv (by decide)).sv (by decide)).sv (by decide)).sv (by decide))))⟩
      | succ q ih =>
        intro j hj mo fi v8 v9 W M f hv
        have hs := sp_okl (show n ≤ 14 by omega) j
        have M2 : MC (vsv (vsv W 25 35 0) 25 23 (-1)) := (M.sv (by decide) (by decide) (by decide) (by decide)).sv (by decide) (by decide) (by decide) (by decide)
        have f2 : fm w (vsv (vsv W 25 35 0) 25 23 (-1)) := (f.sv (by decide)).sv (by decide)
        have s35 : vct (vsv (vsv W 25 35 0) 25 23 (-1)) 25 35 = 0 := (vct_svo (fun x => absurd x.2 (by decide))).trans vct_svi
        refine b145_48.mpr ⟨M.1.1, (y137 M (by omega)).mpr (b145_55.mpr ⟨fun _ => b145_58.mpr ⟨M.1.1, (y138 M (by omega) (by omega)).mpr (b145_65.mpr ⟨M.1.1, M.1.1, (m112 M hs).mpr (b145_78.mpr ?_)⟩)⟩, fun h => absurd (show (j : Int) < sm n by rw [sm_le h7]; omega) h⟩)⟩
        generalize vsv (vsv W 25 35 0) 25 23 (-1) = W2 at M2 f2 s35 ⊢
        rw [s35]
        refine ⟨M2.1.1, fun _ => b145_88.mpr (b145_93.mpr (e57.mpr (b57_0.mpr ⟨fun h => absurd h (by decide), fun _ => b57_4.mpr (b57_9.mpr (b145_96.mpr ?_))⟩))), fun h => absurd rfl h⟩
        rw [s35, w32_id (z := (j : Int) + 1) (by omega) (by omega)]
        have nx : ∀ fi2 : Int, VW (d + 19) 145 114 [(2, 25), (0, c), (0, (n : Int)), (0, mo), (1, fi), (9, 0), (0, (j : Int) + 1), (0, (j : Int)), (1, c9 (sp j n)), (9, 0)] [(1, fi2)] W2 Q := by
          intro fi2
          refine b145_114.mpr ?_
          rw [s35, show max mo 0 = 0 by omega, w32_id (z := (j : Int) + 1) (by omega) (by omega)]
          have h9 := ih (j + 1) (by omega) 0 fi2 (1, c9 (sp j n)) (9, 0) W2 M2 f2 (Or.inr ⟨by omega, rfl⟩)
          exact ⟨M2.1.1, by exact_mod_cast h9⟩
        exact ⟨M2.1.1, fun _ => b145_107.mpr (nx _), fun _ => b145_112.mpr (nx _)⟩
    exact L (3 ^ n) 0 (by omega) (-1) (-1) (9, 0) (9, 0) _ M1 f1 (Or.inl ⟨rfl, rfl⟩)
theorem m_quarrels (hM : FM w) {m : Int} (h : ∀ r w1, COMR 0 m 0 r → fm w w1 → Q r w1) : VC (d + 20) 150 [(2, 25), (0, m)] w Q := by
  have M1 : MC (vsv w 25 0 0) := hM.mc.sv (by decide) (by decide) (by decide) (by decide)
  have f1 : fm w (vsv w 25 0 0) := fm.rf.sv (by decide)
  refine e150.mpr (b150_0.mpr ⟨fmk_25 hM, b150_5.mpr (y140.mpr (b150_9.mpr ⟨fun h1 => b150_12.mpr (h _ _ (Or.inr (Or.inr ⟨by rw [ite10] at h1; omega, rfl⟩)) f1), fun h1 => b150_14.mpr ⟨M1.1.1, ?_⟩⟩))⟩)
  rw [ite10] at h1
  obtain ⟨n, rfl⟩ : ∃ n : Nat, m = n := ⟨m.toNat, by omega⟩
  refine (y137 M1 (by omega)).mpr (b150_19.mpr ⟨fun hb => b150_27.mpr ?_, fun hb => b150_30.mpr ⟨M1.1.1, b150_39.mpr ?_⟩⟩)
  · rw [sm_big] at hb
    exact h _ _ (Or.inr (Or.inl ⟨by omega, by omega, by omega, by omega, rfl⟩)) f1
  · rw [sm_big] at hb
    have h7 : n ≤ 7 := by omega
    have hp := p3_le h7
    rw [sm_le h7]
    have L : ∀ (q j : Nat), q + j = 3 ^ n → ∀ (v5 v6 : vV) W, MC W → fm w W → VW (d + 19) 150 42 [(2, 25), (0, (n : Int)), (0, ((3 ^ n : Nat) : Int)), (0, 0), (0, (j : Int)), v5, v6] [] W Q := by
      intro q
      induction q with
      | zero =>
        intro j hj v5 v6 W M f
        exact b150_42.mpr ⟨fun h => absurd h (by omega), fun _ => b150_109.mpr ⟨M.1.1, c142 M fun W3 M3 f3 => b150_114.mpr (h _ _ (Or.inl ⟨by omega, by omega, by omega, by omega, rfl⟩) (f.tr f3))⟩⟩
      | succ q ih =>
        intro j hj v5 v6 W M f
        have hs := sp_okl (show n ≤ 14 by omega) j
        have M2 : MC (vsv (vsv W 25 35 0) 25 23 (-1)) := (M.sv (by decide) (by decide) (by decide) (by decide)).sv (by decide) (by decide) (by decide) (by decide)
        have f2 : fm w (vsv (vsv W 25 35 0) 25 23 (-1)) := (f.sv (by decide)).sv (by decide)
        refine b150_42.mpr ⟨fun _ => b150_48.mpr ⟨M.1.1, (y138 M (by omega) (by omega)).mpr (b150_55.mpr ⟨M.1.1, M.1.1, (m112 M hs).mpr (b150_68.mpr ⟨M2.1.1, M2.1.1, (m112 M2 hs).mpr (b150_79.mpr ⟨fun _ => b150_103.mpr ?_, fun h => absurd (vlc_eq.mpr rfl) h⟩)⟩)⟩)⟩, fun h => absurd (show (j : Int) < ((3 ^ n : Nat) : Int) by omega) h⟩
        rw [w32_id (z := (j : Int) + 1) (by omega) (by omega)]
        have h9 := ih (j + 1) (by omega) (1, c9 (sp j n)) (9, 0) _ ((M2.sv (i := 35) (v := 0) (by decide) (by decide) (by decide) (by decide)).sv (i := 23) (v := -1) (by decide) (by decide) (by decide) (by decide)) ((f2.sv (by decide)).sv (by decide))
        exact_mod_cast h9
    exact L (3 ^ n) 0 (by omega) (9, 0) (9, 0) _ (M1.sv (by decide) (by decide) (by decide) (by decide)) (f1.sv (by decide))
end MO
