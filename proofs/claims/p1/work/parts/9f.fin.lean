/-! all sayings of n words within 3 -/
def sp (k : Nat) (n : Nat) : List Int := Nat.rec (motive := fun _ => Nat → List Int) (fun _ => []) (fun _ ih k => ih (k / 3) ++ [((k % 3 : Nat) : Int) + 1]) n k
theorem sp_0 (k : Nat) : sp k 0 = [] := rfl
theorem sp_s (k n : Nat) : sp k (n + 1) = sp (k / 3) n ++ [((k % 3 : Nat) : Int) + 1] := rfl
theorem sp_len (n : Nat) : ∀ k, (sp k n).length = n := by
  induction n with
  | zero => intro k; rfl
  | succ n ih => intro k; rw [sp_s, List.length_append, ih]; rfl
theorem sp_ok (n : Nat) : ∀ k, OKw (sp k n) := by
  induction n with
  | zero => intro k; exact OKw.nil
  | succ n ih => intro k; rw [sp_s]; exact OKw.app.mpr ⟨ih _, OKw.sing.mpr (by omega)⟩
theorem sp_okl {n : Nat} (h : n ≤ 14) (k : Nat) : OKL (sp k n) := ⟨by rw [sp_len]; exact h, sp_ok n k⟩
def mn (n : Nat) : Int := if n ≤ 7 then 3 ^ n else 4097
theorem p3_le {n : Nat} (h : n ≤ 7) : 3 ^ n ≤ 2187 ∧ 1 ≤ 3 ^ n := ⟨Nat.pow_le_pow_right (n := 3) (by decide) h, Nat.pow_pos (by decide)⟩
theorem mn_le {n : Nat} (h : n ≤ 7) : mn n = ((3 ^ n : Nat) : Int) := by unfold mn; rw [if_pos h]; norm_cast
section FIN
variable {d : Nat} {w : vW} {Q : Int → vW → Prop} {A : Int}
set_option maxRecDepth 20000 in
theorem y178 {z : Int} (hz : z = 3) {n : Nat} (hn : n ≤ 14) : VC (d + 1) 178 [(0, z), (0, (n : Int))] w Q ↔ Q (mn n) w := by
  subst hz
  rcases (show n = 0 ∨ n = 1 ∨ n = 2 ∨ n = 3 ∨ n = 4 ∨ n = 5 ∨ n = 6 ∨ n = 7 ∨ n = 8 ∨ n = 9 ∨ n = 10 ∨ n = 11 ∨ n = 12 ∨ n = 13 ∨ n = 14 by omega) with rfl | rfl | rfl | rfl | rfl | rfl | rfl | rfl | rfl | rfl | rfl | rfl | rfl | rfl | rfl
  · show VC (d + 1) 178 [(0, 3), (0, 0)] w Q ↔ Q 1 w
    simp only [↓ifbr, vkd_sv, vln_sv, vct_sv, vnt_sv, vkd_nw, vln_nw, vct_nw, vnt_nw, vlc_lt, vlc_gt, vlc_eq, w32_id, w64_id, ne_eq, not_false_eq_true, not_true_eq_false, true_and, and_true, false_and, and_false, true_implies, implies_true, false_implies, Int.zero_add, Int.add_zero, Int.le_refl, Int.lt_irrefl, Int.min_def, Int.max_def, if_true, if_false, eq_self, and_self, ↓reduceIte, Int.reduceNeg, Int.reduceAdd, Int.reduceSub, Int.reduceMul, Int.reduceLT, Int.reduceLE, Int.reduceEq, Int.reduceNe, Int.reduceToNat, Int.reduceTDiv, Int.reduceTMod, Nat.reduceEqDiff, Nat.reduceAdd, ↓b178_0, ↓b178_9, ↓b178_16, ↓b178_26, ↓b178_4, ↓e178]
  · show VC (d + 1) 178 [(0, 3), (0, 1)] w Q ↔ Q 3 w
    simp only [↓ifbr, vkd_sv, vln_sv, vct_sv, vnt_sv, vkd_nw, vln_nw, vct_nw, vnt_nw, vlc_lt, vlc_gt, vlc_eq, w32_id, w64_id, ne_eq, not_false_eq_true, not_true_eq_false, true_and, and_true, false_and, and_false, true_implies, implies_true, false_implies, Int.zero_add, Int.add_zero, Int.le_refl, Int.lt_irrefl, Int.min_def, Int.max_def, if_true, if_false, eq_self, and_self, ↓reduceIte, Int.reduceNeg, Int.reduceAdd, Int.reduceSub, Int.reduceMul, Int.reduceLT, Int.reduceLE, Int.reduceEq, Int.reduceNe, Int.reduceToNat, Int.reduceTDiv, Int.reduceTMod, Nat.reduceEqDiff, Nat.reduceAdd, ↓b178_0, ↓b178_9, ↓b178_16, ↓b178_26, ↓b178_4, ↓e178]
  · show VC (d + 1) 178 [(0, 3), (0, 2)] w Q ↔ Q 9 w
    simp only [↓ifbr, vkd_sv, vln_sv, vct_sv, vnt_sv, vkd_nw, vln_nw, vct_nw, vnt_nw, vlc_lt, vlc_gt, vlc_eq, w32_id, w64_id, ne_eq, not_false_eq_true, not_true_eq_false, true_and, and_true, false_and, and_false, true_implies, implies_true, false_implies, Int.zero_add, Int.add_zero, Int.le_refl, Int.lt_irrefl, Int.min_def, Int.max_def, if_true, if_false, eq_self, and_self, ↓reduceIte, Int.reduceNeg, Int.reduceAdd, Int.reduceSub, Int.reduceMul, Int.reduceLT, Int.reduceLE, Int.reduceEq, Int.reduceNe, Int.reduceToNat, Int.reduceTDiv, Int.reduceTMod, Nat.reduceEqDiff, Nat.reduceAdd, ↓b178_0, ↓b178_9, ↓b178_16, ↓b178_26, ↓b178_4, ↓e178]
  · show VC (d + 1) 178 [(0, 3), (0, 3)] w Q ↔ Q 27 w
    simp only [↓ifbr, vkd_sv, vln_sv, vct_sv, vnt_sv, vkd_nw, vln_nw, vct_nw, vnt_nw, vlc_lt, vlc_gt, vlc_eq, w32_id, w64_id, ne_eq, not_false_eq_true, not_true_eq_false, true_and, and_true, false_and, and_false, true_implies, implies_true, false_implies, Int.zero_add, Int.add_zero, Int.le_refl, Int.lt_irrefl, Int.min_def, Int.max_def, if_true, if_false, eq_self, and_self, ↓reduceIte, Int.reduceNeg, Int.reduceAdd, Int.reduceSub, Int.reduceMul, Int.reduceLT, Int.reduceLE, Int.reduceEq, Int.reduceNe, Int.reduceToNat, Int.reduceTDiv, Int.reduceTMod, Nat.reduceEqDiff, Nat.reduceAdd, ↓b178_0, ↓b178_9, ↓b178_16, ↓b178_26, ↓b178_4, ↓e178]
  · show VC (d + 1) 178 [(0, 3), (0, 4)] w Q ↔ Q 81 w
    simp only [↓ifbr, vkd_sv, vln_sv, vct_sv, vnt_sv, vkd_nw, vln_nw, vct_nw, vnt_nw, vlc_lt, vlc_gt, vlc_eq, w32_id, w64_id, ne_eq, not_false_eq_true, not_true_eq_false, true_and, and_true, false_and, and_false, true_implies, implies_true, false_implies, Int.zero_add, Int.add_zero, Int.le_refl, Int.lt_irrefl, Int.min_def, Int.max_def, if_true, if_false, eq_self, and_self, ↓reduceIte, Int.reduceNeg, Int.reduceAdd, Int.reduceSub, Int.reduceMul, Int.reduceLT, Int.reduceLE, Int.reduceEq, Int.reduceNe, Int.reduceToNat, Int.reduceTDiv, Int.reduceTMod, Nat.reduceEqDiff, Nat.reduceAdd, ↓b178_0, ↓b178_9, ↓b178_16, ↓b178_26, ↓b178_4, ↓e178]
  · show VC (d + 1) 178 [(0, 3), (0, 5)] w Q ↔ Q 243 w
    simp only [↓ifbr, vkd_sv, vln_sv, vct_sv, vnt_sv, vkd_nw, vln_nw, vct_nw, vnt_nw, vlc_lt, vlc_gt, vlc_eq, w32_id, w64_id, ne_eq, not_false_eq_true, not_true_eq_false, true_and, and_true, false_and, and_false, true_implies, implies_true, false_implies, Int.zero_add, Int.add_zero, Int.le_refl, Int.lt_irrefl, Int.min_def, Int.max_def, if_true, if_false, eq_self, and_self, ↓reduceIte, Int.reduceNeg, Int.reduceAdd, Int.reduceSub, Int.reduceMul, Int.reduceLT, Int.reduceLE, Int.reduceEq, Int.reduceNe, Int.reduceToNat, Int.reduceTDiv, Int.reduceTMod, Nat.reduceEqDiff, Nat.reduceAdd, ↓b178_0, ↓b178_9, ↓b178_16, ↓b178_26, ↓b178_4, ↓e178]
  · show VC (d + 1) 178 [(0, 3), (0, 6)] w Q ↔ Q 729 w
    simp only [↓ifbr, vkd_sv, vln_sv, vct_sv, vnt_sv, vkd_nw, vln_nw, vct_nw, vnt_nw, vlc_lt, vlc_gt, vlc_eq, w32_id, w64_id, ne_eq, not_false_eq_true, not_true_eq_false, true_and, and_true, false_and, and_false, true_implies, implies_true, false_implies, Int.zero_add, Int.add_zero, Int.le_refl, Int.lt_irrefl, Int.min_def, Int.max_def, if_true, if_false, eq_self, and_self, ↓reduceIte, Int.reduceNeg, Int.reduceAdd, Int.reduceSub, Int.reduceMul, Int.reduceLT, Int.reduceLE, Int.reduceEq, Int.reduceNe, Int.reduceToNat, Int.reduceTDiv, Int.reduceTMod, Nat.reduceEqDiff, Nat.reduceAdd, ↓b178_0, ↓b178_9, ↓b178_16, ↓b178_26, ↓b178_4, ↓e178]
  · show VC (d + 1) 178 [(0, 3), (0, 7)] w Q ↔ Q 2187 w
    simp only [↓ifbr, vkd_sv, vln_sv, vct_sv, vnt_sv, vkd_nw, vln_nw, vct_nw, vnt_nw, vlc_lt, vlc_gt, vlc_eq, w32_id, w64_id, ne_eq, not_false_eq_true, not_true_eq_false, true_and, and_true, false_and, and_false, true_implies, implies_true, false_implies, Int.zero_add, Int.add_zero, Int.le_refl, Int.lt_irrefl, Int.min_def, Int.max_def, if_true, if_false, eq_self, and_self, ↓reduceIte, Int.reduceNeg, Int.reduceAdd, Int.reduceSub, Int.reduceMul, Int.reduceLT, Int.reduceLE, Int.reduceEq, Int.reduceNe, Int.reduceToNat, Int.reduceTDiv, Int.reduceTMod, Nat.reduceEqDiff, Nat.reduceAdd, ↓b178_0, ↓b178_9, ↓b178_16, ↓b178_26, ↓b178_4, ↓e178]
  · show VC (d + 1) 178 [(0, 3), (0, 8)] w Q ↔ Q 4097 w
    simp only [↓ifbr, vkd_sv, vln_sv, vct_sv, vnt_sv, vkd_nw, vln_nw, vct_nw, vnt_nw, vlc_lt, vlc_gt, vlc_eq, w32_id, w64_id, ne_eq, not_false_eq_true, not_true_eq_false, true_and, and_true, false_and, and_false, true_implies, implies_true, false_implies, Int.zero_add, Int.add_zero, Int.le_refl, Int.lt_irrefl, Int.min_def, Int.max_def, if_true, if_false, eq_self, and_self, ↓reduceIte, Int.reduceNeg, Int.reduceAdd, Int.reduceSub, Int.reduceMul, Int.reduceLT, Int.reduceLE, Int.reduceEq, Int.reduceNe, Int.reduceToNat, Int.reduceTDiv, Int.reduceTMod, Nat.reduceEqDiff, Nat.reduceAdd, ↓b178_0, ↓b178_9, ↓b178_16, ↓b178_26, ↓b178_4, ↓e178]
  · show VC (d + 1) 178 [(0, 3), (0, 9)] w Q ↔ Q 4097 w
    simp only [↓ifbr, vkd_sv, vln_sv, vct_sv, vnt_sv, vkd_nw, vln_nw, vct_nw, vnt_nw, vlc_lt, vlc_gt, vlc_eq, w32_id, w64_id, ne_eq, not_false_eq_true, not_true_eq_false, true_and, and_true, false_and, and_false, true_implies, implies_true, false_implies, Int.zero_add, Int.add_zero, Int.le_refl, Int.lt_irrefl, Int.min_def, Int.max_def, if_true, if_false, eq_self, and_self, ↓reduceIte, Int.reduceNeg, Int.reduceAdd, Int.reduceSub, Int.reduceMul, Int.reduceLT, Int.reduceLE, Int.reduceEq, Int.reduceNe, Int.reduceToNat, Int.reduceTDiv, Int.reduceTMod, Nat.reduceEqDiff, Nat.reduceAdd, ↓b178_0, ↓b178_9, ↓b178_16, ↓b178_26, ↓b178_4, ↓e178]
  · show VC (d + 1) 178 [(0, 3), (0, 10)] w Q ↔ Q 4097 w
    simp only [↓ifbr, vkd_sv, vln_sv, vct_sv, vnt_sv, vkd_nw, vln_nw, vct_nw, vnt_nw, vlc_lt, vlc_gt, vlc_eq, w32_id, w64_id, ne_eq, not_false_eq_true, not_true_eq_false, true_and, and_true, false_and, and_false, true_implies, implies_true, false_implies, Int.zero_add, Int.add_zero, Int.le_refl, Int.lt_irrefl, Int.min_def, Int.max_def, if_true, if_false, eq_self, and_self, ↓reduceIte, Int.reduceNeg, Int.reduceAdd, Int.reduceSub, Int.reduceMul, Int.reduceLT, Int.reduceLE, Int.reduceEq, Int.reduceNe, Int.reduceToNat, Int.reduceTDiv, Int.reduceTMod, Nat.reduceEqDiff, Nat.reduceAdd, ↓b178_0, ↓b178_9, ↓b178_16, ↓b178_26, ↓b178_4, ↓e178]
  · show VC (d + 1) 178 [(0, 3), (0, 11)] w Q ↔ Q 4097 w
    simp only [↓ifbr, vkd_sv, vln_sv, vct_sv, vnt_sv, vkd_nw, vln_nw, vct_nw, vnt_nw, vlc_lt, vlc_gt, vlc_eq, w32_id, w64_id, ne_eq, not_false_eq_true, not_true_eq_false, true_and, and_true, false_and, and_false, true_implies, implies_true, false_implies, Int.zero_add, Int.add_zero, Int.le_refl, Int.lt_irrefl, Int.min_def, Int.max_def, if_true, if_false, eq_self, and_self, ↓reduceIte, Int.reduceNeg, Int.reduceAdd, Int.reduceSub, Int.reduceMul, Int.reduceLT, Int.reduceLE, Int.reduceEq, Int.reduceNe, Int.reduceToNat, Int.reduceTDiv, Int.reduceTMod, Nat.reduceEqDiff, Nat.reduceAdd, ↓b178_0, ↓b178_9, ↓b178_16, ↓b178_26, ↓b178_4, ↓e178]
  · show VC (d + 1) 178 [(0, 3), (0, 12)] w Q ↔ Q 4097 w
    simp only [↓ifbr, vkd_sv, vln_sv, vct_sv, vnt_sv, vkd_nw, vln_nw, vct_nw, vnt_nw, vlc_lt, vlc_gt, vlc_eq, w32_id, w64_id, ne_eq, not_false_eq_true, not_true_eq_false, true_and, and_true, false_and, and_false, true_implies, implies_true, false_implies, Int.zero_add, Int.add_zero, Int.le_refl, Int.lt_irrefl, Int.min_def, Int.max_def, if_true, if_false, eq_self, and_self, ↓reduceIte, Int.reduceNeg, Int.reduceAdd, Int.reduceSub, Int.reduceMul, Int.reduceLT, Int.reduceLE, Int.reduceEq, Int.reduceNe, Int.reduceToNat, Int.reduceTDiv, Int.reduceTMod, Nat.reduceEqDiff, Nat.reduceAdd, ↓b178_0, ↓b178_9, ↓b178_16, ↓b178_26, ↓b178_4, ↓e178]
  · show VC (d + 1) 178 [(0, 3), (0, 13)] w Q ↔ Q 4097 w
    simp only [↓ifbr, vkd_sv, vln_sv, vct_sv, vnt_sv, vkd_nw, vln_nw, vct_nw, vnt_nw, vlc_lt, vlc_gt, vlc_eq, w32_id, w64_id, ne_eq, not_false_eq_true, not_true_eq_false, true_and, and_true, false_and, and_false, true_implies, implies_true, false_implies, Int.zero_add, Int.add_zero, Int.le_refl, Int.lt_irrefl, Int.min_def, Int.max_def, if_true, if_false, eq_self, and_self, ↓reduceIte, Int.reduceNeg, Int.reduceAdd, Int.reduceSub, Int.reduceMul, Int.reduceLT, Int.reduceLE, Int.reduceEq, Int.reduceNe, Int.reduceToNat, Int.reduceTDiv, Int.reduceTMod, Nat.reduceEqDiff, Nat.reduceAdd, ↓b178_0, ↓b178_9, ↓b178_16, ↓b178_26, ↓b178_4, ↓e178]
  · show VC (d + 1) 178 [(0, 3), (0, 14)] w Q ↔ Q 4097 w
    simp only [↓ifbr, vkd_sv, vln_sv, vct_sv, vnt_sv, vkd_nw, vln_nw, vct_nw, vnt_nw, vlc_lt, vlc_gt, vlc_eq, w32_id, w64_id, ne_eq, not_false_eq_true, not_true_eq_false, true_and, and_true, false_and, and_false, true_implies, implies_true, false_implies, Int.zero_add, Int.add_zero, Int.le_refl, Int.lt_irrefl, Int.min_def, Int.max_def, if_true, if_false, eq_self, and_self, ↓reduceIte, Int.reduceNeg, Int.reduceAdd, Int.reduceSub, Int.reduceMul, Int.reduceLT, Int.reduceLE, Int.reduceEq, Int.reduceNe, Int.reduceToNat, Int.reduceTDiv, Int.reduceTMod, Nat.reduceEqDiff, Nat.reduceAdd, ↓b178_0, ↓b178_9, ↓b178_16, ↓b178_26, ↓b178_4, ↓e178]
theorem c181 (h1 : vkd w A = 13) (h2 : vct w A 5 = 3) {k n : Nat} (hk : k < 100000) (hn : n ≤ 14) : VC (d + 2) 181 [(2, A), (0, (k : Int)), (0, (n : Int))] w (fun r w1 => r = pk (sp k n) ∧ w1 = w) := by
  have L : ∀ (m p r : Nat) (b : List Int), m + p = n → b.length = p → OKw b → r < 100000 → sp k n = sp r m ++ b → VW (d + 1) 181 8 [(2, A), (0, (k : Int)), (0, (n : Int)), (1, c16 b), (9, 0), (0, (r : Int)), (0, (p : Int))] [] w (fun r w1 => r = pk (sp k n) ∧ w1 = w) := by
    intro m
    induction m with
    | zero =>
      intro p r b hp hb hok hr he
      rw [sp_0, List.nil_append] at he
      have hL : OKL b := ⟨by omega, hok⟩
      refine b181_8.mpr ⟨fun h => absurd h (by omega), fun _ => b181_54.mpr ?_⟩
      rw [show (n : Int) = (b.length : Int) by omega]
      exact (c274 hL).mpr (b181_59.mpr ⟨by rw [he], rfl⟩)
    | succ m ih =>
      intro p r b hp hb hok hr he
      have g5 := c16_bd hok
      have hx : OKL ((((r % 3 : Nat) : Int) + 1) :: b) := ⟨by rw [List.length_cons]; omega, fun y hy => by
        rcases List.mem_cons.mp hy with rfl | hy
        · omega
        · exact hok y hy⟩
      have g4 := pk_bd hx
      rw [c16_cons] at g4
      refine b181_8.mpr ⟨fun _ => b181_14.mpr ⟨h1, ?_⟩, fun h => absurd (show (p : Int) < (n : Int) by omega) h⟩
      rw [h2]
      refine ⟨fun _ => b181_21.mpr ⟨h1, ?_⟩, fun h => absurd (show (0 : Int) < 3 by decide) h⟩
      rw [h2]
      refine ⟨by decide, b181_39.mpr ⟨h1, ?_⟩⟩
      rw [h2]
      refine ⟨by decide, ?_⟩
      rw [tmod_nn (by omega), tdiv_nn (by omega)]
      have e1 : l_or (c16 b) (l_shl (w32 ((r : Int) % 3 + 1)) (w32 (4 * (p : Int)))) = c16 ((((r % 3 : Nat) : Int) + 1) :: b) := by
        rw [← hb] at *
        rw [show (r : Int) % 3 = ((r % 3 : Nat) : Int) by omega, w32_id (z := ((r % 3 : Nat) : Int) + 1) (by omega) (by omega), w32_id (z := 4 * (b.length : Int)) (by omega) (by omega), show 4 * (b.length : Int) = ((4 * b.length : Nat) : Int) by omega, l_shl_mul _ _ (by omega) (by omega) (by rw [← pow16_2]; omega), l_or_low _ _ _ (by omega) g5.1 (by rw [← pow16_2]; exact g5.2) (by rw [← pow16_2]; omega), ← pow16_2, c16_cons]
      rw [e1, w32_id (z := (r : Int) / 3) (by omega) (by omega), w32_id (z := (p : Int) + 1) (by omega) (by omega), show (r : Int) / 3 = ((r / 3 : Nat) : Int) by omega]
      have h9 := ih (p + 1) (r / 3) ((((r % 3 : Nat) : Int) + 1) :: b) (by omega) (by rw [List.length_cons, hb]) hx.2 (by omega) (by rw [he, sp_s, List.append_assoc]; rfl)
      exact_mod_cast h9
  exact e181.mpr (b181_0.mpr (L n 0 k [] rfl rfl OKw.nil hk (by rw [List.append_nil])))
theorem y181 (h1 : vkd w A = 13) (h2 : vct w A 5 = 3) {k n : Nat} (hk : k < 100000) (hn : n ≤ 14) : VC (d + 2) 181 [(2, A), (0, (k : Int)), (0, (n : Int))] w Q ↔ Q (pk (sp k n)) w := VC_iff (c181 h1 h2 hk hn)
theorem y183 {c : Int} (hR : RZ w 1) (h1 : vkd w A = 13) (h2 : vct w A 4 = c) (h3 : vct w A 0 = A + 1) (h4 : vct w A 1 = A + 2) (h5 : vkd w (A + 1) = 2) (h6 : vln w (A + 1) = 8192) (h7 : vkd w (A + 2) = 2) (h8 : vln w (A + 2) = 8192) {l : List Int} (hl : OKL l) {i : Int} (h9 : 0 ≤ i) (h10 : i < 8192) : VC (d + 6) 183 [(2, A), (2, 1), (1, pk l), (0, i)] w Q ↔ Q 0 (vsv (vsv w (A + 1) i (pk l)) (A + 2) i 0) := by
  have hn : ¬ i < 0 := by omega
  have q1 : vct (vsv w (A + 1) i (pk l)) A 1 = A + 2 := (vct_svo (fun x => absurd x.1 (by omega))).trans h4
  rw [e183, b183_0, n263 hR hl, b183_16, b183_18, b183_118, b183_151, b183_156, b183_164, b183_173, b183_182, h3, q1]
  simp only [↓ifbr, vkd_sv, vln_sv, vct_sv, vnt_sv, vkd_nw, vln_nw, vct_nw, vnt_nw, vlc_lt, vlc_gt, vlc_eq, w32_id, w64_id, ne_eq, not_false_eq_true, not_true_eq_false, true_and, and_true, false_and, and_false, true_implies, implies_true, false_implies, Int.zero_add, Int.add_zero, Int.le_refl, Int.lt_irrefl, Int.min_def, Int.max_def, if_true, if_false, eq_self, and_self, ↓reduceIte, Int.reduceNeg, Int.reduceAdd, Int.reduceSub, Int.reduceMul, Int.reduceLT, Int.reduceLE, Int.reduceEq, Int.reduceNe, Int.reduceToNat, Int.reduceTDiv, Int.reduceTMod, Nat.reduceEqDiff, Nat.reduceAdd, h1, hR.1, h5, h6, h7, h8, h9, h10, hn, b183_182]
end FIN
