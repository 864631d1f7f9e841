/-! one run, one answer: contracts as equivalences -/
theorem VC_iff {d p : Nat} {args : List vV} {w w0 : vW} {r0 : Int} {Q : Int → vW → Prop} (h : VC d p args w (fun r w1 => r = r0 ∧ w1 = w0)) : VC d p args w Q ↔ Q r0 w0 := by
  match d, h with
  | d + 1, h =>
    obtain ⟨n, f, z, w', h1, h2, rfl, rfl⟩ := h
    constructor
    · rintro ⟨n2, f2, z2, w2, g1, g2, g3⟩
      have a1 := vrun_le (Nat.le_max_left n n2) _ _ _ _ _ _ _ h1
      have a2 := vrun_le (Nat.le_max_right n n2) _ _ _ _ _ _ _ g1
      rw [a1] at a2
      cases a2
      exact g3
    · intro hq
      exact ⟨n, f, z, w', h1, h2, hq⟩
def R64 (c : Int) : Prop := -9223372036854775808 ≤ c ∧ c < 9223372036854775808
def noS (c : Int) : Prop := ∀ l, OKL l → c ≠ c9 l
theorem say_cases (c : Int) : noS c ∨ c = c9 [] ∨ ∃ l, OKL l ∧ l ≠ [] ∧ c = c9 l := by
  by_cases h : noS c
  · exact Or.inl h
  · obtain ⟨l, hl⟩ := Classical.not_forall.mp h
    obtain ⟨h1, h2⟩ := Classical.not_imp.mp hl
    have h2 := Classical.not_not.mp h2
    by_cases e : l = []
    · subst e; exact Or.inr (Or.inl h2)
    · exact Or.inr (Or.inr ⟨l, h1, e, h2⟩)
section DET
variable {d : Nat} {w : vW} {Q : Int → vW → Prop} {c s b A S T : Int} {l : List Int}
theorem y280n (hr : R64 c) (hno : noS c) : VC (d + 2) 280 [(1, c)] w Q ↔ Q (-1) w := VC_iff (c280 hr (fun l hl e => absurd e (hno l hl)) (fun _ => ⟨rfl, rfl⟩))
theorem R64_c9 (hl : OKL l) : R64 (c9 l) := by have := c9_bd14 hl; unfold R64; omega
theorem y280y (hl : OKL l) : VC (d + 2) 280 [(1, c9 l)] w Q ↔ Q (pk l) w := VC_iff (c280 (R64_c9 hl) (fun m hm e => ⟨by rw [c9_inj hl.2 hm.2 e], rfl⟩) (fun h => absurd rfl (h l hl)))
theorem y61n (hP : PQ w) (hno : noS c) : VC (d + 1) 61 [(2, 25), (1, c)] w Q ↔ Q 0 w := VC_iff (c61 hP.pw (fun l hl e => absurd e (hno l hl)) (fun _ => ⟨rfl, rfl⟩))
theorem y61y (hP : PQ w) (hl : OKL l) : VC (d + 1) 61 [(2, 25), (1, c9 l)] w Q ↔ Q 1 w := VC_iff (c61 hP.pw (fun m hm e => ⟨rfl, rfl⟩) (fun h => absurd rfl (h l hl)))
/-- where the class's search looks first -/
noncomputable def hsh (s : Int) : Int := i_and (w32 (w32 (l_ushr (w64 ((l_xor s (l_ushr s 31)) * (-7046029254386353131))) 51) + 0)) 8191
theorem hsh_nn : (0 ≤ hsh s) = True := eq_true (by unfold hsh; rw [zi_8191]; omega)
theorem hsh_lt : (hsh s < 8192) = True := eq_true (by unfold hsh; rw [zi_8191]; omega)
theorem hsh_ge : (hsh s < 0) = False := eq_false (by unfold hsh; rw [zi_8191]; omega)
theorem y198e (K1 : vkd w A = 15) (K3 : vkd w (vct w A 7) = 1) (K4 : vln w (vct w A 7) = 8192) (K5 : vct w A 8 = 3001) (K6 : ∀ j, vct w (vct w A 7) j = 0) : VC (d + 1) 198 [(2, A), (1, s)] w Q ↔ Q (hsh s) w := by
  rw [e198, b198_0]
  have hd : hsh s = i_and (w32 (w32 (l_ushr (w64 ((l_xor s (l_ushr s 31)) * (-7046029254386353131))) 51) + 0)) 8191 := rfl
  have h0 : 0 ≤ hsh s := of_eq_true hsh_nn
  have h1 : hsh s < 8192 := of_eq_true hsh_lt
  generalize w32 (l_ushr (w64 ((l_xor s (l_ushr s 31)) * (-7046029254386353131))) 51) = F at hd ⊢
  rw [b198_18, b198_26, ← hd, b198_36]
  generalize hsh s = p at h0 h1 ⊢
  simp only [↓ifbr, vkd_sv, vln_sv, vct_sv, vnt_sv, vkd_nw, vln_nw, vct_nw, vnt_nw, vlc_lt, vlc_gt, vlc_eq, w32_id, w64_id, ne_eq, not_false_eq_true, not_true_eq_false, true_and, and_true, false_and, and_false, true_implies, implies_true, false_implies, Int.zero_add, Int.add_zero, Int.le_refl, Int.lt_irrefl, Int.min_def, Int.max_def, if_true, if_false, eq_self, and_self, ↓reduceIte, Int.reduceNeg, Int.reduceAdd, Int.reduceSub, Int.reduceMul, Int.reduceLT, Int.reduceLE, Int.reduceEq, Int.reduceNe, Int.reduceToNat, Int.reduceTDiv, Int.reduceTMod, Nat.reduceEqDiff, Nat.reduceAdd, b198_46, b198_61, b198_62, b198_91, K1, K3, K4, K5, K6, h0, h1, Int.zero_sub]
theorem y199n (K1 : vkd w A = 15) (K2 : vct w A 7 = S) (K3 : vkd w S = 1) (K4 : vln w S = 8192) (K5 : vct w A 8 = 3001) (K6 : vct w A 0 = T) (K7 : vkd w T = 2) (K8 : vln w T = 3000) (K9 : vct w T 0 = b) (K10 : ∀ j, vct w S j = if j = hsh b then 3001 else 0) (hne : ¬ b = s) : VC (d + 2) 199 [(2, A), (1, s)] w Q ↔ Q (-1) w := by
  rw [e199, b199_0, e198, b198_0]
  have hd : hsh s = i_and (w32 (w32 (l_ushr (w64 ((l_xor s (l_ushr s 31)) * (-7046029254386353131))) 51) + 0)) 8191 := rfl
  have h0 : 0 ≤ hsh s := of_eq_true hsh_nn
  have h1 : hsh s < 8192 := of_eq_true hsh_lt
  have h1' : ¬ hsh s < 0 := by omega
  have r0 := w32_r (l_ushr (w64 ((l_xor s (l_ushr s 31)) * (-7046029254386353131))) 51)
  generalize w32 (l_ushr (w64 ((l_xor s (l_ushr s 31)) * (-7046029254386353131))) 51) = F at hd r0 ⊢
  have h2 : i_and (w32 (F + 1)) 8191 = (F + 1) % 8192 := by
    rw [zi_8191]; unfold w32; omega
  have h3 : hsh s = F % 8192 := by
    rw [hd, zi_8191]; unfold w32; omega
  by_cases hp : hsh s = hsh b
  · have h4 : ¬ (F + 1) % 8192 = hsh b := by rw [← hp, h3]; omega
    have h5 : 0 ≤ (F + 1) % 8192 := by omega
    have h6 : (F + 1) % 8192 < 8192 := by omega
    have h7 : ¬ (F + 1) % 8192 < 0 := by omega
    rw [b198_18, b198_26, ← hd, b198_36]
    have k1 : vct w S (hsh s) = 3001 := by rw [K10, if_pos hp]
    have k2 : vct w S ((F + 1) % 8192) = 0 := by rw [K10, if_neg h4]
    clear K10
    generalize hsh s = p at h0 h1 h1' k1 ⊢
    simp only [↓ifbr, vkd_sv, vln_sv, vct_sv, vnt_sv, vkd_nw, vln_nw, vct_nw, vnt_nw, vlc_lt, vlc_gt, vlc_eq, w32_id, w64_id, ne_eq, not_false_eq_true, not_true_eq_false, true_and, and_true, false_and, and_false, true_implies, implies_true, false_implies, Int.zero_add, Int.add_zero, Int.le_refl, Int.lt_irrefl, Int.min_def, Int.max_def, if_true, if_false, eq_self, and_self, ↓reduceIte, Int.reduceNeg, Int.reduceAdd, Int.reduceSub, Int.reduceMul, Int.reduceLT, Int.reduceLE, Int.reduceEq, Int.reduceNe, Int.reduceToNat, Int.reduceTDiv, Int.reduceTMod, Nat.reduceEqDiff, Nat.reduceAdd, b198_46, b198_61, b198_62, b198_69, b198_79, b198_94, b198_91, b198_18, b198_26, b198_36, h2, K1, K2, K3, K4, K5, K6, K7, K8, K9, hne, h0, h1, h5, h6, h7, k1, k2, Int.sub_self, Int.zero_sub, b199_5, b199_10, b199_19, b199_34, b199_41, b199_47]
  · have k1 : vct w S (hsh s) = 0 := by rw [K10, if_neg hp]
    rw [b198_18, b198_26, ← hd, b198_36]
    clear K10
    generalize hsh s = p at h0 h1 h1' k1 ⊢
    simp only [↓ifbr, vkd_sv, vln_sv, vct_sv, vnt_sv, vkd_nw, vln_nw, vct_nw, vnt_nw, vlc_lt, vlc_gt, vlc_eq, w32_id, w64_id, ne_eq, not_false_eq_true, not_true_eq_false, true_and, and_true, false_and, and_false, true_implies, implies_true, false_implies, Int.zero_add, Int.add_zero, Int.le_refl, Int.lt_irrefl, Int.min_def, Int.max_def, if_true, if_false, eq_self, and_self, ↓reduceIte, Int.reduceNeg, Int.reduceAdd, Int.reduceSub, Int.reduceMul, Int.reduceLT, Int.reduceLE, Int.reduceEq, Int.reduceNe, Int.reduceToNat, Int.reduceTDiv, Int.reduceTMod, Nat.reduceEqDiff, Nat.reduceAdd, b198_46, b198_61, b198_62, b198_91, K1, K2, K3, K4, K5, h0, h1, h1', k1, Int.zero_sub, b199_5, b199_10, b199_19, b199_34, b199_41, b199_47]
theorem y199y (K1 : vkd w A = 15) (K2 : vct w A 7 = S) (K3 : vkd w S = 1) (K4 : vln w S = 8192) (K5 : vct w A 8 = 3001) (K6 : vct w A 0 = T) (K7 : vkd w T = 2) (K8 : vln w T = 3000) (K9 : vct w T 0 = b) (K10 : ∀ j, vct w S j = if j = hsh b then 3001 else 0) (he : b = s) : VC (d + 2) 199 [(2, A), (1, s)] w Q ↔ Q 0 w := by
  subst he
  rw [e199, b199_0, e198, b198_0]
  have hd : hsh b = i_and (w32 (w32 (l_ushr (w64 ((l_xor b (l_ushr b 31)) * (-7046029254386353131))) 51) + 0)) 8191 := rfl
  have h0 : 0 ≤ hsh b := of_eq_true hsh_nn
  have h1 : hsh b < 8192 := of_eq_true hsh_lt
  have h1' : ¬ hsh b < 0 := by omega
  generalize w32 (l_ushr (w64 ((l_xor b (l_ushr b 31)) * (-7046029254386353131))) 51) = F at hd ⊢
  have k1 : vct w S (hsh b) = 3001 := by rw [K10, if_pos rfl]
  rw [b198_18, b198_26, ← hd, b198_36]
  clear K10
  generalize hsh b = p at h0 h1 h1' k1 ⊢
  simp only [↓ifbr, vkd_sv, vln_sv, vct_sv, vnt_sv, vkd_nw, vln_nw, vct_nw, vnt_nw, vlc_lt, vlc_gt, vlc_eq, w32_id, w64_id, ne_eq, not_false_eq_true, not_true_eq_false, true_and, and_true, false_and, and_false, true_implies, implies_true, false_implies, Int.zero_add, Int.add_zero, Int.le_refl, Int.lt_irrefl, Int.min_def, Int.max_def, if_true, if_false, eq_self, and_self, ↓reduceIte, Int.reduceNeg, Int.reduceAdd, Int.reduceSub, Int.reduceMul, Int.reduceLT, Int.reduceLE, Int.reduceEq, Int.reduceNe, Int.reduceToNat, Int.reduceTDiv, Int.reduceTMod, Nat.reduceEqDiff, Nat.reduceAdd, b198_46, b198_61, b198_62, b198_69, b198_79, b198_91, K1, K2, K3, K4, K5, K6, K7, K8, K9, h0, h1, h1', k1, Int.sub_self, b199_5, b199_10, b199_19, b199_34, b199_45, b199_47]
/-- where the model's search looks first -/
def hm (c : Int) : Int := c * 31 % 8192
theorem hm_r (c : Int) : 0 ≤ hm c ∧ hm c < 8192 := by unfold hm; omega
theorem hm_t (h0 : 0 ≤ c) (h1 : c < 22876792454961) : w32 (Int.tmod (w64 (c * 31)) 8192) = hm c := by
  rw [w64_id (by omega) (by omega), tmod_nn (by omega), w32_id (by omega) (by omega)]; rfl
theorem y99e (h0 : 0 ≤ c) (h1 : c < 22876792454961) (K1 : vkd w 25 = 22) (K2 : vct w 25 26 = 37) (K3 : vkd w 37 = 1) (K4 : vln w 37 = 8192) (K6 : vct w 37 (hm c) = -1) : VC (d + 1) 99 [(2, 25), (1, c)] w Q ↔ Q (hm c) w := by
  have h2 := hm_r c
  rw [e99, b99_0, hm_t h0 h1, b99_11, K1, K2, K3, K4, K6, b99_47]
  exact ⟨fun g => g.2.2.1 (by decide), fun g => ⟨rfl, ⟨rfl, h2.1, h2.2⟩, fun _ => g, fun h => absurd (show (-1 : Int) < 0 by decide) h⟩⟩
theorem y98n (h0 : 0 ≤ c) (h1 : c < 22876792454961) (K1 : vkd w 25 = 22) (K2 : vct w 25 26 = 37) (K3 : vkd w 37 = 1) (K4 : vln w 37 = 8192) (K6 : vct w 25 27 = 38) (K7 : vkd w 38 = 2) (K8 : vln w 38 = 3001) (K9 : vct w 38 0 = b) (K10 : ∀ j, 0 ≤ j → j < 8192 → vct w 37 j = if j = hm b then 0 else -1) (hne : ¬ b = c) : VC (d + 2) 98 [(2, 25), (1, c)] w Q ↔ Q (-1) w := by
  have h2 := hm_r c
  have h2a := h2.1
  have h2b := h2.2
  rw [e98, b98_0, e99, b99_0, hm_t h0 h1]
  by_cases hp : hm c = hm b
  · have k1 : vct w 37 (hm c) = 0 := by rw [K10 _ h2.1 h2.2, if_pos hp]
    have h4 : Int.tmod (w32 (hm c + 1)) 8192 = (hm c + 1) % 8192 := by rw [w32_id (by omega) (by omega), tmod_nn (by omega)]
    have h5 : 0 ≤ (hm c + 1) % 8192 := by omega
    have h6 : (hm c + 1) % 8192 < 8192 := by omega
    have k2 : vct w 37 ((hm c + 1) % 8192) = -1 := by rw [K10 _ h5 h6, if_neg (by rw [← hp]; omega)]
    clear K10
    generalize hm c = p at h2a h2b k1 k2 h4 h5 h6 ⊢
    simp only [↓ifbr, vkd_sv, vln_sv, vct_sv, vnt_sv, vkd_nw, vln_nw, vct_nw, vnt_nw, vlc_lt, vlc_gt, vlc_eq, w32_id, w64_id, ne_eq, not_false_eq_true, not_true_eq_false, true_and, and_true, false_and, and_false, true_implies, implies_true, false_implies, Int.zero_add, Int.add_zero, Int.le_refl, Int.lt_irrefl, Int.min_def, Int.max_def, if_true, if_false, eq_self, and_self, ↓reduceIte, Int.reduceNeg, Int.reduceAdd, Int.reduceSub, Int.reduceMul, Int.reduceLT, Int.reduceLE, Int.reduceEq, Int.reduceNe, Int.reduceToNat, Int.reduceTDiv, Int.reduceTMod, Nat.reduceEqDiff, Nat.reduceAdd, b99_11, b99_20, b99_36, b99_47, b98_5, h4, k1, k2, h2a, h2b, h5, h6, K1, K2, K3, K4, K6, K7, K8, K9, hne]
  · have k1 : vct w 37 (hm c) = -1 := by rw [K10 _ h2.1 h2.2, if_neg hp]
    clear K10
    generalize hm c = p at h2a h2b k1 ⊢
    simp only [↓ifbr, vkd_sv, vln_sv, vct_sv, vnt_sv, vkd_nw, vln_nw, vct_nw, vnt_nw, vlc_lt, vlc_gt, vlc_eq, w32_id, w64_id, ne_eq, not_false_eq_true, not_true_eq_false, true_and, and_true, false_and, and_false, true_implies, implies_true, false_implies, Int.zero_add, Int.add_zero, Int.le_refl, Int.lt_irrefl, Int.min_def, Int.max_def, if_true, if_false, eq_self, and_self, ↓reduceIte, Int.reduceNeg, Int.reduceAdd, Int.reduceSub, Int.reduceMul, Int.reduceLT, Int.reduceLE, Int.reduceEq, Int.reduceNe, Int.reduceToNat, Int.reduceTDiv, Int.reduceTMod, Nat.reduceEqDiff, Nat.reduceAdd, b99_11, b99_47, b98_5, k1, h2a, h2b, K1, K2, K3, K4]
theorem y98y (h0 : 0 ≤ b) (h1 : b < 22876792454961) (K1 : vkd w 25 = 22) (K2 : vct w 25 26 = 37) (K3 : vkd w 37 = 1) (K4 : vln w 37 = 8192) (K6 : vct w 25 27 = 38) (K7 : vkd w 38 = 2) (K8 : vln w 38 = 3001) (K9 : vct w 38 0 = b) (K10 : ∀ j, 0 ≤ j → j < 8192 → vct w 37 j = if j = hm b then 0 else -1) : VC (d + 2) 98 [(2, 25), (1, b)] w Q ↔ Q 0 w := by
  have h2 := hm_r b
  have h2a := h2.1
  have h2b := h2.2
  rw [e98, b98_0, e99, b99_0, hm_t h0 h1]
  have k1 : vct w 37 (hm b) = 0 := by rw [K10 _ h2.1 h2.2, if_pos rfl]
  clear K10
  generalize hm b = p at h2a h2b k1 ⊢
  simp only [↓ifbr, vkd_sv, vln_sv, vct_sv, vnt_sv, vkd_nw, vln_nw, vct_nw, vnt_nw, vlc_lt, vlc_gt, vlc_eq, w32_id, w64_id, ne_eq, not_false_eq_true, not_true_eq_false, true_and, and_true, false_and, and_false, true_implies, implies_true, false_implies, Int.zero_add, Int.add_zero, Int.le_refl, Int.lt_irrefl, Int.min_def, Int.max_def, if_true, if_false, eq_self, and_self, ↓reduceIte, Int.reduceNeg, Int.reduceAdd, Int.reduceSub, Int.reduceMul, Int.reduceLT, Int.reduceLE, Int.reduceEq, Int.reduceNe, Int.reduceToNat, Int.reduceTDiv, Int.reduceTMod, Nat.reduceEqDiff, Nat.reduceAdd, b99_11, b99_20, b99_47, b98_5, k1, h2a, h2b, K1, K2, K3, K4, K6, K7, K8, K9]
/-- what a search without rules leaves -/
def EXP (w w1 : vW) (c : Int) : Prop := w1.2 = w.2 ∧ (∀ b : Int, b ≠ 25 → b ≠ 37 → b ≠ 38 → w1.1 b = w.1 b) ∧ (∀ b : Int, vkd w1 b = vkd w b ∧ vln w1 b = vln w b) ∧ (∀ j : Int, j ≠ 28 → vct w1 25 j = vct w 25 j) ∧ vct w1 25 28 = 1 ∧ vct w1 38 0 = c ∧ ∀ j : Int, 0 ≤ j → j < 8192 → vct w1 37 j = if j = hm c then 0 else -1
theorem L102 (K1 : vkd w 25 = 22) (K2 : vct w 25 4 = 0) (K3 : vct w 25 28 = 1) : ∀ (m p n : Nat) (v6 : vV), m + p = n → n ≤ 14 → (VW d 102 35 [(2, 25), (1, c), (9, 0), (0, 0), (0, (n : Int)), (0, (p : Int)), v6] [] w Q ↔ Q 1 w) := by
  intro m
  induction m with
  | zero =>
    intro p n v6 hp hn
    rw [b102_35, b102_117, b102_12, b102_123, K1, K3, w32_id (z := 0 + 1) (by decide) (by decide)]
    exact ⟨fun g => (g.2 (by omega)).2.2 (by decide), fun g => ⟨fun h => absurd h (by omega), fun _ => ⟨rfl, fun h => absurd h (by decide), fun _ => g⟩⟩⟩
  | succ m ih =>
    intro p n v6 hp hn
    have h9 : ∀ v6 : vV, VW d 102 35 [(2, 25), (1, c), (9, 0), (0, 0), (0, (n : Int)), (0, (p : Int) + 1), v6] [] w Q ↔ Q 1 w := fun v6 => ih (p + 1) n v6 (by omega) hn
    rw [b102_35, b102_42, b102_45, b102_111, K1, K2, w32_id (z := (p : Int) + 1) (by omega) (by omega), h9]
    exact ⟨fun g => (g.1 (by omega)).2.2 (by decide), fun g => ⟨fun _ => ⟨rfl, fun h => absurd h (by decide), fun _ => g⟩, fun h => absurd (show (p : Int) < (n : Int) by omega) h⟩⟩
set_option maxHeartbeats 400000 in
set_option maxRecDepth 20000 in
theorem n102 (hl : OKL l) (hP : PQ w) (K0 : vct w 25 4 = 0) (K2 : vct w 25 26 = 37) (K3 : vkd w 37 = 1) (K4 : vln w 37 = 8192) (K6 : vct w 25 27 = 38) (K7 : vkd w 38 = 2) (K8 : vln w 38 = 3001) (h : ∀ w1, EXP w w1 (c9 l) → Q 1 w1) : VC (d + 5) 102 [(2, 25), (1, c9 l)] w Q := by
  have h2 := hm_r (c9 l)
  have h2a := h2.1
  have h2b := h2.2
  have h2c : ¬ hm (c9 l) < 0 := by omega
  have b1 := c9_bd14 hl
  have b1a := b1.1
  have b1b := b1.2
  have K1 := hP.1
  have y60l : ∀ {D : Nat} {u : vW} {R : Int → vW → Prop}, PQ u → (VC (D + 1) 60 [(2, 25), (1, c9 l)] u R ↔ R (l.length : Int) u) := fun hp => c60i hp.pw hl.2 (by have := hl.1; omega)
  let W1 := vsv (vsv (vsv (vsv (vup w 37 (fun j => if 0 ≤ j ∧ j < 8192 then -1 else vct w 37 j)) 25 28 0) 38 0 (c9 l)) 37 (hm (c9 l)) 0) 25 28 1
  have hW : EXP w W1 (c9 l) := by
    refine ⟨rfl, fun b h1 h2 h3 => ?_, fun b => ⟨?_, ?_⟩, fun j hj => ?_, ?_, ?_, fun j j0 j1 => ?_⟩
    · show (vsv _ _ _ _).1 b = _
      rw [vcl_sv h1, vcl_sv h2, vcl_sv h3, vcl_sv h1, vcl_up h2]
    · show vkd (vsv _ _ _ _) b = _
      rw [vkd_sv, vkd_sv, vkd_sv, vkd_sv, vkd_up]
    · show vln (vsv _ _ _ _) b = _
      rw [vln_sv, vln_sv, vln_sv, vln_sv, vln_up]
    · show vct (vsv _ _ _ _) 25 j = _
      rw [vct_svo (fun x => hj x.2), vct_svo (fun x => absurd x.1 (by decide)), vct_svo (fun x => absurd x.1 (by decide)), vct_svo (fun x => hj x.2), vct_upo (by decide)]
    · exact vct_svi
    · show vct (vsv _ _ _ _) 38 0 = _
      rw [vct_svo (fun x => absurd x.1 (by decide)), vct_svo (fun x => absurd x.1 (by decide)), vct_svi]
    · show vct (vsv _ _ _ _) 37 j = _
      rw [vct_svo (fun x => absurd x.1 (by decide)), vct_sv]
      by_cases e : j = hm (c9 l)
      · rw [if_pos ⟨rfl, e⟩, if_pos e]
      · rw [if_neg (fun x => e x.2), if_neg e, vct_svo (fun x => absurd x.1 (by decide)), vct_svo (fun x => absurd x.1 (by decide)), vct_upi, if_pos ⟨j0, j1⟩]
  have hL : ∀ v6 : vV, VW (d + 4) 102 35 [(2, 25), (1, c9 l), (9, 0), (0, 0), (0, (l.length : Int)), (0, 0), v6] [] W1 Q := fun v6 => (L102 (show vkd W1 25 = 22 from (hW.2.2.1 25).1.trans K1) ((hW.2.2.2.1 4 (by decide)).trans K0) hW.2.2.2.2.1 l.length 0 l.length v6 rfl hl.1).mpr (h _ hW)
  have hL := hL (9, 0)
  simp only [↓ifbr, vkd_sv, vln_sv, vct_sv, vnt_sv, vkd_nw, vln_nw, vct_nw, vnt_nw, vlc_lt, vlc_gt, vlc_eq, w32_id, w64_id, ne_eq, not_false_eq_true, not_true_eq_false, true_and, and_true, false_and, and_false, true_implies, implies_true, false_implies, Int.zero_add, Int.add_zero, Int.le_refl, Int.lt_irrefl, Int.min_def, Int.max_def, if_true, if_false, eq_self, and_self, ↓reduceIte, Int.reduceNeg, Int.reduceAdd, Int.reduceSub, Int.reduceMul, Int.reduceLT, Int.reduceLE, Int.reduceEq, Int.reduceNe, Int.reduceToNat, Int.reduceTDiv, Int.reduceTMod, Nat.reduceEqDiff, Nat.reduceAdd, vkd_up, vln_up, vct_up, ↓z97, ↓y99e, ↓y60l, PQ_sv, PQ_up, hP, K0, K1, K2, K3, K4, K6, K7, K8, h2a, h2b, h2c, b1a, b1b, ↓b100_0, ↓b100_5, ↓b100_15, ↓b100_17, ↓b100_27, ↓b100_29, ↓b100_39, ↓b100_49, ↓b100_59, ↓e100, ↓e102, ↓b102_0, ↓b102_4, ↓b102_9, ↓b102_12, ↓b102_20, ↓b102_30]
  exact hL
end DET
