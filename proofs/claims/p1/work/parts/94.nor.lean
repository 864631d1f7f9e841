/-! no rules: nobody strikes -/
theorem split_at (l : List Int) (p : Nat) (hp : p < l.length) : ∃ l1 x l2, l = l1 ++ x :: l2 ∧ l1.length = p :=
  ⟨l.take p, l[p], l.drop (p + 1), by rw [← List.drop_eq_getElem_cons hp, List.take_append_drop], by rw [List.length_take]; omega⟩
def RZ (w : vW) (a : Int) : Prop := vkd w a = 18 ∧ vct w a 3 = 0 ∧ vkd w (vct w a 2) = 1 ∧ vln w (vct w a 2) = 9
theorem PW.sv {w : vW} {j v : Int} (h : PW w 25) (hne : vct w 25 3 ≠ 25) (hj : j ≠ 3) : PW (vsv w 25 j v) 25 := by
  obtain ⟨h1, h2, h3, h4⟩ := h
  have e : vct (vsv w 25 j v) 25 3 = vct w 25 3 := vct_svo (fun x => hj x.2.symm)
  refine ⟨vkd_sv.trans h1, ?_, ?_, fun q hq => ?_⟩
  · rw [e, vkd_sv]; exact h2
  · rw [e, vln_sv]; exact h3
  · rw [e, vct_svo (fun x => hne x.1)]; exact h4 q hq
section NOR
variable {d : Nat} {w : vW} {Q : Int → vW → Prop}
theorem c281i {l : List Int} (h : OKL l) : VC (d + 2) 281 [(1, pk l)] w Q ↔ Q (c9 l) w := by
  have L : ∀ (b a : List Int), l = a ++ b → (VW (d + 1) 281 11 [(1, pk l), (9, 0), (1, c9 a), (9, 0), (0, (l.length : Int)), (0, (a.length : Int))] [] w Q ↔ Q (c9 l) w) := by
    intro b
    induction b with
    | nil =>
      intro a ha
      rw [List.append_nil] at ha
      subst ha
      rw [b281_11, b281_38]
      exact ⟨fun h => h.2 (by omega), fun h => ⟨fun hc => absurd hc (by omega), fun _ => h⟩⟩
    | cons x b ih =>
      intro a ha
      have h1 := ih (a ++ [x]) (by rw [ha]; simp)
      have h2 : OKL (a ++ x :: b) := ha ▸ h
      have h3 := c9_bd14 (OKL.app h2).1
      have h4 : 1 ≤ x ∧ x ≤ 8 := h2.2 x (List.mem_append_right _ List.mem_cons_self)
      have h5 := h2.1
      rw [List.length_append, List.length_cons] at h5
      have h6 : (a.length : Int) < (l.length : Int) := by rw [ha, List.length_append, List.length_cons]; omega
      rw [c9_snoc, List.length_append, List.length_singleton, Int.mul_comm 9] at h1
      have h7 : VC (d + 1) 276 [(1, pk l), (0, (a.length : Int))] w (fun r w1 => VW (d + 1) 281 29 [(1, pk l), (9, 0), (1, c9 a), (9, 0), (0, (l.length : Int)), (0, (a.length : Int))] [(0, r), (1, w64 (c9 a * 9))] w1 Q) ↔ Q (c9 l) w := by
        conv => lhs; rw [ha]
        rw [c276 h2, b281_29, b281_32, ← ha, w64_id (z := c9 a * 9) (by omega) (by omega), w64_id (z := c9 a * 9 + x) (by omega) (by omega), w32_id (z := (a.length : Int) + 1) (by omega) (by omega)]
        exact_mod_cast h1
      rw [b281_11, b281_18]
      exact ⟨fun h => h7.mp (h.1 h6), fun h => ⟨fun _ => h7.mpr h, fun hc => absurd h6 hc⟩⟩
  rw [e281, b281_0, c273 h, b281_6]
  exact L l [] rfl
theorem c60i {x : Int} {l : List Int} (hP : PW w x) (h : OKw l) (hl : l.length < 20) : VC (d + 1) 60 [(2, x), (1, c9 l)] w Q ↔ Q (l.length : Int) w := by
  have L : ∀ (m n : Nat), m + n = l.length → (VW d 60 2 [(2, x), (1, c9 l), (9, 0), (0, (n : Int))] [] w Q ↔ Q (l.length : Int) w) := by
    intro m
    induction m with
    | zero =>
      intro n hn
      rw [b60_2, b60_19, hP.1, hP.2.1, hP.2.2.1, hP.2.2.2 n (by omega), vlc_lt, c9_lt_iff h, show (n : Int) = (l.length : Int) by omega]
      exact ⟨fun g => g.2.2.1 (by omega), fun g => ⟨rfl, ⟨rfl, by omega, by omega⟩, fun _ => g, fun hc => absurd (show l.length ≤ n by omega) hc⟩⟩
    | succ m ih =>
      intro n hn
      have h9 := ih (n + 1) (by omega)
      have h9 : VW d 60 2 [(2, x), (1, c9 l), (9, 0), (0, (n : Int) + 1)] [] w Q ↔ _ := h9
      rw [b60_2, b60_13, hP.1, hP.2.1, hP.2.2.1, hP.2.2.2 n (by omega), vlc_lt, c9_lt_iff h, w32_id (z := (n : Int) + 1) (by omega) (by omega)]
      exact ⟨fun g => h9.mp (g.2.2.2 (by omega)), fun g => ⟨rfl, ⟨rfl, by omega, by omega⟩, fun hc => absurd hc (by omega), fun _ => h9.mpr g⟩⟩
  rw [e60, b60_0]
  exact L l.length 0 rfl
theorem n262 {a : Int} (hR : RZ w a) {l1 l2 : List Int} {x : Int} (h : OKL (l1 ++ x :: l2)) : VC (d + 2) 262 [(2, a), (1, pk (l1 ++ x :: l2)), (0, (l1.length : Int))] w Q ↔ Q (-1) w := by
  obtain ⟨h1, h2, h4, h5⟩ := hR
  have hx : 1 ≤ x ∧ x ≤ 8 := h.2 x (List.mem_append_right _ List.mem_cons_self)
  have hx0 : 0 ≤ x := by omega
  have hx9 : x < 9 := by omega
  simp only [↓ifbr, vkd_sv, vln_sv, vct_sv, vnt_sv, vkd_nw, vln_nw, vct_nw, vnt_nw, vlc_lt, vlc_gt, vlc_eq, w32_id, w64_id, ne_eq, not_false_eq_true, not_true_eq_false, true_and, and_true, false_and, and_false, true_implies, implies_true, false_implies, Int.zero_add, Int.add_zero, Int.le_refl, Int.lt_irrefl, Int.min_def, Int.max_def, if_true, if_false, eq_self, and_self, ↓reduceIte, Int.reduceNeg, Int.reduceAdd, Int.reduceSub, Int.reduceMul, Int.reduceLT, Int.reduceLE, Int.reduceEq, Int.reduceNe, Int.reduceToNat, Int.reduceTDiv, Int.reduceTMod, Nat.reduceEqDiff, Nat.reduceAdd, e262, b262_0, c276 h, b262_5, b262_17, b262_27, b262_28, b262_33, b262_94, h1, h2, h4, h5, hx0, hx9]
theorem n263 {a c : Int} (hR : RZ w a) {l : List Int} (h : OKL l) : VC (d + 4) 263 [(2, a), (0, c), (1, pk l)] w Q ↔ Q (-1) w := by
  by_cases hc : c = 2
  · simp only [↓ifbr, vkd_sv, vln_sv, vct_sv, vnt_sv, vkd_nw, vln_nw, vct_nw, vnt_nw, vlc_lt, vlc_gt, vlc_eq, w32_id, w64_id, ne_eq, not_false_eq_true, not_true_eq_false, true_and, and_true, false_and, and_false, true_implies, implies_true, false_implies, Int.zero_add, Int.add_zero, Int.le_refl, Int.lt_irrefl, Int.min_def, Int.max_def, if_true, if_false, eq_self, and_self, ↓reduceIte, Int.reduceNeg, Int.reduceAdd, Int.reduceSub, Int.reduceMul, Int.reduceLT, Int.reduceLE, Int.reduceEq, Int.reduceNe, Int.reduceToNat, Int.reduceTDiv, Int.reduceTMod, Nat.reduceEqDiff, Nat.reduceAdd, e263, b263_0, hc, b263_5, hR.1, e264, b264_0, b264_2, hR.2.1, b264_79, b263_10]
  · have st : ∀ (k p : Nat) (v6 v7 : vV), p < l.length → (VW (d + 3) 263 43 [(2, a), (0, c), (1, pk l), (9, 0), (0, (l.length : Int)), (0, (k : Int)), v6, v7] [(0, (p : Int))] w Q ↔ VW (d + 3) 263 20 [(2, a), (0, c), (1, pk l), (9, 0), (0, (l.length : Int)), (0, w32 ((k : Int) + 1)), (0, (p : Int)), (0, -1)] [] w Q) := by
      intro k p v6 v7 hp
      obtain ⟨l1, x, l2, rfl, rfl⟩ := split_at l p hp
      rw [b263_43, n262 hR h, b263_52, b263_67, hR.1]
      exact ⟨fun g => g.2.1 (by decide), fun g => ⟨rfl, fun _ => g, fun hc => absurd (show (-1 : Int) < 0 by decide) hc⟩⟩
    have L : ∀ (m k : Nat), m + k = l.length → ∀ v6 v7 : vV, (VW (d + 3) 263 20 [(2, a), (0, c), (1, pk l), (9, 0), (0, (l.length : Int)), (0, (k : Int)), v6, v7] [] w Q ↔ Q (-1) w) := by
      intro m
      induction m with
      | zero =>
        intro k hk v6 v7
        rw [b263_20, b263_73]
        exact ⟨fun g => g.2 (by omega), fun g => ⟨fun h9 => absurd h9 (by omega), fun _ => g⟩⟩
      | succ m ih =>
        intro k hk v6 v7
        have hl := h.1
        have h9 : ∀ v6 v7 : vV, VW (d + 3) 263 20 [(2, a), (0, c), (1, pk l), (9, 0), (0, (l.length : Int)), (0, (k : Int) + 1), v6, v7] [] w Q ↔ Q (-1) w := ih (k + 1) (by omega)
        rw [b263_20, b263_27, b263_31, b263_36, w32_id (z := (l.length : Int) - 1) (by omega) (by omega), w32_id (z := (l.length : Int) - 1 - (k : Int)) (by omega) (by omega), show (l.length : Int) - 1 - (k : Int) = ((l.length - 1 - k : Nat) : Int) by omega, st k k v6 v7 (by omega), st k (l.length - 1 - k) v6 v7 (by omega), w32_id (z := (k : Int) + 1) (by omega) (by omega), h9, h9]
        exact ⟨fun g => (Classical.em (c = 0)).elim (fun e => (g.1 (by omega)).1 e) (fun e => (g.1 (by omega)).2 e), fun g => ⟨fun _ => ⟨fun _ => g, fun _ => g⟩, fun h8 => absurd (show (k : Int) < (l.length : Int) by omega) h8⟩⟩
    have hs := c273 (d := d + 2) (w := w) (Q := fun r w1 => VW (d + 3) 263 15 [(2, a), (0, c), (1, pk l), (9, 0), (9, 0), (9, 0), (9, 0), (9, 0)] [(0, r)] w1 Q) h
    have h9 := L l.length 0 rfl (9, 0) (9, 0)
    have h9 : VW (d + 3) 263 20 [(2, a), (0, c), (1, pk l), (9, 0), (0, (l.length : Int)), (0, 0), (9, 0), (9, 0)] [] w Q ↔ Q (-1) w := h9
    rw [e263, b263_0, b263_11, hs, b263_15, h9]
    exact ⟨fun g => g.2 hc, fun g => ⟨fun h8 => absurd h8 hc, fun _ => g⟩⟩
theorem n265 {a c : Int} (hR : RZ w a) {l : List Int} (h : OKL l) : VC (d + 5) 265 [(2, a), (0, c), (1, pk l)] w Q ↔ Q (pk l) (vsv w a 5 0) := by
  simp only [↓ifbr, vkd_sv, vln_sv, vct_sv, vnt_sv, vkd_nw, vln_nw, vct_nw, vnt_nw, vlc_lt, vlc_gt, vlc_eq, w32_id, w64_id, ne_eq, not_false_eq_true, not_true_eq_false, true_and, and_true, false_and, and_false, true_implies, implies_true, false_implies, Int.zero_add, Int.add_zero, Int.le_refl, Int.lt_irrefl, Int.min_def, Int.max_def, if_true, if_false, eq_self, and_self, ↓reduceIte, Int.reduceNeg, Int.reduceAdd, Int.reduceSub, Int.reduceMul, Int.reduceLT, Int.reduceLE, Int.reduceEq, Int.reduceNe, Int.reduceToNat, Int.reduceTDiv, Int.reduceTMod, Nat.reduceEqDiff, Nat.reduceAdd, e265, b265_0, hR.1, n263 hR h, b265_10, b265_15, b265_53, b265_60, b265_94]
theorem z265 {a c : Int} (h1 : vkd w a = 18) (h2 : vct w a 3 = 0) (h3 : vkd w (vct w a 2) = 1) (h4 : vln w (vct w a 2) = 9) : VC (d + 5) 265 [(2, a), (0, c), (1, 0)] w Q ↔ Q 0 (vsv w a 5 0) := n265 ⟨h1, h2, h3, h4⟩ OKL.nil
theorem z263 {a c : Int} (h1 : vkd w a = 18) (h2 : vct w a 3 = 0) (h3 : vkd w (vct w a 2) = 1) (h4 : vln w (vct w a 2) = 9) : VC (d + 4) 263 [(2, a), (0, c), (1, 0)] w Q ↔ Q (-1) w := n263 ⟨h1, h2, h3, h4⟩ OKL.nil
theorem z281 : VC (d + 2) 281 [(1, 0)] w Q ↔ Q 0 w := c281i OKL.nil
theorem z273 : VC (d + 1) 273 [(1, 0)] w Q ↔ Q 0 w := c273 OKL.nil
/-- the model's clerk -/
theorem n85 {c : Int} {l : List Int} (hP : PW w 25) (hne : vct w 25 3 ≠ 25) (h : OKw l) (hl : l.length < 20) : VC (d + 2) 85 [(2, 25), (1, c9 l), (0, c), (0, 0)] w Q ↔ Q 0 (vsv w 25 23 (-1)) := by
  have hk : vkd (vsv w 25 23 (-1)) 25 = 22 := vkd_sv.trans hP.1
  have hf : vct (vsv w 25 23 (-1)) 25 23 = -1 := vct_svi
  by_cases hc : c = 2
  · rw [e85, b85_0, c60i hP h hl, b85_5, b85_12, b85_17, b85_20, b85_74, b85_85, b85_86, hP.1, hk, hf]
    exact ⟨fun g => ((g.2.2.1 hc).2 (by decide)).2.1 (by decide) |>.2, fun g => ⟨rfl, rfl, fun _ => ⟨fun h9 => absurd h9 (by decide), fun _ => ⟨rfl, fun _ => ⟨by decide, g⟩, fun h9 => absurd (show (-1 : Int) < 0 by decide) h9⟩⟩, fun h9 => absurd hc h9⟩⟩
  · have L : ∀ (m k : Nat), m + k = l.length → ∀ v7 : vV, (VW (d + 1) 85 90 [(2, 25), (1, c9 l), (9, 0), (0, c), (0, 0), (0, (l.length : Int)), (0, (k : Int)), v7] [] (vsv w 25 23 (-1)) Q ↔ Q 0 (vsv w 25 23 (-1))) := by
      intro m
      induction m with
      | zero =>
        intro k hk2 v7
        rw [b85_90, b85_158, b85_169, b85_170, hk, hf]
        exact ⟨fun g => ((g.2 (by omega)).2.1 (by decide)).2, fun g => ⟨fun h9 => absurd h9 (by omega), fun _ => ⟨rfl, fun _ => ⟨by decide, g⟩, fun h9 => absurd (show (-1 : Int) < 0 by decide) h9⟩⟩⟩
      | succ m ih =>
        intro k hk2 v7
        have h9 : ∀ v7 : vV, VW (d + 1) 85 90 [(2, 25), (1, c9 l), (9, 0), (0, c), (0, 0), (0, (l.length : Int)), (0, (k : Int) + 1), v7] [] (vsv w 25 23 (-1)) Q ↔ Q 0 (vsv w 25 23 (-1)) := ih (k + 1) (by omega)
        rw [b85_90, b85_97, b85_104, b85_107, b85_152, hk, hf, w32_id (z := (k : Int) + 1) (by omega) (by omega), h9]
        exact ⟨fun g => ((g.1 (by omega)).2.1 (by decide)).2 (by decide), fun g => ⟨fun _ => ⟨rfl, fun _ => ⟨fun h8 => absurd h8 (by decide), fun _ => g⟩, fun h8 => absurd (show (-1 : Int) < 0 by decide) h8⟩, fun h8 => absurd (show (k : Int) < (l.length : Int) by omega) h8⟩⟩
    have h9 : VW (d + 1) 85 90 [(2, 25), (1, c9 l), (9, 0), (0, c), (0, 0), (0, (l.length : Int)), (0, 0), (9, 0)] [] (vsv w 25 23 (-1)) Q ↔ Q 0 (vsv w 25 23 (-1)) := L l.length 0 rfl (9, 0)
    rw [e85, b85_0, c60i hP h hl, b85_5, b85_12, b85_87, hP.1, h9]
    exact ⟨fun g => g.2.2.2 hc, fun g => ⟨rfl, rfl, fun h8 => absurd h8 hc, fun _ => g⟩⟩
theorem n112 {c : Int} {l : List Int} (hP : PW w 25) (hne : vct w 25 3 ≠ 25) (h : OKw l) (hl : l.length < 20) : VC (d + 3) 112 [(2, 25), (1, c9 l), (0, c), (0, 0)] w Q ↔ Q (c9 l) (vsv (vsv w 25 35 0) 25 23 (-1)) := by
  have hP2 : PW (vsv w 25 35 0) 25 := hP.sv hne (by decide)
  have hn2 : vct (vsv w 25 35 0) 25 3 ≠ 25 := by rw [vct_svo (by decide)]; exact hne
  rw [e112, b112_0, b112_8, n85 hP2 hn2 h hl, b112_17, b112_49, hP.1, hP2.1]
  exact ⟨fun g => g.2.2.1 rfl, fun g => ⟨rfl, rfl, fun _ => g, fun h9 => absurd rfl h9⟩⟩
end NOR
