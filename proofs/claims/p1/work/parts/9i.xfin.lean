/-! speeches back from minutes, on a fresh object: the class -/
def cnt (n : Nat) (l : List Int) (j : Nat) : Int := Nat.rec 0 (fun j t => t + if sp j n = l then 1 else 0) j
theorem cnt_s (n : Nat) (l : List Int) (j : Nat) : cnt n l (j + 1) = cnt n l j + if sp j n = l then 1 else 0 := rfl
theorem cnt_up (n : Nat) (l : List Int) (j m : Nat) : 0 ≤ cnt n l (j + m) - cnt n l j ∧ cnt n l (j + m) - cnt n l j ≤ m := by
  induction m with
  | zero => rw [Nat.add_zero]; omega
  | succ m ih => rw [← Nat.add_assoc, cnt_s]; split <;> omega
theorem cnt_le {n : Nat} {l : List Int} {j M : Nat} (h : j ≤ M) : 0 ≤ cnt n l M - cnt n l j ∧ cnt n l M - cnt n l j ≤ (M : Int) - j := by
  have h1 := cnt_up n l j (M - j)
  rw [show j + (M - j) = M by omega] at h1
  omega
theorem cnt_no {n : Nat} {l : List Int} (h : l.length ≠ n) (j : Nat) : cnt n l j = 0 := by
  induction j with
  | zero => rfl
  | succ j ih => rw [cnt_s, ih, if_neg (fun e => h (by rw [← e, sp_len]))]; rfl
def rf (c n : Int) : Int := if 0 ≤ c ∧ c ≤ 2 ∧ 0 ≤ n ∧ n ≤ 14 then (if n ≤ 7 then 0 else -3) else -1
def TC (W : vW) : Prop := vct W 0 2 = 12 ∧ vkd W 12 = 20 ∧ vct W 12 0 = 13 ∧ vkd W 13 = 2 ∧ vln W 13 = 32
section XF
variable {d : Nat} {W W' W2 : vW} {Q : Int → vW → Prop} {A k g i v c m : Int} {G n : Nat} {z : Nat → Int} {l : List Int}
theorem TC.ce (h : TC W) (e0 : W'.1 0 = W.1 0) (e1 : W'.1 12 = W.1 12) (e2 : W'.1 13 = W.1 13) : TC W' := ⟨(congrFun (vct_cl e0) _).trans h.1, (vkd_cl e1).trans h.2.1, (congrFun (vct_cl e1) _).trans h.2.2.1, (vkd_cl e2).trans h.2.2.2.1, (vln_cl e2).trans h.2.2.2.2⟩
theorem FX.cx {w : vW} (h : FX w) : CX w (fun _ => -1) := ⟨fxk_0 h, fx_0_0 h, fx_0_3 h, fx_0_14 h, fxk_14 h, fx_14_4 h, fxk_24 h, fxl_24 h, fun j _ => fxc_24 h _⟩
theorem FX.r1 {w : vW} (h : FX w) : R1 w := ⟨fxk_1 h, fx_1_3 h, fx_1_4 h, fx_1_2 h, fxk_4 h, fxl_4 h⟩
theorem FX.tc {w : vW} (h : FX w) : TC w := ⟨fx_0_2 h, fxk_12 h, fx_12_0 h, fxk_13 h, fxl_13 h⟩
theorem fr.fa {w : vW} {n s : Nat} (h : fr n s w W) (hA : 58 ≤ A) (f : fa A W W') : fr n s w W' := by
  have e := f.1
  refine ⟨fun b hb => (f.2 b (by omega)).trans (h.1 b hb), (congrArg (fun x : Int × Nat × Nat => x.1) e).trans h.2.1, (congrArg (fun x : Int × Nat × Nat => x.2.1) e).trans h.2.2.1, (congrArg (fun x : Int × Nat × Nat => x.2.2) e).trans h.2.2.2⟩
theorem y291 (h : TC W) : VC (d + 1) 291 [(2, 12)] W Q ↔ Q 0 (vsv W 12 1 0) := by
  simp only [↓ifbr, vkd_sv, vln_sv, vct_sv, vnt_sv, vkd_nw, vln_nw, vct_nw, vnt_nw, vlc_lt, vlc_gt, vlc_eq, w32_id, w64_id, ne_eq, not_false_eq_true, not_true_eq_false, true_and, and_true, false_and, and_false, true_implies, implies_true, false_implies, Int.zero_add, Int.add_zero, Int.le_refl, Int.lt_irrefl, Int.min_def, Int.max_def, if_true, if_false, eq_self, and_self, ↓reduceIte, Int.reduceNeg, Int.reduceAdd, Int.reduceSub, Int.reduceMul, Int.reduceLT, Int.reduceLE, Int.reduceEq, Int.reduceNe, Int.reduceToNat, Int.reduceTDiv, Int.reduceTMod, Nat.reduceEqDiff, Nat.reduceAdd, ↓b291_0, ↓b291_5, ↓e291, h.2.1]
theorem y293 {s : Int} (h : TC W) (hs : vct W 12 1 = s) (h0 : 0 ≤ s) (h1 : s < 32) : VC (d + 1) 293 [(2, 12), (1, v)] W Q ↔ Q 0 (vsv (vsv W 13 s v) 12 1 (s + 1)) := by
  have hn : ¬ s < 0 := by omega
  simp only [↓ifbr, vkd_sv, vln_sv, vct_sv, vnt_sv, vkd_nw, vln_nw, vct_nw, vnt_nw, vlc_lt, vlc_gt, vlc_eq, w32_id, w64_id, ne_eq, not_false_eq_true, not_true_eq_false, true_and, and_true, false_and, and_false, true_implies, implies_true, false_implies, Int.zero_add, Int.add_zero, Int.le_refl, Int.lt_irrefl, if_true, if_false, eq_self, and_self, ↓reduceIte, Int.reduceNeg, Int.reduceAdd, Int.reduceSub, Int.reduceMul, Int.reduceLT, Int.reduceLE, Int.reduceEq, Int.reduceNe, Int.reduceToNat, Int.reduceTDiv, Int.reduceTMod, Nat.reduceEqDiff, Nat.reduceAdd, ↓b293_0, ↓b293_7, ↓b293_19, ↓b293_29, ↓b293_39, ↓e293, h.2.1, h.2.2.1, h.2.2.2.1, h.2.2.2.2, hs, h0, h1, hn]
  simp only [w32_id (z := s + 1) (by omega) (by omega)]
theorem y42 (h : CX W z) : VC (d + 3) 42 [(2, 0), (0, c), (0, m)] W Q ↔ Q (rf c m) W := by
  unfold rf
  rw [e42, b42_0, b42_4, b42_9, b42_13, b42_19, b42_21]
  by_cases hv : 0 ≤ c ∧ c ≤ 2 ∧ 0 ≤ m ∧ m ≤ 14
  · rw [if_pos hv, h.2.2.1, h.2.2.2.2.2.1, show m = ((m.toNat : Nat) : Int) by omega, y178 rfl (by omega), b42_32, b42_38, b42_43, b42_44, b42_44]
    have e : (4096 < mn m.toNat ↔ ¬ ((m.toNat : Nat) : Int) ≤ 7) := by
      by_cases h7 : m.toNat ≤ 7
      · have := p3_le h7
        rw [mn_le h7]; omega
      · unfold mn; rw [if_neg h7]; omega
    rw [e]
    by_cases h7 : ((m.toNat : Nat) : Int) ≤ 7
    · rw [if_pos h7]
      exact ⟨fun x => ((((x.2 (by omega)).2 (by omega)).2 (by omega)).2 (by omega)).2.2.2 (fun y => y h7), fun x => ⟨fun y => absurd y (by omega), fun _ => ⟨fun y => absurd y (by omega), fun _ => ⟨fun y => absurd y (by omega), fun _ => ⟨fun y => absurd y (by omega), fun _ => ⟨h.1, h.2.2.2.2.1, fun y => absurd h7 y, fun _ => x⟩⟩⟩⟩⟩⟩
    · rw [if_neg h7]
      exact ⟨fun x => ((((x.2 (by omega)).2 (by omega)).2 (by omega)).2 (by omega)).2.2.1 h7, fun x => ⟨fun y => absurd y (by omega), fun _ => ⟨fun y => absurd y (by omega), fun _ => ⟨fun y => absurd y (by omega), fun _ => ⟨fun y => absurd y (by omega), fun _ => ⟨h.1, h.2.2.2.2.1, fun _ => x, fun y => absurd h7 y⟩⟩⟩⟩⟩⟩
  · rw [if_neg hv]
    constructor
    · intro x
      by_cases a1 : c < 0
      · exact x.1 a1
      · by_cases a2 : 2 < c
        · exact (x.2 a1).1 a2
        · by_cases a3 : m < 0
          · exact ((x.2 a1).2 a2).1 a3
          · exact (((x.2 a1).2 a2).2 a3).1 (by omega)
    · exact fun x => ⟨fun _ => x, fun _ => ⟨fun _ => x, fun _ => ⟨fun _ => x, fun _ => ⟨fun _ => x, fun _ => absurd (show 0 ≤ c ∧ c ≤ 2 ∧ 0 ≤ m ∧ m ≤ 14 by omega) hv⟩⟩⟩⟩
theorem y184 {j : Nat} (hF : FN W A k g) (hD : FD W A G 0) (hn : n < G) (h7 : n ≤ 7) (hj : j < 3 ^ n) : VC (d + 2) 184 [(2, A), (0, (n : Int)), (0, (j : Int))] W Q ↔ Q (pk (sp j n)) W := by
  have hb := bg_7 h7
  have hp := p3_le h7
  have e := ((hD.1 n hn).2 j hj).1
  have h1 : ¬ ((bg n + j : Nat) : Int) < 0 := by omega
  have h2 : ((bg n + j : Nat) : Int) < 8192 := by omega
  have h3 : (0 : Int) ≤ ((bg n + j : Nat) : Int) := by omega
  rw [e184, b184_0, y180 hF (by omega) (by omega), b184_5, (hD.1 n hn).1, w32_id (z := (bg n : Int) + (j : Int)) (by omega) (by omega), show (bg n : Int) + (j : Int) = ((bg n + j : Nat) : Int) by omega]
  simp only [↓ifbr, vkd_sv, vln_sv, vct_sv, vnt_sv, vkd_nw, vln_nw, vct_nw, vnt_nw, vlc_lt, vlc_gt, vlc_eq, w32_id, w64_id, ne_eq, not_false_eq_true, not_true_eq_false, true_and, and_true, false_and, and_false, true_implies, implies_true, false_implies, Int.zero_add, Int.add_zero, Int.le_refl, Int.lt_irrefl, Int.min_def, Int.max_def, if_true, if_false, eq_self, and_self, ↓reduceIte, Int.reduceNeg, Int.reduceAdd, Int.reduceSub, Int.reduceMul, Int.reduceLT, Int.reduceLE, Int.reduceEq, Int.reduceNe, Int.reduceToNat, Int.reduceTDiv, Int.reduceTMod, Nat.reduceEqDiff, Nat.reduceAdd, b184_12, b184_21, b184_31, hF.1, hF.2.1, hF.2.2.2.2.2.2.2.2.2.1, hF.2.2.2.2.2.2.2.2.2.2.1, h1, h2, h3, e]
theorem y185 {j : Nat} (hF : FN W A k g) (hD : FD W A G 0) (hn : n < G) (h7 : n ≤ 7) (hj : j < 3 ^ n) : VC (d + 2) 185 [(2, A), (0, (n : Int)), (0, (j : Int))] W Q ↔ Q 0 W := by
  have hb := bg_7 h7
  have hp := p3_le h7
  have e := ((hD.1 n hn).2 j hj).2
  have h1 : ¬ ((bg n + j : Nat) : Int) < 0 := by omega
  have h2 : ((bg n + j : Nat) : Int) < 8192 := by omega
  have h3 : (0 : Int) ≤ ((bg n + j : Nat) : Int) := by omega
  rw [e185, b185_0, y180 hF (by omega) (by omega), b185_5, (hD.1 n hn).1, w32_id (z := (bg n : Int) + (j : Int)) (by omega) (by omega), show (bg n : Int) + (j : Int) = ((bg n + j : Nat) : Int) by omega]
  simp only [↓ifbr, vkd_sv, vln_sv, vct_sv, vnt_sv, vkd_nw, vln_nw, vct_nw, vnt_nw, vlc_lt, vlc_gt, vlc_eq, w32_id, w64_id, ne_eq, not_false_eq_true, not_true_eq_false, true_and, and_true, false_and, and_false, true_implies, implies_true, false_implies, Int.zero_add, Int.add_zero, Int.le_refl, Int.lt_irrefl, Int.min_def, Int.max_def, if_true, if_false, eq_self, and_self, ↓reduceIte, Int.reduceNeg, Int.reduceAdd, Int.reduceSub, Int.reduceMul, Int.reduceLT, Int.reduceLE, Int.reduceEq, Int.reduceNe, Int.reduceToNat, Int.reduceTDiv, Int.reduceTMod, Nat.reduceEqDiff, Nat.reduceAdd, b185_12, b185_21, b185_31, hF.1, hF.2.2.1, hF.2.2.2.2.2.2.2.2.2.2.2.1, hF.2.2.2.2.2.2.2.2.2.2.2.2.1, h1, h2, h3, e]
theorem FD.fld {j : Int} (h : FD W A G 0) : FD (vsv W A j v) A G 0 := h.same (vct_svw (by omega)) (vct_svw (by omega)) (vct_svw (by omega))
/-- how many come to l -/
theorem c186 (hF : FN W A k g) (hD : FD W A G 0) (hn : n < G) (h7 : n ≤ 7) (hl : OKL l) (hq : ∀ W', FN W' A k g → FD W' A G 0 → fa A W W' → (0 < cnt n l (3 ^ n) → vct W' A 8 = pk l) → Q (cnt n l (3 ^ n)) W') : VC (d + 4) 186 [(2, A), (0, (n : Int)), (1, pk l)] W Q := by
  have hp := p3_le h7
  refine e186.mpr (b186_0.mpr ⟨hF.1, (y178 hF.2.2.2.2.2.2.1 (by omega)).mpr (b186_11.mpr ?_)⟩)
  rw [mn_le h7, w32_id (z := ((3 ^ n : Nat) : Int) - 1) (by omega) (by omega)]
  have L : ∀ j : Nat, j ≤ 3 ^ n → ∀ W', FN W' A k g → FD W' A G 0 → fa A W W' → (0 < cnt n l (3 ^ n) - cnt n l j → vct W' A 8 = pk l) → VW (d + 3) 186 15 [(2, A), (0, (n : Int)), (1, pk l), (9, 0), (0, cnt n l (3 ^ n) - cnt n l j), (0, (j : Int) - 1)] [] W' Q := by
    intro j
    induction j with
    | zero =>
      intro _ W' F' D' f' hv
      refine b186_15.mpr ⟨fun _ => b186_52.mpr ?_, fun h => absurd (show ((0 : Nat) : Int) - 1 < 0 by decide) h⟩
      have e : cnt n l (3 ^ n) - cnt n l 0 = cnt n l (3 ^ n) := Int.sub_zero _
      rw [e] at hv ⊢
      exact hq W' F' D' f' hv
    | succ j ih =>
      intro hj W' F' D' f' hv
      have hc := cnt_le (n := n) (l := l) hj
      have hs := sp_okl (show n ≤ 14 by omega) j
      rw [show ((j + 1 : Nat) : Int) - 1 = (j : Int) by omega]
      refine b186_15.mpr ⟨fun h => absurd h (by omega), fun _ => b186_20.mpr ⟨F'.1, (y184 F' D' hn h7 (by omega)).mpr (b186_27.mpr ⟨fun h => ?_, fun h => ?_⟩)⟩⟩
      · have e : sp j n = l := pk_inj hs hl (vlc_eq.mp h)
        refine b186_32.mpr ⟨F'.1, (y181 F'.1 F'.2.2.2.2.2.2.1 (by omega) (by omega)).mpr (b186_40.mpr ⟨F'.1, b186_43.mpr (b186_46.mpr ?_)⟩)⟩
        have e2 : cnt n l (3 ^ n) - cnt n l (j + 1) + 1 = cnt n l (3 ^ n) - cnt n l j := by rw [cnt_s, if_pos e]; omega
        rw [w32_id (z := cnt n l (3 ^ n) - cnt n l (j + 1) + 1) (by omega) (by omega), e2, w32_id (z := (j : Int) + -1) (by omega) (by omega)]
        exact ih (by omega) _ (F'.fld (by decide)) D'.fld (f'.sv (by omega)) (fun _ => by rw [vct_svi, e])
      · have e : ¬ sp j n = l := fun e => h (vlc_eq.mpr (by rw [e]))
        have e2 : cnt n l (3 ^ n) - cnt n l (j + 1) = cnt n l (3 ^ n) - cnt n l j := by rw [cnt_s, if_neg e]; omega
        rw [e2] at hv ⊢
        refine b186_46.mpr ?_
        rw [w32_id (z := (j : Int) + -1) (by omega) (by omega)]
        exact ih (by omega) _ F' D' f' hv
  have h9 := L (3 ^ n) (Nat.le_refl _) W hF hD fa.rf (fun h => absurd h (by omega))
  rw [show cnt n l (3 ^ n) - cnt n l (3 ^ n) = 0 by omega] at h9
  exact h9
/-- no strikes at all -/
theorem c187 (hF : FN W A k g) (hD : FD W A G 0) (hn : n < G) (h7 : n ≤ 7) (hq : ∀ W', FN W' A k g → FD W' A G 0 → fa A W W' → (∃ l, OKL l ∧ vct W' A 8 = pk l) → Q 0 W') : VC (d + 4) 187 [(2, A), (0, (n : Int))] W Q := by
  have hp := p3_le h7
  have L : ∀ (m j : Nat), m + j = 3 ^ n → ∀ (mo : Int) (v5 v6 : vV) W', FN W' A k g → FD W' A G 0 → fa A W W' → (j = 0 ∧ mo = -1 ∨ 0 < j ∧ mo = 0 ∧ ∃ l, OKL l ∧ vct W' A 8 = pk l) → VW (d + 3) 187 12 [(2, A), (0, (n : Int)), (1, mo), (9, 0), (0, (j : Int)), v5, v6] [] W' Q := by
    intro m
    induction m with
    | zero =>
      intro j hj mo v5 v6 W' F' D' f' hv
      refine b187_12.mpr ⟨F'.1, (y178 F'.2.2.2.2.2.2.1 (by omega)).mpr (b187_22.mpr ⟨fun h => absurd h (by rw [mn_le h7]; omega), fun _ => b187_82.mpr ?_⟩)⟩
      rcases hv with ⟨h0, -⟩ | ⟨-, rfl, hl⟩
      · omega
      · exact hq W' F' D' f' hl
    | succ m ih =>
      intro j hj mo v5 v6 W' F' D' f' hv
      have hs := sp_okl (show n ≤ 14 by omega) j
      have nx : ∀ (y : Int) (W2 : vW), FN W2 A k g → FD W2 A G 0 → fa A W W2 → (vct W2 A 8 = vct W' A 8) → VW (d + 3) 187 55 [(2, A), (0, (n : Int)), (1, mo), (9, 0), (0, (j : Int)), (1, 0), (9, 0)] [] W2 Q := by
        intro y W2 F2 D2 f2 e8
        refine b187_55.mpr ⟨fun h => b187_62.mpr ⟨F2.1, (y181 F2.1 F2.2.2.2.2.2.2.1 (by omega) (by omega)).mpr (b187_73.mpr ⟨F2.1, b187_76.mpr ?_⟩)⟩, fun h => b187_76.mpr ?_⟩
        · rw [w32_id (z := (j : Int) + 1) (by omega) (by omega)]
          have h9 := ih (j + 1) (by omega) 0 (1, 0) (9, 0) (vsv W2 A 8 (pk (sp j n))) (F2.fld (by decide)) D2.fld (f2.sv (by omega)) (Or.inr ⟨by omega, rfl, sp j n, hs, vct_svi⟩)
          exact_mod_cast h9
        · rw [w32_id (z := (j : Int) + 1) (by omega) (by omega)]
          rcases hv with ⟨-, rfl⟩ | ⟨h0, rfl, l, hl, e⟩
          · exact absurd (vlc_gt.mpr (by decide)) h
          · have h9 := ih (j + 1) (by omega) 0 (1, 0) (9, 0) W2 F2 D2 f2 (Or.inr ⟨by omega, rfl, l, hl, e8.trans e⟩)
            exact_mod_cast h9
      refine b187_12.mpr ⟨F'.1, (y178 F'.2.2.2.2.2.2.1 (by omega)).mpr (b187_22.mpr ⟨fun _ => b187_25.mpr ⟨F'.1, (y185 F' D' hn h7 (by omega)).mpr (b187_32.mpr ⟨F'.1, fun _ => b187_46.mpr (b187_51.mpr ⟨F'.1, nx 0 _ (F'.fld (by decide)) D'.fld (f'.sv (by omega)) (vct_svo (fun x => absurd x.2 (by decide)))⟩), fun h => absurd (vlc_eq.mpr rfl) h⟩)⟩, fun h => absurd (show (j : Int) < mn n by rw [mn_le h7]; omega) h⟩)⟩
  refine e187.mpr (b187_0.mpr ⟨hF.1, b187_9.mpr (L (3 ^ n) 0 (by omega) (-1) (9, 0) (9, 0) _ (hF.fld (by decide)) hD.fld (fa.rf.sv (by omega)) (Or.inl ⟨rfl, rfl⟩))⟩)
/-- two clerks who do not strike leave the same -/
theorem c189 {B k2 g2 : Int} {G2 : Nat} (hF : FN W A k g) (hD : FD W A G 0) (hF2 : FN W B k2 g2) (hD2 : FD W B G2 0) (hn : n < G) (hn2 : n < G2) (h7 : n ≤ 7) (hq : Q 0 W) : VC (d + 4) 189 [(2, A), (2, B), (0, (n : Int))] W Q := by
  have hp := p3_le h7
  refine e189.mpr (b189_0.mpr ⟨hF.1, (y178 hF.2.2.2.2.2.2.1 (by omega)).mpr (b189_10.mpr ?_)⟩)
  rw [mn_le h7, w32_id (z := ((3 ^ n : Nat) : Int) - 1) (by omega) (by omega)]
  have L : ∀ j : Nat, j ≤ 3 ^ n → VW (d + 3) 189 14 [(2, A), (2, B), (0, (n : Int)), (0, 0), (0, (j : Int) - 1)] [] W Q := by
    intro j
    induction j with
    | zero => exact fun _ => b189_14.mpr ⟨fun _ => b189_57.mpr hq, fun h => absurd (show ((0 : Nat) : Int) - 1 < 0 by decide) h⟩
    | succ j ih =>
      intro hj
      rw [show ((j + 1 : Nat) : Int) - 1 = (j : Int) by omega]
      refine b189_14.mpr ⟨fun h => absurd h (by omega), fun _ => b189_19.mpr ⟨hF.1, (y184 hF hD hn h7 (by omega)).mpr (b189_26.mpr ⟨hF2.1, (y184 hF2 hD2 hn2 h7 (by omega)).mpr (b189_33.mpr ⟨fun _ => b189_51.mpr ?_, fun h => absurd (vlc_eq.mpr rfl) h⟩)⟩)⟩⟩
      rw [w32_id (z := (j : Int) + -1) (by omega) (by omega)]
      exact ih (by omega)
  exact L (3 ^ n) (Nat.le_refl _)
end XF
