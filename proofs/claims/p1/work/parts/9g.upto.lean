/-! what a clerk leaves of all sayings, made and kept -/
def bg (m : Nat) : Nat := Nat.rec 0 (fun m b => b + 3 ^ m) m
theorem bg_s (m : Nat) : bg (m + 1) = bg m + 3 ^ m := rfl
theorem bg_le {m G : Nat} (h : m < G) : bg m + 3 ^ m ≤ bg G := by
  induction G with
  | zero => omega
  | succ G ih =>
    rw [bg_s]
    rcases Nat.lt_or_ge m G with h1 | h1
    · exact Nat.le_trans (ih h1) (Nat.le_add_right _ _)
    · have : m = G := by omega
      subst this; exact Nat.le_refl _
theorem bg_7 {m : Nat} (h : m ≤ 7) : bg m + 3 ^ m ≤ 3280 := by
  rcases (show m = 0 ∨ m = 1 ∨ m = 2 ∨ m = 3 ∨ m = 4 ∨ m = 5 ∨ m = 6 ∨ m = 7 by omega) with rfl | rfl | rfl | rfl | rfl | rfl | rfl | rfl <;> decide
def FN (W : vW) (A k g : Int) : Prop := vkd W A = 13 ∧ vct W A 0 = A + 1 ∧ vct W A 1 = A + 2 ∧ vct W A 2 = A + 3 ∧ vct W A 3 = A + 4 ∧ vct W A 4 = k ∧ vct W A 5 = 3 ∧ vct W A 6 = 0 ∧ vct W A 7 = g ∧ vkd W (A + 1) = 2 ∧ vln W (A + 1) = 8192 ∧ vkd W (A + 2) = 2 ∧ vln W (A + 2) = 8192 ∧ vkd W (A + 3) = 1 ∧ vln W (A + 3) = 15 ∧ vkd W (A + 4) = 2 ∧ vln W (A + 4) = 4096
def FD (W : vW) (A : Int) (G K : Nat) : Prop := (∀ m : Nat, m < G → vct W (A + 3) (m : Int) = (bg m : Int) ∧ ∀ k : Nat, k < 3 ^ m → vct W (A + 1) ((bg m + k : Nat) : Int) = pk (sp k m) ∧ vct W (A + 2) ((bg m + k : Nat) : Int) = 0) ∧ ∀ k : Nat, k < K → vct W (A + 1) ((bg G + k : Nat) : Int) = pk (sp k G) ∧ vct W (A + 2) ((bg G + k : Nat) : Int) = 0
def R1 (W : vW) : Prop := vkd W 1 = 18 ∧ vct W 1 3 = 0 ∧ vct W 1 4 = 0 ∧ vct W 1 2 = 4 ∧ vkd W 4 = 1 ∧ vln W 4 = 9
theorem R1.z {W : vW} (h : R1 W) : RZ W 1 := ⟨h.1, h.2.1, by rw [h.2.2.2.1]; exact h.2.2.2.2.1, by rw [h.2.2.2.1]; exact h.2.2.2.2.2⟩
def fa (A : Int) (W W' : vW) : Prop := W'.2 = W.2 ∧ ∀ b : Int, ¬ (A ≤ b ∧ b ≤ A + 4) → W'.1 b = W.1 b
section UPTO
variable {d : Nat} {W W' W2 : vW} {Q : Int → vW → Prop} {A k g i v : Int} {G K n : Nat}
theorem fa.rf : fa A W W := ⟨rfl, fun _ _ => rfl⟩
theorem fa.tr (h : fa A W W') (h2 : fa A W' W2) : fa A W W2 := ⟨h2.1.trans h.1, fun b hb => (h2.2 b hb).trans (h.2 b hb)⟩
theorem fa.sv {a : Int} (h : fa A W W') (ha : A ≤ a ∧ a ≤ A + 4) : fa A W (vsv W' a i v) := ⟨h.1, fun b hb => (vcl_sv (b := b) (a := a) (fun e => hb (by omega))).trans (h.2 b hb)⟩
theorem R1.fa (h : R1 W) (hA : 58 ≤ A) (hf : fa A W W') : R1 W' := by
  have e1 := hf.2 1 (by omega)
  have e4 := hf.2 4 (by omega)
  exact ⟨(vkd_cl e1).trans h.1, (congrFun (vct_cl e1) _).trans h.2.1, (congrFun (vct_cl e1) _).trans h.2.2.1, (congrFun (vct_cl e1) _).trans h.2.2.2.1, (vkd_cl e4).trans h.2.2.2.2.1, (vln_cl e4).trans h.2.2.2.2.2⟩
/-- a row of it is written -/
theorem FN.row {a : Int} (h : FN W A k g) (ha : a ≠ A) : FN (vsv W a i v) A k g := by
  obtain ⟨h1, h2, h3, h4, h5, h6, h7, h8, h9, h10, h11, h12, h13, h14, h15, h16, h17⟩ := h
  have q : ∀ j, vct (vsv W a i v) A j = vct W A j := fun j => vct_svo (fun x => ha x.1.symm)
  refine ⟨vkd_sv.trans h1, (q _).trans h2, (q _).trans h3, (q _).trans h4, (q _).trans h5, (q _).trans h6, (q _).trans h7, (q _).trans h8, (q _).trans h9, vkd_sv.trans h10, vln_sv.trans h11, vkd_sv.trans h12, vln_sv.trans h13, vkd_sv.trans h14, vln_sv.trans h15, vkd_sv.trans h16, vln_sv.trans h17⟩
/-- a field of it that is no row -/
theorem FN.lg {g2 : Int} (h : FN W A k g) : FN (vsv W A 7 g2) A k g2 := by
  obtain ⟨h1, h2, h3, h4, h5, h6, h7, h8, h9, h10, h11, h12, h13, h14, h15, h16, h17⟩ := h
  have q : ∀ j, j ≠ 7 → vct (vsv W A 7 g2) A j = vct W A j := fun j hj => vct_svo (fun x => hj x.2)
  refine ⟨vkd_sv.trans h1, (q _ (by decide)).trans h2, (q _ (by decide)).trans h3, (q _ (by decide)).trans h4, (q _ (by decide)).trans h5, (q _ (by decide)).trans h6, (q _ (by decide)).trans h7, (q _ (by decide)).trans h8, vct_svi, vkd_sv.trans h10, vln_sv.trans h11, vkd_sv.trans h12, vln_sv.trans h13, vkd_sv.trans h14, vln_sv.trans h15, vkd_sv.trans h16, vln_sv.trans h17⟩
theorem FN.fld {j : Int} (h : FN W A k g) (hj : 8 ≤ j) : FN (vsv W A j v) A k g := by
  obtain ⟨h1, h2, h3, h4, h5, h6, h7, h8, h9, h10, h11, h12, h13, h14, h15, h16, h17⟩ := h
  have q : ∀ x, x < 8 → vct (vsv W A j v) A x = vct W A x := fun x hx => vct_svo (fun y => by have := y.2; omega)
  refine ⟨vkd_sv.trans h1, (q _ (by decide)).trans h2, (q _ (by decide)).trans h3, (q _ (by decide)).trans h4, (q _ (by decide)).trans h5, (q _ (by decide)).trans h6, (q _ (by decide)).trans h7, (q _ (by decide)).trans h8, (q _ (by decide)).trans h9, vkd_sv.trans h10, vln_sv.trans h11, vkd_sv.trans h12, vln_sv.trans h13, vkd_sv.trans h14, vln_sv.trans h15, vkd_sv.trans h16, vln_sv.trans h17⟩
theorem FD.same (h : FD W A G K) (e1 : vct W' (A + 1) = vct W (A + 1)) (e2 : vct W' (A + 2) = vct W (A + 2)) (e3 : vct W' (A + 3) = vct W (A + 3)) : FD W' A G K := by
  unfold FD
  rw [e1, e2, e3]
  exact h
theorem vct_svw {a b : Int} (h : b ≠ a) : vct (vsv W a i v) b = vct W b := funext fun _ => vct_svo (fun x => h x.1)
theorem y180 (h : FN W A k g) (h0 : 0 ≤ i) (h1 : i < 15) : VC (d + 1) 180 [(2, A), (0, i)] W Q ↔ Q (vct W (A + 3) i) W := by
  have hn : ¬ i < 0 := by omega
  simp only [↓ifbr, vkd_sv, vln_sv, vct_sv, vnt_sv, vkd_nw, vln_nw, vct_nw, vnt_nw, vlc_lt, vlc_gt, vlc_eq, w32_id, w64_id, ne_eq, not_false_eq_true, not_true_eq_false, true_and, and_true, false_and, and_false, true_implies, implies_true, false_implies, Int.zero_add, Int.add_zero, Int.le_refl, Int.lt_irrefl, Int.min_def, Int.max_def, if_true, if_false, eq_self, and_self, ↓reduceIte, Int.reduceNeg, Int.reduceAdd, Int.reduceSub, Int.reduceMul, Int.reduceLT, Int.reduceLE, Int.reduceEq, Int.reduceNe, Int.reduceToNat, Int.reduceTDiv, Int.reduceTMod, Nat.reduceEqDiff, Nat.reduceAdd, ↓b180_0, ↓b180_4, ↓b180_13, ↓b180_22, ↓b180_23, ↓e180, h.1, h.2.2.2.1, h.2.2.2.2.2.2.2.2.2.2.2.2.2.1, h.2.2.2.2.2.2.2.2.2.2.2.2.2.2.1, h0, h1, hn]
/-- the sayings of G words, one after the other -/
theorem upto_in (hA : 58 ≤ A) (hG : G ≤ 7) (hq : ∀ W', FN W' A k g → FD W' A G (3 ^ G) → vct W' (A + 3) (G : Int) = (bg G : Int) → fa A W W' → VW (d + 7) 179 152 [(2, A), (2, 1), (0, 3), (0, (n : Int)), (0, (G : Int)), (0, ((3 ^ G : Nat) : Int)), (0, ((3 ^ G : Nat) : Int))] [] W' Q) : ∀ (m K : Nat), m + K = 3 ^ G → ∀ W', FN W' A k g → FD W' A G K → vct W' (A + 3) (G : Int) = (bg G : Int) → R1 W' → fa A W W' → VW (d + 7) 179 116 [(2, A), (2, 1), (0, 3), (0, (n : Int)), (0, (G : Int)), (0, ((3 ^ G : Nat) : Int)), (0, (K : Int))] [] W' Q := by
  have hp := p3_le hG
  have hb := bg_7 hG
  intro m
  induction m with
  | zero =>
    intro K hK W' hF hD hB hR hf
    have : K = 3 ^ G := by omega
    subst this
    exact b179_116.mpr ⟨fun h => absurd h (by omega), fun _ => hq W' hF hD hB hf⟩
  | succ m ih =>
    intro K hK W' hF hD hB hR hf
    have hl := sp_okl (show G ≤ 14 by omega) K
    refine b179_116.mpr ⟨fun _ => b179_123.mpr ⟨hF.1, (y181 hF.1 hF.2.2.2.2.2.2.1 (by omega) (by omega)).mpr (b179_133.mpr ?_)⟩, fun h => absurd (show (K : Int) < ((3 ^ G : Nat) : Int) by omega) h⟩
    rw [hF.2.2.2.1, hB, w32_id (z := (bg G : Int) + (K : Int)) (by omega) (by omega), show (bg G : Int) + (K : Int) = ((bg G + K : Nat) : Int) by omega]
    refine ⟨hF.1, ⟨hF.2.2.2.2.2.2.2.2.2.2.2.2.2.1, show (0 : Int) ≤ (G : Int) by omega, by rw [hF.2.2.2.2.2.2.2.2.2.2.2.2.2.2.1]; omega⟩, hF.1, ?_⟩
    refine (y183 hR.z hF.1 hF.2.2.2.2.2.1 hF.2.1 hF.2.2.1 hF.2.2.2.2.2.2.2.2.2.1 hF.2.2.2.2.2.2.2.2.2.2.1 hF.2.2.2.2.2.2.2.2.2.2.2.1 hF.2.2.2.2.2.2.2.2.2.2.2.2.1 hl (by omega) (by omega)).mpr (b179_146.mpr ?_)
    rw [w32_id (z := (K : Int) + 1) (by omega) (by omega)]
    have f2 : fa A W' (vsv (vsv W' (A + 1) ((bg G + K : Nat) : Int) (pk (sp K G))) (A + 2) ((bg G + K : Nat) : Int) 0) := (fa.rf.sv (by omega)).sv (by omega)
    have h9 := ih (K + 1) (by omega) (vsv (vsv W' (A + 1) ((bg G + K : Nat) : Int) (pk (sp K G))) (A + 2) ((bg G + K : Nat) : Int) 0) ((hF.row (by omega)).row (by omega)) ?_ ?_ (hR.fa hA f2) (hf.tr f2)
    · exact_mod_cast h9
    · have g1 : ∀ j : Int, vct (vsv (vsv W' (A + 1) ((bg G + K : Nat) : Int) (pk (sp K G))) (A + 2) ((bg G + K : Nat) : Int) 0) (A + 1) j = if j = ((bg G + K : Nat) : Int) then pk (sp K G) else vct W' (A + 1) j := fun j => by
        rw [vct_svo (fun x => absurd x.1 (by omega)), vct_sv]
        by_cases e : j = ((bg G + K : Nat) : Int)
        · rw [if_pos ⟨rfl, e⟩, if_pos e]
        · rw [if_neg (fun x => e x.2), if_neg e]
      have g2 : ∀ j : Int, vct (vsv (vsv W' (A + 1) ((bg G + K : Nat) : Int) (pk (sp K G))) (A + 2) ((bg G + K : Nat) : Int) 0) (A + 2) j = if j = ((bg G + K : Nat) : Int) then 0 else vct W' (A + 2) j := fun j => by
        rw [vct_sv, vct_svo (fun x => absurd x.1 (by omega))]
        by_cases e : j = ((bg G + K : Nat) : Int)
        · rw [if_pos ⟨rfl, e⟩, if_pos e]
        · rw [if_neg (fun x => e x.2), if_neg e]
      have g3 : ∀ j : Int, vct (vsv (vsv W' (A + 1) ((bg G + K : Nat) : Int) (pk (sp K G))) (A + 2) ((bg G + K : Nat) : Int) 0) (A + 3) j = vct W' (A + 3) j := fun j => by
        rw [vct_svo (fun x => absurd x.1 (by omega)), vct_svo (fun x => absurd x.1 (by omega))]
      refine ⟨fun m hm => ⟨(g3 _).trans (hD.1 m hm).1, fun q hq2 => ?_⟩, fun q hq2 => ?_⟩
      · have hle := bg_le hm
        rw [g1, g2, if_neg (by omega), if_neg (by omega)]
        exact (hD.1 m hm).2 q hq2
      · rw [g1, g2]
        by_cases e : q = K
        · subst e; rw [if_pos rfl, if_pos rfl]; exact ⟨rfl, rfl⟩
        · rw [if_neg (by omega), if_neg (by omega)]; exact hD.2 q (by omega)
    · rw [vct_svo (fun x => absurd x.1 (by omega)), vct_svo (fun x => absurd x.1 (by omega))]; exact hB
/-- length after length -/
theorem upto_out (hA : 58 ≤ A) (hn : n ≤ 7) (hq : ∀ W', FN W' A k (n : Int) → FD W' A (n + 1) 0 → fa A W W' → Q 0 W') : ∀ (m G : Nat), m + G = n + 1 → ∀ (v5 v6 : vV) (W' : vW), FN W' A k ((G : Int) - 1) → FD W' A G 0 → R1 W' → fa A W W' → VW (d + 7) 179 45 [(2, A), (2, 1), (0, 3), (0, (n : Int)), (0, (G : Int)), v5, v6] [] W' Q := by
  intro m
  induction m with
  | zero =>
    intro G hG v5 v6 W' hF hD hR hf
    have : G = n + 1 := by omega
    subst this
    refine b179_45.mpr ⟨fun _ => b179_164.mpr (hq W' ?_ hD hf), fun h => absurd (show (n : Int) < ((n + 1 : Nat) : Int) by omega) h⟩
    rw [show (((n + 1 : Nat) : Int) - 1) = (n : Int) by omega] at hF
    exact hF
  | succ m ih =>
    intro G hG v5 v6 W' hF hD hR hf
    have hp := p3_le (show G ≤ 7 by omega)
    have hb := bg_7 (show G ≤ 7 by omega)
    have nx : ∀ v5 v6 : vV, VW (d + 7) 179 101 [(2, A), (2, 1), (0, 3), (0, (n : Int)), (0, (G : Int)), v5, v6] [(0, (bg G : Int)), (0, (G : Int)), (2, A + 3)] W' Q := by
      intro v5 v6
      refine b179_101.mpr ⟨⟨hF.2.2.2.2.2.2.2.2.2.2.2.2.2.1, show (0 : Int) ≤ (G : Int) by omega, by rw [hF.2.2.2.2.2.2.2.2.2.2.2.2.2.2.1]; omega⟩, b179_102.mpr ?_⟩
      have hF2 : FN (vsv W' (A + 3) (G : Int) (bg G : Int)) A k ((G : Int) - 1) := hF.row (by omega)
      have f2 : fa A W' (vsv W' (A + 3) (G : Int) (bg G : Int)) := fa.rf.sv (by omega)
      refine ⟨hF2.1, (y178 hF2.2.2.2.2.2.2.1 (by omega)).mpr (b179_111.mpr ?_)⟩
      rw [mn_le (by omega)]
      refine upto_in (W := vsv W' (A + 3) (G : Int) (bg G : Int)) hA (by omega) (fun W3 F3 D3 B3 f3 => b179_152.mpr ⟨F3.1, b179_158.mpr ?_⟩) (3 ^ G) 0 (by omega) _ hF2 ⟨fun m hm => ?_, fun q hq => absurd hq (by omega)⟩ vct_svi (hR.fa hA f2) fa.rf
      · rw [w32_id (z := (G : Int) + 1) (by omega) (by omega)]
        have F4 : FN (vsv W3 A 7 (G : Int)) A k (((G + 1 : Nat) : Int) - 1) := by
          rw [show (((G + 1 : Nat) : Int) - 1) = (G : Int) by omega]
          exact F3.lg
        have f4 : fa A W3 (vsv W3 A 7 (G : Int)) := fa.rf.sv (by omega)
        have h9 := ih (G + 1) (by omega) (0, ((3 ^ G : Nat) : Int)) (0, ((3 ^ G : Nat) : Int)) (vsv W3 A 7 (G : Int)) F4 ?_ (((hR.fa hA f2).fa hA f3).fa hA f4) (((hf.tr f2).tr f3).tr f4)
        · exact_mod_cast h9
        · refine FD.same (W := W3) ⟨fun m hm => ?_, fun q hq => absurd hq (by omega)⟩ (vct_svw (by omega)) (vct_svw (by omega)) (vct_svw (by omega))
          rcases Nat.lt_or_ge m G with h1 | h1
          · exact D3.1 m h1
          · have : m = G := by omega
            subst this
            exact ⟨B3, D3.2⟩
      · have hle := bg_le hm
        refine ⟨?_, fun q hq2 => ?_⟩
        · rw [vct_svo (fun x => by have := x.2; omega)]; exact (hD.1 m hm).1
        · rw [vct_svo (fun x => absurd x.1 (by omega)), vct_svo (fun x => absurd x.1 (by omega))]; exact (hD.1 m hm).2 q hq2
    refine b179_45.mpr ⟨fun h => absurd h (by omega), fun _ => b179_51.mpr ⟨fun h => absurd h (by omega), fun _ => b179_56.mpr ?_⟩⟩
    rw [hF.2.2.2.1]
    refine ⟨hF.1, hF.2.2.2.2.2.2.2.2.2.2.2.2.2.1, fun _ => b179_66.mpr ?_, fun h => absurd (show (G : Int) < vln W' (A + 3) by rw [hF.2.2.2.2.2.2.2.2.2.2.2.2.2.2.1]; omega) h⟩
    rw [hF.2.2.2.1]
    refine ⟨hF.1, fun h0 => b179_77.mpr ?_, fun h0 => b179_81.mpr ⟨hF.1, ?_⟩⟩
    · have e : G = 0 := by omega
      subst e
      exact nx v5 v6
    · rw [w32_id (z := (G : Int) - 1) (by omega) (by omega)]
      refine (y180 hF (by omega) (by omega)).mpr (b179_89.mpr ⟨hF.1, ?_⟩)
      rw [show (G : Int) - 1 = ((G - 1 : Nat) : Int) by omega, w32_id (z := ((G - 1 : Nat) : Int)) (by omega) (by omega)]
      refine (y178 hF.2.2.2.2.2.2.1 (by omega)).mpr (b179_100.mpr ?_)
      have hbb := bg_7 (show G - 1 ≤ 7 by omega)
      have e : w32 (vct W' (A + 3) ((G - 1 : Nat) : Int) + mn (G - 1)) = (bg G : Int) := by
        rw [(hD.1 (G - 1) (by omega)).1, mn_le (by omega)]
        have e2 : bg G = bg (G - 1) + 3 ^ (G - 1) := by
          have := bg_s (G - 1)
          rw [show G - 1 + 1 = G by omega] at this
          exact this
        rw [e2, w32_id (by omega) (by omega)]
        omega
      rw [e]
      exact nx v5 v6
end UPTO
