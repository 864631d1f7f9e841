/-! the model's sorts: what is merged is in order already -/
def SL (W W' : vW) : Prop := W'.2 = W.2 ∧ (∀ b : Int, b ≠ 54 → W'.1 b = W.1 b) ∧ vkd W' 54 = vkd W 54 ∧ vln W' 54 = vln W 54
/-- the rows that are sorted -/
def LC (W : vW) : Prop := vkd W 25 = 22 ∧ vct W 25 58 = 53 ∧ vct W 25 59 = 54 ∧ vkd W 53 = 2 ∧ vln W 53 = 4096 ∧ vkd W 54 = 2 ∧ vln W 54 = 4096
section MS
variable {d : Nat} {w W W' W2 : vW} {Q : Int → vW → Prop} {c m i v : Int} {n : Nat}
theorem SL.rf : SL W W := ⟨rfl, fun _ _ => rfl, rfl, rfl⟩
theorem SL.tr (h : SL W W') (h2 : SL W' W2) : SL W W2 := ⟨h2.1.trans h.1, fun b hb => (h2.2.1 b hb).trans (h.2.1 b hb), h2.2.2.1.trans h.2.2.1, h2.2.2.2.trans h.2.2.2⟩
theorem SL.sv (h : SL W W') : SL W (vsv W' 54 i v) := ⟨h.1, fun b hb => (vcl_sv hb).trans (h.2.1 b hb), vkd_sv.trans h.2.2.1, vln_sv.trans h.2.2.2⟩
theorem SL.fm (h : SL W W') : fm W W' := ⟨h.1, fun b hb => h.2.1 b (by omega)⟩
theorem LC.sl (h : LC W) (hs : SL W W') : LC W' := by
  have e1 := hs.2.1 25 (by decide)
  have e2 := hs.2.1 53 (by decide)
  exact ⟨(vkd_cl e1).trans h.1, (congrFun (vct_cl e1) _).trans h.2.1, (congrFun (vct_cl e1) _).trans h.2.2.1, (vkd_cl e2).trans h.2.2.2.1, (vln_cl e2).trans h.2.2.2.2.1, hs.2.2.1.trans h.2.2.2.2.2.1, hs.2.2.2.trans h.2.2.2.2.2.2⟩
theorem MC.sl (h : MC W) (hs : SL W W') : MC W' := by
  have e1 := hs.2.1 25 (by decide)
  have e2 := hs.2.1 26 (by decide)
  have e3 := hs.2.1 27 (by decide)
  have ec : vct W' 25 = vct W 25 := vct_cl e1
  refine ⟨⟨(vkd_cl e1).trans h.1.1, by rw [ec]; exact h.1.2.1, (vkd_cl e3).trans h.1.2.2.1, (vln_cl e3).trans h.1.2.2.2.1, fun j hj => ?_⟩, by rw [ec]; exact h.2.1, by rw [ec]; exact h.2.2.1, by rw [ec]; exact h.2.2.2.1, (vkd_cl e2).trans h.2.2.2.2.1, (vln_cl e2).trans h.2.2.2.2.2⟩
  rw [vct_cl e3]; exact h.1.2.2.2.2 j hj
theorem y57 {b : Bool} : VC (d + 1) 57 [(0, if b then 1 else 0)] W Q ↔ Q (if b then 1 else 0) W := by
  rw [e57, b57_0, b57_4, b57_8, b57_9, b57_9]
  cases b
  · exact ⟨fun g => g.1 rfl, fun g => ⟨fun _ => g, fun h => absurd rfl h⟩⟩
  · exact ⟨fun g => g.2 (by decide), fun g => ⟨fun h => absurd h (by decide), fun _ => g⟩⟩
theorem y57_1 : VC (d + 1) 57 [(0, 1)] W Q ↔ Q 1 W := y57 (b := true)
theorem y57_0 : VC (d + 1) 57 [(0, 0)] W Q ↔ Q 0 W := y57 (b := false)
/-- merged: the words of both halves in their order -/
theorem c148 : ∀ (k a b : Nat) (d : Nat) (W : vW) (Q : Int → vW → Prop), a ≤ b → b ≤ 4096 → b - a ≤ 2 ^ k → LC W → (∀ i j : Nat, a ≤ i → i < j → j < b → vct W 53 (i : Int) < vct W 53 (j : Int)) → (∀ W', SL W W' → Q 0 W') → VC (d + k + 2) 148 [(2, 25), (0, (a : Int)), (0, (b : Int))] W Q := by
  intro k
  induction k with
  | zero =>
    intro a b d W Q hab hb hk hL hs hq
    refine e148.mpr (b148_0.mpr ⟨fun _ => b148_7.mpr (hq W SL.rf), fun h => absurd ?_ h⟩)
    rw [w32_id (by omega) (by omega)]; omega
  | succ k ih =>
    intro a b d W Q hab hb hk hL hs hq
    refine e148.mpr (b148_0.mpr ⟨fun _ => b148_7.mpr (hq W SL.rf), fun h2 => b148_8.mpr ⟨hL.1, ?_⟩⟩)
    rw [w32_id (z := (b : Int) - (a : Int)) (by omega) (by omega)] at h2
    rw [w32_id (z := (a : Int) + (b : Int)) (by omega) (by omega), tdiv_nn (by omega), w32_id (z := ((a : Int) + (b : Int)) / 2) (by omega) (by omega), show ((a : Int) + (b : Int)) / 2 = (((a + b) / 2 : Nat) : Int) by omega]
    have hk2 : b - a ≤ 2 ^ k * 2 := by rw [← Nat.pow_succ]; exact hk
    have hmid : a < (a + b) / 2 ∧ (a + b) / 2 < b := by omega
    generalize (a + b) / 2 = m at hmid
    sorry
end MS
