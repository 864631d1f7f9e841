/-! sheet -/
noncomputable def ent (k v : Int) : Int := if k = 0 then i_b v else if k = 1 then i_s v else v
noncomputable def shv (k n f s : Int) (j : Nat) : Int := if k = 3 then 1 else if (j : Int) < n then max 1 (min 9 (ent k (w32 (f + w32 ((j : Int) * s))))) else 1
noncomputable def shs (k n f s : Int) (j : Nat) : Int := Nat.rec 0 (fun j t => w32 (t + shv k n f s j)) j
theorem shs_s (k n f s : Int) (j : Nat) : shs k n f s (j + 1) = w32 (shs k n f s j + shv k n f s j) := rfl
def SHR (k n f s : Int) (r z : Int) : Prop := (k < 0 ∨ 3 < k ∨ 8 < n) ∧ r = -1 ∨ (0 ≤ k ∧ k < 3 ∧ n < 0) ∧ r = -2 ∨ (k = 3 ∧ n ≤ 8) ∧ r = -3 ∨ (0 ≤ k ∧ k < 3 ∧ 0 ≤ n ∧ n ≤ 8) ∧ r = z
section SHEET
variable {d : Nat} {w : vW} {Q : Int → vW → Prop} {k n f s : Int}
theorem y10 {v : Int} : VC (d + 1) 10 [(0, k), (0, v)] w Q ↔ Q (ent k v) w := by
  rw [e10, b10_0, b10_4, b10_7, b10_12, b10_17, b10_18, b10_18]
  unfold ent
  by_cases h0 : k = 0
  · rw [if_pos h0]; exact ⟨fun g => g.1 h0, fun g => ⟨fun _ => g, fun h => absurd h0 h⟩⟩
  · rw [if_neg h0]
    by_cases h1 : k = 1
    · rw [if_pos h1]; exact ⟨fun g => (g.2 h0).1 h1, fun g => ⟨fun h => absurd h h0, fun _ => ⟨fun _ => g, fun h => absurd h1 h⟩⟩⟩
    · rw [if_neg h1]; exact ⟨fun g => (g.2 h0).2 h1, fun g => ⟨fun h => absurd h h0, fun _ => ⟨fun h => absurd h h1, fun _ => g⟩⟩⟩
theorem y175 {j v : Int} (h1 : vkd w 14 = 12) (h2 : vct w 14 0 = 15) (h3 : vkd w 15 = 1) (h4 : vln w 15 = 8) (h5 : 0 ≤ j) (h6 : j < 8) : VC (d + 1) 175 [(2, 14), (0, j), (0, v)] w Q ↔ Q 0 (vsv w 15 j v) := by
  rw [e175, b175_0, b175_4, b175_13, b175_20, b175_20, h2, h1, h3, h4]
  exact ⟨fun g => ((g.2 (by omega)).2.2.1 h6).2.2, fun g => ⟨fun h => absurd h (by omega), fun _ => ⟨rfl, rfl, fun _ => ⟨rfl, ⟨rfl, h5, h6⟩, g⟩, fun h => absurd h6 h⟩⟩⟩
theorem x_sheet (hX : FX w) (h : ∀ r w1, SHR k n f s r (shs k n f s 8) → fr 0 0 w w1 → Q r w1) : VC (d + 9) 9 [(2, 0), (0, k), (0, n), (0, f), (0, s)] w Q := by
  have L : ∀ (m j : Nat), m + j = 8 → ∀ (e : Int) (v8 : vV) (W : vW), e = (if k = 3 then 0 else n) → (0 ≤ k ∧ k ≤ 3 ∧ n ≤ 8 ∧ (k < 3 → 0 ≤ n)) → vkd W 0 = 21 → vct W 0 3 = 14 → vkd W 14 = 12 → vct W 14 0 = 15 → vkd W 15 = 1 → vln W 15 = 8 → fr 0 0 w W → VW (d + 8) 9 47 [(2, 0), (0, k), (0, n), (0, f), (0, s), (0, e), (0, shs k n f s j), (0, (j : Int)), v8] [] W Q := by
    intro m
    induction m with
    | zero =>
      intro j hj e v8 W he hv k1 k2 k3 k4 k5 k6 hf
      have : j = 8 := by omega
      subst this
      refine b9_47.mpr ⟨fun h => absurd h (by decide), fun _ => b9_111.mpr ⟨fun hk => b9_116.mpr (b9_123.mpr (h _ _ (Or.inr (Or.inr (Or.inl ⟨⟨hk, hv.2.2.1⟩, rfl⟩))) hf)), fun hk => b9_121.mpr (b9_123.mpr (h _ _ (Or.inr (Or.inr (Or.inr ⟨⟨hv.1, by omega, hv.2.2.2 (by omega), hv.2.2.1⟩, rfl⟩))) hf))⟩⟩
    | succ m ih =>
      intro j hj e v8 W he hv k1 k2 k3 k4 k5 k6 hf
      have nx : ∀ v : Int, v = shv k n f s j → VW (d + 8) 9 85 [(2, 0), (0, k), (0, n), (0, f), (0, s), (0, e), (0, shs k n f s j), (0, (j : Int)), v8] [(0, v)] W Q := by
        intro v hvv
        refine b9_85.mpr ⟨k1, by rw [k2]; exact k3, ?_⟩
        rw [k2]
        refine (y175 k3 k4 k5 k6 (by omega) (by omega)).mpr (b9_98.mpr ?_)
        rw [w32_id (z := (j : Int) + 1) (by omega) (by omega), hvv, ← shs_s]
        have h9 := ih (j + 1) (by omega) e (0, v) (vsv W 15 (j : Int) v) he hv (vkd_sv.trans k1) ((vct_svo (fun x => absurd x.1 (by decide))).trans k2) (vkd_sv.trans k3) ((vct_svo (fun x => absurd x.1 (by decide))).trans k4) (vkd_sv.trans k5) (vln_sv.trans k6) (hf.sv (by omega))
        rw [hvv] at h9
        exact_mod_cast h9
      refine b9_47.mpr ⟨fun _ => b9_54.mpr ⟨fun hje => b9_61.mpr (y10.mpr (b9_75.mpr (nx _ ?_))), fun hje => b9_84.mpr (nx _ ?_)⟩, fun h => absurd (show (j : Int) < 8 by omega) h⟩
      · unfold shv
        by_cases h3 : k = 3
        · rw [if_pos h3] at he; omega
        · rw [if_neg h3] at he; subst he; rw [if_neg h3, if_pos hje]
      · unfold shv
        by_cases h3 : k = 3
        · rw [if_pos h3]
        · rw [if_neg h3] at he; subst he; rw [if_neg h3, if_neg hje]
  have go : ∀ e : Int, e = (if k = 3 then 0 else n) → (0 ≤ k ∧ k ≤ 3 ∧ n ≤ 8 ∧ (k < 3 → 0 ≤ n)) → VW (d + 8) 9 39 [(2, 0), (0, k), (0, n), (0, f), (0, s), (9, 0), (9, 0), (9, 0), (9, 0)] [(0, e)] w Q := fun e he hv => b9_39.mpr (L 8 0 rfl e (9, 0) w he hv (fxk_0 hX) (fx_0_3 hX) (fxk_14 hX) (fx_14_0 hX) (fxk_15 hX) (fxl_15 hX) fr.rf)
  have no : (k < 0 ∨ 3 < k ∨ 8 < n) → VW (d + 8) 9 15 [(2, 0), (0, k), (0, n), (0, f), (0, s), (9, 0), (9, 0), (9, 0), (9, 0)] [] w Q := fun hc => b9_15.mpr (h _ _ (Or.inl ⟨hc, rfl⟩) fr.rf)
  refine e9.mpr (b9_0.mpr ⟨fun h1 => no (Or.inl h1), fun h1 => b9_4.mpr ⟨fun h2 => no (Or.inr (Or.inl h2)), fun h2 => b9_9.mpr ⟨fun h3 => no (Or.inr (Or.inr h3)), fun h3 => b9_17.mpr ⟨fun h4 => b9_22.mpr ⟨fun h5 => b9_26.mpr (h _ _ (Or.inr (Or.inl ⟨⟨by omega, h4, h5⟩, rfl⟩)) fr.rf), fun h5 => b9_29.mpr ⟨fun h6 => absurd h6 (by omega), fun h6 => b9_38.mpr (go n (if_neg h6).symm ⟨by omega, by omega, by omega, fun _ => by omega⟩)⟩⟩, fun h4 => b9_29.mpr ⟨fun h6 => b9_34.mpr (go 0 (if_pos h6).symm ⟨by omega, by omega, by omega, fun h => absurd h h4⟩), fun h6 => absurd (show k = 3 by omega) h6⟩⟩⟩⟩⟩)
theorem m_sheet (hM : FM w) (hf0 : -2147483648 ≤ f ∧ f ≤ 2147483647) (h : ∀ r w1, SHR k n f s r (shs k n f s 8) → fm w w1 → Q r w1) : VC (d + 9) 78 [(2, 25), (0, k), (0, n), (0, f), (0, s)] w Q := by
  have L : ∀ (m j : Nat), m + j = 8 → ∀ (v8 : vV) (W : vW), (0 ≤ k ∧ k ≤ 3 ∧ n ≤ 8 ∧ (k < 3 → 0 ≤ n)) → vkd W 25 = 22 → vct W 25 10 = 32 → vkd W 32 = 1 → vln W 32 = 8 → fm w W → VW (d + 8) 78 46 [(2, 25), (0, k), (0, n), (0, f), (0, s), (0, shs k n f s j), (0, w32 (f + w32 ((j : Int) * s))), (0, (j : Int)), v8] [] W Q := by
    intro m
    induction m with
    | zero =>
      intro j hj v8 W hv k1 k2 k3 k4 hf
      have : j = 8 := by omega
      subst this
      refine b78_46.mpr ⟨fun h => absurd h (by decide), fun _ => b78_136.mpr ⟨fun hk => b78_141.mpr (b78_148.mpr (h _ _ (Or.inr (Or.inr (Or.inl ⟨⟨hk, hv.2.2.1⟩, rfl⟩))) hf)), fun hk => b78_146.mpr (b78_148.mpr (h _ _ (Or.inr (Or.inr (Or.inr ⟨⟨hv.1, by omega, hv.2.2.2 (by omega), hv.2.2.1⟩, rfl⟩))) hf))⟩⟩
    | succ m ih =>
      intro j hj v8 W hv k1 k2 k3 k4 hf
      have nx : ∀ (v x8 : Int), v = shv k n f s j → VW (d + 8) 78 110 [(2, 25), (0, k), (0, n), (0, f), (0, s), (0, shs k n f s j), (0, w32 (f + w32 ((j : Int) * s))), (0, (j : Int)), (0, x8)] [(0, v), (0, (j : Int)), (2, 32)] W Q := by
        intro v x8 hvv
        refine b78_110.mpr ⟨⟨k3, show (0 : Int) ≤ (j : Int) by omega, by rw [k4]; omega⟩, b78_111.mpr ?_⟩
        have q1 : vct (vsv W 32 (j : Int) v) 25 10 = 32 := (vct_svo (fun x => absurd x.1 (by decide))).trans k2
        rw [q1, vkd_sv, vkd_sv, vln_sv, vct_svi, k1, k3, k4, w32_id (z := (j : Int) + 1) (by omega) (by omega)]
        refine ⟨rfl, ⟨rfl, by omega, by omega⟩, ?_⟩
        have e1 : w32 (w32 (f + w32 ((j : Int) * s)) + s) = w32 (f + w32 (((j + 1 : Nat) : Int) * s)) := by
          rw [show ((j + 1 : Nat) : Int) * s = (j : Int) * s + s by rw [show ((j + 1 : Nat) : Int) = (j : Int) + 1 by omega, Int.add_mul, Int.one_mul]]
          generalize (j : Int) * s = t
          unfold w32
          omega
        rw [e1]
        have h9 := ih (j + 1) (by omega) (0, x8) (vsv W 32 (j : Int) v) hv (vkd_sv.trans k1) q1 (vkd_sv.trans k3) (vln_sv.trans k4) (hf.sv (by decide))
        rw [shs_s, ← hvv] at h9
        exact_mod_cast h9
      have mid : ∀ x : Int, x = ent k (w32 (f + w32 ((j : Int) * s))) → VW (d + 8) 78 76 [(2, 25), (0, k), (0, n), (0, f), (0, s), (0, shs k n f s j), (0, w32 (f + w32 ((j : Int) * s))), (0, (j : Int)), v8] [(0, x)] W Q := by
        intro x hx
        refine b78_76.mpr ⟨k1, ?_, ?_⟩
        · intro h3
          rw [k2]
          refine b78_95.mpr (nx _ _ ?_)
          unfold shv
          rw [if_pos h3]
        · intro h3
          rw [k2]
          refine b78_89.mpr ⟨fun h4 => b78_99.mpr (nx _ _ ?_), fun h4 => b78_95.mpr (nx _ _ ?_)⟩
          · unfold shv
            rw [if_neg h3, if_pos h4, hx]
          · unfold shv
            rw [if_neg h3, if_neg h4]
      refine b78_46.mpr ⟨fun _ => b78_53.mpr ⟨fun h0 => b78_57.mpr (mid _ ?_), fun h0 => b78_63.mpr ⟨fun h1 => b78_68.mpr (mid _ ?_), fun h1 => b78_74.mpr (mid _ ?_)⟩⟩, fun h => absurd (show (j : Int) < 8 by omega) h⟩
      · unfold ent; rw [if_pos h0]
      · unfold ent; rw [if_neg h0, if_pos h1]
      · unfold ent; rw [if_neg h0, if_neg h1]
  have k1 : vkd (vsv w 25 0 0) 25 = 22 := vkd_sv.trans (fmk_25 hM)
  have go : (0 ≤ k ∧ k ≤ 3 ∧ n ≤ 8 ∧ (k < 3 → 0 ≤ n)) → VW (d + 8) 78 37 [(2, 25), (0, k), (0, n), (0, f), (0, s), (9, 0), (9, 0), (9, 0), (9, 0)] [] (vsv w 25 0 0) Q := fun hv => b78_37.mpr (by
    have h9 := L 8 0 rfl (9, 0) (vsv w 25 0 0) hv k1 ((vct_svo (fun x => absurd x.2 (by decide))).trans (fm_25_10 hM)) (vkd_sv.trans (fmk_32 hM)) (vln_sv.trans (fml_32 hM)) (fm.rf.sv (by decide))
    have e0 : w32 (f + w32 (((0 : Nat) : Int) * s)) = f := by
      rw [show ((0 : Nat) : Int) * s = 0 from Int.zero_mul s, w32_id (z := 0) (by decide) (by decide), Int.add_zero, w32_id hf0.1 hf0.2]
    rw [e0] at h9
    exact h9)
  have no : (k < 0 ∨ 3 < k ∨ 8 < n) → VW (d + 8) 78 23 [(2, 25), (0, k), (0, n), (0, f), (0, s), (9, 0), (9, 0), (9, 0), (9, 0)] [] (vsv w 25 0 0) Q := fun hc => b78_23.mpr (h _ _ (Or.inl ⟨hc, rfl⟩) (fm.rf.sv (by decide)))
  have r2 : ¬ 8 < n → ∀ y : Int, (y = 0 ∧ (k < 0 ∨ 3 < k) ∨ y = 1 ∧ 0 ≤ k ∧ k ≤ 3) → VW (d + 8) 78 14 [(2, 25), (0, k), (0, n), (0, f), (0, s), (9, 0), (9, 0), (9, 0), (9, 0)] [(0, y)] (vsv w 25 0 0) Q := by
    intro h8 y hy
    refine b78_14.mpr ⟨fun h0 => no (by omega), fun h0 => b78_17.mpr ⟨fun h => absurd h h8, fun _ => b78_25.mpr ⟨fun h3 => go ⟨by omega, by omega, by omega, fun h => absurd h (by omega)⟩, fun h3 => b78_30.mpr ⟨fun h4 => b78_34.mpr (h _ _ (Or.inr (Or.inl ⟨⟨by omega, by omega, h4⟩, rfl⟩)) (fm.rf.sv (by decide))), fun h4 => go ⟨by omega, by omega, by omega, fun _ => by omega⟩⟩⟩⟩⟩
  refine e78.mpr (b78_0.mpr ⟨fmk_25 hM, b78_5.mpr ?_⟩)
  have r3 : ∀ y : Int, (y = 0 ∧ (k < 0 ∨ 3 < k) ∨ y = 1 ∧ 0 ≤ k ∧ k ≤ 3) → VW (d + 8) 78 14 [(2, 25), (0, k), (0, n), (0, f), (0, s), (9, 0), (9, 0), (9, 0), (9, 0)] [(0, y)] (vsv w 25 0 0) Q := by
    intro y hy
    by_cases h8 : 8 < n
    · exact b78_14.mpr ⟨fun _ => no (Or.inr (Or.inr h8)), fun _ => b78_17.mpr ⟨fun _ => no (Or.inr (Or.inr h8)), fun h => absurd h8 h⟩⟩
    · exact r2 h8 y hy
  simp only [↓ifbr, vkd_sv, vln_sv, vct_sv, vnt_sv, vkd_nw, vln_nw, vct_nw, vnt_nw, vlc_lt, vlc_gt, vlc_eq, w32_id, w64_id, ne_eq, not_false_eq_true, not_true_eq_false, true_and, and_true, false_and, and_false, true_implies, implies_true, false_implies, Int.zero_add, Int.add_zero, Int.le_refl, Int.lt_irrefl, Int.min_def, Int.max_def, if_true, if_false, eq_self, and_self, ↓reduceIte, Int.reduceNeg, Int.reduceAdd, Int.reduceSub, Int.reduceMul, Int.reduceLT, Int.reduceLE, Int.reduceEq, Int.reduceNe, Int.reduceToNat, Int.reduceTDiv, Int.reduceTMod, Nat.reduceEqDiff, Nat.reduceAdd, ↓b56_0, ↓b56_6, ↓b56_13, ↓b56_17, ↓b56_18, ↓e56]
  repeat' (first | omega | split | refine And.intro ?_ ?_)
  all_goals first | exact r3 _ (by omega)
end SHEET
