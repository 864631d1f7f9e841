/-! the model's still: sums over the tails -/
def sumT (f : Int → Int) (m : Nat) : Int := Nat.rec 0 (fun j t => t + f (j : Int)) m
theorem sumT_s (f : Int → Int) (m : Nat) : sumT f (m + 1) = sumT f m + f (m : Int) := rfl
theorem sumT_c {f g : Int → Int} {m : Nat} (h : ∀ j : Nat, j < m → f (j : Int) = g (j : Int)) : sumT f m = sumT g m := by
  induction m with
  | zero => rfl
  | succ m ih => rw [sumT_s, sumT_s, ih (fun j hj => h j (by omega)), h m (by omega)]
theorem sumT_u {f : Int → Int} {i : Nat} {v : Int} {m : Nat} : sumT (fun j => if j = (i : Int) then v else f j) m = sumT f m + (if i < m then v - f (i : Int) else 0) := by
  induction m with
  | zero => rfl
  | succ m ih =>
    rw [sumT_s, sumT_s, ih]
    by_cases e : m = i
    · subst e
      rw [if_neg (by omega), if_pos rfl, if_pos (by omega)]; omega
    · show sumT f m + (if i < m then v - f (i : Int) else 0) + (if (m : Int) = (i : Int) then v else f (m : Int)) = _
      rw [if_neg (show ¬ (m : Int) = (i : Int) by omega)]
      by_cases h : i < m
      · rw [if_pos h, if_pos (by omega)]; omega
      · rw [if_neg h, if_neg (by omega)]; omega
theorem sumT_0 {f : Int → Int} {m : Nat} (h : ∀ j : Nat, j < m → f (j : Int) = 0) : sumT f m = 0 := by
  induction m with
  | zero => rfl
  | succ m ih => rw [sumT_s, ih (fun j hj => h j (by omega)), h m (by omega)]; rfl
theorem sumT_nn {f : Int → Int} {m : Nat} (h : ∀ j : Nat, j < m → 0 ≤ f (j : Int)) : 0 ≤ sumT f m := by
  induction m with
  | zero => exact Int.le_refl 0
  | succ m ih =>
    have h1 := ih (fun j hj => h j (by omega))
    have h2 := h m (by omega)
    rw [sumT_s]; omega
theorem sumT_le {f : Int → Int} {i m : Nat} (h : ∀ j : Nat, j < m → 0 ≤ f (j : Int)) (hi : i ≤ m) : sumT f i ≤ sumT f m := by
  induction m with
  | zero => have : i = 0 := by omega
            subst this; exact Int.le_refl _
  | succ m ih =>
    rcases Nat.lt_or_ge m i with h1 | h1
    · have : i = m + 1 := by omega
      subst this; exact Int.le_refl _
    · have h2 := ih (fun j hj => h j (by omega)) h1
      have h3 := h m (by omega)
      rw [sumT_s]; omega
theorem sumT_el {f : Int → Int} {i m : Nat} (h : ∀ j : Nat, j < m → 0 ≤ f (j : Int)) (hi : i < m) : f (i : Int) ≤ sumT f m := by
  have h1 := sumT_le (i := i + 1) h (by omega)
  have h2 := sumT_nn (m := i) (fun j hj => h j (by omega))
  rw [sumT_s] at h1
  omega
def TS (W : vW) (ta tn : Int) : Prop := MC W ∧ vct W 25 56 = ta ∧ vct W 25 57 = tn ∧ (ta = 51 ∧ tn = 52 ∨ ta = 52 ∧ tn = 51) ∧ (vkd W 51 = 2 ∧ vln W 51 = 6561) ∧ vkd W 52 = 2 ∧ vln W 52 = 6561
section MSTILL
variable {d : Nat} {w W W' : vW} {Q : Int → vW → Prop} {ta tn i v b : Int} {n k : Nat}
theorem TS.row (h : TS W ta tn) (hb : b = 51 ∨ b = 52) : TS (vsv W b i v) ta tn := by
  obtain ⟨h1, h2, h3, h4, h5, h6⟩ := h
  have hb1 : b ≠ 25 := by omega
  have hb2 : b ≠ 27 := by omega
  have hb3 : b ≠ 26 := by omega
  refine ⟨⟨(PQ_sv (fun x => hb1 x.1) hb2).mpr h1.1, (vct_svo (fun x => hb1 x.1.symm)).trans h1.2.1, (vct_svo (fun x => hb1 x.1.symm)).trans h1.2.2.1, (vct_svo (fun x => hb1 x.1.symm)).trans h1.2.2.2.1, vkd_sv.trans h1.2.2.2.2.1, vln_sv.trans h1.2.2.2.2.2⟩, (vct_svo (fun x => hb1 x.1.symm)).trans h2, (vct_svo (fun x => hb1 x.1.symm)).trans h3, h4, ⟨vkd_sv.trans h5.1, vln_sv.trans h5.2⟩, vkd_sv.trans h6.1, vln_sv.trans h6.2⟩
theorem TS.ka (h : TS W ta tn) : vkd W ta = 2 ∧ vln W ta = 6561 := by
  rcases h.2.2.2.1 with ⟨e, -⟩ | ⟨e, -⟩ <;> rw [e]
  · exact h.2.2.2.2.1
  · exact h.2.2.2.2.2
theorem TS.kn (h : TS W ta tn) : vkd W tn = 2 ∧ vln W tn = 6561 := by
  rcases h.2.2.2.1 with ⟨-, e⟩ | ⟨-, e⟩ <;> rw [e]
  · exact h.2.2.2.2.2
  · exact h.2.2.2.2.1
theorem TS.in (h : TS W ta tn) : (tn = 51 ∨ tn = 52) ∧ (ta = 51 ∨ ta = 52) ∧ tn ≠ ta := by have := h.2.2.2.1; omega
theorem TS.swap (h : TS W ta tn) : TS (vsv (vsv W 25 56 tn) 25 57 ta) tn ta := by
  obtain ⟨h1, h2, h3, h4, h5, h6⟩ := h
  exact ⟨(h1.sv (by decide) (by decide) (by decide) (by decide)).sv (by decide) (by decide) (by decide) (by decide), (vct_svo (fun x => absurd x.2 (by decide))).trans vct_svi, vct_svi, by omega, ⟨vkd_sv.trans (vkd_sv.trans h5.1), vln_sv.trans (vln_sv.trans h5.2)⟩, vkd_sv.trans (vkd_sv.trans h6.1), vln_sv.trans (vln_sv.trans h6.2)⟩
/-- some length -/
theorem c60x (hP : PQ W) {c : Int} (h1 : c < 1350851717672992089) (hq : ∀ r, Q r W) : VC (d + 1) 60 [(2, 25), (1, c)] W Q := by
  have hp := hP.pw
  have L : ∀ (m j : Nat), m + j = 19 → VW d 60 2 [(2, 25), (1, c), (9, 0), (0, (j : Int))] [] W Q := by
    intro m
    induction m with
    | zero =>
      intro j hj
      refine b60_2.mpr ⟨hp.1, ⟨hp.2.1, by omega, by rw [hp.2.2.1]; omega⟩, fun _ => b60_19.mpr (hq _), fun h => absurd (vlc_lt.mpr ?_) h⟩
      rw [hp.2.2.2 j (by omega), show j = 19 by omega]
      exact h1
    | succ m ih =>
      intro j hj
      refine b60_2.mpr ⟨hp.1, ⟨hp.2.1, by omega, by rw [hp.2.2.1]; omega⟩, fun _ => b60_19.mpr (hq _), fun _ => b60_13.mpr ?_⟩
      rw [w32_id (z := (j : Int) + 1) (by omega) (by omega)]
      exact_mod_cast ih (j + 1) (by omega)
  exact e60.mpr (b60_0.mpr (L 19 0 rfl))
theorem y146 (h : MC W) {x y : Int} : VC (d + 1) 146 [(2, 25), (1, x), (0, y)] W Q ↔ Q 0 W := by
  rw [e146, b146_0, b146_6, b146_69, h.1.1, h.2.1]
  exact ⟨fun g => (g.2.2 (by decide)).2, fun g => ⟨rfl, fun h => absurd h (by decide), fun _ => ⟨by decide, g⟩⟩⟩
/-- one tail's words -/
theorem still_in {T : Int → Int} {X : Int} {t : Nat} (ht : t < 6561) (hT : ∀ i : Nat, i < 6561 → 0 ≤ T (i : Int)) (hX : 0 ≤ X) (hB : X + 3 * T (t : Int) ≤ 100000000000) (hn : ∀ (y4 : Int) (v5 v6 : vV) W', TS W' ta tn → fm w W' → vct W' ta = T → (∀ i : Nat, i < 6561 → 0 ≤ vct W' tn (i : Int)) → sumT (vct W' tn) 6561 = X + 3 * T (t : Int) → VW (d + 3) 147 170 [(2, 25), (0, (n : Int)), (0, (k : Int)), (0, (t : Int)), (0, y4), v5, v6] [] W' Q) : ∀ (q x : Nat), q + x = 4 → 1 ≤ x → ∀ (v5 v6 : vV) W', TS W' ta tn → fm w W' → vct W' ta = T → (∀ i : Nat, i < 6561 → 0 ≤ vct W' tn (i : Int)) → sumT (vct W' tn) 6561 = X + ((x : Int) - 1) * T (t : Int) → VW (d + 3) 147 96 [(2, 25), (0, (n : Int)), (0, (k : Int)), (0, (t : Int)), (0, (x : Int)), v5, v6] [] W' Q := by
  have hTt := hT t ht
  intro q
  induction q with
  | zero =>
    intro x hx _ v5 v6 W' S f hA hN hS
    have : x = 4 := by omega
    subst this
    refine b147_96.mpr ⟨S.1.1.1, ?_⟩
    rw [S.1.2.2.1]
    refine ⟨fun _ => hn _ v5 v6 W' S f hA hN (by rw [hS]; rfl), fun h => absurd (show (3 : Int) < 4 by decide) h⟩
  | succ q ih =>
    intro x hx hx1 v5 v6 W' S f hA hN hS
    have K := S.ka
    have KN := S.kn
    have I := S.in
    refine b147_96.mpr ⟨S.1.1.1, ?_⟩
    rw [S.1.2.2.1]
    refine ⟨fun h => absurd h (by omega), fun _ => b147_105.mpr ?_⟩
    rw [S.2.1, hA]
    refine ⟨S.1.1.1, ⟨K.1, by omega, by rw [K.2]; omega⟩, fun hpos => b147_116.mpr ?_, fun hnp => ?_⟩
    · have hpos := vlc_gt.mp hpos
      rw [w64_id (z := (t : Int) * 9) (by omega) (by omega), w64_id (z := (t : Int) * 9 + (x : Int)) (by omega) (by omega)]
      refine b147_128.mpr ⟨S.1.1.1, c60x S.1.1 (by omega) fun r => b147_137.mpr ⟨S.1.1.1, (y146 S.1).mpr (b147_140.mpr ⟨fun _ => b147_143.mpr ?_, fun h => absurd rfl h⟩)⟩⟩
      rw [S.2.1, S.2.2.1, hA, tmod_nn (by omega), w32_id (z := ((t : Int) * 9 + (x : Int)) % 6561) (by omega) (by omega), show ((t : Int) * 9 + (x : Int)) % 6561 = (((t * 9 + x) % 6561 : Nat) : Int) by omega]
      have hi : (t * 9 + x) % 6561 < 6561 := Nat.mod_lt _ (by decide)
      generalize (t * 9 + x) % 6561 = ix at hi
      have hel := sumT_el hN hi
      have hni := hN ix hi
      have hm3 : ((x : Int) - 1) * T (t : Int) ≤ 2 * T (t : Int) := Int.mul_le_mul_of_nonneg_right (by omega) hTt
      have hm0 : 0 ≤ ((x : Int) - 1) * T (t : Int) := Int.mul_nonneg (by omega) hTt
      have e3 : (((x + 1 : Nat) : Int) - 1) * T (t : Int) = ((x : Int) - 1) * T (t : Int) + T (t : Int) := by
        rw [show (((x + 1 : Nat) : Int) - 1) = ((x : Int) - 1) + 1 by omega, Int.add_mul, Int.one_mul]
      rw [w64_id (z := vct W' tn (ix : Int) + T (t : Int)) (by omega) (by omega)]
      refine ⟨S.1.1.1, ⟨KN.1, by omega, by rw [KN.2]; omega⟩, S.1.1.1, ⟨K.1, by omega, by rw [K.2]; omega⟩, ⟨KN.1, by omega, by rw [KN.2]; omega⟩, b147_164.mpr ?_⟩
      rw [w32_id (z := (x : Int) + 1) (by omega) (by omega)]
      have ef : vct (vsv W' tn (ix : Int) (vct W' tn (ix : Int) + T (t : Int))) tn = fun j => if j = (ix : Int) then vct W' tn (ix : Int) + T (t : Int) else vct W' tn j := funext fun j => by
        rw [vct_sv]
        by_cases e : j = (ix : Int)
        · rw [if_pos ⟨rfl, e⟩, if_pos e]
        · rw [if_neg (fun y => e y.2), if_neg e]
      have h9 := ih (x + 1) (by omega) (by omega) (1, (t : Int) * 9 + (x : Int)) (9, 0) (vsv W' tn (ix : Int) (vct W' tn (ix : Int) + T (t : Int))) (S.row I.1) (f.sv (by omega)) ((vct_svw (fun e => I.2.2 e.symm)).trans hA) (fun j hj => by
        rw [ef]
        show 0 ≤ if (j : Int) = (ix : Int) then _ else _
        by_cases e : (j : Int) = (ix : Int)
        · rw [if_pos e]; omega
        · rw [if_neg e]; exact hN j hj) (by
        rw [ef, sumT_u, if_pos hi, hS, e3]; omega)
      exact_mod_cast h9
    · have h0 : T (t : Int) = 0 := by
        have : ¬ 0 < T (t : Int) := fun h => hnp (vlc_gt.mpr h)
        omega
      exact hn _ v5 v6 W' S f hA hN (by rw [hS, h0, Int.mul_zero, Int.mul_zero])
theorem p320 {k : Nat} (h : k ≤ 20) : (3 : Int) ^ k ≤ 3486784401 ∧ 1 ≤ (3 : Int) ^ k := by
  have h1 : (3 : Int) ^ k ≤ 3 ^ 20 := by exact_mod_cast Nat.pow_le_pow_right (n := 3) (by decide) h
  have h2 : 0 < (3 : Int) ^ k := by exact_mod_cast Nat.pow_pos (n := k) (a := 3) (by decide)
  exact ⟨h1, h2⟩
/-- a round: all tails -/
theorem still_mid {T : Int → Int} (hk : k < 20) (hT : ∀ i : Nat, i < 6561 → 0 ≤ T (i : Int)) (hS : sumT T 6561 = 3 ^ k) (hn : ∀ (y4 : vV) (v5 v6 : vV) W', TS W' ta tn → fm w W' → (∀ i : Nat, i < 6561 → 0 ≤ vct W' tn (i : Int)) → sumT (vct W' tn) 6561 = 3 ^ (k + 1) → VW (d + 3) 147 176 [(2, 25), (0, (n : Int)), (0, (k : Int)), (0, 6561), y4, v5, v6] [] W' Q) : ∀ (q t : Nat), q + t = 6561 → ∀ (v4 v5 v6 : vV) W', TS W' ta tn → fm w W' → vct W' ta = T → (∀ i : Nat, i < 6561 → 0 ≤ vct W' tn (i : Int)) → sumT (vct W' tn) 6561 = 3 * sumT T t → VW (d + 3) 147 86 [(2, 25), (0, (n : Int)), (0, (k : Int)), (0, (t : Int)), v4, v5, v6] [] W' Q := by
  have hp := p320 (show k ≤ 20 by omega)
  intro q
  induction q with
  | zero =>
    intro t ht v4 v5 v6 W' S f hA hN hs
    have : t = 6561 := by omega
    subst this
    refine b147_86.mpr ⟨fun h => absurd h (by decide), fun _ => hn v4 v5 v6 W' S f hN ?_⟩
    rw [hs, hS, Int.pow_succ, Int.mul_comm]
  | succ q ih =>
    intro t ht v4 v5 v6 W' S f hA hN hs
    refine b147_86.mpr ⟨fun _ => b147_93.mpr ?_, fun h => absurd (show (t : Int) < 6561 by omega) h⟩
    have h1 := sumT_le hT (show t + 1 ≤ 6561 by omega)
    rw [sumT_s, hS] at h1
    have h0 := sumT_nn (m := t) (fun j hj => hT j (by omega))
    have h9 := still_in (w := w) (Q := Q) (d := d) (n := n) (k := k) (ta := ta) (tn := tn) (T := T) (X := 3 * sumT T t) (t := t) (by omega) hT (by omega) (by omega) (fun y4 v5 v6 W2 S2 f2 hA2 hN2 hs2 => b147_170.mpr (by
      rw [w32_id (z := (t : Int) + 1) (by omega) (by omega)]
      have h8 := ih (t + 1) (by omega) (0, y4) v5 v6 W2 S2 f2 hA2 hN2 (by rw [hs2, sumT_s]; omega)
      exact_mod_cast h8)) 3 1 rfl (Nat.le_refl _) v5 v6 W' S f hA hN (by rw [hs]; show _ = _ + (1 - 1) * _; omega)
    exact h9
/-- all rounds -/
theorem still_out (hn20 : n ≤ 20) (hq : ∀ W', fm w W' → Q (3 ^ n) W') : ∀ (q k : Nat), q + k = n → ∀ (ta tn : Int) (v3 v4 v5 v6 : vV) W', TS W' ta tn → fm w W' → (∀ i : Nat, i < 6561 → 0 ≤ vct W' ta (i : Int)) → sumT (vct W' ta) 6561 = 3 ^ k → VW (d + 3) 147 57 [(2, 25), (0, (n : Int)), (0, (k : Int)), v3, v4, v5, v6] [] W' Q := by
  intro q
  induction q with
  | zero =>
    intro k hk ta tn v3 v4 v5 v6 W' S f hN hs
    have : k = n := by omega
    subst this
    have K := S.ka
    have hp := p320 hn20
    refine b147_57.mpr ⟨fun h => absurd h (by omega), fun _ => b147_200.mpr ?_⟩
    have L : ∀ (q t : Nat), q + t = 6561 → VW (d + 3) 147 205 [(2, 25), (0, (k : Int)), (1, sumT (vct W' ta) t), (9, 0), (0, (t : Int)), v5, v6] [] W' Q := by
      intro q
      induction q with
      | zero =>
        intro t ht
        have : t = 6561 := by omega
        subst this
        refine b147_205.mpr ⟨fun h => absurd h (by decide), fun _ => b147_229.mpr ?_⟩
        rw [hs]; exact hq W' f
      | succ q ih =>
        intro t ht
        have h1 := sumT_le hN (show t + 1 ≤ 6561 by omega)
        have h2 := sumT_nn (m := t + 1) (fun j hj => hN j (by omega))
        rw [sumT_s] at h1 h2
        rw [hs] at h1
        refine b147_205.mpr ⟨fun _ => b147_213.mpr ?_, fun h => absurd (show (t : Int) < 6561 by omega) h⟩
        rw [S.2.1, w64_id (z := sumT (vct W' ta) t + vct W' ta (t : Int)) (by omega) (by omega), ← sumT_s]
        refine ⟨S.1.1.1, ⟨K.1, by omega, by rw [K.2]; omega⟩, b147_223.mpr ?_⟩
        rw [w32_id (z := (t : Int) + 1) (by omega) (by omega)]
        have h9 := ih (t + 1) (by omega)
        exact_mod_cast h9
    exact L 6561 0 rfl
  | succ q ih =>
    intro k hk ta tn v3 v4 v5 v6 W' S f hN hs
    have I := S.in
    refine b147_57.mpr ⟨fun _ => b147_62.mpr ?_, fun h => absurd (show (k : Int) < (n : Int) by omega) h⟩
    have F : ∀ (q t : Nat), q + t = 6561 → ∀ W2, TS W2 ta tn → fm w W2 → vct W2 ta = vct W' ta → (∀ i : Nat, i < t → vct W2 tn (i : Int) = 0) → VW (d + 3) 147 64 [(2, 25), (0, (n : Int)), (0, (k : Int)), (0, (t : Int)), v4, v5, v6] [] W2 Q := by
      intro q
      induction q with
      | zero =>
        intro t ht W2 S2 f2 hA2 hz
        have : t = 6561 := by omega
        subst this
        refine b147_64.mpr ⟨fun h => absurd h (by decide), fun _ => b147_84.mpr ?_⟩
        have h9 := still_mid (w := w) (Q := Q) (d := d) (n := n) (k := k) (ta := ta) (tn := tn) (T := vct W' ta) (by omega) hN hs (fun y4 v5 v6 W3 S3 f3 hN3 hs3 => b147_176.mpr (by
          rw [S3.2.1, S3.2.2.1]
          refine ⟨S3.1.1.1, S3.1.1.1, S3.1.1.1, b147_189.mpr ⟨vkd_sv.trans S3.1.1.1, b147_194.mpr ?_⟩⟩
          rw [w32_id (z := (k : Int) + 1) (by omega) (by omega)]
          have cc : ∀ b : Int, b ≠ 25 → vct (vsv (vsv W3 25 56 tn) 25 57 ta) b = vct W3 b := fun b hb => (vct_svw hb).trans (vct_svw hb)
          have h8 := ih (k + 1) (by omega) tn ta (2, ta) y4 v5 v6 (vsv (vsv W3 25 56 tn) 25 57 ta) S3.swap ((f3.sv (by decide)).sv (by decide)) (fun i hi => by rw [cc tn (by omega)]; exact hN3 i hi) (by rw [cc tn (by omega)]; exact hs3)
          exact_mod_cast h8)) 6561 0 rfl v4 v5 v6 W2 S2 f2 hA2 (fun i hi => by rw [hz i hi]; exact Int.le_refl 0) (by rw [sumT_0 hz]; rfl)
        exact h9
      | succ q ihf =>
        intro t ht W2 S2 f2 hA2 hz
        have KN := S2.kn
        refine b147_64.mpr ⟨fun _ => b147_71.mpr ?_, fun h => absurd (show (t : Int) < 6561 by omega) h⟩
        rw [S2.2.2.1]
        refine ⟨S2.1.1.1, ⟨KN.1, by omega, by rw [KN.2]; omega⟩, b147_78.mpr ?_⟩
        rw [w32_id (z := (t : Int) + 1) (by omega) (by omega)]
        have h9 := ihf (t + 1) (by omega) (vsv W2 tn (t : Int) 0) (S2.row I.1) (f2.sv (by omega)) ((vct_svw (fun e => I.2.2 e.symm)).trans hA2) (fun j hj => by
          rw [vct_sv]
          by_cases e : (j : Int) = (t : Int)
          · rw [if_pos ⟨rfl, e⟩]
          · rw [if_neg (fun x => e x.2)]; exact hz j (by omega))
        exact_mod_cast h9
    exact F 6561 0 rfl W' S f rfl (fun i hi => absurd hi (by omega))
def STR (n r z : Int) : Prop := (0 ≤ n ∧ n ≤ 20 ∧ r = z) ∨ (¬ (0 ≤ n ∧ n ≤ 20) ∧ r = -1)
theorem m_still (hM : FM w) {m : Int} (h : ∀ r w1, STR m r (3 ^ m.toNat) → fm w w1 → Q r w1) : VC (d + 20) 147 [(2, 25), (0, m)] w Q := by
  have M1 : MC (vsv w 25 0 0) := hM.mc.sv (by decide) (by decide) (by decide) (by decide)
  have f1 : fm w (vsv w 25 0 0) := fm.rf.sv (by decide)
  refine e147.mpr (b147_0.mpr ⟨fmk_25 hM, b147_5.mpr (y56.mpr (b147_14.mpr ⟨fun h1 => b147_17.mpr (h _ _ (Or.inr ⟨by rw [ite10] at h1; omega, rfl⟩) f1), fun h1 => b147_21.mpr ?_⟩))⟩)
  rw [ite10] at h1
  obtain ⟨n, rfl⟩ : ∃ n : Nat, m = n := ⟨m.toNat, by omega⟩
  have S1 : TS (vsv w 25 0 0) 51 52 := ⟨M1, (vct_svo (fun x => absurd x.2 (by decide))).trans (fm_25_56 hM), (vct_svo (fun x => absurd x.2 (by decide))).trans (fm_25_57 hM), Or.inl ⟨rfl, rfl⟩, ⟨vkd_sv.trans (fmk_51 hM), vln_sv.trans (fml_51 hM)⟩, vkd_sv.trans (fmk_52 hM), vln_sv.trans (fml_52 hM)⟩
  have L : ∀ (q t : Nat), q + t = 6561 → ∀ W, TS W 51 52 → fm w W → (∀ i : Nat, i < t → vct W 51 (i : Int) = if i = 0 then 1 else 0) → VW (d + 19) 147 23 [(2, 25), (0, (n : Int)), (0, (t : Int)), (9, 0), (9, 0), (9, 0), (9, 0)] [] W Q := by
    intro q
    induction q with
    | zero =>
      intro t ht W S f hz
      have : t = 6561 := by omega
      subst this
      refine b147_23.mpr ⟨fun h => absurd h (by decide), fun _ => b147_55.mpr ?_⟩
      have hs : sumT (vct W 51) 6561 = 3 ^ 0 := by
        rw [sumT_c (g := fun j => if j = ((0 : Nat) : Int) then 1 else (fun _ => 0) j) (fun j hj => by rw [hz j hj]; by_cases e : j = 0 <;> simp [e]), sumT_u, sumT_0 (fun j _ => rfl)]
        rfl
      have h9 := still_out (w := w) (Q := Q) (d := d + 16) (n := n) (by omega) (fun W' f' => h _ _ (Or.inl ⟨by omega, by omega, by rw [Int.toNat_natCast]⟩) f') n 0 (by omega) 51 52 (9, 0) (9, 0) (9, 0) (9, 0) W S f (fun i hi => by rw [hz i hi]; split <;> decide) hs
      exact h9
    | succ q ih =>
      intro t ht W S f hz
      have K := S.ka
      have nx : ∀ y : Int, y = (if t = 0 then 1 else 0) → VW (d + 19) 147 47 [(2, 25), (0, (n : Int)), (0, (t : Int)), (9, 0), (9, 0), (9, 0), (9, 0)] [(0, y), (0, (t : Int)), (2, 51)] W Q := by
        intro y hy
        refine b147_47.mpr ⟨⟨K.1, by omega, by rw [K.2]; omega⟩, b147_49.mpr ?_⟩
        rw [w32_id (z := (t : Int) + 1) (by omega) (by omega)]
        have h9 := ih (t + 1) (by omega) (vsv W 51 (t : Int) y) (S.row (Or.inl rfl)) (f.sv (by decide)) (fun j hj => by
          rw [vct_sv]
          by_cases e : j = t
          · subst e; rw [if_pos ⟨rfl, rfl⟩]; exact hy
          · rw [if_neg (fun x => e (Int.ofNat.inj x.2))]; exact hz j (by omega))
        exact_mod_cast h9
      refine b147_23.mpr ⟨fun _ => b147_30.mpr ?_, fun h => absurd (show (t : Int) < 6561 by omega) h⟩
      rw [S.2.1]
      refine ⟨S.1.1.1, fun h0 => b147_39.mpr (b147_44.mpr (y57_1.mpr (nx 1 (by rw [if_pos (by omega)])))), fun h0 => b147_43.mpr (b147_44.mpr (y57_0.mpr (nx 0 (by rw [if_neg (by omega)]))))⟩
  exact L 6561 0 rfl _ S1 f1 (fun i hi => absurd hi (by omega))
end MSTILL
