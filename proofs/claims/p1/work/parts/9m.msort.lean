/-! the model's sorts: what is merged is in order already -/
def SL (W W' : vW) : Prop := W'.2 = W.2 ∧ (∀ b : Int, b ≠ 54 → W'.1 b = W.1 b) ∧ vkd W' 54 = vkd W 54 ∧ vln W' 54 = vln W 54
/-- the rows that are sorted -/
def LC (W : vW) : Prop := vkd W 25 = 22 ∧ vct W 25 58 = 53 ∧ vct W 25 59 = 54 ∧ vkd W 53 = 2 ∧ vln W 53 = 4096 ∧ vkd W 54 = 2 ∧ vln W 54 = 4096
section MS
variable {d : Nat} {w W W' W2 : vW} {Q : Int → vW → Prop} {c m i v : Int} {n : Nat}
theorem SL.rf : SL W W := ⟨rfl, fun _ _ => rfl, rfl, rfl⟩
theorem SL.tr (h : SL W W') (h2 : SL W' W2) : SL W W2 := ⟨h2.1.trans h.1, fun b hb => (h2.2.1 b hb).trans (h.2.1 b hb), h2.2.2.1.trans h.2.2.1, h2.2.2.2.trans h.2.2.2⟩
theorem SL.sv (h : SL W W') : SL W (vsv W' 54 i v) := ⟨h.1, fun b hb => (vcl_sv hb).trans (h.2.1 b hb), vkd_sv.trans h.2.2.1, vln_sv.trans h.2.2.2⟩
theorem SL.fm (h : SL W W') : fm W W' := ⟨h.1, fun b hb => h.2.1 b (by omega)⟩
theorem LC.sl (h : LC W) (hs : SL W W') : LC W' := by
  have e1 := hs.2.1 25 (by decide)
  have e2 := hs.2.1 53 (by decide)
  exact ⟨(vkd_cl e1).trans h.1, (congrFun (vct_cl e1) _).trans h.2.1, (congrFun (vct_cl e1) _).trans h.2.2.1, (vkd_cl e2).trans h.2.2.2.1, (vln_cl e2).trans h.2.2.2.2.1, hs.2.2.1.trans h.2.2.2.2.2.1, hs.2.2.2.trans h.2.2.2.2.2.2⟩
theorem MC.sl (h : MC W) (hs : SL W W') : MC W' := by
  have e1 := hs.2.1 25 (by decide)
  have e2 := hs.2.1 26 (by decide)
  have e3 := hs.2.1 27 (by decide)
  have ec : vct W' 25 = vct W 25 := vct_cl e1
  refine ⟨⟨(vkd_cl e1).trans h.1.1, by rw [ec]; exact h.1.2.1, (vkd_cl e3).trans h.1.2.2.1, (vln_cl e3).trans h.1.2.2.2.1, fun j hj => ?_⟩, by rw [ec]; exact h.2.1, by rw [ec]; exact h.2.2.1, by rw [ec]; exact h.2.2.2.1, (vkd_cl e2).trans h.2.2.2.2.1, (vln_cl e2).trans h.2.2.2.2.2⟩
  rw [vct_cl e3]; exact h.1.2.2.2.2 j hj
theorem y57 {b : Bool} : VC (d + 1) 57 [(0, if b then 1 else 0)] W Q ↔ Q (if b then 1 else 0) W := by
  rw [e57, b57_0, b57_4, b57_8, b57_9, b57_9]
  cases b
  · exact ⟨fun g => g.1 rfl, fun g => ⟨fun _ => g, fun h => absurd rfl h⟩⟩
  · exact ⟨fun g => g.2 (by decide), fun g => ⟨fun h => absurd h (by decide), fun _ => g⟩⟩
theorem y57_1 : VC (d + 1) 57 [(0, 1)] W Q ↔ Q 1 W := y57 (b := true)
theorem y57_0 : VC (d + 1) 57 [(0, 0)] W Q ↔ Q 0 W := y57 (b := false)
/-- merged: the words of both halves in their order -/
theorem c148 : ∀ (k a b : Nat) (d : Nat) (W : vW) (Q : Int → vW → Prop), a ≤ b → b ≤ 4096 → b - a ≤ 2 ^ k → LC W → (∀ i j : Nat, a ≤ i → i < j → j < b → vct W 53 (i : Int) < vct W 53 (j : Int)) → (∀ W', SL W W' → Q 0 W') → VC (d + k + 2) 148 [(2, 25), (0, (a : Int)), (0, (b : Int))] W Q := by
  intro k
  induction k with
  | zero =>
    intro a b d W Q hab hb hk hL hs hq
    refine e148.mpr (b148_0.mpr ⟨fun _ => b148_7.mpr (hq W SL.rf), fun h => absurd ?_ h⟩)
    rw [w32_id (by omega) (by omega)]; omega
  | succ k ih =>
    intro a b d W Q hab hb hk hL hs hq
    refine e148.mpr (b148_0.mpr ⟨fun _ => b148_7.mpr (hq W SL.rf), fun h2 => b148_8.mpr ⟨hL.1, ?_⟩⟩)
    rw [w32_id (z := (b : Int) - (a : Int)) (by omega) (by omega)] at h2
    rw [w32_id (z := (a : Int) + (b : Int)) (by omega) (by omega), tdiv_nn (by omega), w32_id (z := ((a : Int) + (b : Int)) / 2) (by omega) (by omega), show ((a : Int) + (b : Int)) / 2 = (((a + b) / 2 : Nat) : Int) by omega]
    have hk2 : b - a ≤ 2 ^ k * 2 := by rw [← Nat.pow_succ]; exact hk
    have hmid : a < (a + b) / 2 ∧ (a + b) / 2 < b ∧ (a + b) / 2 - a ≤ 2 ^ k ∧ b - (a + b) / 2 ≤ 2 ^ k := by omega
    generalize (a + b) / 2 = m at hmid
    have q53 : ∀ {W2 : vW}, SL W W2 → vct W2 53 = vct W 53 := fun h => vct_cl (h.2.1 53 (by decide))
    refine ih a m d W _ (by omega) (by omega) (by omega) hL (fun i j h1 h3 h4 => hs i j h1 h3 (by omega)) fun W1 S1 => b148_20.mpr ⟨(hL.sl S1).1, ih m b d W1 _ (by omega) (by omega) (by omega) (hL.sl S1) (fun i j h1 h3 h4 => by rw [q53 S1]; exact hs i j (by omega) h3 h4) fun W2 S2 => b148_26.mpr ?_⟩
    have S12 := S1.tr S2
    have L2 : ∀ (q j : Nat), q + j = b → a ≤ j → ∀ (y4 y5 : Int) (v7 : vV) (W3 : vW), SL W W3 → (∀ i : Nat, a ≤ i → i < b → vct W3 54 (i : Int) = vct W 53 (i : Int)) → VW (d + k + 2) 148 144 [(2, 25), (0, (a : Int)), (0, (b : Int)), (0, (m : Int)), (0, y4), (0, y5), (0, (j : Int)), v7] [] W3 Q := by
      intro q
      induction q with
      | zero => intro j hj _ y4 y5 v7 W3 S3 _; exact b148_144.mpr ⟨fun h => absurd h (by omega), fun _ => b148_170.mpr (hq W3 S3)⟩
      | succ q ihq =>
        intro j hj haj y4 y5 v7 W3 S3 hm
        have L3 := hL.sl S3
        refine b148_144.mpr ⟨fun _ => b148_150.mpr ?_, fun h => absurd (show (j : Int) < (b : Int) by omega) h⟩
        rw [L3.2.1, L3.2.2.1, show vct W3 54 (j : Int) = vct W3 53 (j : Int) by rw [hm j haj (by omega), q53 S3], vsv_self]
        refine ⟨L3.1, L3.1, ⟨L3.2.2.2.2.2.1, by omega, by rw [L3.2.2.2.2.2.2]; omega⟩, ⟨L3.2.2.2.1, by omega, by rw [L3.2.2.2.2.1]; omega⟩, b148_164.mpr ?_⟩
        rw [w32_id (z := (j : Int) + 1) (by omega) (by omega)]
        have h9 := ihq (j + 1) (by omega) (by omega) y4 y5 v7 W3 S3 hm
        exact_mod_cast h9
    have L1 : ∀ (q j : Nat), q + j = b → a ≤ j → ∀ (y4 y5 : Nat), (j ≤ m ∧ y4 = j ∧ y5 = m ∨ m ≤ j ∧ y4 = m ∧ y5 = j) → ∀ (v7 : vV) (W3 : vW), SL W W3 → (∀ i : Nat, a ≤ i → i < j → vct W3 54 (i : Int) = vct W 53 (i : Int)) → VW (d + k + 2) 148 35 [(2, 25), (0, (a : Int)), (0, (b : Int)), (0, (m : Int)), (0, (y4 : Int)), (0, (y5 : Int)), (0, (j : Int)), v7] [] W3 Q := by
      intro q
      induction q with
      | zero =>
        intro j hj haj y4 y5 hy v7 W3 S3 hm
        have : j = b := by omega
        subst this
        exact b148_35.mpr ⟨fun h => absurd h (by omega), fun _ => b148_141.mpr (L2 (j - a) a (by omega) (Nat.le_refl _) _ _ v7 W3 S3 hm)⟩
      | succ q ihq =>
        intro j hj haj y4 y5 hy v7 W3 S3 hm
        have L3 := hL.sl S3
        have e53 := q53 S3
        have nv : ∀ v : Int, v = vct W 53 (j : Int) → SL W (vsv W3 54 (j : Int) v) ∧ ∀ i : Nat, a ≤ i → i < j + 1 → vct (vsv W3 54 (j : Int) v) 54 (i : Int) = vct W 53 (i : Int) := fun v hv => ⟨S3.sv, fun i h1 h3 => by
          rw [vct_sv]
          by_cases e : i = j
          · subst e; rw [if_pos ⟨rfl, rfl⟩]; exact hv
          · rw [if_neg (fun x => e (Int.ofNat.inj x.2))]; exact hm i h1 (by omega)⟩
        refine b148_35.mpr ⟨fun _ => b148_41.mpr ⟨fun h => absurd h (by omega), fun _ => b148_47.mpr ⟨fun hlt => b148_53.mpr ?_, fun hge => b148_75.mpr (b148_76.mpr ⟨L3.1, fun _ => b148_99.mpr ?_, fun h => absurd rfl h⟩)⟩⟩, fun h => absurd (show (j : Int) < (b : Int) by omega) h⟩
        · have hjm : j < m ∧ y4 = j ∧ y5 = m := by omega
          obtain ⟨hjm, rfl, rfl⟩ := hjm
          rw [L3.2.1, e53]
          refine ⟨L3.1, ⟨L3.2.2.2.1, by omega, by rw [L3.2.2.2.2.1]; omega⟩, L3.1, ⟨L3.2.2.2.1, by omega, by rw [L3.2.2.2.2.1]; omega⟩, fun h => absurd (vlc_gt.mp h) (by have := hs y4 y5 haj hjm (by omega); omega), fun _ => b148_71.mpr (b148_76.mpr ⟨L3.1, fun h => absurd h (by decide), fun _ => b148_89.mpr ?_⟩)⟩
          rw [L3.2.1, L3.2.2.1, e53]
          refine ⟨L3.1, ⟨L3.2.2.2.1, by omega, by rw [L3.2.2.2.2.1]; omega⟩, b148_106.mpr ⟨⟨L3.2.2.2.2.2.1, by omega, by rw [L3.2.2.2.2.2.2]; omega⟩, b148_107.mpr (y57_1.mpr (b148_114.mpr ⟨fun h => absurd h (by decide), fun _ => b148_128.mpr (b148_129.mpr (y57_0.mpr (b148_132.mpr ?_)))⟩))⟩⟩
          rw [w32_id (z := (y4 : Int) + 1) (by omega) (by omega), Int.add_zero, w32_id (z := (y5 : Int)) (by omega) (by omega)]
          obtain ⟨n1, n2⟩ := nv _ rfl
          have h9 := ihq (y4 + 1) (by omega) (by omega) (y4 + 1) y5 (Or.inl ⟨by omega, rfl, rfl⟩) (0, 1) _ n1 n2
          exact_mod_cast h9
        · have hjm : m ≤ j ∧ y4 = m ∧ y5 = j := by omega
          obtain ⟨hjm, rfl, rfl⟩ := hjm
          rw [L3.2.1, L3.2.2.1, e53]
          refine ⟨L3.1, ⟨L3.2.2.2.1, by omega, by rw [L3.2.2.2.2.1]; omega⟩, b148_106.mpr ⟨⟨L3.2.2.2.2.2.1, by omega, by rw [L3.2.2.2.2.2.2]; omega⟩, b148_107.mpr (y57_0.mpr (b148_114.mpr ⟨fun _ => b148_124.mpr (b148_129.mpr (y57_1.mpr (b148_132.mpr ?_))), fun h => absurd rfl h⟩))⟩⟩
          rw [w32_id (z := (y5 : Int) + 1) (by omega) (by omega), Int.add_zero, w32_id (z := (y4 : Int)) (by omega) (by omega)]
          obtain ⟨n1, n2⟩ := nv _ rfl
          have h9 := ihq (y5 + 1) (by omega) (by omega) y4 (y5 + 1) (Or.inr ⟨by omega, rfl, rfl⟩) (0, 0) _ n1 n2
          exact_mod_cast h9
    exact L1 (b - a) a (by omega) (Nat.le_refl _) a m (Or.inl ⟨by omega, rfl, rfl⟩) (9, 0) W2 S12 (fun i h1 h3 => absurd h3 (by omega))
theorem FM.lc (h : FM w) : LC w := ⟨fmk_25 h, fm_25_58 h, fm_25_59 h, fmk_53 h, fml_53 h, fmk_54 h, fml_54 h⟩
theorem LC.sv (h : LC W) (h1 : i ≠ 58) (h2 : i ≠ 59) : LC (vsv W 25 i v) := ⟨vkd_sv.trans h.1, (vct_svo (fun x => h1 x.2.symm)).trans h.2.1, (vct_svo (fun x => h2 x.2.symm)).trans h.2.2.1, vkd_sv.trans h.2.2.2.1, vln_sv.trans h.2.2.2.2.1, vkd_sv.trans h.2.2.2.2.2.1, vln_sv.trans h.2.2.2.2.2.2⟩
theorem LC.row (h : LC W) : LC (vsv W 53 i v) := ⟨vkd_sv.trans h.1, (vct_svo (fun x => absurd x.1 (by decide))).trans h.2.1, (vct_svo (fun x => absurd x.1 (by decide))).trans h.2.2.1, vkd_sv.trans h.2.2.2.1, vln_sv.trans h.2.2.2.2.1, vkd_sv.trans h.2.2.2.2.2.1, vln_sv.trans h.2.2.2.2.2.2⟩
theorem MC.row53 (h : MC W) : MC (vsv W 53 i v) :=
  ⟨(PQ_sv (fun x => absurd x.1 (by decide)) (by decide)).mpr h.1, (vct_svo (fun x => absurd x.1 (by decide))).trans h.2.1, (vct_svo (fun x => absurd x.1 (by decide))).trans h.2.2.1, (vct_svo (fun x => absurd x.1 (by decide))).trans h.2.2.2.1, vkd_sv.trans h.2.2.2.2.1, vln_sv.trans h.2.2.2.2.2⟩
theorem m_sorts (hM : FM w) (h : ∀ r w1, COMR c m ((3 ^ m.toNat : Nat) : Int) r → fm w w1 → Q r w1) : VC (d + 30) 149 [(2, 25), (0, c), (0, m)] w Q := by
  have M1 : MC (vsv w 25 0 0) := hM.mc.sv (by decide) (by decide) (by decide) (by decide)
  have LC1 : LC (vsv w 25 0 0) := hM.lc.sv (by decide) (by decide)
  have f1 : fm w (vsv w 25 0 0) := fm.rf.sv (by decide)
  have no : ¬ (0 ≤ c ∧ c ≤ 2 ∧ 0 ≤ m ∧ m ≤ 14) → ∀ {D : Nat}, VW D 149 19 [(2, 25), (0, c), (0, m), (9, 0), (9, 0), (9, 0), (9, 0), (9, 0), (9, 0), (9, 0), (9, 0)] [] (vsv w 25 0 0) Q := fun hc => b149_19.mpr (h _ _ (Or.inr (Or.inr ⟨hc, rfl⟩)) f1)
  refine e149.mpr (b149_0.mpr ⟨fmk_25 hM, b149_5.mpr (y139.mpr (b149_9.mpr ⟨fun h1 => no (by rw [ite10] at h1; omega), fun h1 => b149_12.mpr (y140.mpr (b149_16.mpr ⟨fun h2 => no (by rw [ite10] at h2; omega), fun h2 => b149_21.mpr ⟨M1.1.1, ?_⟩⟩))⟩))⟩)
  rw [ite10] at h1 h2
  obtain ⟨n, rfl⟩ : ∃ n : Nat, m = n := ⟨m.toNat, by omega⟩
  refine (y137 M1 (by omega)).mpr (b149_26.mpr ⟨fun hb => b149_34.mpr ?_, fun hb => b149_37.mpr ?_⟩)
  · rw [sm_big] at hb
    exact h _ _ (Or.inr (Or.inl ⟨by omega, by omega, by omega, by omega, rfl⟩)) f1
  · rw [sm_big] at hb
    have h7 : n ≤ 7 := by omega
    have hp := p3_le h7
    rw [sm_le h7]
    have fin : ∀ (q j : Nat), q + j = 3 ^ n → ∀ (ru mo be : Int) (v10 : vV) W, MC W → LC W → fm w W → (∀ i : Nat, i < 3 ^ n → vct W 53 (i : Int) = c9 (sp i n)) → VW (d + 29) 149 96 [(2, 25), (0, c), (0, (n : Int)), (0, ((3 ^ n : Nat) : Int)), (0, (j : Int)), (0, ru), (0, mo), (1, be), (9, 0), (0, (j : Int)), v10] [] W Q := by
      intro q
      induction q with
      | zero =>
        intro j hj ru mo be v10 W M lc f hv
        have M2 : MC (vsv W 25 1 0) := M.sv (by decide) (by decide) (by decide) (by decide)
        have M3 : MC (vsv (vsv (vsv W 25 1 0) 26 0 be) 25 1 (0 + 1)) := M2.row.sv (by decide) (by decide) (by decide) (by decide)
        exact b149_96.mpr ⟨fun h => absurd h (by omega), fun _ => b149_195.mpr ⟨M.1.1, b149_200.mpr ⟨M2.1.1, (y58 M2 vct_svi (by decide) (by decide)).mpr (b149_206.mpr ⟨M3.1.1, (y58 M3 vct_svi (by decide) (by decide)).mpr (b149_213.mpr (h _ _ (Or.inl ⟨by omega, by omega, by omega, by omega, by rw [Int.toNat_natCast]; omega⟩) (((((f.sv (by decide)).sv (by decide)).sv (by decide)).sv (by decide)).sv (by decide))))⟩)⟩⟩⟩
      | succ q ihq =>
        intro j hj ru mo be v10 W M lc f hv
        have nx : VW (d + 29) 149 132 [(2, 25), (0, c), (0, (n : Int)), (0, ((3 ^ n : Nat) : Int)), (0, (j : Int)), (0, ru), (0, mo), (1, be), (9, 0), (0, (j : Int)), v10] [(0, 1)] W Q := by
          have n3 : ∀ (be2 : Int) (ru2 : Int), VW (d + 29) 149 178 [(2, 25), (0, c), (0, (n : Int)), (0, ((3 ^ n : Nat) : Int)), (0, (j : Int) + 1), (0, ru2), (0, mo), (1, be), (9, 0), (0, (j : Int)), (0, 1)] [(1, be2)] W Q := by
            intro be2 ru2
            refine b149_178.mpr ?_
            rw [w32_id (z := (j : Int) + 1) (by omega) (by omega)]
            have h9 := ihq (j + 1) (by omega) ru2 (max mo ru2) be2 (0, 1) W M lc f hv
            exact_mod_cast h9
          refine b149_132.mpr (y57_1.mpr (b149_141.mpr ⟨fun h => absurd h (by decide), fun _ => ?_⟩))
          rw [w32_id (z := (j : Int) + 1) (by omega) (by omega)]
          refine b149_149.mpr (b149_157.mpr ⟨fun _ => b149_166.mpr ?_, fun _ => b149_176.mpr (n3 _ _)⟩)
          rw [lc.2.1]
          exact ⟨lc.1, ⟨lc.2.2.2.1, by omega, by rw [lc.2.2.2.2.1]; omega⟩, n3 _ _⟩
        refine b149_96.mpr ⟨fun _ => b149_102.mpr ⟨fun _ => b149_127.mpr nx, fun h0 => b149_107.mpr ?_⟩, fun h => absurd (show (j : Int) < ((3 ^ n : Nat) : Int) by omega) h⟩
        rw [lc.2.1, w32_id (z := (j : Int) - 1) (by omega) (by omega), show (j : Int) - 1 = ((j - 1 : Nat) : Int) by omega, hv j (by omega), hv (j - 1) (by omega)]
        have hmo := (sp_mono n (j - 1) j (by omega) (by omega)).1
        exact ⟨lc.1, ⟨lc.2.2.2.1, by omega, by rw [lc.2.2.2.2.1]; omega⟩, lc.1, ⟨lc.2.2.2.1, by omega, by rw [lc.2.2.2.2.1]; omega⟩, fun h => absurd (vlc_eq.mp h) (by omega), fun _ => b149_127.mpr nx⟩
    have L1 : ∀ (q j : Nat), q + j = 3 ^ n → ∀ W, MC W → LC W → fm w W → (∀ i : Nat, i < j → vct W 53 (i : Int) = c9 (sp i n)) → VW (d + 29) 149 40 [(2, 25), (0, c), (0, (n : Int)), (0, ((3 ^ n : Nat) : Int)), (0, (j : Int)), (9, 0), (9, 0), (9, 0), (9, 0), (9, 0), (9, 0)] [] W Q := by
      intro q
      induction q with
      | zero =>
        intro j hj W M lc f hv
        have : j = 3 ^ n := by omega
        subst this
        refine b149_40.mpr ⟨fun h => absurd h (by omega), fun _ => b149_75.mpr ⟨M.1.1, ?_⟩⟩
        have hc := c148 12 0 (3 ^ n) (d + 15) W (fun _ w1 => VW (d + 29) 149 81 [(2, 25), (0, c), (0, (n : Int)), (0, ((3 ^ n : Nat) : Int)), (0, ((3 ^ n : Nat) : Int)), (9, 0), (9, 0), (9, 0), (9, 0), (9, 0), (9, 0)] [] w1 Q) (by omega) (by omega) (by omega) lc (fun i j _ h1 h3 => by rw [hv i (by omega), hv j h3]; exact (sp_mono n i j h1 h3).1) fun W2 S2 => b149_81.mpr ?_
        · exact hc
        · have h9 := fin (3 ^ n) 0 (by omega) 0 0 0 (9, 0) W2 (M.sl S2) (lc.sl S2) (f.tr S2.fm) (fun i hi => by rw [vct_cl (S2.2.1 53 (by decide))]; exact hv i hi)
          exact h9
      | succ q ihq =>
        intro j hj W M lc f hv
        have hs := sp_okl (show n ≤ 14 by omega) j
        have M2 : MC (vsv (vsv W 25 35 0) 25 23 (-1)) := (M.sv (by decide) (by decide) (by decide) (by decide)).sv (by decide) (by decide) (by decide) (by decide)
        have L2 : LC (vsv (vsv W 25 35 0) 25 23 (-1))   := (lc.sv (by decide) (by decide)).sv (by decide) (by decide)
        have f2 : fm w (vsv (vsv W 25 35 0) 25 23 (-1)) := (f.sv (by decide)).sv (by decide)
        have c2 : vct (vsv (vsv W 25 35 0) 25 23 (-1)) 53 = vct W 53 := (vct_svw (by decide)).trans (vct_svw (by decide))
        refine b149_40.mpr ⟨fun _ => b149_46.mpr ?_, fun h => absurd (show (j : Int) < ((3 ^ n : Nat) : Int) by omega) h⟩
        rw [lc.2.1]
        refine ⟨M.1.1, M.1.1, (y138 M (by omega) (by omega)).mpr (b149_60.mpr ⟨M.1.1, M.1.1, (m112 M hs).mpr (b149_68.mpr ⟨⟨L2.2.2.2.1, by omega, by rw [L2.2.2.2.2.1]; omega⟩, b149_69.mpr ?_⟩)⟩)⟩
        rw [w32_id (z := (j : Int) + 1) (by omega) (by omega)]
        have h9 := ihq (j + 1) (by omega) (vsv (vsv (vsv W 25 35 0) 25 23 (-1)) 53 (j : Int) (c9 (sp j n))) M2.row53 L2.row (f2.sv (by decide)) (fun i hi => by
          rw [vct_sv]
          by_cases e : i = j
          · subst e; rw [if_pos ⟨rfl, rfl⟩]
          · rw [if_neg (fun x => e (Int.ofNat.inj x.2)), c2]; exact hv i (by omega))
        exact_mod_cast h9
    exact L1 (3 ^ n) 0 (by omega) _ M1 LC1 f1 (fun i hi => absurd hi (by omega))
end MS
