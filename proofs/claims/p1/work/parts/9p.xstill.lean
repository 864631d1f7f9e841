/-! the class's still -/
section XSTILL
variable {d : Nat} {w W W' : vW} {Q : Int → vW → Prop} {n k : Nat} {x t s0 b0 c0 A : Int}
theorem okl1 (h1 : 1 ≤ x) (h2 : x ≤ 8) : OKL [x] := ⟨(by decide : 1 ≤ 14), OKw.sing.mpr ⟨h1, h2⟩⟩
theorem pk1 : pk [x] = 72057594037927936 + x := by
  unfold pk
  rw [c16_one]
  show 1 * 72057594037927936 + x = _
  omega
theorem y274x (h1 : 1 ≤ x) (h2 : x ≤ 8) : VC (d + 1) 274 [(0, 1), (1, x)] W Q ↔ Q (72057594037927936 + x) W := by
  have h := c274 (d := d) (w := W) (Q := Q) (okl1 h1 h2)
  rw [c16_one, pk1] at h
  exact h
theorem y273x (h1 : 72057594037927937 ≤ t) (h2 : t ≤ 72057594037927944) : w32 (l_ushr t 56) = 1 := by
  have h := pk_size (okl1 (x := t - 72057594037927936) (by omega) (by omega))
  rw [pk1, show 72057594037927936 + (t - 72057594037927936) = t by omega] at h
  exact h
theorem and15 (h1 : 72057594037927937 ≤ t) (h2 : t ≤ 72057594037927944) : l_and t 15 = t - 72057594037927936 := by
  have := l_mask t 4 (by decide)
  rw [show ((2 : Int) ^ 4 - 1) = 15 from rfl] at this
  rw [this]
  omega
theorem y278x (hs : s0 = 0) (hb : b0 = 0) (hc : c0 = 0) (h1 : 72057594037927937 ≤ t) (h2 : t ≤ 72057594037927944) : VC (d + 1) 278 [(1, s0), (0, b0), (0, c0), (1, t)] W Q ↔ Q t W := by
  subst hs; subst hb; subst hc
  have e1 : l_and 0 72057594037927935 = 0 := l_mask 0 56 (by decide)
  have e2 : l_and t 72057594037927935 = t - 72057594037927936 := by
    have := l_mask t 56 (by decide)
    rw [show ((2 : Int) ^ 56 - 1) = 72057594037927935 from rfl] at this
    rw [this]
    omega
  have e3 : l_ushr 0 0 = 0 := zl_ushr 0 (by decide)
  have e4 : l_shl 0 4 = 0 := l_shl_mul 0 4 (by decide) (by decide) (by decide)
  have e5 : l_or 0 (t - 72057594037927936) = t - 72057594037927936 := by
    have := l_or_add 0 (t - 72057594037927936) 4 (by decide) (by omega) (by omega) (by omega)
    rw [Int.zero_mul, Int.zero_add] at this
    exact this
  have e6 : l_shl 1 56 = 72057594037927936 := l_shl_mul 1 56 (by decide) (by decide) (by decide)
  have e7 : l_shl (t - 72057594037927936) 0 = t - 72057594037927936 := by
    have := l_shl_mul (t - 72057594037927936) 0 (by decide) (by omega) (by omega)
    rw [show ((2 : Int) ^ 0) = 1 from rfl, Int.mul_one] at this
    exact this
  have e8 : l_or 72057594037927936 (t - 72057594037927936) = t := by
    have := l_or_add 1 (t - 72057594037927936) 56 (by decide) (by omega) (by omega) (by omega)
    rw [show (1 : Int) * 2 ^ 56 = 72057594037927936 from rfl] at this
    rw [this]; omega
  have e9 : l_shl 1 0 = 1 := l_shl_mul 1 0 (by decide) (by decide) (by decide)
  have e10 : l_and 0 0 = 0 := l_mask 0 0 (by decide)
  have e11 : l_or t 0 = t := by
    have := l_or_add t 0 0 (by omega) (by decide) (by decide) (by omega)
    rw [show ((2 : Int) ^ 0) = 1 from rfl, Int.mul_one, Int.add_zero] at this
    exact this
  rw [e278, b278_0, b278_49, s0_sz, y273x h1 h2]
  simp only [Int.sub_self, Int.add_zero, Int.zero_add, Int.mul_zero, Int.mul_one, show w32 0 = 0 from by decide, show w32 4 = 4 from by decide, show w32 1 = 1 from by decide, e1, e2, e3, e4, e5, e6, e7, e8, e9, show w64 0 = 0 from by decide, e10, e11]
theorem y277x (hb : b0 = 0) (hc : c0 = 1) (h1 : 72057594037927937 ≤ t) (h2 : t ≤ 72057594037927944) : VC (d + 1) 277 [(1, t), (0, b0), (0, c0)] W Q ↔ Q t W := by
  subst hb; subst hc
  have e3 : l_ushr t 0 = t := by
    have := l_ushr_nn t 0 (by decide) (by omega) (by omega)
    rw [show ((2 : Int) ^ 0) = 1 from rfl, Int.ediv_one] at this
    exact this
  have e4 : l_shl 1 4 = 16 := l_shl_mul 1 4 (by decide) (by decide) (by decide)
  have e6 : l_shl 1 56 = 72057594037927936 := l_shl_mul 1 56 (by decide) (by decide) (by decide)
  have e8 : l_or 72057594037927936 (t - 72057594037927936) = t := by
    have := l_or_add 1 (t - 72057594037927936) 56 (by decide) (by omega) (by omega) (by omega)
    rw [show (1 : Int) * 2 ^ 56 = 72057594037927936 from rfl] at this
    rw [this]; omega
  rw [e277, b277_0, y273x h1 h2]
  simp only [Int.sub_zero, Int.sub_self, Int.mul_zero, Int.mul_one, show w32 1 = 1 from by decide, show w32 0 = 0 from by decide, show w32 4 = 4 from by decide, e3, e4, show w64 (16 - 1) = 15 from by decide, and15 h1 h2, e6, e8]
theorem y288x (h1 : 72057594037927937 ≤ t) (h2 : t ≤ 72057594037927944) (K1 : vkd W 1 = 18) (K2 : vct W 1 3 = 0) (K3 : vkd W A = 19) (K4 : vct W A 3 = 1) (K5 : vkd W (vct W A 0) = 2) (K6 : vln W (vct W A 0) = 49) (K7 : vct W (vct W A 0) 0 = 0) (h : Q 0 W) : VC (d + 3) 288 [(2, A), (2, 1), (1, t)] W Q := by
  refine e288.mpr (b288_0.mpr (e273.mpr (b273_0.mpr (b288_4.mpr ?_))))
  rw [y273x h1 h2]
  refine b288_9.mpr ⟨K1, fun g => absurd g (by rw [K2]; decide), fun _ => b288_48.mpr (b288_51.mpr ⟨fun _ => b288_58.mpr ?_, fun g => absurd (show (0 : Int) < 1 by decide) g⟩)⟩
  rw [show w32 ((1 : Int) - 0) = 1 from by decide]
  refine (y277x rfl rfl h1 h2).mpr (b288_70.mpr ⟨K3, e287.mpr (b287_0.mpr (b287_2.mpr ⟨K3, fun _ => b287_10.mpr ⟨fun _ => b287_16.mpr ?_, fun g => absurd (show (0 : Int) < 49 by decide) g⟩, fun g => absurd (show (0 : Int) < vct W A 3 by rw [K4]; decide) g⟩))⟩)
  refine ⟨K3, ⟨K5, Int.le_refl 0, by rw [K6]; decide⟩, fun g => absurd (vlc_eq.mp g) (by rw [K7]; omega), fun _ => b287_29.mpr ?_⟩
  rw [show w32 ((0 : Int) + 1) = 1 from by decide]
  refine b287_2.mpr ⟨K3, fun g => absurd g (by rw [K4]; decide), fun _ => b287_35.mpr (b288_73.mpr ⟨fun _ => b288_83.mpr ?_, fun g => absurd (show (-1 : Int) < 0 by decide) g⟩)⟩
  rw [show w32 ((0 : Int) + 1) = 1 from by decide]
  exact b288_51.mpr ⟨fun g => absurd g (by decide), fun _ => b288_89.mpr h⟩
theorem and1 (x : Int) : i_and x 1 = x % 2 := i_mask x 1 (by decide)
def SG (W : vW) : Prop := vkd W 58 = 19 ∧ vct W 58 1 = 60 ∧ vct W 58 2 = 110 ∧ vct W 58 3 = 1 ∧ (vkd W 60 = 6 ∧ vln W 60 = 49 ∧ vct W 60 0 = 61) ∧ (vkd W 61 = 1 ∧ vln W 61 = 8 ∧ vct W 61 0 = 0 ∧ vct W 61 1 = 0 ∧ vct W 61 2 = 0) ∧ (vkd W 110 = 7 ∧ vln W 110 = 2 ∧ vct W 110 0 = 111 ∧ vct W 110 1 = 112) ∧ (vkd W 111 = 2 ∧ vln W 111 = 49) ∧ vkd W 112 = 2 ∧ vln W 112 = 49
theorem SG.sv {b i v : Int} (h : SG W) (hb : b = 111 ∨ b = 112) : SG (vsv W b i v) := by
  obtain ⟨h1, h2, h3, h4, ⟨h5, h6, h7⟩, ⟨h8, h9, h10, h11, h12⟩, ⟨h13, h14, h15, h16⟩, ⟨h17, h18⟩, h19, h20⟩ := h
  have q : ∀ a j : Int, a < 111 → vct (vsv W b i v) a j = vct W a j := fun a j ha => vct_svo (fun x => by have := x.1; omega)
  exact ⟨vkd_sv.trans h1, (q _ _ (by decide)).trans h2, (q _ _ (by decide)).trans h3, (q _ _ (by decide)).trans h4, ⟨vkd_sv.trans h5, vln_sv.trans h6, (q _ _ (by decide)).trans h7⟩, ⟨vkd_sv.trans h8, vln_sv.trans h9, (q _ _ (by decide)).trans h10, (q _ _ (by decide)).trans h11, (q _ _ (by decide)).trans h12⟩, ⟨vkd_sv.trans h13, vln_sv.trans h14, (q _ _ (by decide)).trans h15, (q _ _ (by decide)).trans h16⟩, ⟨vkd_sv.trans h17, vln_sv.trans h18⟩, vkd_sv.trans h19, vln_sv.trans h20⟩
set_option maxRecDepth 20000 in
theorem c289a (h : SG W) : VC (d + 2) 289 [(2, 58), (2, 111), (2, 112), (0, 3)] W Q ↔ Q 0 (vsv (vsv (vsv (vsv W 112 0 0) 112 0 (w64 (0 + vct W 111 0))) 112 0 (w64 (w64 (0 + vct W 111 0) + vct W 111 0))) 112 0 (w64 (w64 (w64 (0 + vct W 111 0) + vct W 111 0) + vct W 111 0))) := by
  obtain ⟨h1, h2, h3, h4, ⟨h5, h6, h7⟩, ⟨h8, h9, h10, h11, h12⟩, ⟨h13, h14, h15, h16⟩, ⟨h17, h18⟩, h19, h20⟩ := h
  simp only [↓ifbr, vkd_sv, vln_sv, vct_sv, vnt_sv, vkd_nw, vln_nw, vct_nw, vnt_nw, vlc_lt, vlc_gt, vlc_eq, w32_id, w64_id, ne_eq, not_false_eq_true, not_true_eq_false, true_and, and_true, false_and, and_false, true_implies, implies_true, false_implies, Int.zero_add, Int.add_zero, Int.le_refl, Int.lt_irrefl, Int.min_def, Int.max_def, if_true, if_false, eq_self, and_self, ↓reduceIte, Int.reduceNeg, Int.reduceAdd, Int.reduceSub, Int.reduceMul, Int.reduceLT, Int.reduceLE, Int.reduceEq, Int.reduceNe, Int.reduceToNat, Int.reduceTDiv, Int.reduceTMod, Nat.reduceEqDiff, Nat.reduceAdd, h1, h2, h3, h4, h5, h6, h7, h8, h9, h10, h11, h12, h13, h14, h15, h16, h17, h18, h19, h20, ↓b289_0, ↓b289_12, ↓b289_19, ↓b289_24, ↓b289_30, ↓b289_42, ↓b289_49, ↓b289_56, ↓b289_65, ↓b289_82, ↓b289_89, ↓b289_100, ↓b289_106, ↓b289_112, ↓b289_3, ↓b289_33, ↓b289_59, ↓e289]
set_option maxRecDepth 20000 in
theorem c289b (h : SG W) : VC (d + 2) 289 [(2, 58), (2, 112), (2, 111), (0, 3)] W Q ↔ Q 0 (vsv (vsv (vsv (vsv W 111 0 0) 111 0 (w64 (0 + vct W 112 0))) 111 0 (w64 (w64 (0 + vct W 112 0) + vct W 112 0))) 111 0 (w64 (w64 (w64 (0 + vct W 112 0) + vct W 112 0) + vct W 112 0))) := by
  obtain ⟨h1, h2, h3, h4, ⟨h5, h6, h7⟩, ⟨h8, h9, h10, h11, h12⟩, ⟨h13, h14, h15, h16⟩, ⟨h17, h18⟩, h19, h20⟩ := h
  simp only [↓ifbr, vkd_sv, vln_sv, vct_sv, vnt_sv, vkd_nw, vln_nw, vct_nw, vnt_nw, vlc_lt, vlc_gt, vlc_eq, w32_id, w64_id, ne_eq, not_false_eq_true, not_true_eq_false, true_and, and_true, false_and, and_false, true_implies, implies_true, false_implies, Int.zero_add, Int.add_zero, Int.le_refl, Int.lt_irrefl, Int.min_def, Int.max_def, if_true, if_false, eq_self, and_self, ↓reduceIte, Int.reduceNeg, Int.reduceAdd, Int.reduceSub, Int.reduceMul, Int.reduceLT, Int.reduceLE, Int.reduceEq, Int.reduceNe, Int.reduceToNat, Int.reduceTDiv, Int.reduceTMod, Nat.reduceEqDiff, Nat.reduceAdd, h1, h2, h3, h4, h5, h6, h7, h8, h9, h10, h11, h12, h13, h14, h15, h16, h17, h18, h19, h20, ↓b289_0, ↓b289_12, ↓b289_19, ↓b289_24, ↓b289_30, ↓b289_42, ↓b289_49, ↓b289_56, ↓b289_65, ↓b289_82, ↓b289_89, ↓b289_100, ↓b289_106, ↓b289_112, ↓b289_3, ↓b289_33, ↓b289_59, ↓e289]
theorem SG.many (h : SG W) {p : Int} (hp : p = 0 ∨ p = 1) : vct W 110 p = 111 + p ∧ vkd W (111 + p) = 2 ∧ vln W (111 + p) = 49 := by
  obtain ⟨h1, h2, h3, h4, ⟨h5, h6, h7⟩, ⟨h8, h9, h10, h11, h12⟩, ⟨h13, h14, h15, h16⟩, ⟨h17, h18⟩, h19, h20⟩ := h
  rcases hp with rfl | rfl
  · exact ⟨h15, h17, h18⟩
  · exact ⟨h16, h19, h20⟩
theorem x_go (hn : n ≤ 20) {N S : Nat} (hq : ∀ W', fr N S w W' → Q (3 ^ n) W') : ∀ (q k : Nat), q + k = n → ∀ (v5 v6 v7 : vV) W, SG W → fr N S w W → vct W (111 + (k : Int) % 2) 0 = 3 ^ k → VW (d + 4) 284 117 [(2, 58), (2, 1), (0, (n : Int)), (0, 3), (0, (k : Int)), v5, v6, v7] [] W Q := by
  intro q
  induction q with
  | zero =>
    intro k hk v5 v6 v7 W hS hf hv
    have : k = n := by omega
    subst this
    have hp := p320 hn
    have hm := hS.many (p := (k : Int) % 2) (by omega)
    refine b284_117.mpr ⟨fun h => absurd h (by omega), fun _ => b284_159.mpr (b284_165.mpr ?_)⟩
    rw [hS.2.2.2.1]
    refine ⟨hS.1, fun _ => b284_174.mpr ⟨fun _ => b284_181.mpr ?_, fun h => absurd (show (0 : Int) < 49 by decide) h⟩, fun h => absurd (show (0 : Int) < 1 by decide) h⟩
    rw [hS.2.2.1, and1, hm.1, hm.2.1, hm.2.2, hv, w64_id (z := 0 + 3 ^ k) (by omega) (by omega), Int.zero_add]
    refine ⟨hS.1, ⟨hS.2.2.2.2.2.2.1.1, by omega, by rw [hS.2.2.2.2.2.2.1.2.1]; omega⟩, ⟨rfl, by decide, by decide⟩, b284_197.mpr (b284_165.mpr ?_)⟩
    rw [hS.2.2.2.1]
    exact ⟨hS.1, fun h => absurd h (by decide), fun _ => b284_203.mpr (hq W hf)⟩
  | succ q ih =>
    intro k hk v5 v6 v7 W hS hf hv
    have hp := p320 (show k ≤ 20 by omega)
    have hp1 := p320 (show k + 1 ≤ 20 by omega)
    have hm := hS.many (p := (k : Int) % 2) (by omega)
    have hm1 := hS.many (p := ((k : Int) + 1) % 2) (by omega)
    have e3 : w64 (w64 (w64 (0 + 3 ^ k) + 3 ^ k) + 3 ^ k) = 3 ^ (k + 1) := by
      rw [Int.pow_succ] at hp1 ⊢
      rw [w64_id (z := 0 + 3 ^ k) (by omega) (by omega), w64_id (z := 0 + 3 ^ k + 3 ^ k) (by omega) (by omega), w64_id (z := 0 + 3 ^ k + 3 ^ k + 3 ^ k) (by omega) (by omega)]
      omega
    have nx : ∀ W2, SG W2 → fr N S w W2 → vct W2 (111 + ((k : Int) + 1) % 2) 0 = 3 ^ (k + 1) → VW (d + 4) 284 153 [(2, 58), (2, 1), (0, (n : Int)), (0, 3), (0, (k : Int)), v5, v6, v7] [] W2 Q := by
      intro W2 S2 f2 v2
      refine b284_153.mpr ?_
      rw [w32_id (z := (k : Int) + 1) (by omega) (by omega)]
      have h9 := ih (k + 1) (by omega) v5 v6 v7 W2 S2 f2 (by
        rw [show (((k + 1 : Nat) : Int)) = (k : Int) + 1 by omega]; exact v2)
      exact_mod_cast h9
    refine b284_117.mpr ⟨fun _ => b284_123.mpr ?_, fun h => absurd (show (k : Int) < (n : Int) by omega) h⟩
    rw [hS.2.2.1, and1, and1, w32_id (z := (k : Int) + 1) (by omega) (by omega), hm.1, hm1.1, show min (3 : Int) 8 = 3 by decide]
    refine ⟨hS.1, ⟨hS.2.2.2.2.2.2.1.1, by omega, by rw [hS.2.2.2.2.2.2.1.2.1]; omega⟩, hS.1, ⟨hS.2.2.2.2.2.2.1.1, by omega, by rw [hS.2.2.2.2.2.2.1.2.1]; omega⟩, hS.1, ?_⟩
    rcases (show (k : Int) % 2 = 0 ∨ (k : Int) % 2 = 1 by omega) with e | e
    · have e1 : ((k : Int) + 1) % 2 = 1 := by omega
      rw [e] at hv ⊢
      rw [e1] at nx ⊢
      refine (c289a hS).mpr (nx _ ((((hS.sv (Or.inr rfl)).sv (Or.inr rfl)).sv (Or.inr rfl)).sv (Or.inr rfl)) ((((hf.sv (by decide)).sv (by decide)).sv (by decide)).sv (by decide)) ?_)
      rw [show (111 : Int) + 0 = 111 from rfl] at hv
      rw [hv, show (111 : Int) + 1 = 112 from rfl, vct_svi]
      exact e3
    · have e1 : ((k : Int) + 1) % 2 = 0 := by omega
      rw [e] at hv ⊢
      rw [e1] at nx ⊢
      refine (c289b hS).mpr (nx _ ((((hS.sv (Or.inl rfl)).sv (Or.inl rfl)).sv (Or.inl rfl)).sv (Or.inl rfl)) ((((hf.sv (by decide)).sv (by decide)).sv (by decide)).sv (by decide)) ?_)
      rw [show (111 : Int) + 1 = 112 from rfl] at hv
      rw [hv, show (111 : Int) + 0 = 111 from rfl, vct_svi]
      exact e3
theorem x_still_no (hX : FX w) {m : Int} (hm : ¬ (0 ≤ m ∧ m ≤ 20)) (h : ∀ r w1 n s, STR m r (3 ^ m.toNat) → fr n s w w1 → n ≤ 100 → s ≤ 100000 → Q r w1) : VC (d + 20) 39 [(2, 0), (0, m)] w Q := by
  have no := b39_10 (d := d + 19) (w := w) (x0 := 0) (x1 := m) (Q := Q) |>.mpr (h _ _ 0 0 (Or.inr ⟨hm, rfl⟩) fr.rf (by decide) (by decide))
  exact e39.mpr (b39_0.mpr ⟨fun _ => no, fun h1 => b39_4.mpr ⟨fun _ => no, fun h2 => absurd (show 0 ≤ m ∧ m ≤ 20 by omega) hm⟩⟩)
def ST (W : vW) : Prop := (vkd W 58 = 19 ∧ vct W 58 0 = 59 ∧ vct W 58 1 = 60 ∧ vct W 58 2 = 110) ∧ (vkd W 59 = 2 ∧ vln W 59 = 49) ∧ (vkd W 60 = 6 ∧ vln W 60 = 49 ∧ vct W 60 0 = 61) ∧ (vkd W 61 = 1 ∧ vln W 61 = 8 ∧ vct W 61 0 = 0 ∧ vct W 61 1 = 0 ∧ vct W 61 2 = 0) ∧ (vkd W 110 = 7 ∧ vln W 110 = 2 ∧ vct W 110 0 = 111 ∧ vct W 110 1 = 112) ∧ (vkd W 111 = 2 ∧ vln W 111 = 49) ∧ (vkd W 112 = 2 ∧ vln W 112 = 49) ∧ vkd W 1 = 18 ∧ vct W 1 3 = 0
theorem ST.sv {b i v : Int} (h : ST W) (h1 : ¬ (b = 58 ∧ i < 3)) (h2 : b ≠ 60) (h3 : b = 61 → v = 0) (h4 : b ≠ 110) (h5 : b ≠ 1) : ST (vsv W b i v) := by
  obtain ⟨⟨k1, k2, k3, k4⟩, ⟨k5, k6⟩, ⟨k7, k8, k9⟩, ⟨l1, l2, l3, l4, l5⟩, ⟨l6, l7, l8, l9⟩, ⟨m1, m2⟩, ⟨m3, m4⟩, m5, m6⟩ := h
  have z : ∀ j : Int, vct W 61 j = 0 → vct (vsv W b i v) 61 j = 0 := fun j hj => by
    rw [vct_sv]; split
    · rename_i e; exact h3 e.1.symm
    · exact hj
  refine ⟨⟨vkd_sv.trans k1, ?_, ?_, ?_⟩, ⟨vkd_sv.trans k5, vln_sv.trans k6⟩, ⟨vkd_sv.trans k7, vln_sv.trans k8, ?_⟩, ⟨vkd_sv.trans l1, vln_sv.trans l2, z _ l3, z _ l4, z _ l5⟩, ⟨vkd_sv.trans l6, vln_sv.trans l7, ?_, ?_⟩, ⟨vkd_sv.trans m1, vln_sv.trans m2⟩, ⟨vkd_sv.trans m3, vln_sv.trans m4⟩, vkd_sv.trans m5, ?_⟩
  · exact (vct_svo (fun e => by omega)).trans k2
  · exact (vct_svo (fun e => by omega)).trans k3
  · exact (vct_svo (fun e => by omega)).trans k4
  · exact (vct_svo (fun e => by omega)).trans k9
  · exact (vct_svo (fun e => by omega)).trans l8
  · exact (vct_svo (fun e => by omega)).trans l9
  · exact (vct_svo (fun e => by omega)).trans m6
theorem ST.sg (h : ST W) (h3 : vct W 58 3 = 1) : SG W := by
  obtain ⟨⟨k1, k2, k3, k4⟩, ⟨k5, k6⟩, k7, l1, l6, m1, ⟨m3, m4⟩, m5, m6⟩ := h
  exact ⟨k1, k3, k4, h3, k7, l1, l6, m1, m3, m4⟩
theorem c285 (hS : ST W) {N S : Nat} (hf : fr N S w W) (hq : ∀ W', ST W' → vct W' 58 3 = 1 → vct W' 59 0 = 0 → fr N S w W' → Q 0 W') : VC (d + 3) 285 [(2, 58), (2, 1)] W Q := by
  have h1 : ST (vsv W 58 3 0) := hS.sv (by decide) (by decide) (by decide) (by decide) (by decide)
  have f1 : fr N S w (vsv W 58 3 0) := hf.sv (by decide)
  have v1 : vct (vsv W 58 3 0) 58 3 = 0 := vct_svi
  refine e285.mpr (b285_0.mpr ⟨hS.1.1, b285_5.mpr ?_⟩)
  generalize vsv W 58 3 0 = W1 at h1 f1 v1 ⊢
  have h2 : ST (vsv W1 59 0 0) := h1.sv (by decide) (by decide) (by decide) (by decide) (by decide)
  have f2 : fr N S w (vsv W1 59 0 0) := f1.sv (by decide)
  have v2 : vct (vsv W1 59 0 0) 58 3 = 0 := (vct_svo (by decide)).trans v1
  have v3 : vct (vsv W1 59 0 0) 59 0 = 0 := vct_svi
  refine ⟨h1.1.1, e286.mpr (b286_0.mpr ⟨h1.1.1, e287.mpr (b287_0.mpr (b287_2.mpr ⟨h1.1.1, fun g => absurd g (by rw [v1]; decide), fun _ => b287_35.mpr (b286_5.mpr ⟨fun _ => b286_9.mpr ⟨h1.1.1, fun _ => b286_18.mpr ?_, fun g => absurd (show vct W1 58 3 < 49 by rw [v1]; decide) g⟩, fun g => absurd rfl g⟩)⟩))⟩)⟩
  rw [h1.1.2.1, v1]
  refine ⟨h1.1.1, h1.1.1, ⟨h1.2.1.1, Int.le_refl 0, by rw [h1.2.1.2]; decide⟩, b286_28.mpr ?_⟩
  generalize vsv W1 59 0 0 = W2 at h2 f2 v2 v3 ⊢
  rw [v2, show w32 ((0 : Int) + 1) = 1 from by decide]
  have h3 : ST (vsv W2 58 3 1) := h2.sv (by decide) (by decide) (by decide) (by decide) (by decide)
  refine ⟨h2.1.1, h2.1.1, b286_38.mpr (b285_10.mpr (b285_12.mpr ⟨h3.2.2.2.2.2.2.2.1, fun g => absurd g (by rw [h3.2.2.2.2.2.2.2.2]; decide), fun _ => b285_61.mpr (hq _ h3 vct_svi ((vct_svo (by decide)).trans v3) (f2.sv (by decide)))⟩))⟩
theorem x_row (hn : n ≤ 20) {N S : Nat} (hq : ∀ W', ST W' → vct W' 58 3 = 1 → vct W' 111 0 = 1 → fr N S w W' → ∀ v6 v7 : vV, VW (d + 4) 284 108 [(2, 58), (2, 1), (0, (n : Int)), (0, 3), (0, 0), (0, 8), v6, v7] [] W' Q) : ∀ (q j : Nat), q + j = 8 → ∀ (v6 : vV) (W : vW), ST W → vct W 58 3 = 1 → vct W 59 0 = 0 → vct W 111 0 = 1 → fr N S w W → VW (d + 4) 284 46 [(2, 58), (2, 1), (0, (n : Int)), (0, 3), (0, 0), (0, (j : Int)), v6, (9, 0)] [] W Q := by
  intro q
  induction q with
  | zero =>
    intro j hj v6 W h1 v1 v2 v3 f1
    have : j = 8 := by omega
    subst this
    exact b284_46.mpr ⟨fun g => absurd g (by decide), fun _ => hq W h1 v1 v3 f1 v6 (9, 0)⟩
  | succ q ih =>
    intro j hj v6 W h1 v1 v2 v3 f1
    refine b284_46.mpr ⟨fun _ => b284_53.mpr ?_, fun g => absurd (show (j : Int) < 8 by omega) g⟩
    rw [w32_id (z := (j : Int) + 1) (by omega) (by omega)]
    refine (y274x (x := (j : Int) + 1) (by omega) (by omega)).mpr (b284_62.mpr ?_)
    rw [h1.1.2.2.1, h1.2.2.1.2.2, h1.1.2.1]
    refine ⟨h1.1.1, ⟨h1.2.2.1.1, Int.le_refl 0, by rw [h1.2.2.1.2.1]; decide⟩, h1.1.1, ⟨h1.2.1.1, Int.le_refl 0, by rw [h1.2.1.2]; decide⟩, h1.1.1, ⟨h1.2.1.1, Int.le_refl 0, by rw [h1.2.1.2]; decide⟩, (y273 v2).mpr (b284_92.mpr ((y278x v2 rfl rfl (by omega) (by omega)).mpr (b284_98.mpr ⟨h1.1.1, y288x (by omega) (by omega) h1.2.2.2.2.2.2.2.1 h1.2.2.2.2.2.2.2.2 h1.1.1 v1 (by rw [h1.1.2.1]; exact h1.2.1.1) (by rw [h1.1.2.1]; exact h1.2.1.2) (by rw [h1.1.2.1]; exact v2) (b284_101.mpr ⟨⟨h1.2.2.2.1.1, by omega, by rw [h1.2.2.2.1.2.1]; omega⟩, b284_102.mpr ?_⟩)⟩)))⟩
    rw [w32_id (z := (j : Int) + 1) (by omega) (by omega)]
    rw [show (j : Int) + 1 = ((j + 1 : Nat) : Int) from by omega]
    exact ih (j + 1) (by omega) _ (vsv W 61 (j : Int) 0) (h1.sv (fun e => absurd e.1 (by decide)) (by decide) (fun _ => rfl) (by decide) (by decide)) ((vct_svo (by omega)).trans v1) ((vct_svo (by omega)).trans v2) ((vct_svo (by omega)).trans v3) (f1.sv (by decide))
theorem c284 (hn : n ≤ 20) {N S : Nat} (hS : ST W) (hf : fr N S w W) (hq : ∀ W', fr N S w W' → Q (3 ^ n) W') : VC (d + 5) 284 [(2, 58), (2, 1), (0, (n : Int)), (0, 3)] W Q := by
  refine e284.mpr (b284_0.mpr ⟨hS.1.1, c285 (d := d + 1) hS hf fun W1 h1 v1 v2 f1 => b284_5.mpr (b284_8.mpr ⟨h1.1.1, fun _ => b284_17.mpr ⟨fun _ => b284_24.mpr ?_, fun g => absurd (show (0 : Int) < 49 by decide) g⟩, fun g => absurd (show (0 : Int) < vct W1 58 3 by rw [v1]; decide) g⟩)⟩)
  rw [h1.1.2.2.2, h1.2.2.2.2.1.2.2.1]
  refine ⟨h1.1.1, ⟨h1.2.2.2.2.1.1, Int.le_refl 0, by rw [h1.2.2.2.2.1.2.1]; decide⟩, fun _ => b284_37.mpr (b284_42.mpr ⟨⟨h1.2.2.2.2.2.1.1, Int.le_refl 0, by rw [h1.2.2.2.2.2.1.2]; decide⟩, b284_43.mpr ?_⟩), fun g => absurd rfl g⟩
  refine x_row (d := d) (w := w) (N := N) (S := S) hn (fun W2 h2 u1 u2 f2 v6 v7 => b284_108.mpr ?_) 8 0 rfl (9, 0) _ (h1.sv (by decide) (by decide) (by decide) (by decide) (by decide)) ((vct_svo (by decide)).trans v1) ((vct_svo (by decide)).trans v2) vct_svi (f1.sv (by decide))
  rw [show w32 ((0 : Int) + 1) = 1 from by decide]
  refine b284_8.mpr ⟨h2.1.1, fun g => absurd g (by rw [u1]; decide), fun _ => b284_114.mpr ?_⟩
  exact x_go (d := d) hn hq n 0 (by omega) (0, 8) v6 v7 W2 (h2.sg u1) f2 u2
theorem fr.cong {N S N' S' : Nat} (h : fr N S w W) (e1 : N = N') (e2 : S = S') : fr N' S' w W := by subst e1; subst e2; exact h
def mkS (w : vW) : vW := vsv (vsv (vsv (vnwm (vsv (vnwm (vsv (vnw (vnw w 19 4 (vdfl 19) 4) 2 49 (fun _ => 0) 49) 58 0 59) 6 1 49 8) 58 1 60) 7 2 2 49) 58 2 110) 58 3 0) 0 12 58
theorem mkS_fr (hv : vnt w = 58) : fr 55 594 w (mkS w) :=
  fr.cong ((((fr.nwm (ko := 7) (ki := 2) (z := 2) (y := 49) ((fr.nwm (ko := 6) (ki := 1) (z := 49) (y := 8) ((((fr.rf (w := w)).nw (k := 19) (z := 4) (c := vdfl 19) (m := 4) (by omega)).nw (k := 2) (z := 49) (c := fun _ => 0) (m := 49) (by omega)).sv (a := 58) (i := 0) (v := 59) (by decide)) (by omega) (by decide)).sv (a := 58) (i := 1) (v := 60) (by decide)) (by omega) (by decide)).sv (a := 58) (i := 2) (v := 110) (by decide)).sv (a := 58) (i := 3) (v := 0) (by decide)).sv (a := 0) (i := 12) (v := 58) (by decide)) (by decide) (by decide)
theorem mkS_ST (hX : FX w) (hv : vnt w = 58) : ST (mkS w) := by
  refine ⟨⟨?_, ?_, ?_, ?_⟩, ⟨?_, ?_⟩, ⟨?_, ?_, ?_⟩, ⟨?_, ?_, ?_, ?_, ?_⟩, ⟨?_, ?_, ?_, ?_⟩, ⟨?_, ?_⟩, ⟨?_, ?_⟩, ?_, ?_⟩ <;> simp only [mkS, ↓ifbr, vkd_sv, vln_sv, vct_sv, vnt_sv, vkd_nw, vln_nw, vct_nw, vnt_nw, vlc_lt, vlc_gt, vlc_eq, w32_id, w64_id, ne_eq, not_false_eq_true, not_true_eq_false, true_and, and_true, false_and, and_false, true_implies, implies_true, false_implies, Int.zero_add, Int.add_zero, Int.le_refl, Int.lt_irrefl, Int.min_def, Int.max_def, if_true, if_false, eq_self, and_self, ↓reduceIte, Int.reduceNeg, Int.reduceAdd, Int.reduceSub, Int.reduceMul, Int.reduceLT, Int.reduceLE, Int.reduceEq, Int.reduceNe, Int.reduceToNat, Int.reduceTDiv, Int.reduceTMod, Nat.reduceEqDiff, Nat.reduceAdd, vkd_nwm, vln_nwm, vct_nwm, vnt_nwm, hv, fxk_1 hX, fx_1_3 hX]
set_option maxRecDepth 20000 in
theorem x_still_y (hX : FX w) (hv : vnt w = 58) (hn : n ≤ 20) (h : ∀ r w1 k s, STR (n : Int) r (3 ^ n) → fr k s w w1 → k ≤ 100 → s ≤ 100000 → Q r w1) : VC (d + 20) 39 [(2, 0), (0, (n : Int))] w Q := by
  have a1 : ¬ (n : Int) < 0 := by omega
  have a2 : ¬ 20 < (n : Int) := by omega
  have go : VC (d + 19) 284 [(2, 58), (2, 1), (0, (n : Int)), (0, 3)] (mkS w) (fun r w1 => Q r w1) :=
    c284 (d := d + 14) hn (mkS_ST hX hv) (mkS_fr hv) fun W' f' => h _ _ 55 594 (Or.inl ⟨by omega, by omega, rfl⟩) f' (by decide) (by decide)
  simp only [↓ifbr, vkd_sv, vln_sv, vct_sv, vnt_sv, vkd_nw, vln_nw, vct_nw, vnt_nw, vlc_lt, vlc_gt, vlc_eq, w32_id, w64_id, ne_eq, not_false_eq_true, not_true_eq_false, true_and, and_true, false_and, and_false, true_implies, implies_true, false_implies, Int.zero_add, Int.add_zero, Int.le_refl, Int.lt_irrefl, Int.min_def, Int.max_def, if_true, if_false, eq_self, and_self, ↓reduceIte, Int.reduceNeg, Int.reduceAdd, Int.reduceSub, Int.reduceMul, Int.reduceLT, Int.reduceLE, Int.reduceEq, Int.reduceNe, Int.reduceToNat, Int.reduceTDiv, Int.reduceTMod, Nat.reduceEqDiff, Nat.reduceAdd, hv, a1, a2, fxk_0 hX, fx_0_0 hX, fx_0_3 hX, fx_0_12 hX, fxk_14 hX, fx_14_4 hX, vkd_nwm, vln_nwm, vct_nwm, vnt_nwm, ↓b39_0, ↓b39_4, ↓b39_10, ↓b39_14, ↓b39_21, ↓b39_25, ↓b39_29, ↓b39_32, ↓b39_51, ↓b283_0, ↓b283_9, ↓b283_12, ↓b283_21, ↓b283_24, ↓b283_32, ↓b283_35, ↓b283_40, ↓e39, ↓e283]
  exact go
theorem x_still (hX : FX w) (hv : vnt w = 58) {m : Int} (h : ∀ r w1 n s, STR m r (3 ^ m.toNat) → fr n s w w1 → n ≤ 100 → s ≤ 100000 → Q r w1) : VC (d + 20) 39 [(2, 0), (0, m)] w Q := by
  by_cases hm : 0 ≤ m ∧ m ≤ 20
  · obtain ⟨n, rfl⟩ : ∃ n : Nat, m = n := ⟨m.toNat, by omega⟩
    rw [Int.toNat_natCast] at h
    exact x_still_y hX hv (by omega) h
  · exact x_still_no hX hm h
end XSTILL
