/-! sorts: rows that are in order already -/
theorem vsv_self {w : vW} {a i : Int} : vsv w a i (vct w a i) = w := by
  rw [vsv_up]
  have e : (fun j => if j = i then vct w a i else vct w a j) = vct w a := funext fun j => by
    by_cases h : j = i
    · rw [if_pos h, h]
    · rw [if_neg h]
  rw [e, vup_self]
theorem sp_mono (n : Nat) : ∀ j k : Nat, j < k → k < 3 ^ n → c9 (sp j n) < c9 (sp k n) ∧ c16 (sp j n) < c16 (sp k n) := by
  induction n with
  | zero => intro j k h1 h2; rw [Nat.pow_zero] at h2; omega
  | succ n ih =>
    intro j k h1 h2
    rw [Nat.pow_succ] at h2
    rw [sp_s, sp_s, c9_snoc, c9_snoc, c16_snoc, c16_snoc]
    rcases Nat.lt_or_ge (j / 3) (k / 3) with h3 | h3
    · have h4 := ih _ _ h3 (by omega)
      omega
    · have h4 : j / 3 = k / 3 := by omega
      rw [h4]
      omega
theorem pk_mono {n : Nat} (hn : n ≤ 14) {j k : Nat} (h : j < k) (hk : k < 3 ^ n) : pk (sp j n) < pk (sp k n) := by
  have h1 := (sp_mono n j k h hk).2
  unfold pk
  rw [sp_len, sp_len]
  omega
section SO
variable {d : Nat} {w W W' : vW} {Q : Int → vW → Prop} {A k g c m a : Int} {G n M : Nat}
/-- a row that is in order stays as it is -/
theorem c282 (h1 : vkd W a = 2) (h2 : (M : Int) ≤ vln W a) (hM : M ≤ 4096) (hs : ∀ i j : Nat, i < j → j < M → vct W a (i : Int) < vct W a (j : Int)) (hq : Q 0 W) : VC (d + 1) 282 [(2, a), (0, (M : Int))] W Q := by
  have L1 : ∀ (gp : Nat), 1 ≤ gp → gp ≤ 4096 → ∀ (q i : Nat), q + i = M → gp ≤ i → ∀ v5 v6 v7 : vV, (∀ v4 v5 v6 v7 : vV, ∀ i : Int, VW d 282 83 [(2, a), (0, (M : Int)), (0, (M : Int)), (0, (gp : Int)), (0, i), v5, v6, v7] [] W Q) → VW d 282 18 [(2, a), (0, (M : Int)), (0, (M : Int)), (0, (gp : Int)), (0, (i : Int)), v5, v6, v7] [] W Q := by
    intro gp h0 h9 q
    induction q with
    | zero => intro i hi _ v5 v6 v7 hn; exact b282_18.mpr ⟨fun h => absurd h (by omega), fun _ => hn (9, 0) v5 v6 v7 _⟩
    | succ q ih =>
      intro i hi hgi v5 v6 v7 hn
      refine b282_18.mpr ⟨fun _ => b282_24.mpr ⟨⟨h1, by omega, by omega⟩, b282_34.mpr ⟨fun h => absurd h (by omega), fun _ => b282_40.mpr ?_⟩⟩, fun h => absurd (show (i : Int) < (M : Int) by omega) h⟩
      rw [w32_id (z := (i : Int) - (gp : Int)) (by omega) (by omega), show (i : Int) - (gp : Int) = ((i - gp : Nat) : Int) by omega]
      have hlt := hs (i - gp) i (by omega) (by omega)
      refine ⟨⟨h1, by omega, by omega⟩, fun h => absurd (vlc_gt.mp h) (by omega), fun _ => b282_71.mpr ⟨⟨h1, by omega, by omega⟩, ?_⟩⟩
      rw [vsv_self]
      refine b282_77.mpr ?_
      rw [w32_id (z := (i : Int) + 1) (by omega) (by omega)]
      have h9 := ih (i + 1) (by omega) (by omega) (1, vct W a (i : Int)) (9, 0) (0, (i : Int)) hn
      exact_mod_cast h9
  have L2 : ∀ (b gp : Nat), gp ≤ b → gp ≤ 4096 → ∀ v4 v5 v6 v7 : vV, VW d 282 11 [(2, a), (0, (M : Int)), (0, (M : Int)), (0, (gp : Int)), v4, v5, v6, v7] [] W Q := by
    intro b
    induction b with
    | zero => intro gp hg _ v4 v5 v6 v7; exact b282_11.mpr ⟨fun h => absurd h (by omega), fun _ => b282_102.mpr hq⟩
    | succ b ih =>
      intro gp hg h4 v4 v5 v6 v7
      refine b282_11.mpr ⟨fun hp => b282_15.mpr ?_, fun _ => b282_102.mpr hq⟩
      have nx : ∀ v4 v5 v6 v7 : vV, ∀ i : Int, VW d 282 83 [(2, a), (0, (M : Int)), (0, (M : Int)), (0, (gp : Int)), (0, i), v5, v6, v7] [] W Q := by
        intro _ v5 v6 v7 i
        refine b282_83.mpr ⟨fun h => b282_88.mpr (b282_98.mpr (ih 1 (by omega) (by omega) _ v5 v6 v7)), fun h => b282_92.mpr (b282_98.mpr ?_)⟩
        rw [w32_id (z := (gp : Int) * 5) (by omega) (by omega), tdiv_nn (by omega), w32_id (z := (gp : Int) * 5 / 11) (by omega) (by omega), show (gp : Int) * 5 / 11 = ((gp * 5 / 11 : Nat) : Int) by omega]
        exact ih (gp * 5 / 11) (by omega) (by omega) _ v5 v6 v7
      rcases Nat.lt_or_ge M gp with h5 | h5
      · exact b282_18.mpr ⟨fun h => absurd h (by omega), fun _ => nx (9, 0) v5 v6 v7 _⟩
      · exact L1 gp (by omega) h4 (M - gp) gp (by omega) (Nat.le_refl _) v5 v6 v7 nx
  refine e282.mpr (b282_0.mpr ⟨h1, ?_⟩)
  rw [show min (M : Int) (vln W a) = (M : Int) by omega, tdiv_nn (by omega), w32_id (z := (M : Int) / 2) (by omega) (by omega), show (M : Int) / 2 = ((M / 2 : Nat) : Int) by omega]
  exact L2 (M / 2) (M / 2) (Nat.le_refl _) (by omega) _ _ _ _
/-- each is left once -/
theorem c188 (hF : FN W A k g) (hD : FD W A G 0) (hn : n < G) (h7 : n ≤ 7) (hq : ∀ W', FN W' A k g → fa A W W' → (∃ l, OKL l ∧ vct W' A 8 = pk l) → Q ((3 ^ n : Nat) : Int) W') : VC (d + 4) 188 [(2, A), (0, (n : Int))] W Q := by
  have hp := p3_le h7
  refine e188.mpr (b188_0.mpr ⟨hF.1, (y178 hF.2.2.2.2.2.2.1 (by omega)).mpr (b188_8.mpr ?_)⟩)
  rw [hF.2.2.2.2.1, hF.2.2.2.2.2.2.2.2.2.2.2.2.2.2.2.2, mn_le h7, show min ((3 ^ n : Nat) : Int) 4096 = ((3 ^ n : Nat) : Int) by omega]
  refine ⟨hF.1, hF.2.2.2.2.2.2.2.2.2.2.2.2.2.2.2.1, ?_⟩
  have L1 : ∀ (q j : Nat), q + j = 3 ^ n → ∀ W', FN W' A k g → FD W' A G 0 → fa A W W' → (∀ i : Nat, i < j → vct W' (A + 4) (i : Int) = pk (sp i n)) → (∀ W', FN W' A k g → fa A W W' → (∀ i : Nat, i < 3 ^ n → vct W' (A + 4) (i : Int) = pk (sp i n)) → VW (d + 3) 188 42 [(2, A), (0, (n : Int)), (0, ((3 ^ n : Nat) : Int)), (0, ((3 ^ n : Nat) : Int)), (9, 0), (9, 0), (9, 0)] [] W' Q) → VW (d + 3) 188 19 [(2, A), (0, (n : Int)), (0, ((3 ^ n : Nat) : Int)), (0, (j : Int)), (9, 0), (9, 0), (9, 0)] [] W' Q := by
    intro q
    induction q with
    | zero =>
      intro j hj W' F' D' f' hv hn2
      have : j = 3 ^ n := by omega
      subst this
      exact b188_19.mpr ⟨fun h => absurd h (by omega), fun _ => hn2 W' F' f' hv⟩
    | succ q ih =>
      intro j hj W' F' D' f' hv hn2
      refine b188_19.mpr ⟨fun _ => b188_24.mpr ⟨F'.1, F'.1, (y184 F' D' hn h7 (by omega)).mpr (b188_35.mpr ?_)⟩, fun h => absurd (show (j : Int) < ((3 ^ n : Nat) : Int) by omega) h⟩
      rw [F'.2.2.2.2.1]
      refine ⟨⟨F'.2.2.2.2.2.2.2.2.2.2.2.2.2.2.2.1, by omega, by rw [F'.2.2.2.2.2.2.2.2.2.2.2.2.2.2.2.2]; omega⟩, b188_36.mpr ?_⟩
      rw [w32_id (z := (j : Int) + 1) (by omega) (by omega)]
      have h9 := ih (j + 1) (by omega) (vsv W' (A + 4) (j : Int) (pk (sp j n))) (F'.row (by omega)) (D'.same (vct_svw (by omega)) (vct_svw (by omega)) (vct_svw (by omega))) (f'.sv (by omega)) (fun i hi => by
        rw [vct_sv]
        by_cases e : i = j
        · subst e; rw [if_pos ⟨rfl, rfl⟩]
        · rw [if_neg (fun x => e (Int.ofNat.inj x.2))]; exact hv i (by omega)) hn2
      exact_mod_cast h9
  refine L1 (3 ^ n) 0 (by omega) W hF hD fa.rf (fun i hi => absurd hi (by omega)) fun W2 F2 f2 hv => b188_42.mpr ?_
  rw [F2.2.2.2.2.1]
  refine ⟨F2.1, c282 F2.2.2.2.2.2.2.2.2.2.2.2.2.2.2.2.1 (by rw [F2.2.2.2.2.2.2.2.2.2.2.2.2.2.2.2.2]; omega) (by omega) (fun i j hij hj => by rw [hv i (by omega), hv j hj]; exact pk_mono (by omega) hij hj) (b188_50.mpr ⟨F2.1, b188_60.mpr ?_⟩)⟩
  have L3 : ∀ (q j : Nat), q + j = 3 ^ n → ∀ (sa : Int) (v6 : vV) W', FN W' A k g → fa A W W' → (∀ i : Nat, i < 3 ^ n → vct W' (A + 4) (i : Int) = pk (sp i n)) → (j = 0 ∧ vct W' A 9 = 0 ∨ 0 < j ∧ vct W' A 9 = 1 ∧ ∃ l, OKL l ∧ vct W' A 8 = pk l) → VW (d + 3) 188 63 [(2, A), (0, (n : Int)), (0, ((3 ^ n : Nat) : Int)), (0, (j : Int)), (0, sa), (0, (j : Int)), v6] [] W' Q := by
    intro q
    induction q with
    | zero =>
      intro j hj sa v6 W' F' f' hv hst
      have : j = 3 ^ n := by omega
      subst this
      rcases hst with ⟨h0, -⟩ | ⟨-, -, hl⟩
      · omega
      · exact b188_63.mpr ⟨fun h => absurd h (by omega), fun _ => b188_161.mpr (hq W' F' f' hl)⟩
    | succ q ih =>
      intro j hj sa v6 W' F' f' hv hst
      have nx : VW (d + 3) 188 99 [(2, A), (0, (n : Int)), (0, ((3 ^ n : Nat) : Int)), (0, (j : Int)), (0, sa), (0, (j : Int)), v6] [(0, 1)] W' Q := by
        refine b188_99.mpr ⟨fun h => absurd h (by decide), fun _ => b188_107.mpr (b188_112.mpr ⟨fun h => absurd h (by decide), fun _ => b188_119.mpr (b188_127.mpr ⟨F'.1, fun hlt => b188_138.mpr ⟨F'.1, b188_144.mpr ?_⟩, fun hge => b188_155.mpr ?_⟩)⟩)⟩
        · have F2 : FN (vsv W' A 9 1) A k g := F'.fld (by decide)
          rw [F2.2.2.2.2.1, show vct (vsv W' A 9 1) (A + 4) (j : Int) = pk (sp j n) from (vct_svo (fun x => absurd x.1 (by omega))).trans (hv j (by omega))]
          refine ⟨F2.1, ⟨F2.2.2.2.2.2.2.2.2.2.2.2.2.2.2.2.1, by omega, by rw [F2.2.2.2.2.2.2.2.2.2.2.2.2.2.2.2.2]; omega⟩, F2.1, b188_155.mpr ?_⟩
          rw [w32_id (z := (j : Int) + 1) (by omega) (by omega)]
          have h9 := ih (j + 1) (by omega) 1 (0, 1) (vsv (vsv W' A 9 1) A 8 (pk (sp j n))) (F2.fld (by decide)) ((f'.sv (by omega)).sv (by omega)) (fun i hi => by rw [vct_svo (fun x => absurd x.1 (by omega)), vct_svo (fun x => absurd x.1 (by omega))]; exact hv i hi) (Or.inr ⟨by omega, (vct_svo (fun x => absurd x.2 (by decide))).trans vct_svi, sp j n, sp_okl (by omega) j, vct_svi⟩)
          exact_mod_cast h9
        · rw [w32_id (z := (j : Int) + 1) (by omega) (by omega)]
          rcases hst with ⟨-, h0⟩ | ⟨h0, h1, hl⟩
          · rw [h0] at hge; exact absurd (by decide) hge
          · have h9 := ih (j + 1) (by omega) 1 (0, 1) W' F' f' hv (Or.inr ⟨by omega, h1, hl⟩)
            exact_mod_cast h9
      refine b188_63.mpr ⟨fun _ => b188_69.mpr ⟨fun _ => b188_94.mpr nx, fun h0 => b188_74.mpr ?_⟩, fun h => absurd (show (j : Int) < ((3 ^ n : Nat) : Int) by omega) h⟩
      rw [F'.2.2.2.2.1, w32_id (z := (j : Int) - 1) (by omega) (by omega), show (j : Int) - 1 = ((j - 1 : Nat) : Int) by omega, hv j (by omega), hv (j - 1) (by omega)]
      have hmo := pk_mono (show n ≤ 14 by omega) (show j - 1 < j by omega) (show j < 3 ^ n by omega)
      refine ⟨F'.1, ⟨F'.2.2.2.2.2.2.2.2.2.2.2.2.2.2.2.1, by omega, by rw [F'.2.2.2.2.2.2.2.2.2.2.2.2.2.2.2.2]; omega⟩, F'.1, ⟨F'.2.2.2.2.2.2.2.2.2.2.2.2.2.2.2.1, by omega, by rw [F'.2.2.2.2.2.2.2.2.2.2.2.2.2.2.2.2]; omega⟩, fun h => absurd (vlc_eq.mp h) (by omega), fun _ => b188_94.mpr nx⟩
  exact L3 (3 ^ n) 0 (by omega) 0 (9, 0) (vsv W2 A 9 0) (F2.fld (by decide)) (f2.sv (by omega)) (fun i hi => by rw [vct_svo (fun x => absurd x.1 (by omega))]; exact hv i hi) (Or.inl ⟨rfl, vct_svi⟩)
theorem x_sorts (hX : FX w) (hv : vnt w = 58) (h : ∀ r w1 k s, COMR c m ((3 ^ m.toNat : Nat) : Int) r → fr k s w w1 → k ≤ 100 → s ≤ 100000 → Q r w1) : VC (d + 20) 40 [(2, 0), (0, c), (0, m)] w Q := by
  refine e40.mpr (b40_0.mpr ⟨fxk_0 hX, (y42 hX.cx).mpr (b40_6.mpr ?_)⟩)
  rcases rf_cases c m with ⟨e, c', n', rfl, rfl, hc, hn⟩ | ⟨e, hh⟩ | ⟨e, hh⟩
  · rw [e]
    refine ⟨fun h => absurd h (by decide), fun _ => b40_13.mpr ⟨fxk_0 hX, fof_new hX.cx hc rfl hv (by decide) hn hX.r1 fun W1 F1 D1 R1' C1 g1 g2 g3 g4 => b40_19.mpr ⟨F1.1, c188 F1 D1 (by omega) hn fun W2 F2 f2 h8 => b40_27.mpr ?_⟩⟩⟩
    obtain ⟨l, hl, h8⟩ := h8
    have fr2 : fr 5 20505 w W2 := (fr_new g1 hv g2 g3 g4).fa (by decide) f2
    have same : ∀ b : Int, b < 58 → b ≠ 24 → W2.1 b = w.1 b := fun b h1 h2 => (f2.2 b (by omega)).trans (g1 b h1 h2)
    have T2 : TC W2 := hX.tc.ce (same 0 (by decide) (by decide)) (same 12 (by decide) (by decide)) (same 13 (by decide) (by decide))
    have k0 : vkd W2 0 = 21 := (vkd_cl (same 0 (by decide) (by decide))).trans (fxk_0 hX)
    rw [T2.1]
    have T3 : TC (vsv W2 12 1 0) := ⟨(vct_svo (fun x => absurd x.1 (by decide))).trans T2.1, vkd_sv.trans T2.2.1, (vct_svo (fun x => absurd x.2 (by decide))).trans T2.2.2.1, vkd_sv.trans T2.2.2.2.1, vln_sv.trans T2.2.2.2.2⟩
    have e8 : vct (vsv W2 12 1 0) 58 8 = pk l := (vct_svo (fun x => absurd x.1 (by decide))).trans h8
    refine ⟨k0, T2.2.1, (y291 T2).mpr (b40_36.mpr ?_)⟩
    rw [e8, T3.1]
    refine ⟨vkd_sv.trans k0, vkd_sv.trans F2.1, (c281i hl).mpr (b40_48.mpr ⟨T3.2.1, (y293 T3 vct_svi (by decide) (by decide)).mpr (b40_51.mpr ?_)⟩)⟩
    have T4 : TC (vsv (vsv (vsv W2 12 1 0) 13 0 (c9 l)) 12 1 (0 + 1)) := ⟨(vct_svo (fun x => absurd x.1 (by decide))).trans ((vct_svo (fun x => absurd x.1 (by decide))).trans T3.1), vkd_sv.trans (vkd_sv.trans T3.2.1), (vct_svo (fun x => absurd x.2 (by decide))).trans ((vct_svo (fun x => absurd x.1 (by decide))).trans T3.2.2.1), vkd_sv.trans (vkd_sv.trans T3.2.2.2.1), vln_sv.trans (vln_sv.trans T3.2.2.2.2)⟩
    have f4 : fr 5 20505 w (vsv (vsv (vsv W2 12 1 0) 13 0 (c9 l)) 12 1 (0 + 1)) := ((fr2.sv (by decide)).sv (by decide)).sv (by decide)
    have k4 : vkd (vsv (vsv (vsv W2 12 1 0) 13 0 (c9 l)) 12 1 (0 + 1)) 0 = 21 := vkd_sv.trans (vkd_sv.trans (vkd_sv.trans k0))
    have m4 : vkd (vsv (vsv (vsv W2 12 1 0) 13 0 (c9 l)) 12 1 (0 + 1)) 58 = 13 := vkd_sv.trans (vkd_sv.trans (vkd_sv.trans F2.1))
    have s4 : vct (vsv (vsv (vsv W2 12 1 0) 13 0 (c9 l)) 12 1 (0 + 1)) 12 1 = 1 := vct_svi
    generalize vsv (vsv (vsv W2 12 1 0) 13 0 (c9 l)) 12 1 (0 + 1) = W4 at T4 f4 k4 m4 s4 ⊢
    rw [T4.1]
    refine ⟨k4, m4, T4.2.1, (y293 T4 s4 (by decide) (by decide)).mpr (b40_64.mpr (h _ _ 5 20505 (Or.inl ⟨by omega, by omega, by omega, by omega, by rw [Int.toNat_natCast]⟩) ((f4.sv (by decide)).sv (by decide)) (by decide) (by decide)))⟩
  · rw [e]
    exact ⟨fun _ => b40_11.mpr (h _ _ 0 0 (Or.inr (Or.inl ⟨hh.1, hh.2.1, hh.2.2.1, hh.2.2.2, rfl⟩)) fr.rf (by decide) (by decide)), fun h => absurd (show (-3 : Int) < 0 by decide) h⟩
  · rw [e]
    exact ⟨fun _ => b40_11.mpr (h _ _ 0 0 (Or.inr (Or.inr ⟨hh, rfl⟩)) fr.rf (by decide) (by decide)), fun h => absurd (show (-1 : Int) < 0 by decide) h⟩
end SO
