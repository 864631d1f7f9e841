def COMR (c n z r : Int) : Prop := (0 ≤ c ∧ c ≤ 2 ∧ 0 ≤ n ∧ n ≤ 7 ∧ r = z) ∨ (0 ≤ c ∧ c ≤ 2 ∧ 8 ≤ n ∧ n ≤ 14 ∧ r = -3) ∨ (¬ (0 ≤ c ∧ c ≤ 2 ∧ 0 ≤ n ∧ n ≤ 14) ∧ r = -1)
theorem rf_cases (c n : Int) : (rf c n = 0 ∧ ∃ c' n' : Nat, c = c' ∧ n = n' ∧ c' < 3 ∧ n' ≤ 7) ∨ (rf c n = -3 ∧ 0 ≤ c ∧ c ≤ 2 ∧ 8 ≤ n ∧ n ≤ 14) ∨ (rf c n = -1 ∧ ¬ (0 ≤ c ∧ c ≤ 2 ∧ 0 ≤ n ∧ n ≤ 14)) := by
  unfold rf
  by_cases hv : 0 ≤ c ∧ c ≤ 2 ∧ 0 ≤ n ∧ n ≤ 14
  · rw [if_pos hv]
    by_cases h7 : n ≤ 7
    · rw [if_pos h7]; exact Or.inl ⟨rfl, c.toNat, n.toNat, by omega, by omega, by omega, by omega⟩
    · rw [if_neg h7]; exact Or.inr (Or.inl ⟨rfl, by omega⟩)
  · rw [if_neg hv]; exact Or.inr (Or.inr ⟨rfl, hv⟩)
section XO
variable {d : Nat} {w : vW} {Q : Int → vW → Prop} {c n : Int} {l : List Int}
theorem fr_new {W1 : vW} (h1 : ∀ b : Int, b < 58 → b ≠ 24 → W1.1 b = w.1 b) (hv : vnt w = 58) (h2 : vnt W1 = 58 + 5) (h3 : vec W1 = vec w + 5) (h4 : ves W1 = ves w + 20505) : fr 5 20505 w W1 := ⟨fun b hb => h1 b (by omega) (by omega), by omega, h3, h4⟩
theorem x_come_n (hX : FX w) {x : Int} (hr : R64 x) (hno : noS x) (h : ∀ r w1 n s, r = -1 → fr n s w w1 → n ≤ 100 → s ≤ 100000 → Q r w1) : VC (d + 20) 36 [(2, 0), (0, c), (0, n), (1, x)] w Q :=
  e36.mpr (b36_0.mpr ((y280n hr hno).mpr (b36_4.mpr ⟨fun _ => b36_13.mpr (b36_23.mpr ⟨fun _ => b36_30.mpr (h _ _ 0 0 rfl fr.rf (by decide) (by decide)), fun h => absurd (show (-1 : Int) < 0 by decide) h⟩), fun h => absurd (vlc_lt.mpr (by decide)) h⟩)))
theorem x_come_l (hX : FX w) (hv : vnt w = 58) (hl : OKL l) (h : ∀ r w1 k s, COMR c n (cnt n.toNat l (3 ^ n.toNat)) r → fr k s w w1 → k ≤ 100 → s ≤ 100000 → Q r w1) : VC (d + 20) 36 [(2, 0), (0, c), (0, n), (1, c9 l)] w Q := by
  have hp := pk_bd hl
  refine e36.mpr (b36_0.mpr ((y280y hl).mpr (b36_4.mpr ⟨fun h => absurd (vlc_lt.mp h) (by omega), fun _ => b36_17.mpr ⟨fxk_0 hX, (y42 hX.cx).mpr (b36_23.mpr ?_)⟩⟩)))
  rcases rf_cases c n with ⟨e, c', n', rfl, rfl, hc, hn⟩ | ⟨e, hh⟩ | ⟨e, hh⟩
  · rw [e]
    refine ⟨fun h => absurd h (by decide), fun _ => b36_33.mpr ⟨fxk_0 hX, fof_new hX.cx hc rfl hv (by decide) hn hX.r1 fun W1 F1 D1 R1' C1 g1 g2 g3 g4 => b36_39.mpr ⟨F1.1, c186 F1 D1 (by omega) hn hl fun W2 F2 D2 f2 h8 => b36_49.mpr ?_⟩⟩⟩
    have fr2 : fr 5 20505 w W2 := (fr_new g1 hv g2 g3 g4).fa (by decide) f2
    have same : ∀ b : Int, b < 58 → b ≠ 24 → W2.1 b = w.1 b := fun b h1 h2 => (f2.2 b (by omega)).trans (g1 b h1 h2)
    have T2 : TC W2 := hX.tc.ce (same 0 (by decide) (by decide)) (same 12 (by decide) (by decide)) (same 13 (by decide) (by decide))
    have k0 : vkd W2 0 = 21 := (vkd_cl (same 0 (by decide) (by decide))).trans (fxk_0 hX)
    have fin : ∀ W3 : vW, fr 5 20505 w W3 → Q (cnt n' l (3 ^ n')) W3 := fun W3 f3 => h _ _ 5 20505 (Or.inl ⟨by omega, by omega, by omega, by omega, by rw [Int.toNat_natCast]⟩) f3 (by decide) (by decide)
    rw [T2.1]
    refine ⟨k0, T2.2.1, (y291 T2).mpr (b36_58.mpr ⟨fun hpos => b36_63.mpr ?_, fun _ => b36_78.mpr (fin _ (fr2.sv (by decide)))⟩)⟩
    have T3 : TC (vsv W2 12 1 0) := ⟨(vct_svo (fun x => absurd x.1 (by decide))).trans T2.1, vkd_sv.trans T2.2.1, (vct_svo (fun x => absurd x.2 (by decide))).trans T2.2.2.1, vkd_sv.trans T2.2.2.2.1, vln_sv.trans T2.2.2.2.2⟩
    have e8 : vct (vsv W2 12 1 0) 58 8 = pk l := (vct_svo (fun x => absurd x.1 (by decide))).trans (h8 hpos)
    rw [e8, T3.1]
    refine ⟨vkd_sv.trans k0, vkd_sv.trans F2.1, (c281i hl).mpr (b36_75.mpr ⟨T3.2.1, (y293 T3 vct_svi (by decide) (by decide)).mpr (b36_78.mpr (fin _ (((fr2.sv (by decide)).sv (by decide)).sv (by decide))))⟩)⟩
  · rw [e]
    exact ⟨fun _ => b36_30.mpr (h _ _ 0 0 (Or.inr (Or.inl ⟨hh.1, hh.2.1, hh.2.2.1, hh.2.2.2, rfl⟩)) fr.rf (by decide) (by decide)), fun h => absurd (show (-3 : Int) < 0 by decide) h⟩
  · rw [e]
    exact ⟨fun _ => b36_30.mpr (h _ _ 0 0 (Or.inr (Or.inr ⟨hh, rfl⟩)) fr.rf (by decide) (by decide)), fun h => absurd (show (-1 : Int) < 0 by decide) h⟩
theorem x_longest (hX : FX w) (hv : vnt w = 58) (h : ∀ r w1 k s, COMR c n 0 r → fr k s w w1 → k ≤ 100 → s ≤ 100000 → Q r w1) : VC (d + 20) 38 [(2, 0), (0, c), (0, n)] w Q := by
  refine e38.mpr (b38_0.mpr ⟨fxk_0 hX, (y42 hX.cx).mpr (b38_6.mpr ?_)⟩)
  rcases rf_cases c n with ⟨e, c', n', rfl, rfl, hc, hn⟩ | ⟨e, hh⟩ | ⟨e, hh⟩
  · rw [e]
    refine ⟨fun h => absurd h (by decide), fun _ => b38_13.mpr ⟨fxk_0 hX, fof_new hX.cx hc rfl hv (by decide) hn hX.r1 fun W1 F1 D1 R1' C1 g1 g2 g3 g4 => b38_19.mpr ⟨F1.1, c187 F1 D1 (by omega) hn fun W2 F2 D2 f2 h8 => b38_27.mpr ?_⟩⟩⟩
    obtain ⟨l, hl, h8⟩ := h8
    have fr2 : fr 5 20505 w W2 := (fr_new g1 hv g2 g3 g4).fa (by decide) f2
    have same : ∀ b : Int, b < 58 → b ≠ 24 → W2.1 b = w.1 b := fun b h1 h2 => (f2.2 b (by omega)).trans (g1 b h1 h2)
    have T2 : TC W2 := hX.tc.ce (same 0 (by decide) (by decide)) (same 12 (by decide) (by decide)) (same 13 (by decide) (by decide))
    have k0 : vkd W2 0 = 21 := (vkd_cl (same 0 (by decide) (by decide))).trans (fxk_0 hX)
    rw [T2.1]
    have T3 : TC (vsv W2 12 1 0) := ⟨(vct_svo (fun x => absurd x.1 (by decide))).trans T2.1, vkd_sv.trans T2.2.1, (vct_svo (fun x => absurd x.2 (by decide))).trans T2.2.2.1, vkd_sv.trans T2.2.2.2.1, vln_sv.trans T2.2.2.2.2⟩
    have e8 : vct (vsv W2 12 1 0) 58 8 = pk l := (vct_svo (fun x => absurd x.1 (by decide))).trans h8
    refine ⟨k0, T2.2.1, (y291 T2).mpr (b38_36.mpr ?_)⟩
    rw [e8, T3.1]
    refine ⟨vkd_sv.trans k0, vkd_sv.trans F2.1, (c281i hl).mpr (b38_48.mpr ⟨T3.2.1, (y293 T3 vct_svi (by decide) (by decide)).mpr (b38_51.mpr ?_)⟩)⟩
    have T4 : TC (vsv (vsv (vsv W2 12 1 0) 13 0 (c9 l)) 12 1 (0 + 1)) := ⟨(vct_svo (fun x => absurd x.1 (by decide))).trans ((vct_svo (fun x => absurd x.1 (by decide))).trans T3.1), vkd_sv.trans (vkd_sv.trans T3.2.1), (vct_svo (fun x => absurd x.2 (by decide))).trans ((vct_svo (fun x => absurd x.1 (by decide))).trans T3.2.2.1), vkd_sv.trans (vkd_sv.trans T3.2.2.2.1), vln_sv.trans (vln_sv.trans T3.2.2.2.2)⟩
    have f4 : fr 5 20505 w (vsv (vsv (vsv W2 12 1 0) 13 0 (c9 l)) 12 1 (0 + 1)) := ((fr2.sv (by decide)).sv (by decide)).sv (by decide)
    have k4 : vkd (vsv (vsv (vsv W2 12 1 0) 13 0 (c9 l)) 12 1 (0 + 1)) 0 = 21 := vkd_sv.trans (vkd_sv.trans (vkd_sv.trans k0))
    have m4 : vkd (vsv (vsv (vsv W2 12 1 0) 13 0 (c9 l)) 12 1 (0 + 1)) 58 = 13 := vkd_sv.trans (vkd_sv.trans (vkd_sv.trans F2.1))
    have s4 : vct (vsv (vsv (vsv W2 12 1 0) 13 0 (c9 l)) 12 1 (0 + 1)) 12 1 = 1 := vct_svi
    generalize vsv (vsv (vsv W2 12 1 0) 13 0 (c9 l)) 12 1 (0 + 1) = W4 at T4 f4 k4 m4 s4 ⊢
    rw [T4.1]
    refine ⟨k4, m4, T4.2.1, (y293 T4 s4 (by decide) (by decide)).mpr (b38_64.mpr (h _ _ 5 20505 (Or.inl ⟨by omega, by omega, by omega, by omega, by decide⟩) ((f4.sv (by decide)).sv (by decide)) (by decide) (by decide)))⟩
  · rw [e]
    exact ⟨fun _ => b38_11.mpr (h _ _ 0 0 (Or.inr (Or.inl ⟨hh.1, hh.2.1, hh.2.2.1, hh.2.2.2, rfl⟩)) fr.rf (by decide) (by decide)), fun h => absurd (show (-3 : Int) < 0 by decide) h⟩
  · rw [e]
    exact ⟨fun _ => b38_11.mpr (h _ _ 0 0 (Or.inr (Or.inr ⟨hh, rfl⟩)) fr.rf (by decide) (by decide)), fun h => absurd (show (-1 : Int) < 0 by decide) h⟩
theorem x_quarrels (hX : FX w) (hv : vnt w = 58) (h : ∀ r w1 k s, COMR 0 n 0 r → fr k s w w1 → k ≤ 100 → s ≤ 100000 → Q r w1) : VC (d + 20) 41 [(2, 0), (0, n)] w Q := by
  refine e41.mpr (b41_0.mpr ⟨fxk_0 hX, (y42 hX.cx).mpr (b41_6.mpr ?_)⟩)
  rcases rf_cases 0 n with ⟨e, c', n', hc0, rfl, hc, hn⟩ | ⟨e, hh⟩ | ⟨e, hh⟩
  · rw [e]
    refine ⟨fun h => absurd h (by decide), fun _ => b41_13.mpr ⟨fxk_0 hX, fof_new (c := 0) hX.cx (by decide) rfl hv (by decide) hn hX.r1 fun W1 F1 D1 R1' C1 g1 g2 g3 g4 => b41_19.mpr ⟨C1.1, fof_new (c := 1) C1 (by decide) rfl g2 (by decide) hn R1' fun W2 F2 D2 R2' C2 p1 p2 p3 p4 => b41_27.mpr ?_⟩⟩⟩
    have eb : ∀ b : Int, 58 ≤ b → b < 63 → W2.1 b = W1.1 b := fun b h1 h2 => p1 b (by omega) (by omega)
    have F1' : FN W2 58 (0 : Nat) (n' : Int) := by
      obtain ⟨h1, h2, h3, h4, h5, h6, h7, h8, h9, h10, h11, h12, h13, h14, h15, h16, h17⟩ := F1
      have q : ∀ j, vct W2 58 j = vct W1 58 j := fun j => congrFun (vct_cl (eb 58 (by decide) (by decide))) j
      exact ⟨(vkd_cl (eb 58 (by decide) (by decide))).trans h1, (q _).trans h2, (q _).trans h3, (q _).trans h4, (q _).trans h5, (q _).trans h6, (q _).trans h7, (q _).trans h8, (q _).trans h9, (vkd_cl (eb 59 (by decide) (by decide))).trans h10, (vln_cl (eb 59 (by decide) (by decide))).trans h11, (vkd_cl (eb 60 (by decide) (by decide))).trans h12, (vln_cl (eb 60 (by decide) (by decide))).trans h13, (vkd_cl (eb 61 (by decide) (by decide))).trans h14, (vln_cl (eb 61 (by decide) (by decide))).trans h15, (vkd_cl (eb 62 (by decide) (by decide))).trans h16, (vln_cl (eb 62 (by decide) (by decide))).trans h17⟩
    have D1' : FD W2 58 (n' + 1) 0 := D1.same (vct_cl (eb 59 (by decide) (by decide))) (vct_cl (eb 60 (by decide) (by decide))) (vct_cl (eb 61 (by decide) (by decide)))
    have same : ∀ b : Int, b < 58 → b ≠ 24 → W2.1 b = w.1 b := fun b h1 h2 => (p1 b (by omega) h2).trans (g1 b h1 h2)
    have T2 : TC W2 := hX.tc.ce (same 0 (by decide) (by decide)) (same 12 (by decide) (by decide)) (same 13 (by decide) (by decide))
    have fr2 : fr 10 41010 w W2 := ⟨fun b hb => same b (by omega) (by omega), by omega, by omega, by omega⟩
    refine ⟨F1'.1, c189 F1' D1' F2 D2 (by omega) (by omega) hn (b41_31.mpr ?_)⟩
    rw [T2.1]
    exact ⟨C2.1, T2.2.1, (y291 T2).mpr (b41_40.mpr ⟨fun h => absurd h (by decide), fun _ => b41_59.mpr (h _ _ 10 41010 (Or.inl ⟨by omega, by omega, by omega, by omega, rfl⟩) (fr2.sv (by decide)) (by decide) (by decide))⟩)⟩
  · rw [e]
    exact ⟨fun _ => b41_11.mpr (h _ _ 0 0 (Or.inr (Or.inl ⟨hh.1, hh.2.1, hh.2.2.1, hh.2.2.2, rfl⟩)) fr.rf (by decide) (by decide)), fun h => absurd (show (-3 : Int) < 0 by decide) h⟩
  · rw [e]
    exact ⟨fun _ => b41_11.mpr (h _ _ 0 0 (Or.inr (Or.inr ⟨hh, rfl⟩)) fr.rf (by decide) (by decide)), fun h => absurd (show (-1 : Int) < 0 by decide) h⟩
/-- shortest -/
theorem x_short_no (hX : FX w) {x : Int} (hr : R64 x) (hno : noS x) (h : ∀ r w1 n s, r = -1 → fr n s w w1 → n ≤ 100 → s ≤ 100000 → Q r w1) : VC (d + 20) 37 [(2, 0), (0, c), (1, x)] w Q :=
  e37.mpr (b37_0.mpr ((y280n hr hno).mpr (b37_4.mpr ⟨fun _ => b37_22.mpr (h _ _ 0 0 rfl fr.rf (by decide) (by decide)), fun h => absurd (vlc_lt.mpr (by decide)) h⟩)))
theorem x_short_c (hX : FX w) (hl : OKL l) (hc : ¬ (0 ≤ c ∧ c ≤ 2)) (h : ∀ r w1 n s, r = -1 → fr n s w w1 → n ≤ 100 → s ≤ 100000 → Q r w1) : VC (d + 20) 37 [(2, 0), (0, c), (1, c9 l)] w Q := by
  have hp := pk_bd hl
  have no := b37_22 (d := d + 19) (w := w) (x0 := 0) (x1 := c) (x2 := c9 l) (x4 := pk l) (Q := Q) |>.mpr (h _ _ 0 0 rfl fr.rf (by decide) (by decide))
  exact e37.mpr (b37_0.mpr ((y280y hl).mpr (b37_4.mpr ⟨fun _ => no, fun _ => b37_13.mpr ⟨fun _ => no, fun h1 => b37_17.mpr ⟨fun _ => no, fun h2 => absurd (show 0 ≤ c ∧ c ≤ 2 by omega) hc⟩⟩⟩)))
theorem x_short_l (hX : FX w) (hv : vnt w = 58) (hl : OKL l) (hc : 0 ≤ c ∧ c ≤ 2) (h : ∀ r w1 n s, r = -2 → fr n s w w1 → n ≤ 100 → s ≤ 100000 → Q r w1) : VC (d + 20) 37 [(2, 0), (0, c), (1, c9 l)] w Q := by
  have hp := pk_bd hl
  obtain ⟨c', rfl⟩ : ∃ c' : Nat, c = c' := ⟨c.toNat, by omega⟩
  have hc3 : c' < 3 := by omega
  have L : ∀ (m N : Nat), m + N = 15 → l.length < N → ∀ (v7 : vV) (W : vW), (∃ k s : Nat, fr k s w W ∧ k ≤ 100 ∧ s ≤ 100000) → R1 W → (W = w ∨ ∃ z, CX W z ∧ z c' = 58 ∧ FN W 58 (c' : Int) ((N : Int) - 1) ∧ FD W 58 N 0) → VW (d + 19) 37 33 [(2, 0), (0, (c' : Int)), (1, c9 l), (9, 0), (1, pk l), (9, 0), (0, (N : Int)), v7] [] W Q := by
    intro m
    induction m with
    | zero =>
      intro N hN hlN v7 W hf _ _
      obtain ⟨k, s, hf, hk, hs⟩ := hf
      exact b37_33.mpr ⟨fun _ => b37_110.mpr (h _ _ k s rfl hf hk hs), fun h => absurd (show (14 : Int) < (N : Int) by omega) h⟩
    | succ m ih =>
      intro N hN hlN v7 W hf hR hW
      have hz : ∃ z, CX W z := by
        rcases hW with rfl | ⟨z, hC, -⟩
        · exact ⟨_, hX.cx⟩
        · exact ⟨z, hC⟩
      obtain ⟨z, hC⟩ := hz
      refine b37_33.mpr ⟨fun h => absurd h (by omega), fun _ => b37_40.mpr ?_⟩
      rw [hC.2.2.1, hC.2.2.2.2.2.1]
      refine ⟨hC.1, hC.2.2.2.2.1, (y178 rfl (by omega)).mpr (b37_52.mpr ⟨fun _ => ?_, fun hm => b37_58.mpr ⟨hC.1, ?_⟩⟩)⟩
      · obtain ⟨k, s, hf, hk, hs⟩ := hf
        exact b37_110.mpr (h _ _ k s rfl hf hk hs)
      · have hN7 : N ≤ 7 := by
          rcases Nat.lt_or_ge 7 N with h8 | h8
          · exact absurd (show 4096 < mn N by unfold mn; rw [if_neg (by omega)]; decide) hm
          · exact h8
        have nx : ∀ W1, (∃ k s : Nat, fr k s w W1 ∧ k ≤ 100 ∧ s ≤ 100000) → R1 W1 → (∃ z, CX W1 z ∧ z c' = 58) → FN W1 58 (c' : Int) (N : Int) → FD W1 58 (N + 1) 0 → VW (d + 19) 37 65 [(2, 0), (0, (c' : Int)), (1, c9 l), (9, 0), (1, pk l), (9, 0), (0, (N : Int)), v7] [(2, 58)] W1 Q := by
          intro W1 hf1 hR1 hz1 F1 D1
          refine b37_65.mpr ⟨F1.1, c186 F1 D1 (by omega) hN7 hl fun W2 F2 D2 f2 _ => b37_76.mpr ⟨fun hpos => absurd hpos (by rw [cnt_no (by omega)]; decide), fun _ => b37_104.mpr ?_⟩⟩
          rw [w32_id (z := (N : Int) + 1) (by omega) (by omega)]
          obtain ⟨k, s, hf1, hk, hs⟩ := hf1
          obtain ⟨z1, hC1, hz1⟩ := hz1
          have h9 := ih (N + 1) (by omega) (by omega) (2, 58) W2 ⟨k, s, hf1.fa (by decide) f2, hk, hs⟩ (hR1.fa (by decide) f2) (Or.inr ⟨z1, hC1.fa (by decide) f2, hz1, by rw [show (((N + 1 : Nat) : Int) - 1) = (N : Int) by omega]; exact F2, D2⟩)
          exact_mod_cast h9
        rcases hW with rfl | ⟨z2, hC2, hz2, F, D⟩
        · exact fof_new hX.cx hc3 rfl hv (by decide) hN7 hX.r1 fun W1 F1 D1 R1' C1 g1 g2 g3 g4 => nx W1 ⟨5, 20505, fr_new g1 hv g2 g3 g4, by decide, by decide⟩ R1' ⟨_, C1, if_pos rfl⟩ F1 D1
        · obtain ⟨k, s, hf, hk, hs⟩ := hf
          exact fof_old hC2 hc3 hz2 (by decide) hN7 (by omega) F D hR fun W1 F1 D1 f1 => nx W1 ⟨k, s, hf.fa (by decide) f1, hk, hs⟩ (hR.fa (by decide) f1) ⟨z2, hC2.fa (by decide) f1, hz2⟩ F1 D1
  refine e37.mpr (b37_0.mpr ((y280y hl).mpr (b37_4.mpr ⟨fun h => absurd (vlc_lt.mp h) (by omega), fun _ => b37_13.mpr ⟨fun h => absurd h (by omega), fun _ => b37_17.mpr ⟨fun h => absurd h (by omega), fun _ => b37_24.mpr ((c273 hl).mpr (b37_29.mpr ?_))⟩⟩⟩)))
  have hl14 := hl.1
  rw [w32_id (z := (l.length : Int) + 1) (by omega) (by omega)]
  have h9 := L (14 - l.length) (l.length + 1) (by omega) (by omega) (9, 0) w ⟨0, 0, fr.rf, by decide, by decide⟩ hX.r1 (Or.inl rfl)
  exact_mod_cast h9
end XO
