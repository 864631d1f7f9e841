section LAW2
variable {w w1 w2 : vW} {n s : Nat} {xs : Nat → Int32}
set_option maxRecDepth 20000 in
theorem law_30 {v5 v6 v7 : vV} (hS : SC xs w) (hX : FX w) (hM : FM w) (hv : vnt w = 58) (hc : vec w = 58) (hs : ves w = 57489) : VW 60 299 1319 [(2, -2), (2, 0), (2, 25), (2, 57), (0, 0), v5, v6, v7] [] w Qf := by
  refine b299_1319.mpr ⟨hS.t _ (by decide) (by decide), hS.t _ (by decide) (by decide), hS.t _ (by decide) (by decide), hS.t _ (by decide) (by decide), fxk_0 hX, ?_⟩
  simp only [hS.c]
  rcases say_cases' (l_or (l_shl (xs (w32 (0 + 3)).toNat).toInt 32) (l_and (xs (w32 (0 + 4)).toNat).toInt 4294967295)) with hno | ⟨l, hl, he⟩
  · skip
    refine x_come_n hX (R64_or _ _) hno fun r w1 n s hr hf hn hs2 => ?_
    have hS1 := hS.fr hf
    refine b299_1357.mpr ⟨hS1.t _ (by decide) (by decide), hS1.t _ (by decide) (by decide), hS1.t _ (by decide) (by decide), hS1.t _ (by decide) (by decide), fmk_25 (hM.fr hf), ?_⟩
    simp only [hS1.c]
    refine m_come_n (hM.fr hf) hno fun r2 w2 hr2 hf2 => ?_
    have hq : r = r2 := by first | omega | (unfold COMR at hr hr2; omega) | (unfold STR at hr hr2; omega)
    exact b299_1395.mpr ⟨fun _ => lawz hS hc hs hf (Nat.le_trans hn (by decide)) (Nat.le_trans hs2 (by decide)) hf2, fun h => absurd hq h⟩
  · skip
    rw [he]
    refine x_come_l hX hv hl fun r w1 n s hr hf hn hs2 => ?_
    have hS1 := hS.fr hf
    refine b299_1357.mpr ⟨hS1.t _ (by decide) (by decide), hS1.t _ (by decide) (by decide), hS1.t _ (by decide) (by decide), hS1.t _ (by decide) (by decide), fmk_25 (hM.fr hf), ?_⟩
    simp only [hS1.c]
    rw [he]
    refine m_come_l (hM.fr hf) hl fun r2 w2 hr2 hf2 => ?_
    have hq : r = r2 := by first | omega | (unfold COMR at hr hr2; omega) | (unfold STR at hr hr2; omega)
    exact b299_1395.mpr ⟨fun _ => lawz hS hc hs hf (Nat.le_trans hn (by decide)) (Nat.le_trans hs2 (by decide)) hf2, fun h => absurd hq h⟩

set_option maxRecDepth 20000 in
theorem law_31 {v5 v6 v7 : vV} (hS : SC xs w) (hX : FX w) (hM : FM w) (hv : vnt w = 58) (hc : vec w = 58) (hs : ves w = 57489) : VW 60 299 1400 [(2, -2), (2, 0), (2, 25), (2, 57), (0, 0), v5, v6, v7] [] w Qf := by
  refine b299_1400.mpr ⟨hS.t _ (by decide) (by decide), hS.t _ (by decide) (by decide), hS.t _ (by decide) (by decide), fxk_0 hX, ?_⟩
  simp only [hS.c]
  rcases say_cases' (l_or (l_shl (xs (w32 (0 + 2)).toNat).toInt 32) (l_and (xs (w32 (0 + 3)).toNat).toInt 4294967295)) with hno | ⟨l, hl, he⟩
  · skip
    refine x_short_no hX (R64_or _ _) hno fun r w1 n s hr hf hn hs2 => ?_
    have hS1 := hS.fr hf
    refine b299_1432.mpr ⟨hS1.t _ (by decide) (by decide), hS1.t _ (by decide) (by decide), hS1.t _ (by decide) (by decide), fmk_25 (hM.fr hf), ?_⟩
    simp only [hS1.c]
    refine m_short_no (hM.fr hf) hno fun r2 w2 hr2 hf2 => ?_
    have hq : r = r2 := by first | omega | (unfold COMR at hr hr2; omega) | (unfold STR at hr hr2; omega)
    exact b299_1464.mpr ⟨fun _ => lawz hS hc hs hf (Nat.le_trans hn (by decide)) (Nat.le_trans hs2 (by decide)) hf2, fun h => absurd hq h⟩
  · by_cases hcl : 0 ≤ (xs (w32 (0 + 1)).toNat).toInt ∧ (xs (w32 (0 + 1)).toNat).toInt ≤ 2
    · skip
      rw [he]
      refine x_short_l hX hv hl hcl fun r w1 n s hr hf hn hs2 => ?_
      have hS1 := hS.fr hf
      refine b299_1432.mpr ⟨hS1.t _ (by decide) (by decide), hS1.t _ (by decide) (by decide), hS1.t _ (by decide) (by decide), fmk_25 (hM.fr hf), ?_⟩
      simp only [hS1.c]
      rw [he]
      refine m_short_l (hM.fr hf) hl hcl fun r2 w2 hr2 hf2 => ?_
      have hq : r = r2 := by first | omega | (unfold COMR at hr hr2; omega) | (unfold STR at hr hr2; omega)
      exact b299_1464.mpr ⟨fun _ => lawz hS hc hs hf (Nat.le_trans hn (by decide)) (Nat.le_trans hs2 (by decide)) hf2, fun h => absurd hq h⟩
    · skip
      rw [he]
      refine x_short_c hX hl hcl fun r w1 n s hr hf hn hs2 => ?_
      have hS1 := hS.fr hf
      refine b299_1432.mpr ⟨hS1.t _ (by decide) (by decide), hS1.t _ (by decide) (by decide), hS1.t _ (by decide) (by decide), fmk_25 (hM.fr hf), ?_⟩
      simp only [hS1.c]
      rw [he]
      refine m_short_c (hM.fr hf) hcl fun r2 w2 hr2 hf2 => ?_
      have hq : r = r2 := by first | omega | (unfold COMR at hr hr2; omega) | (unfold STR at hr hr2; omega)
      exact b299_1464.mpr ⟨fun _ => lawz hS hc hs hf (Nat.le_trans hn (by decide)) (Nat.le_trans hs2 (by decide)) hf2, fun h => absurd hq h⟩

set_option maxRecDepth 20000 in
theorem law_32 {v5 v6 v7 : vV} (hS : SC xs w) (hX : FX w) (hM : FM w) (hv : vnt w = 58) (hc : vec w = 58) (hs : ves w = 57489) : VW 60 299 1469 [(2, -2), (2, 0), (2, 25), (2, 57), (0, 0), v5, v6, v7] [] w Qf := by
  refine b299_1469.mpr ⟨hS.t _ (by decide) (by decide), hS.t _ (by decide) (by decide), fxk_0 hX, ?_⟩
  simp only [hS.c]
  refine x_longest hX hv fun r w1 n s hr hf hn hs2 => ?_
  have hS1 := hS.fr hf
  refine b299_1485.mpr ⟨hS1.t _ (by decide) (by decide), hS1.t _ (by decide) (by decide), fmk_25 (hM.fr hf), ?_⟩
  simp only [hS1.c]
  refine m_longest (hM.fr hf) fun r2 w2 hr2 hf2 => ?_
  have hq : r = r2 := by first | omega | (unfold COMR at hr hr2; omega) | (unfold STR at hr hr2; omega)
  exact b299_1501.mpr ⟨fun _ => lawz hS hc hs hf (Nat.le_trans hn (by decide)) (Nat.le_trans hs2 (by decide)) hf2, fun h => absurd hq h⟩

set_option maxRecDepth 20000 in
theorem law_33 {v5 v6 v7 : vV} (hS : SC xs w) (hX : FX w) (hM : FM w) (hv : vnt w = 58) (hc : vec w = 58) (hs : ves w = 57489) : VW 60 299 1506 [(2, -2), (2, 0), (2, 25), (2, 57), (0, 0), v5, v6, v7] [] w Qf := by
  refine b299_1506.mpr ⟨hS.t _ (by decide) (by decide), fxk_0 hX, ?_⟩
  simp only [hS.c]
  refine x_still hX hv fun r w1 n s hr hf hn hs2 => ?_
  have hS1 := hS.fr hf
  refine b299_1516.mpr ⟨hS1.t _ (by decide) (by decide), fmk_25 (hM.fr hf), ?_⟩
  simp only [hS1.c]
  refine m_still (hM.fr hf) fun r2 w2 hr2 hf2 => ?_
  have hq : r = r2 := by first | omega | (unfold COMR at hr hr2; omega) | (unfold STR at hr hr2; omega)
  exact b299_1526.mpr ⟨fun _ => lawz hS hc hs hf (Nat.le_trans hn (by decide)) (Nat.le_trans hs2 (by decide)) hf2, fun h => absurd (vlc_eq.mpr hq) h⟩

set_option maxRecDepth 20000 in
theorem law_34 {v5 v6 v7 : vV} (hS : SC xs w) (hX : FX w) (hM : FM w) (hv : vnt w = 58) (hc : vec w = 58) (hs : ves w = 57489) : VW 60 299 1532 [(2, -2), (2, 0), (2, 25), (2, 57), (0, 0), v5, v6, v7] [] w Qf := by
  refine b299_1532.mpr ⟨hS.t _ (by decide) (by decide), hS.t _ (by decide) (by decide), fxk_0 hX, ?_⟩
  simp only [hS.c]
  refine x_sorts hX hv fun r w1 n s hr hf hn hs2 => ?_
  have hS1 := hS.fr hf
  refine b299_1548.mpr ⟨hS1.t _ (by decide) (by decide), hS1.t _ (by decide) (by decide), fmk_25 (hM.fr hf), ?_⟩
  simp only [hS1.c]
  refine m_sorts (hM.fr hf) fun r2 w2 hr2 hf2 => ?_
  have hq : r = r2 := by first | omega | (unfold COMR at hr hr2; omega) | (unfold STR at hr hr2; omega)
  exact b299_1564.mpr ⟨fun _ => lawz hS hc hs hf (Nat.le_trans hn (by decide)) (Nat.le_trans hs2 (by decide)) hf2, fun h => absurd hq h⟩

set_option maxRecDepth 20000 in
theorem law_35 {v5 v6 v7 : vV} (hS : SC xs w) (hX : FX w) (hM : FM w) (hv : vnt w = 58) (hc : vec w = 58) (hs : ves w = 57489) : VW 60 299 1569 [(2, -2), (2, 0), (2, 25), (2, 57), (0, 0), v5, v6, v7] [] w Qf := by
  refine b299_1569.mpr ⟨hS.t _ (by decide) (by decide), fxk_0 hX, ?_⟩
  simp only [hS.c]
  refine x_quarrels hX hv fun r w1 n s hr hf hn hs2 => ?_
  have hS1 := hS.fr hf
  refine b299_1579.mpr ⟨hS1.t _ (by decide) (by decide), fmk_25 (hM.fr hf), ?_⟩
  simp only [hS1.c]
  refine m_quarrels (hM.fr hf) fun r2 w2 hr2 hf2 => ?_
  have hq : r = r2 := by first | omega | (unfold COMR at hr hr2; omega) | (unfold STR at hr hr2; omega)
  exact b299_1589.mpr ⟨fun _ => lawz hS hc hs hf (Nat.le_trans hn (by decide)) (Nat.le_trans hs2 (by decide)) hf2, fun h => absurd hq h⟩

end LAW2
