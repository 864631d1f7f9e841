/-! the law's cases, for a script of six -/
def Qf : Int → vW → Prop := fun r W => r = 1 ∧ vec W ≤ 600002 ∧ ves W ≤ 7302232
def SC (xs : Nat → Int32) (w : vW) : Prop := w.1 (-2) = (99, 6, fun j => (xs j.toNat).toInt)
section LAW
variable {w w1 w2 : vW} {n s : Nat} {xs : Nat → Int32}
theorem SC.k (h : SC xs w) : vkd w (-2) = 99 := congrArg (fun x : vC => x.1) h
theorem SC.l (h : SC xs w) : vln w (-2) = 6 := congrArg (fun x : vC => x.2.1) h
theorem SC.c (h : SC xs w) (j : Int) : vct w (-2) j = (xs j.toNat).toInt := congrFun (congrArg (fun x : vC => x.2.2) h) j
theorem SC.t (h : SC xs w) (i : Int) (h0 : 0 ≤ i) (h1 : i < 6) : vkd w (-2) = 99 ∧ (0 : Int) ≤ i ∧ i < vln w (-2) := ⟨h.k, h0, by rw [h.l]; exact h1⟩
theorem SC.fr (h : SC xs w) (hf : fr n s w w1) : SC xs w1 := (hf.1 (-2) (Or.inr rfl)).trans h
theorem SC.fm (h : SC xs w) (hf : fm w w1) : SC xs w1 := (hf.2 (-2) (by decide)).trans h
theorem xr (i : Int32) : -2147483648 ≤ i.toInt ∧ i.toInt ≤ 2147483647 := by
  have h1 := Int32.le_toInt i
  have h2 := Int32.toInt_lt i
  omega
theorem R64_or (x y : Int) : R64 (l_or x y) := by
  rw [l_or_d]
  have h1 := Int64.le_toInt (Int64.ofInt x ||| Int64.ofInt y)
  have h2 := Int64.toInt_lt (Int64.ofInt x ||| Int64.ofInt y)
  unfold R64
  omega
theorem lawx {v5 v6 v7 : vV} (hS : SC xs w) (hv : vec w ≤ 600002) (hs : ves w ≤ 7302232) : VW 60 299 1763 [(2, -2), (2, 0), (2, 25), (2, 57), (0, 0), v5, v6, v7] [] w Qf := by
  refine b299_1763.mpr (b299_23.mpr ⟨hS.k, fun _ => b299_1769.mpr ⟨rfl, hv, hs⟩, fun h => absurd ?_ h⟩)
  rw [hS.l]
  decide
theorem lawz {v5 v6 v7 : vV} (hS : SC xs w) (hc : vec w = 58) (hs : ves w = 57489) (hf : fr n s w w1) (hn : n ≤ 1000) (h2 : s ≤ 500000) (hm : fm w1 w2) : VW 60 299 1763 [(2, -2), (2, 0), (2, 25), (2, 57), (0, 0), v5, v6, v7] [] w2 Qf := by
  have e1 : vec w2 = vec w1 := congrArg (fun x : Int × Nat × Nat => x.2.1) hm.1
  have e2 : ves w2 = ves w1 := congrArg (fun x : Int × Nat × Nat => x.2.2) hm.1
  refine lawx ((hS.fr hf).fm hm) ?_ ?_
  · rw [e1, hf.2.2.1, hc]; omega
  · rw [e2, hf.2.2.2, hs]; omega

set_option maxRecDepth 20000 in
theorem law_0 {v5 v6 v7 : vV} (hS : SC xs w) (hX : FX w) (hM : FM w) (hv : vnt w = 58) (hc : vec w = 58) (hs : ves w = 57489) : VW 60 299 224 [(2, -2), (2, 0), (2, 25), (2, 57), (0, 0), v5, v6, v7] [] w Qf := by
  refine b299_224.mpr ⟨hS.t _ (by decide) (by decide), fxk_0 hX, ?_⟩
  simp only [hS.c]
  refine x_sign hX fun r w1 hr hf => ?_
  have hS1 := hS.fr hf
  refine b299_234.mpr ⟨hS1.t _ (by decide) (by decide), fmk_25 (hM.fr hf), ?_⟩
  simp only [hS1.c]
  refine m_sign (hM.fr hf) fun r2 w2 hr2 hf2 => ?_
  exact b299_244.mpr ⟨fun _ => lawz hS hc hs hf (by decide) (by decide) hf2, fun h => absurd (by first | omega | (unfold SHR at *; omega)) h⟩

set_option maxRecDepth 20000 in
theorem law_1 {v5 v6 v7 : vV} (hS : SC xs w) (hX : FX w) (hM : FM w) (hv : vnt w = 58) (hc : vec w = 58) (hs : ves w = 57489) : VW 60 299 249 [(2, -2), (2, 0), (2, 25), (2, 57), (0, 0), v5, v6, v7] [] w Qf := by
  refine b299_249.mpr ⟨hS.t _ (by decide) (by decide), fxk_0 hX, ?_⟩
  simp only [hS.c]
  refine x_end hX fun r w1 hr hf => ?_
  have hS1 := hS.fr hf
  refine b299_259.mpr ⟨hS1.t _ (by decide) (by decide), fmk_25 (hM.fr hf), ?_⟩
  simp only [hS1.c]
  refine m_end (hM.fr hf) fun r2 w2 hr2 hf2 => ?_
  exact b299_269.mpr ⟨fun _ => lawz hS hc hs hf (by decide) (by decide) hf2, fun h => absurd (by first | omega | (unfold SHR at *; omega)) h⟩

set_option maxRecDepth 20000 in
theorem law_2 {v5 v6 v7 : vV} (hS : SC xs w) (hX : FX w) (hM : FM w) (hv : vnt w = 58) (hc : vec w = 58) (hs : ves w = 57489) : VW 60 299 274 [(2, -2), (2, 0), (2, 25), (2, 57), (0, 0), v5, v6, v7] [] w Qf := by
  refine b299_274.mpr ⟨fxk_0 hX, ?_⟩
  refine x_book hX fun r w1 hr hf => ?_
  have hS1 := hS.fr hf
  refine b299_278.mpr ⟨fmk_25 (hM.fr hf), ?_⟩
  refine m_book (hM.fr hf) fun r2 w2 hr2 hf2 => ?_
  exact b299_282.mpr ⟨fun _ => lawz hS hc hs hf (by decide) (by decide) hf2, fun h => absurd (by first | omega | (unfold SHR at *; omega)) h⟩

set_option maxRecDepth 20000 in
theorem law_3 {v5 v6 v7 : vV} (hS : SC xs w) (hX : FX w) (hM : FM w) (hv : vnt w = 58) (hc : vec w = 58) (hs : ves w = 57489) : VW 60 299 287 [(2, -2), (2, 0), (2, 25), (2, 57), (0, 0), v5, v6, v7] [] w Qf := by
  refine b299_287.mpr ⟨fxk_0 hX, ?_⟩
  refine x_speech hX fun r w1 hr hf => ?_
  have hS1 := hS.fr hf
  refine b299_291.mpr ⟨fmk_25 (hM.fr hf), ?_⟩
  refine m_speech (hM.fr hf) fun r2 w2 hr2 hf2 => ?_
  exact b299_295.mpr ⟨fun _ => lawz hS hc hs hf (by decide) (by decide) hf2, fun h => absurd (by first | omega | (unfold SHR at *; omega)) h⟩

set_option maxRecDepth 20000 in
theorem law_6 {v5 v6 v7 : vV} (hS : SC xs w) (hX : FX w) (hM : FM w) (hv : vnt w = 58) (hc : vec w = 58) (hs : ves w = 57489) : VW 60 299 424 [(2, -2), (2, 0), (2, 25), (2, 57), (0, 0), v5, v6, v7] [] w Qf := by
  refine b299_424.mpr ⟨hS.t _ (by decide) (by decide), hS.t _ (by decide) (by decide), fxk_0 hX, ?_⟩
  simp only [hS.c]
  refine x_weigh hX fun r w1 hr hf => ?_
  have hS1 := hS.fr hf
  refine b299_440.mpr ⟨hS1.t _ (by decide) (by decide), hS1.t _ (by decide) (by decide), fmk_25 (hM.fr hf), ?_⟩
  simp only [hS1.c]
  refine m_weigh (hM.fr hf) fun r2 w2 hr2 hf2 => ?_
  exact b299_456.mpr ⟨fun _ => lawz hS hc hs hf (by decide) (by decide) hf2, fun h => absurd (by first | omega | (unfold SHR at *; omega)) h⟩

set_option maxRecDepth 20000 in
theorem law_8 {v5 v6 v7 : vV} (hS : SC xs w) (hX : FX w) (hM : FM w) (hv : vnt w = 58) (hc : vec w = 58) (hs : ves w = 57489) : VW 60 299 522 [(2, -2), (2, 0), (2, 25), (2, 57), (0, 0), v5, v6, v7] [] w Qf := by
  refine b299_522.mpr ⟨hS.t _ (by decide) (by decide), fxk_0 hX, ?_⟩
  simp only [hS.c]
  refine x_wide hX fun r w1 hr hf => ?_
  have hS1 := hS.fr hf
  refine b299_532.mpr ⟨hS1.t _ (by decide) (by decide), fmk_25 (hM.fr hf), ?_⟩
  simp only [hS1.c]
  refine m_wide (hM.fr hf) fun r2 w2 hr2 hf2 => ?_
  exact b299_542.mpr ⟨fun _ => lawz hS hc hs hf (by decide) (by decide) hf2, fun h => absurd (by first | omega | (unfold SHR at *; omega)) h⟩

set_option maxRecDepth 20000 in
theorem law_9 {v5 v6 v7 : vV} (hS : SC xs w) (hX : FX w) (hM : FM w) (hv : vnt w = 58) (hc : vec w = 58) (hs : ves w = 57489) : VW 60 299 547 [(2, -2), (2, 0), (2, 25), (2, 57), (0, 0), v5, v6, v7] [] w Qf := by
  refine b299_547.mpr ⟨hS.t _ (by decide) (by decide), hS.t _ (by decide) (by decide), fxk_0 hX, ?_⟩
  simp only [hS.c]
  refine x_swap hX fun r w1 hr hf => ?_
  have hS1 := hS.fr hf
  refine b299_563.mpr ⟨hS1.t _ (by decide) (by decide), hS1.t _ (by decide) (by decide), fmk_25 (hM.fr hf), ?_⟩
  simp only [hS1.c]
  refine m_swap (hM.fr hf) fun r2 w2 hr2 hf2 => ?_
  exact b299_579.mpr ⟨fun _ => lawz hS hc hs hf (by decide) (by decide) hf2, fun h => absurd (by first | omega | (unfold SHR at *; omega)) h⟩

set_option maxRecDepth 20000 in
theorem law_10 {v5 v6 v7 : vV} (hS : SC xs w) (hX : FX w) (hM : FM w) (hv : vnt w = 58) (hc : vec w = 58) (hs : ves w = 57489) : VW 60 299 584 [(2, -2), (2, 0), (2, 25), (2, 57), (0, 0), v5, v6, v7] [] w Qf := by
  refine b299_584.mpr ⟨hS.t _ (by decide) (by decide), fxk_0 hX, ?_⟩
  simp only [hS.c]
  refine x_strike hX fun r w1 hr hf => ?_
  have hS1 := hS.fr hf
  refine b299_594.mpr ⟨hS1.t _ (by decide) (by decide), fmk_25 (hM.fr hf), ?_⟩
  simp only [hS1.c]
  refine m_strike (hM.fr hf) fun r2 w2 hr2 hf2 => ?_
  exact b299_604.mpr ⟨fun _ => lawz hS hc hs hf (by decide) (by decide) hf2, fun h => absurd (by first | omega | (unfold SHR at *; omega)) h⟩

set_option maxRecDepth 20000 in
theorem law_11 {v5 v6 v7 : vV} (hS : SC xs w) (hX : FX w) (hM : FM w) (hv : vnt w = 58) (hc : vec w = 58) (hs : ves w = 57489) : VW 60 299 609 [(2, -2), (2, 0), (2, 25), (2, 57), (0, 0), v5, v6, v7] [] w Qf := by
  refine b299_609.mpr ⟨hS.t _ (by decide) (by decide), hS.t _ (by decide) (by decide), fxk_0 hX, ?_⟩
  simp only [hS.c]
  refine x_run hX fun r w1 hr hf => ?_
  have hS1 := hS.fr hf
  refine b299_625.mpr ⟨hS1.t _ (by decide) (by decide), hS1.t _ (by decide) (by decide), fmk_25 (hM.fr hf), ?_⟩
  simp only [hS1.c]
  refine m_run (hM.fr hf) fun r2 w2 hr2 hf2 => ?_
  exact b299_641.mpr ⟨fun _ => lawz hS hc hs hf (by decide) (by decide) hf2, fun h => absurd (by first | omega | (unfold SHR at *; omega)) h⟩

set_option maxRecDepth 20000 in
theorem law_12 {v5 v6 v7 : vV} (hS : SC xs w) (hX : FX w) (hM : FM w) (hv : vnt w = 58) (hc : vec w = 58) (hs : ves w = 57489) : VW 60 299 646 [(2, -2), (2, 0), (2, 25), (2, 57), (0, 0), v5, v6, v7] [] w Qf := by
  refine b299_646.mpr ⟨fxk_0 hX, ?_⟩
  refine x_undo hX fun r w1 hr hf => ?_
  have hS1 := hS.fr hf
  refine b299_650.mpr ⟨fmk_25 (hM.fr hf), ?_⟩
  refine m_undo (hM.fr hf) fun r2 w2 hr2 hf2 => ?_
  exact b299_654.mpr ⟨fun _ => lawz hS hc hs hf (by decide) (by decide) hf2, fun h => absurd (by first | omega | (unfold SHR at *; omega)) h⟩

set_option maxRecDepth 20000 in
theorem law_13 {v5 v6 v7 : vV} (hS : SC xs w) (hX : FX w) (hM : FM w) (hv : vnt w = 58) (hc : vec w = 58) (hs : ves w = 57489) : VW 60 299 659 [(2, -2), (2, 0), (2, 25), (2, 57), (0, 0), v5, v6, v7] [] w Qf := by
  refine b299_659.mpr ⟨fxk_0 hX, ?_⟩
  refine x_anew hX fun r w1 hr hf => ?_
  have hS1 := hS.fr hf
  refine b299_663.mpr ⟨fmk_25 (hM.fr hf), ?_⟩
  refine m_anew (hM.fr hf) fun r2 w2 hr2 hf2 => ?_
  exact b299_667.mpr ⟨fun _ => lawz hS hc hs hf (by decide) (by decide) hf2, fun h => absurd (vlc_eq.mpr (by first | omega | (unfold SHR at *; omega))) h⟩

set_option maxRecDepth 20000 in
theorem law_14 {v5 v6 v7 : vV} (hS : SC xs w) (hX : FX w) (hM : FM w) (hv : vnt w = 58) (hc : vec w = 58) (hs : ves w = 57489) : VW 60 299 673 [(2, -2), (2, 0), (2, 25), (2, 57), (0, 0), v5, v6, v7] [] w Qf := by
  refine b299_673.mpr ⟨fxk_0 hX, ?_⟩
  refine x_can hX fun r w1 hr hf => ?_
  have hS1 := hS.fr hf
  refine b299_677.mpr ⟨fmk_25 (hM.fr hf), ?_⟩
  refine m_can (hM.fr hf) fun r2 w2 hr2 hf2 => ?_
  exact b299_681.mpr ⟨fun _ => lawz hS hc hs hf (by decide) (by decide) hf2, fun h => absurd (by first | omega | (unfold SHR at *; omega)) h⟩

set_option maxRecDepth 20000 in
theorem law_15 {v5 v6 v7 : vV} (hS : SC xs w) (hX : FX w) (hM : FM w) (hv : vnt w = 58) (hc : vec w = 58) (hs : ves w = 57489) : VW 60 299 686 [(2, -2), (2, 0), (2, 25), (2, 57), (0, 0), v5, v6, v7] [] w Qf := by
  refine b299_686.mpr ⟨hS.t _ (by decide) (by decide), hS.t _ (by decide) (by decide), hS.t _ (by decide) (by decide), fxk_0 hX, ?_⟩
  simp only [hS.c]
  refine x_judge hX fun r w1 hr hf => ?_
  have hS1 := hS.fr hf
  refine b299_708.mpr ⟨hS1.t _ (by decide) (by decide), hS1.t _ (by decide) (by decide), hS1.t _ (by decide) (by decide), fmk_25 (hM.fr hf), ?_⟩
  simp only [hS1.c]
  refine m_judge (hM.fr hf) fun r2 w2 hr2 hf2 => ?_
  exact b299_730.mpr ⟨fun _ => lawz hS hc hs hf (by decide) (by decide) hf2, fun h => absurd (by first | omega | (unfold SHR at *; omega)) h⟩

set_option maxRecDepth 20000 in
theorem law_20 {v5 v6 v7 : vV} (hS : SC xs w) (hX : FX w) (hM : FM w) (hv : vnt w = 58) (hc : vec w = 58) (hs : ves w = 57489) : VW 60 299 889 [(2, -2), (2, 0), (2, 25), (2, 57), (0, 0), v5, v6, v7] [] w Qf := by
  refine b299_889.mpr ⟨fxk_0 hX, ?_⟩
  refine x_clerks hX fun r w1 hr hf => ?_
  have hS1 := hS.fr hf
  refine b299_893.mpr ⟨fmk_25 (hM.fr hf), ?_⟩
  refine m_clerks (hM.fr hf) fun r2 w2 hr2 hf2 => ?_
  exact b299_897.mpr ⟨fun _ => lawz hS hc hs hf (by decide) (by decide) hf2, fun h => absurd (by first | omega | (unfold SHR at *; omega)) h⟩

set_option maxRecDepth 20000 in
theorem law_24 {v5 v6 v7 : vV} (hS : SC xs w) (hX : FX w) (hM : FM w) (hv : vnt w = 58) (hc : vec w = 58) (hs : ves w = 57489) : VW 60 299 1041 [(2, -2), (2, 0), (2, 25), (2, 57), (0, 0), v5, v6, v7] [] w Qf := by
  refine b299_1041.mpr ⟨fxk_0 hX, ?_⟩
  refine x_idle hX fun r w1 hr hf => ?_
  have hS1 := hS.fr hf
  refine b299_1045.mpr ⟨fmk_25 (hM.fr hf), ?_⟩
  refine m_idle (hM.fr hf) fun r2 w2 hr2 hf2 => ?_
  exact b299_1049.mpr ⟨fun _ => lawz hS hc hs hf (by decide) (by decide) hf2, fun h => absurd (by first | omega | (unfold SHR at *; omega)) h⟩

set_option maxRecDepth 20000 in
theorem law_25 {v5 v6 v7 : vV} (hS : SC xs w) (hX : FX w) (hM : FM w) (hv : vnt w = 58) (hc : vec w = 58) (hs : ves w = 57489) : VW 60 299 1054 [(2, -2), (2, 0), (2, 25), (2, 57), (0, 0), v5, v6, v7] [] w Qf := by
  refine b299_1054.mpr ⟨fxk_0 hX, ?_⟩
  refine x_lessens hX fun r w1 hr hf => ?_
  have hS1 := hS.fr hf
  refine b299_1058.mpr ⟨fmk_25 (hM.fr hf), ?_⟩
  refine m_lessens (hM.fr hf) fun r2 w2 hr2 hf2 => ?_
  exact b299_1062.mpr ⟨fun _ => lawz hS hc hs hf (by decide) (by decide) hf2, fun h => absurd (by first | omega | (unfold SHR at *; omega)) h⟩

set_option maxRecDepth 20000 in
theorem law_36 {v5 v6 v7 : vV} (hS : SC xs w) (hX : FX w) (hM : FM w) (hv : vnt w = 58) (hc : vec w = 58) (hs : ves w = 57489) : VW 60 299 1594 [(2, -2), (2, 0), (2, 25), (2, 57), (0, 0), v5, v6, v7] [] w Qf := by
  refine b299_1594.mpr ⟨hS.t _ (by decide) (by decide), fxk_0 hX, ?_⟩
  simp only [hS.c]
  refine x_seed hX fun r w1 hr hf => ?_
  have hS1 := hS.fr hf
  refine b299_1604.mpr ⟨hS1.t _ (by decide) (by decide), fmk_25 (hM.fr hf), ?_⟩
  simp only [hS1.c]
  refine m_seed (hM.fr hf) fun r2 w2 hr2 hf2 => ?_
  exact b299_1614.mpr ⟨fun _ => lawz hS hc hs hf (by decide) (by decide) hf2, fun h => absurd (by first | omega | (unfold SHR at *; omega)) h⟩

set_option maxRecDepth 20000 in
theorem law_37 {v5 v6 v7 : vV} (hS : SC xs w) (hX : FX w) (hM : FM w) (hv : vnt w = 58) (hc : vec w = 58) (hs : ves w = 57489) : VW 60 299 1619 [(2, -2), (2, 0), (2, 25), (2, 57), (0, 0), v5, v6, v7] [] w Qf := by
  refine b299_1619.mpr ⟨hS.t _ (by decide) (by decide), fxk_0 hX, ?_⟩
  simp only [hS.c]
  refine x_keep hX fun r w1 hr hf => ?_
  have hS1 := hS.fr hf
  refine b299_1629.mpr ⟨hS1.t _ (by decide) (by decide), fmk_25 (hM.fr hf), ?_⟩
  simp only [hS1.c]
  refine m_keep (hM.fr hf) fun r2 w2 hr2 hf2 => ?_
  exact b299_1639.mpr ⟨fun _ => lawz hS hc hs hf (by decide) (by decide) hf2, fun h => absurd (by first | omega | (unfold SHR at *; omega)) h⟩

set_option maxRecDepth 20000 in
theorem law_38 {v5 v6 v7 : vV} (hS : SC xs w) (hX : FX w) (hM : FM w) (hv : vnt w = 58) (hc : vec w = 58) (hs : ves w = 57489) : VW 60 299 1644 [(2, -2), (2, 0), (2, 25), (2, 57), (0, 0), v5, v6, v7] [] w Qf := by
  refine b299_1644.mpr ⟨hS.t _ (by decide) (by decide), fxk_0 hX, ?_⟩
  simp only [hS.c]
  refine x_again hX fun r w1 hr hf => ?_
  have hS1 := hS.fr hf
  refine b299_1654.mpr ⟨hS1.t _ (by decide) (by decide), fmk_25 (hM.fr hf), ?_⟩
  simp only [hS1.c]
  refine m_again (hM.fr hf) fun r2 w2 hr2 hf2 => ?_
  exact b299_1664.mpr ⟨fun _ => lawz hS hc hs hf (by decide) (by decide) hf2, fun h => absurd (by first | omega | (unfold SHR at *; omega)) h⟩

set_option maxRecDepth 20000 in
theorem law_39 {v5 v6 v7 : vV} (hS : SC xs w) (hX : FX w) (hM : FM w) (hv : vnt w = 58) (hc : vec w = 58) (hs : ves w = 57489) : VW 60 299 1669 [(2, -2), (2, 0), (2, 25), (2, 57), (0, 0), v5, v6, v7] [] w Qf := by
  refine b299_1669.mpr ⟨hS.t _ (by decide) (by decide), fxk_0 hX, ?_⟩
  simp only [hS.c]
  refine x_count hX fun r w1 hr hf => ?_
  have hS1 := hS.fr hf
  refine b299_1679.mpr ⟨hS1.t _ (by decide) (by decide), fmk_25 (hM.fr hf), ?_⟩
  simp only [hS1.c]
  refine m_count (hM.fr hf) fun r2 w2 hr2 hf2 => ?_
  exact b299_1689.mpr ⟨fun _ => lawz hS hc hs hf (by decide) (by decide) hf2, fun h => absurd (by first | omega | (unfold SHR at *; omega)) h⟩

set_option maxRecDepth 20000 in
theorem law_40 {v5 v6 v7 : vV} (hS : SC xs w) (hX : FX w) (hM : FM w) (hv : vnt w = 58) (hc : vec w = 58) (hs : ves w = 57489) : VW 60 299 1694 [(2, -2), (2, 0), (2, 25), (2, 57), (0, 0), v5, v6, v7] [] w Qf := by
  refine b299_1694.mpr ⟨fxk_0 hX, ?_⟩
  refine x_minutes hX fun r w1 hr hf => ?_
  have hS1 := hS.fr hf
  refine b299_1698.mpr ⟨fmk_25 (hM.fr hf), ?_⟩
  refine m_minutes (hM.fr hf) fun r2 w2 hr2 hf2 => ?_
  exact b299_1702.mpr ⟨fun _ => lawz hS hc hs hf (by decide) (by decide) hf2, fun h => absurd (vlc_eq.mpr (by first | omega | (unfold SHR at *; omega))) h⟩

set_option maxRecDepth 20000 in
theorem law_7 {v5 v6 v7 : vV} (hS : SC xs w) (hX : FX w) (hM : FM w) (hv : vnt w = 58) (hc : vec w = 58) (hs : ves w = 57489) : VW 60 299 461 [(2, -2), (2, 0), (2, 25), (2, 57), (0, 0), v5, v6, v7] [] w Qf := by
  refine b299_461.mpr ⟨hS.t _ (by decide) (by decide), hS.t _ (by decide) (by decide), hS.t _ (by decide) (by decide), hS.t _ (by decide) (by decide), fxk_0 hX, ?_⟩
  simp only [hS.c]
  refine x_sheet hX fun r w1 hr hf => ?_
  have hS1 := hS.fr hf
  refine b299_489.mpr ⟨hS1.t _ (by decide) (by decide), hS1.t _ (by decide) (by decide), hS1.t _ (by decide) (by decide), hS1.t _ (by decide) (by decide), fmk_25 (hM.fr hf), ?_⟩
  simp only [hS1.c]
  refine m_sheet (hM.fr hf) (xr _) fun r2 w2 hr2 hf2 => ?_
  exact b299_517.mpr ⟨fun _ => lawz hS hc hs hf (by decide) (by decide) hf2, fun h => absurd (by first | omega | (unfold SHR at *; omega)) h⟩

set_option maxRecDepth 20000 in
theorem law_16 {v5 v6 v7 : vV} (hS : SC xs w) (hX : FX w) (hM : FM w) (hv : vnt w = 58) (hc : vec w = 58) (hs : ves w = 57489) : VW 60 299 735 [(2, -2), (2, 0), (2, 25), (2, 57), (0, 0), v5, v6, v7] [] w Qf := by
  refine b299_735.mpr ⟨fxk_0 hX, ?_⟩
  refine x_net hX hv fun r w1 hr hf => ?_
  have hS1 := hS.fr hf
  refine b299_739.mpr ⟨fmk_25 (hM.fr hf), ?_⟩
  refine m_net (hM.fr hf) fun r2 w2 hr2 hf2 => ?_
  exact b299_743.mpr ⟨fun _ => lawz hS hc hs hf (by decide) (by decide) hf2, fun h => absurd (by first | omega | (unfold SHR at *; omega)) h⟩

set_option maxRecDepth 20000 in
theorem law_17 {v5 v6 v7 : vV} (hS : SC xs w) (hX : FX w) (hM : FM w) (hv : vnt w = 58) (hc : vec w = 58) (hs : ves w = 57489) : VW 60 299 748 [(2, -2), (2, 0), (2, 25), (2, 57), (0, 0), v5, v6, v7] [] w Qf := by
  refine b299_748.mpr ⟨hS.t _ (by decide) (by decide), fxk_0 hX, ?_⟩
  simp only [hS.c]
  refine x_done hX hv fun r w1 n s hr hf hn hs2 => ?_
  have hS1 := hS.fr hf
  refine b299_758.mpr ⟨hS1.t _ (by decide) (by decide), fmk_25 (hM.fr hf), ?_⟩
  simp only [hS1.c]
  refine m_done (hM.fr hf) fun r2 w2 hr2 hf2 => ?_
  exact b299_768.mpr ⟨fun _ => lawz hS hc hs hf (Nat.le_trans hn (by decide)) (Nat.le_trans hs2 (by decide)) hf2, fun h => absurd (vlc_eq.mpr (by first | omega | (unfold SHR at *; omega))) h⟩

set_option maxRecDepth 20000 in
theorem law_22 {v5 v6 v7 : vV} (hS : SC xs w) (hX : FX w) (hM : FM w) (hv : vnt w = 58) (hc : vec w = 58) (hs : ves w = 57489) : VW 60 299 1003 [(2, -2), (2, 0), (2, 25), (2, 57), (0, 0), v5, v6, v7] [] w Qf := by
  refine b299_1003.mpr ⟨fxk_0 hX, ?_⟩
  refine x_overlaps hX hv fun r w1 n s hr hf hn hs2 => ?_
  have hS1 := hS.fr hf
  refine b299_1007.mpr ⟨fmk_25 (hM.fr hf), ?_⟩
  refine m_overlaps (hM.fr hf) fun r2 w2 hr2 hf2 => ?_
  exact b299_1011.mpr ⟨fun _ => lawz hS hc hs hf (Nat.le_trans hn (by decide)) (Nat.le_trans hs2 (by decide)) hf2, fun h => absurd (by first | omega | (unfold SHR at *; omega)) h⟩

set_option maxRecDepth 20000 in
theorem law_23 {v5 v6 v7 : vV} (hS : SC xs w) (hX : FX w) (hM : FM w) (hv : vnt w = 58) (hc : vec w = 58) (hs : ves w = 57489) : VW 60 299 1016 [(2, -2), (2, 0), (2, 25), (2, 57), (0, 0), v5, v6, v7] [] w Qf := by
  refine b299_1016.mpr ⟨hS.t _ (by decide) (by decide), fxk_0 hX, ?_⟩
  simp only [hS.c]
  refine x_overlap hX hv fun r w1 n s hr hf hn hs2 => ?_
  have hS1 := hS.fr hf
  refine b299_1026.mpr ⟨hS1.t _ (by decide) (by decide), fmk_25 (hM.fr hf), ?_⟩
  simp only [hS1.c]
  refine m_overlap (hM.fr hf) fun r2 w2 hr2 hf2 => ?_
  exact b299_1036.mpr ⟨fun _ => lawz hS hc hs hf (Nat.le_trans hn (by decide)) (Nat.le_trans hs2 (by decide)) hf2, fun h => absurd (by first | omega | (unfold SHR at *; omega)) h⟩

set_option maxRecDepth 20000 in
theorem law_26 {v5 v6 v7 : vV} (hS : SC xs w) (hX : FX w) (hM : FM w) (hv : vnt w = 58) (hc : vec w = 58) (hs : ves w = 57489) : VW 60 299 1067 [(2, -2), (2, 0), (2, 25), (2, 57), (0, 0), v5, v6, v7] [] w Qf := by
  refine b299_1067.mpr ⟨fxk_0 hX, ?_⟩
  refine x_weights hX hv fun r w1 n s hr hf hn hs2 => ?_
  have hS1 := hS.fr hf
  refine b299_1071.mpr ⟨fmk_25 (hM.fr hf), ?_⟩
  refine m_weights (hM.fr hf) fun r2 w2 hr2 hf2 => ?_
  exact b299_1075.mpr ⟨fun _ => lawz hS hc hs hf (Nat.le_trans hn (by decide)) (Nat.le_trans hs2 (by decide)) hf2, fun h => absurd (by first | omega | (unfold SHR at *; omega)) h⟩

set_option maxRecDepth 20000 in
theorem law_27 {v5 v6 v7 : vV} (hS : SC xs w) (hX : FX w) (hM : FM w) (hv : vnt w = 58) (hc : vec w = 58) (hs : ves w = 57489) : VW 60 299 1080 [(2, -2), (2, 0), (2, 25), (2, 57), (0, 0), v5, v6, v7] [] w Qf := by
  refine b299_1080.mpr ⟨hS.t _ (by decide) (by decide), fxk_0 hX, ?_⟩
  simp only [hS.c]
  refine x_complete hX hv fun r w1 n s hr hf hn hs2 => ?_
  have hS1 := hS.fr hf
  refine b299_1090.mpr ⟨hS1.t _ (by decide) (by decide), fmk_25 (hM.fr hf), ?_⟩
  simp only [hS1.c]
  refine m_complete (hM.fr hf) fun r2 w2 hr2 hf2 => ?_
  exact b299_1100.mpr ⟨fun _ => lawz hS hc hs hf (Nat.le_trans hn (by decide)) (Nat.le_trans hs2 (by decide)) hf2, fun h => absurd (by first | omega | (unfold SHR at *; omega)) h⟩

set_option maxRecDepth 20000 in
theorem law_4 {v5 v6 v7 : vV} (hS : SC xs w) (hX : FX w) (hM : FM w) (hv : vnt w = 58) (hc : vec w = 58) (hs : ves w = 57489) : VW 60 299 300 [(2, -2), (2, 0), (2, 25), (2, 57), (0, 0), v5, v6, v7] [] w Qf := by
  refine b299_300.mpr ⟨hS.t _ (by decide) (by decide), hS.t _ (by decide) (by decide), fxk_0 hX, ?_⟩
  simp only [hS.c]
  have hR : R64 (l_or (l_shl (xs (w32 (0 + 1)).toNat).toInt 32) (l_and (xs (w32 (0 + 2)).toNat).toInt 4294967295)) := R64_or _ _
  rcases say_cases (l_or (l_shl (xs (w32 (0 + 1)).toNat).toInt 32) (l_and (xs (w32 (0 + 2)).toNat).toInt 4294967295)) with hno | he | ⟨l, hl, hne, he⟩
  · skip
    refine x_speak_n hX hv hR hno fun r w1 n s hr hf hn hs2 => ?_
    have hS1 := hS.fr hf
    refine b299_326.mpr ⟨hS1.t _ (by decide) (by decide), hS1.t _ (by decide) (by decide), fmk_25 (hM.fr hf), ?_⟩
    simp only [hS1.c]
    refine m_speak_n (hM.fr hf) hno fun r2 w2 hr2 hf2 => ?_
    exact b299_352.mpr ⟨fun _ => lawz hS hc hs hf (Nat.le_trans hn (by decide)) (Nat.le_trans hs2 (by decide)) hf2, fun h => absurd (by first | omega | (unfold SHR at *; omega)) h⟩
  · rw [he]
    refine x_speak_l hX hv OKL.nil fun r w1 n s hr hf hn hs2 => ?_
    have hS1 := hS.fr hf
    refine b299_326.mpr ⟨hS1.t _ (by decide) (by decide), hS1.t _ (by decide) (by decide), fmk_25 (hM.fr hf), ?_⟩
    simp only [hS1.c]
    rw [he]
    refine m_speak_l (hM.fr hf) OKL.nil fun r2 w2 hr2 hf2 => ?_
    exact b299_352.mpr ⟨fun _ => lawz hS hc hs hf (Nat.le_trans hn (by decide)) (Nat.le_trans hs2 (by decide)) hf2, fun h => absurd (by first | omega | (unfold SHR at *; omega)) h⟩
  · rw [he]
    refine x_speak_l hX hv hl fun r w1 n s hr hf hn hs2 => ?_
    have hS1 := hS.fr hf
    refine b299_326.mpr ⟨hS1.t _ (by decide) (by decide), hS1.t _ (by decide) (by decide), fmk_25 (hM.fr hf), ?_⟩
    simp only [hS1.c]
    rw [he]
    refine m_speak_l (hM.fr hf) hl fun r2 w2 hr2 hf2 => ?_
    exact b299_352.mpr ⟨fun _ => lawz hS hc hs hf (Nat.le_trans hn (by decide)) (Nat.le_trans hs2 (by decide)) hf2, fun h => absurd (by first | omega | (unfold SHR at *; omega)) h⟩

set_option maxRecDepth 20000 in
theorem law_18 {v5 v6 v7 : vV} (hS : SC xs w) (hX : FX w) (hM : FM w) (hv : vnt w = 58) (hc : vec w = 58) (hs : ves w = 57489) : VW 60 299 774 [(2, -2), (2, 0), (2, 25), (2, 57), (0, 0), v5, v6, v7] [] w Qf := by
  refine b299_774.mpr ⟨hS.t _ (by decide) (by decide), hS.t _ (by decide) (by decide), fxk_0 hX, ?_⟩
  simp only [hS.c]
  have hR : R64 (l_or (l_shl (xs (w32 (0 + 1)).toNat).toInt 32) (l_and (xs (w32 (0 + 2)).toNat).toInt 4294967295)) := R64_or _ _
  rcases say_cases (l_or (l_shl (xs (w32 (0 + 1)).toNat).toInt 32) (l_and (xs (w32 (0 + 2)).toNat).toInt 4294967295)) with hno | he | ⟨l, hl, hne, he⟩
  · skip
    refine x_way_n hX hR hno fun r w1 n s hr hf hn hs2 => ?_
    have hS1 := hS.fr hf
    refine b299_800.mpr ⟨hS1.t _ (by decide) (by decide), hS1.t _ (by decide) (by decide), fmk_25 (hM.fr hf), ?_⟩
    simp only [hS1.c]
    refine m_way_n (hM.fr hf) hno fun r2 w2 hr2 hf2 => ?_
    exact b299_826.mpr ⟨fun _ => lawz hS hc hs hf (Nat.le_trans hn (by decide)) (Nat.le_trans hs2 (by decide)) hf2, fun h => absurd (by first | omega | (unfold SHR at *; omega)) h⟩
  · rw [he]
    refine x_way_0 hX hv fun r w1 n s hr hf hn hs2 => ?_
    have hS1 := hS.fr hf
    refine b299_800.mpr ⟨hS1.t _ (by decide) (by decide), hS1.t _ (by decide) (by decide), fmk_25 (hM.fr hf), ?_⟩
    simp only [hS1.c]
    rw [he]
    refine m_way_0 (hM.fr hf) fun r2 w2 hr2 hf2 => ?_
    exact b299_826.mpr ⟨fun _ => lawz hS hc hs hf (Nat.le_trans hn (by decide)) (Nat.le_trans hs2 (by decide)) hf2, fun h => absurd (by first | omega | (unfold SHR at *; omega)) h⟩
  · rw [he]
    refine x_way_l hX hv hl hne fun r w1 n s hr hf hn hs2 => ?_
    have hS1 := hS.fr hf
    refine b299_800.mpr ⟨hS1.t _ (by decide) (by decide), hS1.t _ (by decide) (by decide), fmk_25 (hM.fr hf), ?_⟩
    simp only [hS1.c]
    rw [he]
    refine m_way_l (hM.fr hf) hl hne fun r2 w2 hr2 hf2 => ?_
    exact b299_826.mpr ⟨fun _ => lawz hS hc hs hf (Nat.le_trans hn (by decide)) (Nat.le_trans hs2 (by decide)) hf2, fun h => absurd (by first | omega | (unfold SHR at *; omega)) h⟩

set_option maxRecDepth 20000 in
theorem law_19 {v5 v6 v7 : vV} (hS : SC xs w) (hX : FX w) (hM : FM w) (hv : vnt w = 58) (hc : vec w = 58) (hs : ves w = 57489) : VW 60 299 831 [(2, -2), (2, 0), (2, 25), (2, 57), (0, 0), v5, v6, v7] [] w Qf := by
  refine b299_831.mpr ⟨hS.t _ (by decide) (by decide), hS.t _ (by decide) (by decide), fxk_0 hX, ?_⟩
  simp only [hS.c]
  have hR : R64 (l_or (l_shl (xs (w32 (0 + 1)).toNat).toInt 32) (l_and (xs (w32 (0 + 2)).toNat).toInt 4294967295)) := R64_or _ _
  rcases say_cases (l_or (l_shl (xs (w32 (0 + 1)).toNat).toInt 32) (l_and (xs (w32 (0 + 2)).toNat).toInt 4294967295)) with hno | he | ⟨l, hl, hne, he⟩
  · skip
    refine x_ways_n hX hR hno fun r w1 n s hr hf hn hs2 => ?_
    have hS1 := hS.fr hf
    refine b299_857.mpr ⟨hS1.t _ (by decide) (by decide), hS1.t _ (by decide) (by decide), fmk_25 (hM.fr hf), ?_⟩
    simp only [hS1.c]
    refine m_ways_n (hM.fr hf) hno fun r2 w2 hr2 hf2 => ?_
    exact b299_883.mpr ⟨fun _ => lawz hS hc hs hf (Nat.le_trans hn (by decide)) (Nat.le_trans hs2 (by decide)) hf2, fun h => absurd (vlc_eq.mpr (by first | omega | (unfold SHR at *; omega))) h⟩
  · rw [he]
    refine x_ways_0 hX hv fun r w1 n s hr hf hn hs2 => ?_
    have hS1 := hS.fr hf
    refine b299_857.mpr ⟨hS1.t _ (by decide) (by decide), hS1.t _ (by decide) (by decide), fmk_25 (hM.fr hf), ?_⟩
    simp only [hS1.c]
    rw [he]
    refine m_ways_0 (hM.fr hf) fun r2 w2 hr2 hf2 => ?_
    exact b299_883.mpr ⟨fun _ => lawz hS hc hs hf (Nat.le_trans hn (by decide)) (Nat.le_trans hs2 (by decide)) hf2, fun h => absurd (vlc_eq.mpr (by first | omega | (unfold SHR at *; omega))) h⟩
  · rw [he]
    refine x_ways_l hX hv hl hne fun r w1 n s hr hf hn hs2 => ?_
    have hS1 := hS.fr hf
    refine b299_857.mpr ⟨hS1.t _ (by decide) (by decide), hS1.t _ (by decide) (by decide), fmk_25 (hM.fr hf), ?_⟩
    simp only [hS1.c]
    rw [he]
    refine m_ways_l (hM.fr hf) hl hne fun r2 w2 hr2 hf2 => ?_
    exact b299_883.mpr ⟨fun _ => lawz hS hc hs hf (Nat.le_trans hn (by decide)) (Nat.le_trans hs2 (by decide)) hf2, fun h => absurd (vlc_eq.mpr (by first | omega | (unfold SHR at *; omega))) h⟩

theorem say_cases' (c : Int) : noS c ∨ ∃ l, OKL l ∧ c = c9 l := by
  rcases say_cases c with h | h | ⟨l, h1, -, h2⟩
  · exact Or.inl h
  · exact Or.inr ⟨[], OKL.nil, h⟩
  · exact Or.inr ⟨l, h1, h2⟩
set_option maxRecDepth 20000 in
theorem law_21 {v5 v6 v7 : vV} (hS : SC xs w) (hX : FX w) (hM : FM w) (hv : vnt w = 58) (hc : vec w = 58) (hs : ves w = 57489) : VW 60 299 902 [(2, -2), (2, 0), (2, 25), (2, 57), (0, 0), v5, v6, v7] [] w Qf := by
  refine b299_902.mpr ⟨hS.t _ (by decide) (by decide), hS.t _ (by decide) (by decide), hS.t _ (by decide) (by decide), hS.t _ (by decide) (by decide), fxk_0 hX, ?_⟩
  simp only [hS.c]
  have hRa : R64 (l_or (l_shl (xs (w32 (0 + 1)).toNat).toInt 32) (l_and (xs (w32 (0 + 2)).toNat).toInt 4294967295)) := R64_or _ _
  have hRb : R64 (l_or (l_shl (xs (w32 (0 + 3)).toNat).toInt 32) (l_and (xs (w32 (0 + 4)).toNat).toInt 4294967295)) := R64_or _ _
  rcases say_cases' (l_or (l_shl (xs (w32 (0 + 1)).toNat).toInt 32) (l_and (xs (w32 (0 + 2)).toNat).toInt 4294967295)) with hno | ⟨l, hl, ha⟩
  · skip
    refine x_meet_n1 hX hRa hRb hno fun r w1 n s hr hf hn hs2 => ?_
    have hS1 := hS.fr hf
    refine b299_950.mpr ⟨hS1.t _ (by decide) (by decide), hS1.t _ (by decide) (by decide), hS1.t _ (by decide) (by decide), hS1.t _ (by decide) (by decide), fmk_25 (hM.fr hf), ?_⟩
    simp only [hS1.c]
    refine m_meet_n1 (hM.fr hf) hno fun r2 w2 hr2 hf2 => ?_
    exact b299_998.mpr ⟨fun _ => lawz hS hc hs hf (Nat.le_trans hn (by decide)) (Nat.le_trans hs2 (by decide)) hf2, fun h => absurd (by first | omega | (rcases hr2 with ⟨h1, h2⟩ | ⟨h1, h2⟩ <;> first | omega | exact absurd rfl h1 | exact absurd h1 hlm)) h⟩
  · rcases say_cases' (l_or (l_shl (xs (w32 (0 + 3)).toNat).toInt 32) (l_and (xs (w32 (0 + 4)).toNat).toInt 4294967295)) with hno | ⟨m, hk, hb⟩
    · skip
      rw [ha]
      refine x_meet_n2 hX hRb hl hno fun r w1 n s hr hf hn hs2 => ?_
      have hS1 := hS.fr hf
      refine b299_950.mpr ⟨hS1.t _ (by decide) (by decide), hS1.t _ (by decide) (by decide), hS1.t _ (by decide) (by decide), hS1.t _ (by decide) (by decide), fmk_25 (hM.fr hf), ?_⟩
      simp only [hS1.c]
      rw [ha]
      refine m_meet_n2 (hM.fr hf) hl hno fun r2 w2 hr2 hf2 => ?_
      exact b299_998.mpr ⟨fun _ => lawz hS hc hs hf (Nat.le_trans hn (by decide)) (Nat.le_trans hs2 (by decide)) hf2, fun h => absurd (by first | omega | (rcases hr2 with ⟨h1, h2⟩ | ⟨h1, h2⟩ <;> first | omega | exact absurd rfl h1 | exact absurd h1 hlm)) h⟩
    · by_cases hlm : l = m
      · subst hlm
        skip
        rw [ha]
        rw [hb]
        refine x_meet_y hX hv hl fun r w1 n s hr hf hn hs2 => ?_
        have hS1 := hS.fr hf
        refine b299_950.mpr ⟨hS1.t _ (by decide) (by decide), hS1.t _ (by decide) (by decide), hS1.t _ (by decide) (by decide), hS1.t _ (by decide) (by decide), fmk_25 (hM.fr hf), ?_⟩
        simp only [hS1.c]
        rw [ha]
        rw [hb]
        refine m_meet_l (hM.fr hf) hl hl fun r2 w2 hr2 hf2 => ?_
        exact b299_998.mpr ⟨fun _ => lawz hS hc hs hf (Nat.le_trans hn (by decide)) (Nat.le_trans hs2 (by decide)) hf2, fun h => absurd (by first | omega | (rcases hr2 with ⟨h1, h2⟩ | ⟨h1, h2⟩ <;> first | omega | exact absurd rfl h1 | exact absurd h1 hlm)) h⟩
      · skip
        rw [ha]
        rw [hb]
        refine x_meet_o hX hv hl hk hlm fun r w1 n s hr hf hn hs2 => ?_
        have hS1 := hS.fr hf
        refine b299_950.mpr ⟨hS1.t _ (by decide) (by decide), hS1.t _ (by decide) (by decide), hS1.t _ (by decide) (by decide), hS1.t _ (by decide) (by decide), fmk_25 (hM.fr hf), ?_⟩
        simp only [hS1.c]
        rw [ha]
        rw [hb]
        refine m_meet_l (hM.fr hf) hl hk fun r2 w2 hr2 hf2 => ?_
        exact b299_998.mpr ⟨fun _ => lawz hS hc hs hf (Nat.le_trans hn (by decide)) (Nat.le_trans hs2 (by decide)) hf2, fun h => absurd (by first | omega | (rcases hr2 with ⟨h1, h2⟩ | ⟨h1, h2⟩ <;> first | omega | exact absurd rfl h1 | exact absurd h1 hlm)) h⟩

set_option maxRecDepth 20000 in
theorem law_28 {v5 v6 v7 : vV} (hS : SC xs w) (hX : FX w) (hM : FM w) (hv : vnt w = 58) (hc : vec w = 58) (hs : ves w = 57489) : VW 60 299 1105 [(2, -2), (2, 0), (2, 25), (2, 57), (0, 0), v5, v6, v7] [] w Qf := by
  refine b299_1105.mpr ⟨hS.t _ (by decide) (by decide), hS.t _ (by decide) (by decide), hS.t _ (by decide) (by decide), hS.t _ (by decide) (by decide), fxk_0 hX, ?_⟩
  simp only [hS.c]
  have hRa : R64 (l_or (l_shl (xs (w32 (0 + 1)).toNat).toInt 32) (l_and (xs (w32 (0 + 2)).toNat).toInt 4294967295)) := R64_or _ _
  have hRb : R64 (l_or (l_shl (xs (w32 (0 + 3)).toNat).toInt 32) (l_and (xs (w32 (0 + 4)).toNat).toInt 4294967295)) := R64_or _ _
  rcases say_cases' (l_or (l_shl (xs (w32 (0 + 1)).toNat).toInt 32) (l_and (xs (w32 (0 + 2)).toNat).toInt 4294967295)) with hno | ⟨l, hl, ha⟩
  · skip
    refine x_same_n1 hX hv hRa hRb hno fun r w1 n s hr hf hn hs2 => ?_
    have hS1 := hS.fr hf
    refine b299_1153.mpr ⟨hS1.t _ (by decide) (by decide), hS1.t _ (by decide) (by decide), hS1.t _ (by decide) (by decide), hS1.t _ (by decide) (by decide), fmk_25 (hM.fr hf), ?_⟩
    simp only [hS1.c]
    refine m_same_n1 (hM.fr hf) hno fun r2 w2 hr2 hf2 => ?_
    exact b299_1201.mpr ⟨fun _ => lawz hS hc hs hf (Nat.le_trans hn (by decide)) (Nat.le_trans hs2 (by decide)) hf2, fun h => absurd (by omega) h⟩
  · rcases say_cases' (l_or (l_shl (xs (w32 (0 + 3)).toNat).toInt 32) (l_and (xs (w32 (0 + 4)).toNat).toInt 4294967295)) with hno | ⟨m, hk, hb⟩
    · skip
      rw [ha]
      refine x_same_n2 hX hv hRb hl hno fun r w1 n s hr hf hn hs2 => ?_
      have hS1 := hS.fr hf
      refine b299_1153.mpr ⟨hS1.t _ (by decide) (by decide), hS1.t _ (by decide) (by decide), hS1.t _ (by decide) (by decide), hS1.t _ (by decide) (by decide), fmk_25 (hM.fr hf), ?_⟩
      simp only [hS1.c]
      rw [ha]
      refine m_same_n2 (hM.fr hf) hl hno fun r2 w2 hr2 hf2 => ?_
      exact b299_1201.mpr ⟨fun _ => lawz hS hc hs hf (Nat.le_trans hn (by decide)) (Nat.le_trans hs2 (by decide)) hf2, fun h => absurd (by omega) h⟩
    · by_cases hlm : l = m
      · subst hlm
        skip
        rw [ha]
        rw [hb]
        refine x_same_y hX hv hl fun r w1 n s hr hf hn hs2 => ?_
        have hS1 := hS.fr hf
        refine b299_1153.mpr ⟨hS1.t _ (by decide) (by decide), hS1.t _ (by decide) (by decide), hS1.t _ (by decide) (by decide), hS1.t _ (by decide) (by decide), fmk_25 (hM.fr hf), ?_⟩
        simp only [hS1.c]
        rw [ha]
        rw [hb]
        refine m_same_y (hM.fr hf) hl fun r2 w2 hr2 hf2 => ?_
        exact b299_1201.mpr ⟨fun _ => lawz hS hc hs hf (Nat.le_trans hn (by decide)) (Nat.le_trans hs2 (by decide)) hf2, fun h => absurd (by omega) h⟩
      · skip
        rw [ha]
        rw [hb]
        refine x_same_o hX hv hl hk hlm fun r w1 n s hr hf hn hs2 => ?_
        have hS1 := hS.fr hf
        refine b299_1153.mpr ⟨hS1.t _ (by decide) (by decide), hS1.t _ (by decide) (by decide), hS1.t _ (by decide) (by decide), hS1.t _ (by decide) (by decide), fmk_25 (hM.fr hf), ?_⟩
        simp only [hS1.c]
        rw [ha]
        rw [hb]
        refine m_same_o (hM.fr hf) hl hk hlm fun r2 w2 hr2 hf2 => ?_
        exact b299_1201.mpr ⟨fun _ => lawz hS hc hs hf (Nat.le_trans hn (by decide)) (Nat.le_trans hs2 (by decide)) hf2, fun h => absurd (by omega) h⟩

set_option maxRecDepth 20000 in
theorem law_29 {v5 v6 v7 : vV} (hS : SC xs w) (hX : FX w) (hM : FM w) (hv : vnt w = 58) (hc : vec w = 58) (hs : ves w = 57489) : VW 60 299 1206 [(2, -2), (2, 0), (2, 25), (2, 57), (0, 0), v5, v6, v7] [] w Qf := by
  refine b299_1206.mpr ⟨hS.t _ (by decide) (by decide), hS.t _ (by decide) (by decide), hS.t _ (by decide) (by decide), hS.t _ (by decide) (by decide), hS.t _ (by decide) (by decide), fxk_0 hX, ?_⟩
  simp only [hS.c]
  have hRa : R64 (l_or (l_shl (xs (w32 (0 + 1)).toNat).toInt 32) (l_and (xs (w32 (0 + 2)).toNat).toInt 4294967295)) := R64_or _ _
  have hRb : R64 (l_or (l_shl (xs (w32 (0 + 3)).toNat).toInt 32) (l_and (xs (w32 (0 + 4)).toNat).toInt 4294967295)) := R64_or _ _
  rcases say_cases' (l_or (l_shl (xs (w32 (0 + 1)).toNat).toInt 32) (l_and (xs (w32 (0 + 2)).toNat).toInt 4294967295)) with hno | ⟨l, hl, ha⟩
  · skip
    refine x_bet_n1 hX hv hRa hRb hno fun r w1 n s hr hf hn hs2 => ?_
    have hS1 := hS.fr hf
    refine b299_1260.mpr ⟨hS1.t _ (by decide) (by decide), hS1.t _ (by decide) (by decide), hS1.t _ (by decide) (by decide), hS1.t _ (by decide) (by decide), hS1.t _ (by decide) (by decide), fmk_25 (hM.fr hf), ?_⟩
    simp only [hS1.c]
    refine m_bet_n1 (hM.fr hf) hno fun r2 w2 hr2 hf2 => ?_
    exact b299_1314.mpr ⟨fun _ => lawz hS hc hs hf (Nat.le_trans hn (by decide)) (Nat.le_trans hs2 (by decide)) hf2, fun h => absurd (by omega) h⟩
  · rcases say_cases' (l_or (l_shl (xs (w32 (0 + 3)).toNat).toInt 32) (l_and (xs (w32 (0 + 4)).toNat).toInt 4294967295)) with hno | ⟨m, hk, hb⟩
    · skip
      rw [ha]
      refine x_bet_n2 hX hv hRb hl hno fun r w1 n s hr hf hn hs2 => ?_
      have hS1 := hS.fr hf
      refine b299_1260.mpr ⟨hS1.t _ (by decide) (by decide), hS1.t _ (by decide) (by decide), hS1.t _ (by decide) (by decide), hS1.t _ (by decide) (by decide), hS1.t _ (by decide) (by decide), fmk_25 (hM.fr hf), ?_⟩
      simp only [hS1.c]
      rw [ha]
      refine m_bet_n2 (hM.fr hf) hl hno fun r2 w2 hr2 hf2 => ?_
      exact b299_1314.mpr ⟨fun _ => lawz hS hc hs hf (Nat.le_trans hn (by decide)) (Nat.le_trans hs2 (by decide)) hf2, fun h => absurd (by omega) h⟩
    · by_cases hlm : l = m
      · subst hlm
        skip
        rw [ha]
        rw [hb]
        refine x_bet_y hX hv hl fun r w1 n s hr hf hn hs2 => ?_
        have hS1 := hS.fr hf
        refine b299_1260.mpr ⟨hS1.t _ (by decide) (by decide), hS1.t _ (by decide) (by decide), hS1.t _ (by decide) (by decide), hS1.t _ (by decide) (by decide), hS1.t _ (by decide) (by decide), fmk_25 (hM.fr hf), ?_⟩
        simp only [hS1.c]
        rw [ha]
        rw [hb]
        refine m_bet_y (hM.fr hf) hl fun r2 w2 hr2 hf2 => ?_
        exact b299_1314.mpr ⟨fun _ => lawz hS hc hs hf (Nat.le_trans hn (by decide)) (Nat.le_trans hs2 (by decide)) hf2, fun h => absurd (by omega) h⟩
      · skip
        rw [ha]
        rw [hb]
        refine x_bet_o hX hv hl hk hlm fun r w1 n s hr hf hn hs2 => ?_
        have hS1 := hS.fr hf
        refine b299_1260.mpr ⟨hS1.t _ (by decide) (by decide), hS1.t _ (by decide) (by decide), hS1.t _ (by decide) (by decide), hS1.t _ (by decide) (by decide), hS1.t _ (by decide) (by decide), fmk_25 (hM.fr hf), ?_⟩
        simp only [hS1.c]
        rw [ha]
        rw [hb]
        refine m_bet_o (hM.fr hf) hl hk hlm fun r2 w2 hr2 hf2 => ?_
        exact b299_1314.mpr ⟨fun _ => lawz hS hc hs hf (Nat.le_trans hn (by decide)) (Nat.le_trans hs2 (by decide)) hf2, fun h => absurd (by omega) h⟩

theorem m_rule {d : Nat} {Q : Int → vW → Prop} {i j : Int} (hM : FM w) (h : ∀ w1, fm w w1 → vkd w1 25 = 22 → vct w1 25 0 = 1 → Q 0 w1) : VC (d + 9) 76 [(2, 25), (0, i), (0, j)] w Q := by
  simp only [↓ifbr, vkd_sv, vln_sv, vct_sv, vnt_sv, vkd_nw, vln_nw, vct_nw, vnt_nw, vlc_lt, vlc_gt, vlc_eq, w32_id, w64_id, ne_eq, not_false_eq_true, not_true_eq_false, true_and, and_true, false_and, and_false, true_implies, implies_true, false_implies, Int.zero_add, Int.add_zero, Int.le_refl, Int.lt_irrefl, Int.min_def, Int.max_def, if_true, if_false, eq_self, and_self, ↓reduceIte, Int.reduceNeg, Int.reduceAdd, Int.reduceSub, Int.reduceMul, Int.reduceLT, Int.reduceLE, Int.reduceEq, Int.reduceNe, Int.reduceToNat, Int.reduceTDiv, Int.reduceTMod, Nat.reduceEqDiff, Nat.reduceAdd, fmk_25 hM, fm_25_0 hM, fm_25_1 hM, fm_25_2 hM, fm_25_3 hM, fm_25_4 hM, fm_25_5 hM, fm_25_6 hM, fm_25_7 hM, fm_25_8 hM, fm_25_9 hM, fm_25_10 hM, fm_25_11 hM, fm_25_12 hM, fm_25_13 hM, fm_25_14 hM, fm_25_15 hM, fm_25_16 hM, fm_25_17 hM, fm_25_18 hM, fm_25_19 hM, fm_25_20 hM, fm_25_21 hM, fm_25_22 hM, fm_25_23 hM, fm_25_24 hM, fm_25_25 hM, fm_25_26 hM, fm_25_27 hM, fm_25_28 hM, fm_25_29 hM, fm_25_30 hM, fm_25_31 hM, fm_25_32 hM, fm_25_33 hM, fm_25_34 hM, fm_25_35 hM, fm_25_36 hM, fm_25_37 hM, fm_25_38 hM, fm_25_39 hM, fm_25_40 hM, fm_25_41 hM, fm_25_42 hM, fm_25_43 hM, fm_25_44 hM, fm_25_45 hM, fm_25_46 hM, fm_25_47 hM, fm_25_48 hM, fm_25_49 hM, fm_25_50 hM, fm_25_51 hM, fm_25_52 hM, fm_25_53 hM, fm_25_54 hM, fm_25_55 hM, fm_25_56 hM, fm_25_57 hM, fm_25_58 hM, fm_25_59 hM, fm_25_60 hM, fm_25_61 hM, fmk_26 hM, fml_26 hM, fmc_26 hM, fmk_27 hM, fml_27 hM, fmk_28 hM, fml_28 hM, fmc_28 hM, fmk_29 hM, fml_29 hM, fmc_29 hM, fmk_30 hM, fml_30 hM, fmc_30 hM, fmk_31 hM, fml_31 hM, fmc_31 hM, fmk_32 hM, fml_32 hM, fmk_33 hM, fml_33 hM, fmc_33 hM, fmk_34 hM, fml_34 hM, fmc_34 hM, fmk_35 hM, fml_35 hM, fmc_35 hM, fmk_36 hM, fml_36 hM, fmc_36 hM, fmk_37 hM, fml_37 hM, fmc_37 hM, fmk_38 hM, fml_38 hM, fmc_38 hM, fmk_39 hM, fml_39 hM, fmc_39 hM, fmk_40 hM, fml_40 hM, fmc_40 hM, fmk_41 hM, fml_41 hM, fmc_41 hM, fmk_42 hM, fml_42 hM, fmc_42 hM, fmk_43 hM, fml_43 hM, fmc_43 hM, fmk_44 hM, fml_44 hM, fmc_44 hM, fmk_45 hM, fml_45 hM, fmc_45 hM, fmk_46 hM, fml_46 hM, fmc_46 hM, fmk_47 hM, fml_47 hM, fmc_47 hM, fmk_48 hM, fml_48 hM, fmc_48 hM, fmk_49 hM, fml_49 hM, fmc_49 hM, fmk_50 hM, fml_50 hM, fmc_50 hM, fmk_51 hM, fml_51 hM, fmc_51 hM, fmk_52 hM, fml_52 hM, fmc_52 hM, fmk_53 hM, fml_53 hM, fmc_53 hM, fmk_54 hM, fml_54 hM, fmc_54 hM, fmk_55 hM, fml_55 hM, fmc_55 hM, fmk_56 hM, fml_56 hM, fmc_56 hM, ↓b76_0, ↓b76_5, ↓b76_18, ↓b76_21, ↓b76_30, ↓b76_33, ↓b76_37, ↓b76_38, ↓b76_42, ↓b76_51, ↓b76_56, ↓b76_65, ↓b76_75, ↓b76_85, ↓b76_87, ↓b55_0, ↓b55_5, ↓b56_0, ↓b56_6, ↓b56_13, ↓b56_17, ↓b56_18, ↓e76, ↓e55, ↓e56]
  repeat' (first | omega | split | refine And.intro ?_ ?_)
  all_goals first | omega | (exfalso; omega) | exact h _ ((fm.rf.sv (by decide)).sv (by decide)) (vkd_sv.trans (vkd_sv.trans (fmk_25 hM))) vct_svi
set_option maxRecDepth 20000 in
theorem law_5 {v5 v6 v7 : vV} (hS : SC xs w) (hX : FX w) (hM : FM w) (hv : vnt w = 58) (hc : vec w = 58) (hs : ves w = 57489) : VW 60 299 357 [(2, -2), (2, 0), (2, 25), (2, 57), (0, 0), v5, v6, v7] [] w Qf := by
  have hS1 : SC xs (vxw w) := hS
  have hM1 : FM (vxw w) := hM.c fun _ _ _ => rfl
  have key : VW 60 299 374 [(2, -2), (2, 0), (2, 25), (2, 57), (0, 0), v5, v6, v7] [(0, 1)] (vxw w) Qf := by
    refine b299_374.mpr ⟨hS1.t _ (by decide) (by decide), hS1.t _ (by decide) (by decide), fmk_25 hM1, m_rule hM1 fun w2 hf2 k25 t1 => b299_392.mpr ⟨k25, e54.mpr (b54_0.mpr ⟨k25, ?_⟩)⟩⟩
    rw [t1]
    refine b299_398.mpr ⟨fun _ => b299_405.mpr ⟨fun h => absurd h (by decide), fun _ => b299_421.mpr (lawx (hS1.fm hf2) ?_ ?_)⟩, fun h => absurd rfl h⟩
    · have e1 : vec w2 = vec (vxw w) := congrArg (fun x : Int × Nat × Nat => x.2.1) hf2.1
      have e2 : vec (vxw w) = vec w + 1 := rfl
      omega
    · have e1 : ves w2 = ves (vxw w) := congrArg (fun x : Int × Nat × Nat => x.2.2) hf2.1
      have e2 : ves (vxw w) = ves w + 6 := rfl
      omega
  refine b299_357.mpr ⟨hS.t _ (by decide) (by decide), hS.t _ (by decide) (by decide), e297.mpr (b297_0.mpr ⟨fxk_0 hX, e7x.mpr ?_⟩)⟩
  simp only [↓ifbr, vkd_sv, vln_sv, vct_sv, vnt_sv, vkd_nw, vln_nw, vct_nw, vnt_nw, vlc_lt, vlc_gt, vlc_eq, w32_id, w64_id, ne_eq, not_false_eq_true, not_true_eq_false, true_and, and_true, false_and, and_false, true_implies, implies_true, false_implies, Int.zero_add, Int.add_zero, Int.le_refl, Int.lt_irrefl, Int.min_def, Int.max_def, if_true, if_false, eq_self, and_self, ↓reduceIte, Int.reduceNeg, Int.reduceAdd, Int.reduceSub, Int.reduceMul, Int.reduceLT, Int.reduceLE, Int.reduceEq, Int.reduceNe, Int.reduceToNat, Int.reduceTDiv, Int.reduceTMod, Nat.reduceEqDiff, Nat.reduceAdd, fxk_0 hX, fx_0_0 hX, fx_0_1 hX, fx_0_2 hX, fx_0_3 hX, fx_0_4 hX, fx_0_5 hX, fx_0_6 hX, fx_0_7 hX, fx_0_8 hX, fx_0_9 hX, fx_0_10 hX, fx_0_11 hX, fx_0_12 hX, fx_0_13 hX, fx_0_14 hX, fxk_1 hX, fx_1_0 hX, fx_1_1 hX, fx_1_2 hX, fx_1_3 hX, fx_1_4 hX, fx_1_5 hX, fx_1_6 hX, fxk_2 hX, fxl_2 hX, fxc_2 hX, fxk_3 hX, fxl_3 hX, fxc_3 hX, fxk_4 hX, fxl_4 hX, fxc_4 hX, fxk_5 hX, fx_5_0 hX, fx_5_1 hX, fx_5_2 hX, fx_5_3 hX, fx_5_4 hX, fx_5_5 hX, fx_5_6 hX, fx_5_7 hX, fx_5_8 hX, fxk_6 hX, fxl_6 hX, fxc_6 hX, fxk_7 hX, fx_7_0 hX, fx_7_1 hX, fx_7_2 hX, fx_7_3 hX, fx_7_4 hX, fx_7_5 hX, fx_7_6 hX, fxk_8 hX, fxl_8 hX, fxc_8 hX, fxk_9 hX, fxl_9 hX, fxc_9 hX, fxk_10 hX, fxl_10 hX, fxc_10 hX, fxk_11 hX, fxl_11 hX, fxc_11 hX, fxk_12 hX, fx_12_0 hX, fx_12_1 hX, fxk_13 hX, fxl_13 hX, fxc_13 hX, fxk_14 hX, fx_14_0 hX, fx_14_1 hX, fx_14_2 hX, fx_14_3 hX, fx_14_4 hX, fx_14_5 hX, fxk_15 hX, fxl_15 hX, fxk_17 hX, fx_17_0 hX, fx_17_1 hX, fx_17_2 hX, fx_17_3 hX, fx_17_4 hX, fx_17_5 hX, fxk_18 hX, fxl_18 hX, fxk_19 hX, fx_19_0 hX, fx_19_1 hX, fx_19_2 hX, fx_19_3 hX, fx_19_4 hX, fx_19_5 hX, fxk_20 hX, fxl_20 hX, fxk_21 hX, fx_21_0 hX, fx_21_1 hX, fx_21_2 hX, fx_21_3 hX, fx_21_4 hX, fx_21_5 hX, fxk_22 hX, fxl_22 hX, fxk_16 hX, fx_16_0 hX, fx_16_1 hX, fx_16_2 hX, fxl_16 hX, fxk_23 hX, fxl_23 hX, fxc_23 hX, fxk_24 hX, fxl_24 hX, fxc_24 hX, b7_0, b7_4, b7_15, b7_19, b7_24, b297_12]
  repeat' (first | omega | split | refine And.intro ?_ ?_)
  all_goals first | exact key | omega

theorem m_row {d : Nat} {Q : Int → vW → Prop} {i : Int} (hM : FM w) (h : ∀ w1, fm w w1 → vkd w1 25 = 22 → vct w1 25 0 = 1 → Q 0 w1) : VC (d + 9) 156 [(2, 25), (0, i)] w Q := by
  simp only [↓ifbr, vkd_sv, vln_sv, vct_sv, vnt_sv, vkd_nw, vln_nw, vct_nw, vnt_nw, vlc_lt, vlc_gt, vlc_eq, w32_id, w64_id, ne_eq, not_false_eq_true, not_true_eq_false, true_and, and_true, false_and, and_false, true_implies, implies_true, false_implies, Int.zero_add, Int.add_zero, Int.le_refl, Int.lt_irrefl, Int.min_def, Int.max_def, if_true, if_false, eq_self, and_self, ↓reduceIte, Int.reduceNeg, Int.reduceAdd, Int.reduceSub, Int.reduceMul, Int.reduceLT, Int.reduceLE, Int.reduceEq, Int.reduceNe, Int.reduceToNat, Int.reduceTDiv, Int.reduceTMod, Nat.reduceEqDiff, Nat.reduceAdd, fmk_25 hM, fm_25_0 hM, fm_25_1 hM, fm_25_2 hM, fm_25_3 hM, fm_25_4 hM, fm_25_5 hM, fm_25_6 hM, fm_25_7 hM, fm_25_8 hM, fm_25_9 hM, fm_25_10 hM, fm_25_11 hM, fm_25_12 hM, fm_25_13 hM, fm_25_14 hM, fm_25_15 hM, fm_25_16 hM, fm_25_17 hM, fm_25_18 hM, fm_25_19 hM, fm_25_20 hM, fm_25_21 hM, fm_25_22 hM, fm_25_23 hM, fm_25_24 hM, fm_25_25 hM, fm_25_26 hM, fm_25_27 hM, fm_25_28 hM, fm_25_29 hM, fm_25_30 hM, fm_25_31 hM, fm_25_32 hM, fm_25_33 hM, fm_25_34 hM, fm_25_35 hM, fm_25_36 hM, fm_25_37 hM, fm_25_38 hM, fm_25_39 hM, fm_25_40 hM, fm_25_41 hM, fm_25_42 hM, fm_25_43 hM, fm_25_44 hM, fm_25_45 hM, fm_25_46 hM, fm_25_47 hM, fm_25_48 hM, fm_25_49 hM, fm_25_50 hM, fm_25_51 hM, fm_25_52 hM, fm_25_53 hM, fm_25_54 hM, fm_25_55 hM, fm_25_56 hM, fm_25_57 hM, fm_25_58 hM, fm_25_59 hM, fm_25_60 hM, fm_25_61 hM, fmk_26 hM, fml_26 hM, fmc_26 hM, fmk_27 hM, fml_27 hM, fmk_28 hM, fml_28 hM, fmc_28 hM, fmk_29 hM, fml_29 hM, fmc_29 hM, fmk_30 hM, fml_30 hM, fmc_30 hM, fmk_31 hM, fml_31 hM, fmc_31 hM, fmk_32 hM, fml_32 hM, fmk_33 hM, fml_33 hM, fmc_33 hM, fmk_34 hM, fml_34 hM, fmc_34 hM, fmk_35 hM, fml_35 hM, fmc_35 hM, fmk_36 hM, fml_36 hM, fmc_36 hM, fmk_37 hM, fml_37 hM, fmc_37 hM, fmk_38 hM, fml_38 hM, fmc_38 hM, fmk_39 hM, fml_39 hM, fmc_39 hM, fmk_40 hM, fml_40 hM, fmc_40 hM, fmk_41 hM, fml_41 hM, fmc_41 hM, fmk_42 hM, fml_42 hM, fmc_42 hM, fmk_43 hM, fml_43 hM, fmc_43 hM, fmk_44 hM, fml_44 hM, fmc_44 hM, fmk_45 hM, fml_45 hM, fmc_45 hM, fmk_46 hM, fml_46 hM, fmc_46 hM, fmk_47 hM, fml_47 hM, fmc_47 hM, fmk_48 hM, fml_48 hM, fmc_48 hM, fmk_49 hM, fml_49 hM, fmc_49 hM, fmk_50 hM, fml_50 hM, fmc_50 hM, fmk_51 hM, fml_51 hM, fmc_51 hM, fmk_52 hM, fml_52 hM, fmc_52 hM, fmk_53 hM, fml_53 hM, fmc_53 hM, fmk_54 hM, fml_54 hM, fmc_54 hM, fmk_55 hM, fml_55 hM, fmc_55 hM, fmk_56 hM, fml_56 hM, fmc_56 hM, ↓b156_0, ↓b156_5, ↓b156_18, ↓b156_21, ↓b156_25, ↓b156_26, ↓b55_0, ↓b55_5, ↓b56_0, ↓b56_6, ↓b56_13, ↓b56_17, ↓b56_18, ↓e156, ↓e55, ↓e56]
  repeat' (first | omega | split | refine And.intro ?_ ?_)
  all_goals first | omega | (exfalso; omega) | exact h _ ((fm.rf.sv (by decide)).sv (by decide)) (vkd_sv.trans (vkd_sv.trans (fmk_25 hM))) vct_svi
set_option maxRecDepth 20000 in
theorem law_41 {v5 v6 v7 : vV} (hS : SC xs w) (hX : FX w) (hM : FM w) (hv : vnt w = 58) (hc : vec w = 58) (hs : ves w = 57489) : VW 60 299 1708 [(2, -2), (2, 0), (2, 25), (2, 57), (0, 0), v5, v6, v7] [] w Qf := by
  have hS1 : SC xs (vxw w) := hS
  have hM1 : FM (vxw w) := hM.c fun _ _ _ => rfl
  have key : VW 60 299 1719 [(2, -2), (2, 0), (2, 25), (2, 57), (0, 0), v5, v6, v7] [(0, 1)] (vxw w) Qf := by
    refine b299_1719.mpr ⟨hS1.t _ (by decide) (by decide), fmk_25 hM1, m_row hM1 fun w2 hf2 k25 t1 => b299_1731.mpr ⟨k25, e54.mpr (b54_0.mpr ⟨k25, ?_⟩)⟩⟩
    rw [t1]
    refine b299_1737.mpr ⟨fun _ => b299_1744.mpr ⟨fun h => absurd h (by decide), fun _ => b299_1760.mpr (lawx (hS1.fm hf2) ?_ ?_)⟩, fun h => absurd rfl h⟩
    · have e1 : vec w2 = vec (vxw w) := congrArg (fun x : Int × Nat × Nat => x.2.1) hf2.1
      have e2 : vec (vxw w) = vec w + 1 := rfl
      omega
    · have e1 : ves w2 = ves (vxw w) := congrArg (fun x : Int × Nat × Nat => x.2.2) hf2.1
      have e2 : ves (vxw w) = ves w + 6 := rfl
      omega
  refine b299_1708.mpr ⟨hS.t _ (by decide) (by decide), e298.mpr (b298_0.mpr ⟨fxk_0 hX, e48x.mpr ?_⟩)⟩
  simp only [↓ifbr, vkd_sv, vln_sv, vct_sv, vnt_sv, vkd_nw, vln_nw, vct_nw, vnt_nw, vlc_lt, vlc_gt, vlc_eq, w32_id, w64_id, ne_eq, not_false_eq_true, not_true_eq_false, true_and, and_true, false_and, and_false, true_implies, implies_true, false_implies, Int.zero_add, Int.add_zero, Int.le_refl, Int.lt_irrefl, Int.min_def, Int.max_def, if_true, if_false, eq_self, and_self, ↓reduceIte, Int.reduceNeg, Int.reduceAdd, Int.reduceSub, Int.reduceMul, Int.reduceLT, Int.reduceLE, Int.reduceEq, Int.reduceNe, Int.reduceToNat, Int.reduceTDiv, Int.reduceTMod, Nat.reduceEqDiff, Nat.reduceAdd, fxk_0 hX, fx_0_0 hX, fx_0_1 hX, fx_0_2 hX, fx_0_3 hX, fx_0_4 hX, fx_0_5 hX, fx_0_6 hX, fx_0_7 hX, fx_0_8 hX, fx_0_9 hX, fx_0_10 hX, fx_0_11 hX, fx_0_12 hX, fx_0_13 hX, fx_0_14 hX, fxk_1 hX, fx_1_0 hX, fx_1_1 hX, fx_1_2 hX, fx_1_3 hX, fx_1_4 hX, fx_1_5 hX, fx_1_6 hX, fxk_2 hX, fxl_2 hX, fxc_2 hX, fxk_3 hX, fxl_3 hX, fxc_3 hX, fxk_4 hX, fxl_4 hX, fxc_4 hX, fxk_5 hX, fx_5_0 hX, fx_5_1 hX, fx_5_2 hX, fx_5_3 hX, fx_5_4 hX, fx_5_5 hX, fx_5_6 hX, fx_5_7 hX, fx_5_8 hX, fxk_6 hX, fxl_6 hX, fxc_6 hX, fxk_7 hX, fx_7_0 hX, fx_7_1 hX, fx_7_2 hX, fx_7_3 hX, fx_7_4 hX, fx_7_5 hX, fx_7_6 hX, fxk_8 hX, fxl_8 hX, fxc_8 hX, fxk_9 hX, fxl_9 hX, fxc_9 hX, fxk_10 hX, fxl_10 hX, fxc_10 hX, fxk_11 hX, fxl_11 hX, fxc_11 hX, fxk_12 hX, fx_12_0 hX, fx_12_1 hX, fxk_13 hX, fxl_13 hX, fxc_13 hX, fxk_14 hX, fx_14_0 hX, fx_14_1 hX, fx_14_2 hX, fx_14_3 hX, fx_14_4 hX, fx_14_5 hX, fxk_15 hX, fxl_15 hX, fxk_17 hX, fx_17_0 hX, fx_17_1 hX, fx_17_2 hX, fx_17_3 hX, fx_17_4 hX, fx_17_5 hX, fxk_18 hX, fxl_18 hX, fxk_19 hX, fx_19_0 hX, fx_19_1 hX, fx_19_2 hX, fx_19_3 hX, fx_19_4 hX, fx_19_5 hX, fxk_20 hX, fxl_20 hX, fxk_21 hX, fx_21_0 hX, fx_21_1 hX, fx_21_2 hX, fx_21_3 hX, fx_21_4 hX, fx_21_5 hX, fxk_22 hX, fxl_22 hX, fxk_16 hX, fx_16_0 hX, fx_16_1 hX, fx_16_2 hX, fxl_16 hX, fxk_23 hX, fxl_23 hX, fxc_23 hX, fxk_24 hX, fxl_24 hX, fxc_24 hX, b48_0, b48_4, b48_15, b298_11]
  repeat' (first | omega | split | refine And.intro ?_ ?_)
  all_goals first | exact key | omega

end LAW
