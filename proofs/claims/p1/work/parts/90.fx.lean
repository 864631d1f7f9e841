/-! the fresh world: the class's cells 0 .. 24, the model's 25 .. 56 -/
def FX (w : vW) : Prop := OB w 0 21 [1, 5, 12, 14, 16, 23, 0, 0, (-1), (-1), (-1), (-1), (-1), (-1), 24] ∧ (((((((((((True) ∧ OB w 1 18 [2, 3, 4, 0, 0, 0, (-1)] ∧ ((((True) ∧ w.1 2 = (2, 24, fun _ => 0)) ∧ w.1 3 = (2, 24, fun _ => 0)) ∧ w.1 4 = (1, 9, fun _ => 0))) ∧ OB w 5 17 [6, 0, 7, 11, 0, 0, 0, 0, 0] ∧ ((((True) ∧ w.1 6 = (1, 80, fun _ => 0)) ∧ OB w 7 18 [8, 9, 10, 0, 0, 0, (-1)] ∧ ((((True) ∧ w.1 8 = (2, 24, fun _ => 0)) ∧ w.1 9 = (2, 24, fun _ => 0)) ∧ w.1 10 = (1, 9, fun _ => 0))) ∧ w.1 11 = (1, 8, fun _ => 0))) ∧ OB w 12 20 [13, 0] ∧ ((True) ∧ w.1 13 = (2, 32, fun _ => 0))) ∧ OB w 14 12 [15, 0, 0, 1, 3, 0] ∧ (w.1 15 = (1, 8, fun j => if 0 ≤ j ∧ j < 8 then 1 else 0))) ∧ OB w 17 12 [18, 0, 0, 1, 3, 0] ∧ (w.1 18 = (1, 8, fun j => if 0 ≤ j ∧ j < 8 then 1 else 0))) ∧ OB w 19 12 [20, 0, 0, 1, 3, 0] ∧ (w.1 20 = (1, 8, fun j => if 0 ≤ j ∧ j < 8 then 1 else 0))) ∧ OB w 21 12 [22, 0, 0, 1, 3, 0] ∧ (w.1 22 = (1, 8, fun j => if 0 ≤ j ∧ j < 8 then 1 else 0))) ∧ OB w 16 4 [17, 19, 21] ∧ vln w 16 = 3) ∧ w.1 23 = (2, 64, fun _ => 0)) ∧ w.1 24 = (5, 3, fun _ => -1))
theorem fxk_0 {w : vW} (h : FX w) : vkd w 0 = 21 := h.1.1
theorem fxo_0 {w : vW} (h : FX w) : OB w 0 21 [1, 5, 12, 14, 16, 23, 0, 0, (-1), (-1), (-1), (-1), (-1), (-1), 24] := h.1
theorem fx_0_0 {w : vW} (h : FX w) : vct w 0 0 = 1 := h.1.f 0 rfl
theorem fx_0_1 {w : vW} (h : FX w) : vct w 0 1 = 5 := h.1.f 1 rfl
theorem fx_0_2 {w : vW} (h : FX w) : vct w 0 2 = 12 := h.1.f 2 rfl
theorem fx_0_3 {w : vW} (h : FX w) : vct w 0 3 = 14 := h.1.f 3 rfl
theorem fx_0_4 {w : vW} (h : FX w) : vct w 0 4 = 16 := h.1.f 4 rfl
theorem fx_0_5 {w : vW} (h : FX w) : vct w 0 5 = 23 := h.1.f 5 rfl
theorem fx_0_6 {w : vW} (h : FX w) : vct w 0 6 = 0 := h.1.f 6 rfl
theorem fx_0_7 {w : vW} (h : FX w) : vct w 0 7 = 0 := h.1.f 7 rfl
theorem fx_0_8 {w : vW} (h : FX w) : vct w 0 8 = (-1) := h.1.f 8 rfl
theorem fx_0_9 {w : vW} (h : FX w) : vct w 0 9 = (-1) := h.1.f 9 rfl
theorem fx_0_10 {w : vW} (h : FX w) : vct w 0 10 = (-1) := h.1.f 10 rfl
theorem fx_0_11 {w : vW} (h : FX w) : vct w 0 11 = (-1) := h.1.f 11 rfl
theorem fx_0_12 {w : vW} (h : FX w) : vct w 0 12 = (-1) := h.1.f 12 rfl
theorem fx_0_13 {w : vW} (h : FX w) : vct w 0 13 = (-1) := h.1.f 13 rfl
theorem fx_0_14 {w : vW} (h : FX w) : vct w 0 14 = 24 := h.1.f 14 rfl
theorem fxk_1 {w : vW} (h : FX w) : vkd w 1 = 18 := h.2.1.1.1.1.1.1.1.1.1.2.1.1
theorem fxo_1 {w : vW} (h : FX w) : OB w 1 18 [2, 3, 4, 0, 0, 0, (-1)] := h.2.1.1.1.1.1.1.1.1.1.2.1
theorem fx_1_0 {w : vW} (h : FX w) : vct w 1 0 = 2 := h.2.1.1.1.1.1.1.1.1.1.2.1.f 0 rfl
theorem fx_1_1 {w : vW} (h : FX w) : vct w 1 1 = 3 := h.2.1.1.1.1.1.1.1.1.1.2.1.f 1 rfl
theorem fx_1_2 {w : vW} (h : FX w) : vct w 1 2 = 4 := h.2.1.1.1.1.1.1.1.1.1.2.1.f 2 rfl
theorem fx_1_3 {w : vW} (h : FX w) : vct w 1 3 = 0 := h.2.1.1.1.1.1.1.1.1.1.2.1.f 3 rfl
theorem fx_1_4 {w : vW} (h : FX w) : vct w 1 4 = 0 := h.2.1.1.1.1.1.1.1.1.1.2.1.f 4 rfl
theorem fx_1_5 {w : vW} (h : FX w) : vct w 1 5 = 0 := h.2.1.1.1.1.1.1.1.1.1.2.1.f 5 rfl
theorem fx_1_6 {w : vW} (h : FX w) : vct w 1 6 = (-1) := h.2.1.1.1.1.1.1.1.1.1.2.1.f 6 rfl
theorem fxk_2 {w : vW} (h : FX w) : vkd w 2 = 2 := congrArg (fun x : vC => x.1) h.2.1.1.1.1.1.1.1.1.1.2.2.1.1.2
theorem fxl_2 {w : vW} (h : FX w) : vln w 2 = 24 := congrArg (fun x : vC => x.2.1) h.2.1.1.1.1.1.1.1.1.1.2.2.1.1.2
theorem fxc_2 {w : vW} (h : FX w) (j : Int) : vct w 2 j = 0 := congrFun (congrArg (fun x : vC => x.2.2) h.2.1.1.1.1.1.1.1.1.1.2.2.1.1.2) j
theorem fxk_3 {w : vW} (h : FX w) : vkd w 3 = 2 := congrArg (fun x : vC => x.1) h.2.1.1.1.1.1.1.1.1.1.2.2.1.2
theorem fxl_3 {w : vW} (h : FX w) : vln w 3 = 24 := congrArg (fun x : vC => x.2.1) h.2.1.1.1.1.1.1.1.1.1.2.2.1.2
theorem fxc_3 {w : vW} (h : FX w) (j : Int) : vct w 3 j = 0 := congrFun (congrArg (fun x : vC => x.2.2) h.2.1.1.1.1.1.1.1.1.1.2.2.1.2) j
theorem fxk_4 {w : vW} (h : FX w) : vkd w 4 = 1 := congrArg (fun x : vC => x.1) h.2.1.1.1.1.1.1.1.1.1.2.2.2
theorem fxl_4 {w : vW} (h : FX w) : vln w 4 = 9 := congrArg (fun x : vC => x.2.1) h.2.1.1.1.1.1.1.1.1.1.2.2.2
theorem fxc_4 {w : vW} (h : FX w) (j : Int) : vct w 4 j = 0 := congrFun (congrArg (fun x : vC => x.2.2) h.2.1.1.1.1.1.1.1.1.1.2.2.2) j
theorem fxk_5 {w : vW} (h : FX w) : vkd w 5 = 17 := h.2.1.1.1.1.1.1.1.1.2.1.1
theorem fxo_5 {w : vW} (h : FX w) : OB w 5 17 [6, 0, 7, 11, 0, 0, 0, 0, 0] := h.2.1.1.1.1.1.1.1.1.2.1
theorem fx_5_0 {w : vW} (h : FX w) : vct w 5 0 = 6 := h.2.1.1.1.1.1.1.1.1.2.1.f 0 rfl
theorem fx_5_1 {w : vW} (h : FX w) : vct w 5 1 = 0 := h.2.1.1.1.1.1.1.1.1.2.1.f 1 rfl
theorem fx_5_2 {w : vW} (h : FX w) : vct w 5 2 = 7 := h.2.1.1.1.1.1.1.1.1.2.1.f 2 rfl
theorem fx_5_3 {w : vW} (h : FX w) : vct w 5 3 = 11 := h.2.1.1.1.1.1.1.1.1.2.1.f 3 rfl
theorem fx_5_4 {w : vW} (h : FX w) : vct w 5 4 = 0 := h.2.1.1.1.1.1.1.1.1.2.1.f 4 rfl
theorem fx_5_5 {w : vW} (h : FX w) : vct w 5 5 = 0 := h.2.1.1.1.1.1.1.1.1.2.1.f 5 rfl
theorem fx_5_6 {w : vW} (h : FX w) : vct w 5 6 = 0 := h.2.1.1.1.1.1.1.1.1.2.1.f 6 rfl
theorem fx_5_7 {w : vW} (h : FX w) : vct w 5 7 = 0 := h.2.1.1.1.1.1.1.1.1.2.1.f 7 rfl
theorem fx_5_8 {w : vW} (h : FX w) : vct w 5 8 = 0 := h.2.1.1.1.1.1.1.1.1.2.1.f 8 rfl
theorem fxk_6 {w : vW} (h : FX w) : vkd w 6 = 1 := congrArg (fun x : vC => x.1) h.2.1.1.1.1.1.1.1.1.2.2.1.1.2
theorem fxl_6 {w : vW} (h : FX w) : vln w 6 = 80 := congrArg (fun x : vC => x.2.1) h.2.1.1.1.1.1.1.1.1.2.2.1.1.2
theorem fxc_6 {w : vW} (h : FX w) (j : Int) : vct w 6 j = 0 := congrFun (congrArg (fun x : vC => x.2.2) h.2.1.1.1.1.1.1.1.1.2.2.1.1.2) j
theorem fxk_7 {w : vW} (h : FX w) : vkd w 7 = 18 := h.2.1.1.1.1.1.1.1.1.2.2.1.2.1.1
theorem fxo_7 {w : vW} (h : FX w) : OB w 7 18 [8, 9, 10, 0, 0, 0, (-1)] := h.2.1.1.1.1.1.1.1.1.2.2.1.2.1
theorem fx_7_0 {w : vW} (h : FX w) : vct w 7 0 = 8 := h.2.1.1.1.1.1.1.1.1.2.2.1.2.1.f 0 rfl
theorem fx_7_1 {w : vW} (h : FX w) : vct w 7 1 = 9 := h.2.1.1.1.1.1.1.1.1.2.2.1.2.1.f 1 rfl
theorem fx_7_2 {w : vW} (h : FX w) : vct w 7 2 = 10 := h.2.1.1.1.1.1.1.1.1.2.2.1.2.1.f 2 rfl
theorem fx_7_3 {w : vW} (h : FX w) : vct w 7 3 = 0 := h.2.1.1.1.1.1.1.1.1.2.2.1.2.1.f 3 rfl
theorem fx_7_4 {w : vW} (h : FX w) : vct w 7 4 = 0 := h.2.1.1.1.1.1.1.1.1.2.2.1.2.1.f 4 rfl
theorem fx_7_5 {w : vW} (h : FX w) : vct w 7 5 = 0 := h.2.1.1.1.1.1.1.1.1.2.2.1.2.1.f 5 rfl
theorem fx_7_6 {w : vW} (h : FX w) : vct w 7 6 = (-1) := h.2.1.1.1.1.1.1.1.1.2.2.1.2.1.f 6 rfl
theorem fxk_8 {w : vW} (h : FX w) : vkd w 8 = 2 := congrArg (fun x : vC => x.1) h.2.1.1.1.1.1.1.1.1.2.2.1.2.2.1.1.2
theorem fxl_8 {w : vW} (h : FX w) : vln w 8 = 24 := congrArg (fun x : vC => x.2.1) h.2.1.1.1.1.1.1.1.1.2.2.1.2.2.1.1.2
theorem fxc_8 {w : vW} (h : FX w) (j : Int) : vct w 8 j = 0 := congrFun (congrArg (fun x : vC => x.2.2) h.2.1.1.1.1.1.1.1.1.2.2.1.2.2.1.1.2) j
theorem fxk_9 {w : vW} (h : FX w) : vkd w 9 = 2 := congrArg (fun x : vC => x.1) h.2.1.1.1.1.1.1.1.1.2.2.1.2.2.1.2
theorem fxl_9 {w : vW} (h : FX w) : vln w 9 = 24 := congrArg (fun x : vC => x.2.1) h.2.1.1.1.1.1.1.1.1.2.2.1.2.2.1.2
theorem fxc_9 {w : vW} (h : FX w) (j : Int) : vct w 9 j = 0 := congrFun (congrArg (fun x : vC => x.2.2) h.2.1.1.1.1.1.1.1.1.2.2.1.2.2.1.2) j
theorem fxk_10 {w : vW} (h : FX w) : vkd w 10 = 1 := congrArg (fun x : vC => x.1) h.2.1.1.1.1.1.1.1.1.2.2.1.2.2.2
theorem fxl_10 {w : vW} (h : FX w) : vln w 10 = 9 := congrArg (fun x : vC => x.2.1) h.2.1.1.1.1.1.1.1.1.2.2.1.2.2.2
theorem fxc_10 {w : vW} (h : FX w) (j : Int) : vct w 10 j = 0 := congrFun (congrArg (fun x : vC => x.2.2) h.2.1.1.1.1.1.1.1.1.2.2.1.2.2.2) j
theorem fxk_11 {w : vW} (h : FX w) : vkd w 11 = 1 := congrArg (fun x : vC => x.1) h.2.1.1.1.1.1.1.1.1.2.2.2
theorem fxl_11 {w : vW} (h : FX w) : vln w 11 = 8 := congrArg (fun x : vC => x.2.1) h.2.1.1.1.1.1.1.1.1.2.2.2
theorem fxc_11 {w : vW} (h : FX w) (j : Int) : vct w 11 j = 0 := congrFun (congrArg (fun x : vC => x.2.2) h.2.1.1.1.1.1.1.1.1.2.2.2) j
theorem fxk_12 {w : vW} (h : FX w) : vkd w 12 = 20 := h.2.1.1.1.1.1.1.1.2.1.1
theorem fxo_12 {w : vW} (h : FX w) : OB w 12 20 [13, 0] := h.2.1.1.1.1.1.1.1.2.1
theorem fx_12_0 {w : vW} (h : FX w) : vct w 12 0 = 13 := h.2.1.1.1.1.1.1.1.2.1.f 0 rfl
theorem fx_12_1 {w : vW} (h : FX w) : vct w 12 1 = 0 := h.2.1.1.1.1.1.1.1.2.1.f 1 rfl
theorem fxk_13 {w : vW} (h : FX w) : vkd w 13 = 2 := congrArg (fun x : vC => x.1) h.2.1.1.1.1.1.1.1.2.2.2
theorem fxl_13 {w : vW} (h : FX w) : vln w 13 = 32 := congrArg (fun x : vC => x.2.1) h.2.1.1.1.1.1.1.1.2.2.2
theorem fxc_13 {w : vW} (h : FX w) (j : Int) : vct w 13 j = 0 := congrFun (congrArg (fun x : vC => x.2.2) h.2.1.1.1.1.1.1.1.2.2.2) j
theorem fxk_14 {w : vW} (h : FX w) : vkd w 14 = 12 := h.2.1.1.1.1.1.1.2.1.1
theorem fxo_14 {w : vW} (h : FX w) : OB w 14 12 [15, 0, 0, 1, 3, 0] := h.2.1.1.1.1.1.1.2.1
theorem fx_14_0 {w : vW} (h : FX w) : vct w 14 0 = 15 := h.2.1.1.1.1.1.1.2.1.f 0 rfl
theorem fx_14_1 {w : vW} (h : FX w) : vct w 14 1 = 0 := h.2.1.1.1.1.1.1.2.1.f 1 rfl
theorem fx_14_2 {w : vW} (h : FX w) : vct w 14 2 = 0 := h.2.1.1.1.1.1.1.2.1.f 2 rfl
theorem fx_14_3 {w : vW} (h : FX w) : vct w 14 3 = 1 := h.2.1.1.1.1.1.1.2.1.f 3 rfl
theorem fx_14_4 {w : vW} (h : FX w) : vct w 14 4 = 3 := h.2.1.1.1.1.1.1.2.1.f 4 rfl
theorem fx_14_5 {w : vW} (h : FX w) : vct w 14 5 = 0 := h.2.1.1.1.1.1.1.2.1.f 5 rfl
theorem fxk_15 {w : vW} (h : FX w) : vkd w 15 = 1 := congrArg (fun x : vC => x.1) h.2.1.1.1.1.1.1.2.2
theorem fxl_15 {w : vW} (h : FX w) : vln w 15 = 8 := congrArg (fun x : vC => x.2.1) h.2.1.1.1.1.1.1.2.2
theorem fxc_15 {w : vW} (h : FX w) (j : Int) : vct w 15 j = (if 0 ≤ j ∧ j < 8 then 1 else 0) := congrFun (congrArg (fun x : vC => x.2.2) h.2.1.1.1.1.1.1.2.2) j
theorem fxk_17 {w : vW} (h : FX w) : vkd w 17 = 12 := h.2.1.1.1.1.1.2.1.1
theorem fxo_17 {w : vW} (h : FX w) : OB w 17 12 [18, 0, 0, 1, 3, 0] := h.2.1.1.1.1.1.2.1
theorem fx_17_0 {w : vW} (h : FX w) : vct w 17 0 = 18 := h.2.1.1.1.1.1.2.1.f 0 rfl
theorem fx_17_1 {w : vW} (h : FX w) : vct w 17 1 = 0 := h.2.1.1.1.1.1.2.1.f 1 rfl
theorem fx_17_2 {w : vW} (h : FX w) : vct w 17 2 = 0 := h.2.1.1.1.1.1.2.1.f 2 rfl
theorem fx_17_3 {w : vW} (h : FX w) : vct w 17 3 = 1 := h.2.1.1.1.1.1.2.1.f 3 rfl
theorem fx_17_4 {w : vW} (h : FX w) : vct w 17 4 = 3 := h.2.1.1.1.1.1.2.1.f 4 rfl
theorem fx_17_5 {w : vW} (h : FX w) : vct w 17 5 = 0 := h.2.1.1.1.1.1.2.1.f 5 rfl
theorem fxk_18 {w : vW} (h : FX w) : vkd w 18 = 1 := congrArg (fun x : vC => x.1) h.2.1.1.1.1.1.2.2
theorem fxl_18 {w : vW} (h : FX w) : vln w 18 = 8 := congrArg (fun x : vC => x.2.1) h.2.1.1.1.1.1.2.2
theorem fxc_18 {w : vW} (h : FX w) (j : Int) : vct w 18 j = (if 0 ≤ j ∧ j < 8 then 1 else 0) := congrFun (congrArg (fun x : vC => x.2.2) h.2.1.1.1.1.1.2.2) j
theorem fxk_19 {w : vW} (h : FX w) : vkd w 19 = 12 := h.2.1.1.1.1.2.1.1
theorem fxo_19 {w : vW} (h : FX w) : OB w 19 12 [20, 0, 0, 1, 3, 0] := h.2.1.1.1.1.2.1
theorem fx_19_0 {w : vW} (h : FX w) : vct w 19 0 = 20 := h.2.1.1.1.1.2.1.f 0 rfl
theorem fx_19_1 {w : vW} (h : FX w) : vct w 19 1 = 0 := h.2.1.1.1.1.2.1.f 1 rfl
theorem fx_19_2 {w : vW} (h : FX w) : vct w 19 2 = 0 := h.2.1.1.1.1.2.1.f 2 rfl
theorem fx_19_3 {w : vW} (h : FX w) : vct w 19 3 = 1 := h.2.1.1.1.1.2.1.f 3 rfl
theorem fx_19_4 {w : vW} (h : FX w) : vct w 19 4 = 3 := h.2.1.1.1.1.2.1.f 4 rfl
theorem fx_19_5 {w : vW} (h : FX w) : vct w 19 5 = 0 := h.2.1.1.1.1.2.1.f 5 rfl
theorem fxk_20 {w : vW} (h : FX w) : vkd w 20 = 1 := congrArg (fun x : vC => x.1) h.2.1.1.1.1.2.2
theorem fxl_20 {w : vW} (h : FX w) : vln w 20 = 8 := congrArg (fun x : vC => x.2.1) h.2.1.1.1.1.2.2
theorem fxc_20 {w : vW} (h : FX w) (j : Int) : vct w 20 j = (if 0 ≤ j ∧ j < 8 then 1 else 0) := congrFun (congrArg (fun x : vC => x.2.2) h.2.1.1.1.1.2.2) j
theorem fxk_21 {w : vW} (h : FX w) : vkd w 21 = 12 := h.2.1.1.1.2.1.1
theorem fxo_21 {w : vW} (h : FX w) : OB w 21 12 [22, 0, 0, 1, 3, 0] := h.2.1.1.1.2.1
theorem fx_21_0 {w : vW} (h : FX w) : vct w 21 0 = 22 := h.2.1.1.1.2.1.f 0 rfl
theorem fx_21_1 {w : vW} (h : FX w) : vct w 21 1 = 0 := h.2.1.1.1.2.1.f 1 rfl
theorem fx_21_2 {w : vW} (h : FX w) : vct w 21 2 = 0 := h.2.1.1.1.2.1.f 2 rfl
theorem fx_21_3 {w : vW} (h : FX w) : vct w 21 3 = 1 := h.2.1.1.1.2.1.f 3 rfl
theorem fx_21_4 {w : vW} (h : FX w) : vct w 21 4 = 3 := h.2.1.1.1.2.1.f 4 rfl
theorem fx_21_5 {w : vW} (h : FX w) : vct w 21 5 = 0 := h.2.1.1.1.2.1.f 5 rfl
theorem fxk_22 {w : vW} (h : FX w) : vkd w 22 = 1 := congrArg (fun x : vC => x.1) h.2.1.1.1.2.2
theorem fxl_22 {w : vW} (h : FX w) : vln w 22 = 8 := congrArg (fun x : vC => x.2.1) h.2.1.1.1.2.2
theorem fxc_22 {w : vW} (h : FX w) (j : Int) : vct w 22 j = (if 0 ≤ j ∧ j < 8 then 1 else 0) := congrFun (congrArg (fun x : vC => x.2.2) h.2.1.1.1.2.2) j
theorem fxk_16 {w : vW} (h : FX w) : vkd w 16 = 4 := h.2.1.1.2.1.1
theorem fxo_16 {w : vW} (h : FX w) : OB w 16 4 [17, 19, 21] := h.2.1.1.2.1
theorem fx_16_0 {w : vW} (h : FX w) : vct w 16 0 = 17 := h.2.1.1.2.1.f 0 rfl
theorem fx_16_1 {w : vW} (h : FX w) : vct w 16 1 = 19 := h.2.1.1.2.1.f 1 rfl
theorem fx_16_2 {w : vW} (h : FX w) : vct w 16 2 = 21 := h.2.1.1.2.1.f 2 rfl
theorem fxl_16 {w : vW} (h : FX w) : vln w 16 = 3 := h.2.1.1.2.2
theorem fxk_23 {w : vW} (h : FX w) : vkd w 23 = 2 := congrArg (fun x : vC => x.1) h.2.1.2
theorem fxl_23 {w : vW} (h : FX w) : vln w 23 = 64 := congrArg (fun x : vC => x.2.1) h.2.1.2
theorem fxc_23 {w : vW} (h : FX w) (j : Int) : vct w 23 j = 0 := congrFun (congrArg (fun x : vC => x.2.2) h.2.1.2) j
theorem fxk_24 {w : vW} (h : FX w) : vkd w 24 = 5 := congrArg (fun x : vC => x.1) h.2.2
theorem fxl_24 {w : vW} (h : FX w) : vln w 24 = 3 := congrArg (fun x : vC => x.2.1) h.2.2
theorem fxc_24 {w : vW} (h : FX w) (j : Int) : vct w 24 j = -1 := congrFun (congrArg (fun x : vC => x.2.2) h.2.2) j
theorem FX.c {w w' : vW} (h : FX w) (hw : ∀ b : Int, 0 ≤ b → b < 25 → w'.1 b = w.1 b) : FX w' := ⟨(h.1).c (hw 0 (by omega) (by omega)), ⟨⟨⟨⟨⟨⟨⟨⟨⟨⟨trivial, ⟨(h.2.1.1.1.1.1.1.1.1.1.2.1).c (hw 1 (by omega) (by omega)), ⟨⟨⟨trivial, (hw 2 (by omega) (by omega)).trans (h.2.1.1.1.1.1.1.1.1.1.2.2.1.1.2)⟩, (hw 3 (by omega) (by omega)).trans (h.2.1.1.1.1.1.1.1.1.1.2.2.1.2)⟩, (hw 4 (by omega) (by omega)).trans (h.2.1.1.1.1.1.1.1.1.1.2.2.2)⟩⟩⟩, ⟨(h.2.1.1.1.1.1.1.1.1.2.1).c (hw 5 (by omega) (by omega)), ⟨⟨⟨trivial, (hw 6 (by omega) (by omega)).trans (h.2.1.1.1.1.1.1.1.1.2.2.1.1.2)⟩, ⟨(h.2.1.1.1.1.1.1.1.1.2.2.1.2.1).c (hw 7 (by omega) (by omega)), ⟨⟨⟨trivial, (hw 8 (by omega) (by omega)).trans (h.2.1.1.1.1.1.1.1.1.2.2.1.2.2.1.1.2)⟩, (hw 9 (by omega) (by omega)).trans (h.2.1.1.1.1.1.1.1.1.2.2.1.2.2.1.2)⟩, (hw 10 (by omega) (by omega)).trans (h.2.1.1.1.1.1.1.1.1.2.2.1.2.2.2)⟩⟩⟩, (hw 11 (by omega) (by omega)).trans (h.2.1.1.1.1.1.1.1.1.2.2.2)⟩⟩⟩, ⟨(h.2.1.1.1.1.1.1.1.2.1).c (hw 12 (by omega) (by omega)), ⟨trivial, (hw 13 (by omega) (by omega)).trans (h.2.1.1.1.1.1.1.1.2.2.2)⟩⟩⟩, ⟨(h.2.1.1.1.1.1.1.2.1).c (hw 14 (by omega) (by omega)), (hw 15 (by omega) (by omega)).trans (h.2.1.1.1.1.1.1.2.2)⟩⟩, ⟨(h.2.1.1.1.1.1.2.1).c (hw 17 (by omega) (by omega)), (hw 18 (by omega) (by omega)).trans (h.2.1.1.1.1.1.2.2)⟩⟩, ⟨(h.2.1.1.1.1.2.1).c (hw 19 (by omega) (by omega)), (hw 20 (by omega) (by omega)).trans (h.2.1.1.1.1.2.2)⟩⟩, ⟨(h.2.1.1.1.2.1).c (hw 21 (by omega) (by omega)), (hw 22 (by omega) (by omega)).trans (h.2.1.1.1.2.2)⟩⟩, ⟨(h.2.1.1.2.1).c (hw 16 (by omega) (by omega)), (vln_cl (hw 16 (by omega) (by omega))).trans (h.2.1.1.2.2)⟩⟩, (hw 23 (by omega) (by omega)).trans (h.2.1.2)⟩, (hw 24 (by omega) (by omega)).trans (h.2.2)⟩⟩
def FM (w : vW) : Prop := OB w 25 22 [0, 0, 26, 27, 0, 0, 28, 29, 30, 31, 32, 33, 3, 0, 0, 0, 34, 1, 35, 0, 0, 0, 0, 0, 0, 36, 37, 38, 0, (-1), 39, 40, 41, 42, 43, 0, 44, 45, 46, 0, 0, 0, 0, 0, 0, 0, 47, 48, 0, 49, 0, 0, 0, 50, 0, 0, 51, 52, 53, 54, 55, 56] ∧ (w.1 26 = (2, 32, fun _ => 0) ∧ (vkd w 27 = 2 ∧ vln w 27 = 20 ∧ ∀ j : Nat, j < 20 → vct w 27 (j : Int) = 9 ^ j) ∧ w.1 28 = (2, 36, fun _ => 0) ∧ w.1 29 = (2, 36, fun _ => 0) ∧ w.1 30 = (1, 36, fun _ => 0) ∧ w.1 31 = (1, 36, fun _ => 0) ∧ (vkd w 32 = 1 ∧ vln w 32 = 8 ∧ ∀ j : Nat, j < 8 → vct w 32 (j : Int) = 1) ∧ w.1 33 = (1, 8, fun _ => 0) ∧ w.1 34 = (2, 64, fun _ => 0) ∧ w.1 35 = (1, 80, fun _ => 0) ∧ w.1 36 = (1, 12, fun _ => 0) ∧ w.1 37 = (1, 8192, fun _ => 0) ∧ w.1 38 = (2, 3001, fun _ => 0) ∧ w.1 39 = (1, 3000, fun _ => 0) ∧ w.1 40 = (1, 3000, fun _ => 0) ∧ w.1 41 = (1, 3000, fun _ => 0) ∧ w.1 42 = (1, 3000, fun _ => 0) ∧ w.1 43 = (2, 3000, fun _ => 0) ∧ w.1 44 = (2, 3, fun _ => 0) ∧ w.1 45 = (1, 3, fun _ => 0) ∧ w.1 46 = (2, 3000, fun _ => 0) ∧ w.1 47 = (1, 8, fun _ => 0) ∧ w.1 48 = (1, 96, fun _ => 0) ∧ w.1 49 = (1, 3001, fun _ => 0) ∧ w.1 50 = (1, 3001, fun _ => 0) ∧ w.1 51 = (2, 6561, fun _ => 0) ∧ w.1 52 = (2, 6561, fun _ => 0) ∧ w.1 53 = (2, 4096, fun _ => 0) ∧ w.1 54 = (2, 4096, fun _ => 0) ∧ w.1 55 = (3, 3, fun _ => 0) ∧ w.1 56 = (2, 36, fun _ => 0))
theorem fmk_25 {w : vW} (h : FM w) : vkd w 25 = 22 := h.1.1
theorem fmo_25 {w : vW} (h : FM w) : OB w 25 22 [0, 0, 26, 27, 0, 0, 28, 29, 30, 31, 32, 33, 3, 0, 0, 0, 34, 1, 35, 0, 0, 0, 0, 0, 0, 36, 37, 38, 0, (-1), 39, 40, 41, 42, 43, 0, 44, 45, 46, 0, 0, 0, 0, 0, 0, 0, 47, 48, 0, 49, 0, 0, 0, 50, 0, 0, 51, 52, 53, 54, 55, 56] := h.1
theorem fm_25_0 {w : vW} (h : FM w) : vct w 25 0 = 0 := h.1.f 0 rfl
theorem fm_25_1 {w : vW} (h : FM w) : vct w 25 1 = 0 := h.1.f 1 rfl
theorem fm_25_2 {w : vW} (h : FM w) : vct w 25 2 = 26 := h.1.f 2 rfl
theorem fm_25_3 {w : vW} (h : FM w) : vct w 25 3 = 27 := h.1.f 3 rfl
theorem fm_25_4 {w : vW} (h : FM w) : vct w 25 4 = 0 := h.1.f 4 rfl
theorem fm_25_5 {w : vW} (h : FM w) : vct w 25 5 = 0 := h.1.f 5 rfl
theorem fm_25_6 {w : vW} (h : FM w) : vct w 25 6 = 28 := h.1.f 6 rfl
theorem fm_25_7 {w : vW} (h : FM w) : vct w 25 7 = 29 := h.1.f 7 rfl
theorem fm_25_8 {w : vW} (h : FM w) : vct w 25 8 = 30 := h.1.f 8 rfl
theorem fm_25_9 {w : vW} (h : FM w) : vct w 25 9 = 31 := h.1.f 9 rfl
theorem fm_25_10 {w : vW} (h : FM w) : vct w 25 10 = 32 := h.1.f 10 rfl
theorem fm_25_11 {w : vW} (h : FM w) : vct w 25 11 = 33 := h.1.f 11 rfl
theorem fm_25_12 {w : vW} (h : FM w) : vct w 25 12 = 3 := h.1.f 12 rfl
theorem fm_25_13 {w : vW} (h : FM w) : vct w 25 13 = 0 := h.1.f 13 rfl
theorem fm_25_14 {w : vW} (h : FM w) : vct w 25 14 = 0 := h.1.f 14 rfl
theorem fm_25_15 {w : vW} (h : FM w) : vct w 25 15 = 0 := h.1.f 15 rfl
theorem fm_25_16 {w : vW} (h : FM w) : vct w 25 16 = 34 := h.1.f 16 rfl
theorem fm_25_17 {w : vW} (h : FM w) : vct w 25 17 = 1 := h.1.f 17 rfl
theorem fm_25_18 {w : vW} (h : FM w) : vct w 25 18 = 35 := h.1.f 18 rfl
theorem fm_25_19 {w : vW} (h : FM w) : vct w 25 19 = 0 := h.1.f 19 rfl
theorem fm_25_20 {w : vW} (h : FM w) : vct w 25 20 = 0 := h.1.f 20 rfl
theorem fm_25_21 {w : vW} (h : FM w) : vct w 25 21 = 0 := h.1.f 21 rfl
theorem fm_25_22 {w : vW} (h : FM w) : vct w 25 22 = 0 := h.1.f 22 rfl
theorem fm_25_23 {w : vW} (h : FM w) : vct w 25 23 = 0 := h.1.f 23 rfl
theorem fm_25_24 {w : vW} (h : FM w) : vct w 25 24 = 0 := h.1.f 24 rfl
theorem fm_25_25 {w : vW} (h : FM w) : vct w 25 25 = 36 := h.1.f 25 rfl
theorem fm_25_26 {w : vW} (h : FM w) : vct w 25 26 = 37 := h.1.f 26 rfl
theorem fm_25_27 {w : vW} (h : FM w) : vct w 25 27 = 38 := h.1.f 27 rfl
theorem fm_25_28 {w : vW} (h : FM w) : vct w 25 28 = 0 := h.1.f 28 rfl
theorem fm_25_29 {w : vW} (h : FM w) : vct w 25 29 = (-1) := h.1.f 29 rfl
theorem fm_25_30 {w : vW} (h : FM w) : vct w 25 30 = 39 := h.1.f 30 rfl
theorem fm_25_31 {w : vW} (h : FM w) : vct w 25 31 = 40 := h.1.f 31 rfl
theorem fm_25_32 {w : vW} (h : FM w) : vct w 25 32 = 41 := h.1.f 32 rfl
theorem fm_25_33 {w : vW} (h : FM w) : vct w 25 33 = 42 := h.1.f 33 rfl
theorem fm_25_34 {w : vW} (h : FM w) : vct w 25 34 = 43 := h.1.f 34 rfl
theorem fm_25_35 {w : vW} (h : FM w) : vct w 25 35 = 0 := h.1.f 35 rfl
theorem fm_25_36 {w : vW} (h : FM w) : vct w 25 36 = 44 := h.1.f 36 rfl
theorem fm_25_37 {w : vW} (h : FM w) : vct w 25 37 = 45 := h.1.f 37 rfl
theorem fm_25_38 {w : vW} (h : FM w) : vct w 25 38 = 46 := h.1.f 38 rfl
theorem fm_25_39 {w : vW} (h : FM w) : vct w 25 39 = 0 := h.1.f 39 rfl
theorem fm_25_40 {w : vW} (h : FM w) : vct w 25 40 = 0 := h.1.f 40 rfl
theorem fm_25_41 {w : vW} (h : FM w) : vct w 25 41 = 0 := h.1.f 41 rfl
theorem fm_25_42 {w : vW} (h : FM w) : vct w 25 42 = 0 := h.1.f 42 rfl
theorem fm_25_43 {w : vW} (h : FM w) : vct w 25 43 = 0 := h.1.f 43 rfl
theorem fm_25_44 {w : vW} (h : FM w) : vct w 25 44 = 0 := h.1.f 44 rfl
theorem fm_25_45 {w : vW} (h : FM w) : vct w 25 45 = 0 := h.1.f 45 rfl
theorem fm_25_46 {w : vW} (h : FM w) : vct w 25 46 = 47 := h.1.f 46 rfl
theorem fm_25_47 {w : vW} (h : FM w) : vct w 25 47 = 48 := h.1.f 47 rfl
theorem fm_25_48 {w : vW} (h : FM w) : vct w 25 48 = 0 := h.1.f 48 rfl
theorem fm_25_49 {w : vW} (h : FM w) : vct w 25 49 = 49 := h.1.f 49 rfl
theorem fm_25_50 {w : vW} (h : FM w) : vct w 25 50 = 0 := h.1.f 50 rfl
theorem fm_25_51 {w : vW} (h : FM w) : vct w 25 51 = 0 := h.1.f 51 rfl
theorem fm_25_52 {w : vW} (h : FM w) : vct w 25 52 = 0 := h.1.f 52 rfl
theorem fm_25_53 {w : vW} (h : FM w) : vct w 25 53 = 50 := h.1.f 53 rfl
theorem fm_25_54 {w : vW} (h : FM w) : vct w 25 54 = 0 := h.1.f 54 rfl
theorem fm_25_55 {w : vW} (h : FM w) : vct w 25 55 = 0 := h.1.f 55 rfl
theorem fm_25_56 {w : vW} (h : FM w) : vct w 25 56 = 51 := h.1.f 56 rfl
theorem fm_25_57 {w : vW} (h : FM w) : vct w 25 57 = 52 := h.1.f 57 rfl
theorem fm_25_58 {w : vW} (h : FM w) : vct w 25 58 = 53 := h.1.f 58 rfl
theorem fm_25_59 {w : vW} (h : FM w) : vct w 25 59 = 54 := h.1.f 59 rfl
theorem fm_25_60 {w : vW} (h : FM w) : vct w 25 60 = 55 := h.1.f 60 rfl
theorem fm_25_61 {w : vW} (h : FM w) : vct w 25 61 = 56 := h.1.f 61 rfl
theorem fmk_26 {w : vW} (h : FM w) : vkd w 26 = 2 := congrArg (fun x : vC => x.1) h.2.1
theorem fml_26 {w : vW} (h : FM w) : vln w 26 = 32 := congrArg (fun x : vC => x.2.1) h.2.1
theorem fmc_26 {w : vW} (h : FM w) (j : Int) : vct w 26 j = 0 := congrFun (congrArg (fun x : vC => x.2.2) h.2.1) j
theorem fmk_27 {w : vW} (h : FM w) : vkd w 27 = 2 := h.2.2.1.1
theorem fml_27 {w : vW} (h : FM w) : vln w 27 = 20 := h.2.2.1.2.1
theorem fmc_27 {w : vW} (h : FM w) : ∀ j : Nat, j < 20 → vct w 27 (j : Int) = 9 ^ j := h.2.2.1.2.2
theorem fmk_28 {w : vW} (h : FM w) : vkd w 28 = 2 := congrArg (fun x : vC => x.1) h.2.2.2.1
theorem fml_28 {w : vW} (h : FM w) : vln w 28 = 36 := congrArg (fun x : vC => x.2.1) h.2.2.2.1
theorem fmc_28 {w : vW} (h : FM w) (j : Int) : vct w 28 j = 0 := congrFun (congrArg (fun x : vC => x.2.2) h.2.2.2.1) j
theorem fmk_29 {w : vW} (h : FM w) : vkd w 29 = 2 := congrArg (fun x : vC => x.1) h.2.2.2.2.1
theorem fml_29 {w : vW} (h : FM w) : vln w 29 = 36 := congrArg (fun x : vC => x.2.1) h.2.2.2.2.1
theorem fmc_29 {w : vW} (h : FM w) (j : Int) : vct w 29 j = 0 := congrFun (congrArg (fun x : vC => x.2.2) h.2.2.2.2.1) j
theorem fmk_30 {w : vW} (h : FM w) : vkd w 30 = 1 := congrArg (fun x : vC => x.1) h.2.2.2.2.2.1
theorem fml_30 {w : vW} (h : FM w) : vln w 30 = 36 := congrArg (fun x : vC => x.2.1) h.2.2.2.2.2.1
theorem fmc_30 {w : vW} (h : FM w) (j : Int) : vct w 30 j = 0 := congrFun (congrArg (fun x : vC => x.2.2) h.2.2.2.2.2.1) j
theorem fmk_31 {w : vW} (h : FM w) : vkd w 31 = 1 := congrArg (fun x : vC => x.1) h.2.2.2.2.2.2.1
theorem fml_31 {w : vW} (h : FM w) : vln w 31 = 36 := congrArg (fun x : vC => x.2.1) h.2.2.2.2.2.2.1
theorem fmc_31 {w : vW} (h : FM w) (j : Int) : vct w 31 j = 0 := congrFun (congrArg (fun x : vC => x.2.2) h.2.2.2.2.2.2.1) j
theorem fmk_32 {w : vW} (h : FM w) : vkd w 32 = 1 := h.2.2.2.2.2.2.2.1.1
theorem fml_32 {w : vW} (h : FM w) : vln w 32 = 8 := h.2.2.2.2.2.2.2.1.2.1
theorem fmc_32 {w : vW} (h : FM w) : ∀ j : Nat, j < 8 → vct w 32 (j : Int) = 1 := h.2.2.2.2.2.2.2.1.2.2
theorem fmk_33 {w : vW} (h : FM w) : vkd w 33 = 1 := congrArg (fun x : vC => x.1) h.2.2.2.2.2.2.2.2.1
theorem fml_33 {w : vW} (h : FM w) : vln w 33 = 8 := congrArg (fun x : vC => x.2.1) h.2.2.2.2.2.2.2.2.1
theorem fmc_33 {w : vW} (h : FM w) (j : Int) : vct w 33 j = 0 := congrFun (congrArg (fun x : vC => x.2.2) h.2.2.2.2.2.2.2.2.1) j
theorem fmk_34 {w : vW} (h : FM w) : vkd w 34 = 2 := congrArg (fun x : vC => x.1) h.2.2.2.2.2.2.2.2.2.1
theorem fml_34 {w : vW} (h : FM w) : vln w 34 = 64 := congrArg (fun x : vC => x.2.1) h.2.2.2.2.2.2.2.2.2.1
theorem fmc_34 {w : vW} (h : FM w) (j : Int) : vct w 34 j = 0 := congrFun (congrArg (fun x : vC => x.2.2) h.2.2.2.2.2.2.2.2.2.1) j
theorem fmk_35 {w : vW} (h : FM w) : vkd w 35 = 1 := congrArg (fun x : vC => x.1) h.2.2.2.2.2.2.2.2.2.2.1
theorem fml_35 {w : vW} (h : FM w) : vln w 35 = 80 := congrArg (fun x : vC => x.2.1) h.2.2.2.2.2.2.2.2.2.2.1
theorem fmc_35 {w : vW} (h : FM w) (j : Int) : vct w 35 j = 0 := congrFun (congrArg (fun x : vC => x.2.2) h.2.2.2.2.2.2.2.2.2.2.1) j
theorem fmk_36 {w : vW} (h : FM w) : vkd w 36 = 1 := congrArg (fun x : vC => x.1) h.2.2.2.2.2.2.2.2.2.2.2.1
theorem fml_36 {w : vW} (h : FM w) : vln w 36 = 12 := congrArg (fun x : vC => x.2.1) h.2.2.2.2.2.2.2.2.2.2.2.1
theorem fmc_36 {w : vW} (h : FM w) (j : Int) : vct w 36 j = 0 := congrFun (congrArg (fun x : vC => x.2.2) h.2.2.2.2.2.2.2.2.2.2.2.1) j
theorem fmk_37 {w : vW} (h : FM w) : vkd w 37 = 1 := congrArg (fun x : vC => x.1) h.2.2.2.2.2.2.2.2.2.2.2.2.1
theorem fml_37 {w : vW} (h : FM w) : vln w 37 = 8192 := congrArg (fun x : vC => x.2.1) h.2.2.2.2.2.2.2.2.2.2.2.2.1
theorem fmc_37 {w : vW} (h : FM w) (j : Int) : vct w 37 j = 0 := congrFun (congrArg (fun x : vC => x.2.2) h.2.2.2.2.2.2.2.2.2.2.2.2.1) j
theorem fmk_38 {w : vW} (h : FM w) : vkd w 38 = 2 := congrArg (fun x : vC => x.1) h.2.2.2.2.2.2.2.2.2.2.2.2.2.1
theorem fml_38 {w : vW} (h : FM w) : vln w 38 = 3001 := congrArg (fun x : vC => x.2.1) h.2.2.2.2.2.2.2.2.2.2.2.2.2.1
theorem fmc_38 {w : vW} (h : FM w) (j : Int) : vct w 38 j = 0 := congrFun (congrArg (fun x : vC => x.2.2) h.2.2.2.2.2.2.2.2.2.2.2.2.2.1) j
theorem fmk_39 {w : vW} (h : FM w) : vkd w 39 = 1 := congrArg (fun x : vC => x.1) h.2.2.2.2.2.2.2.2.2.2.2.2.2.2.1
theorem fml_39 {w : vW} (h : FM w) : vln w 39 = 3000 := congrArg (fun x : vC => x.2.1) h.2.2.2.2.2.2.2.2.2.2.2.2.2.2.1
theorem fmc_39 {w : vW} (h : FM w) (j : Int) : vct w 39 j = 0 := congrFun (congrArg (fun x : vC => x.2.2) h.2.2.2.2.2.2.2.2.2.2.2.2.2.2.1) j
theorem fmk_40 {w : vW} (h : FM w) : vkd w 40 = 1 := congrArg (fun x : vC => x.1) h.2.2.2.2.2.2.2.2.2.2.2.2.2.2.2.1
theorem fml_40 {w : vW} (h : FM w) : vln w 40 = 3000 := congrArg (fun x : vC => x.2.1) h.2.2.2.2.2.2.2.2.2.2.2.2.2.2.2.1
theorem fmc_40 {w : vW} (h : FM w) (j : Int) : vct w 40 j = 0 := congrFun (congrArg (fun x : vC => x.2.2) h.2.2.2.2.2.2.2.2.2.2.2.2.2.2.2.1) j
theorem fmk_41 {w : vW} (h : FM w) : vkd w 41 = 1 := congrArg (fun x : vC => x.1) h.2.2.2.2.2.2.2.2.2.2.2.2.2.2.2.2.1
theorem fml_41 {w : vW} (h : FM w) : vln w 41 = 3000 := congrArg (fun x : vC => x.2.1) h.2.2.2.2.2.2.2.2.2.2.2.2.2.2.2.2.1
theorem fmc_41 {w : vW} (h : FM w) (j : Int) : vct w 41 j = 0 := congrFun (congrArg (fun x : vC => x.2.2) h.2.2.2.2.2.2.2.2.2.2.2.2.2.2.2.2.1) j
theorem fmk_42 {w : vW} (h : FM w) : vkd w 42 = 1 := congrArg (fun x : vC => x.1) h.2.2.2.2.2.2.2.2.2.2.2.2.2.2.2.2.2.1
theorem fml_42 {w : vW} (h : FM w) : vln w 42 = 3000 := congrArg (fun x : vC => x.2.1) h.2.2.2.2.2.2.2.2.2.2.2.2.2.2.2.2.2.1
theorem fmc_42 {w : vW} (h : FM w) (j : Int) : vct w 42 j = 0 := congrFun (congrArg (fun x : vC => x.2.2) h.2.2.2.2.2.2.2.2.2.2.2.2.2.2.2.2.2.1) j
theorem fmk_43 {w : vW} (h : FM w) : vkd w 43 = 2 := congrArg (fun x : vC => x.1) h.2.2.2.2.2.2.2.2.2.2.2.2.2.2.2.2.2.2.1
theorem fml_43 {w : vW} (h : FM w) : vln w 43 = 3000 := congrArg (fun x : vC => x.2.1) h.2.2.2.2.2.2.2.2.2.2.2.2.2.2.2.2.2.2.1
theorem fmc_43 {w : vW} (h : FM w) (j : Int) : vct w 43 j = 0 := congrFun (congrArg (fun x : vC => x.2.2) h.2.2.2.2.2.2.2.2.2.2.2.2.2.2.2.2.2.2.1) j
theorem fmk_44 {w : vW} (h : FM w) : vkd w 44 = 2 := congrArg (fun x : vC => x.1) h.2.2.2.2.2.2.2.2.2.2.2.2.2.2.2.2.2.2.2.1
theorem fml_44 {w : vW} (h : FM w) : vln w 44 = 3 := congrArg (fun x : vC => x.2.1) h.2.2.2.2.2.2.2.2.2.2.2.2.2.2.2.2.2.2.2.1
theorem fmc_44 {w : vW} (h : FM w) (j : Int) : vct w 44 j = 0 := congrFun (congrArg (fun x : vC => x.2.2) h.2.2.2.2.2.2.2.2.2.2.2.2.2.2.2.2.2.2.2.1) j
theorem fmk_45 {w : vW} (h : FM w) : vkd w 45 = 1 := congrArg (fun x : vC => x.1) h.2.2.2.2.2.2.2.2.2.2.2.2.2.2.2.2.2.2.2.2.1
theorem fml_45 {w : vW} (h : FM w) : vln w 45 = 3 := congrArg (fun x : vC => x.2.1) h.2.2.2.2.2.2.2.2.2.2.2.2.2.2.2.2.2.2.2.2.1
theorem fmc_45 {w : vW} (h : FM w) (j : Int) : vct w 45 j = 0 := congrFun (congrArg (fun x : vC => x.2.2) h.2.2.2.2.2.2.2.2.2.2.2.2.2.2.2.2.2.2.2.2.1) j
theorem fmk_46 {w : vW} (h : FM w) : vkd w 46 = 2 := congrArg (fun x : vC => x.1) h.2.2.2.2.2.2.2.2.2.2.2.2.2.2.2.2.2.2.2.2.2.1
theorem fml_46 {w : vW} (h : FM w) : vln w 46 = 3000 := congrArg (fun x : vC => x.2.1) h.2.2.2.2.2.2.2.2.2.2.2.2.2.2.2.2.2.2.2.2.2.1
theorem fmc_46 {w : vW} (h : FM w) (j : Int) : vct w 46 j = 0 := congrFun (congrArg (fun x : vC => x.2.2) h.2.2.2.2.2.2.2.2.2.2.2.2.2.2.2.2.2.2.2.2.2.1) j
theorem fmk_47 {w : vW} (h : FM w) : vkd w 47 = 1 := congrArg (fun x : vC => x.1) h.2.2.2.2.2.2.2.2.2.2.2.2.2.2.2.2.2.2.2.2.2.2.1
theorem fml_47 {w : vW} (h : FM w) : vln w 47 = 8 := congrArg (fun x : vC => x.2.1) h.2.2.2.2.2.2.2.2.2.2.2.2.2.2.2.2.2.2.2.2.2.2.1
theorem fmc_47 {w : vW} (h : FM w) (j : Int) : vct w 47 j = 0 := congrFun (congrArg (fun x : vC => x.2.2) h.2.2.2.2.2.2.2.2.2.2.2.2.2.2.2.2.2.2.2.2.2.2.1) j
theorem fmk_48 {w : vW} (h : FM w) : vkd w 48 = 1 := congrArg (fun x : vC => x.1) h.2.2.2.2.2.2.2.2.2.2.2.2.2.2.2.2.2.2.2.2.2.2.2.1
theorem fml_48 {w : vW} (h : FM w) : vln w 48 = 96 := congrArg (fun x : vC => x.2.1) h.2.2.2.2.2.2.2.2.2.2.2.2.2.2.2.2.2.2.2.2.2.2.2.1
theorem fmc_48 {w : vW} (h : FM w) (j : Int) : vct w 48 j = 0 := congrFun (congrArg (fun x : vC => x.2.2) h.2.2.2.2.2.2.2.2.2.2.2.2.2.2.2.2.2.2.2.2.2.2.2.1) j
theorem fmk_49 {w : vW} (h : FM w) : vkd w 49 = 1 := congrArg (fun x : vC => x.1) h.2.2.2.2.2.2.2.2.2.2.2.2.2.2.2.2.2.2.2.2.2.2.2.2.1
theorem fml_49 {w : vW} (h : FM w) : vln w 49 = 3001 := congrArg (fun x : vC => x.2.1) h.2.2.2.2.2.2.2.2.2.2.2.2.2.2.2.2.2.2.2.2.2.2.2.2.1
theorem fmc_49 {w : vW} (h : FM w) (j : Int) : vct w 49 j = 0 := congrFun (congrArg (fun x : vC => x.2.2) h.2.2.2.2.2.2.2.2.2.2.2.2.2.2.2.2.2.2.2.2.2.2.2.2.1) j
theorem fmk_50 {w : vW} (h : FM w) : vkd w 50 = 1 := congrArg (fun x : vC => x.1) h.2.2.2.2.2.2.2.2.2.2.2.2.2.2.2.2.2.2.2.2.2.2.2.2.2.1
theorem fml_50 {w : vW} (h : FM w) : vln w 50 = 3001 := congrArg (fun x : vC => x.2.1) h.2.2.2.2.2.2.2.2.2.2.2.2.2.2.2.2.2.2.2.2.2.2.2.2.2.1
theorem fmc_50 {w : vW} (h : FM w) (j : Int) : vct w 50 j = 0 := congrFun (congrArg (fun x : vC => x.2.2) h.2.2.2.2.2.2.2.2.2.2.2.2.2.2.2.2.2.2.2.2.2.2.2.2.2.1) j
theorem fmk_51 {w : vW} (h : FM w) : vkd w 51 = 2 := congrArg (fun x : vC => x.1) h.2.2.2.2.2.2.2.2.2.2.2.2.2.2.2.2.2.2.2.2.2.2.2.2.2.2.1
theorem fml_51 {w : vW} (h : FM w) : vln w 51 = 6561 := congrArg (fun x : vC => x.2.1) h.2.2.2.2.2.2.2.2.2.2.2.2.2.2.2.2.2.2.2.2.2.2.2.2.2.2.1
theorem fmc_51 {w : vW} (h : FM w) (j : Int) : vct w 51 j = 0 := congrFun (congrArg (fun x : vC => x.2.2) h.2.2.2.2.2.2.2.2.2.2.2.2.2.2.2.2.2.2.2.2.2.2.2.2.2.2.1) j
theorem fmk_52 {w : vW} (h : FM w) : vkd w 52 = 2 := congrArg (fun x : vC => x.1) h.2.2.2.2.2.2.2.2.2.2.2.2.2.2.2.2.2.2.2.2.2.2.2.2.2.2.2.1
theorem fml_52 {w : vW} (h : FM w) : vln w 52 = 6561 := congrArg (fun x : vC => x.2.1) h.2.2.2.2.2.2.2.2.2.2.2.2.2.2.2.2.2.2.2.2.2.2.2.2.2.2.2.1
theorem fmc_52 {w : vW} (h : FM w) (j : Int) : vct w 52 j = 0 := congrFun (congrArg (fun x : vC => x.2.2) h.2.2.2.2.2.2.2.2.2.2.2.2.2.2.2.2.2.2.2.2.2.2.2.2.2.2.2.1) j
theorem fmk_53 {w : vW} (h : FM w) : vkd w 53 = 2 := congrArg (fun x : vC => x.1) h.2.2.2.2.2.2.2.2.2.2.2.2.2.2.2.2.2.2.2.2.2.2.2.2.2.2.2.2.1
theorem fml_53 {w : vW} (h : FM w) : vln w 53 = 4096 := congrArg (fun x : vC => x.2.1) h.2.2.2.2.2.2.2.2.2.2.2.2.2.2.2.2.2.2.2.2.2.2.2.2.2.2.2.2.1
theorem fmc_53 {w : vW} (h : FM w) (j : Int) : vct w 53 j = 0 := congrFun (congrArg (fun x : vC => x.2.2) h.2.2.2.2.2.2.2.2.2.2.2.2.2.2.2.2.2.2.2.2.2.2.2.2.2.2.2.2.1) j
theorem fmk_54 {w : vW} (h : FM w) : vkd w 54 = 2 := congrArg (fun x : vC => x.1) h.2.2.2.2.2.2.2.2.2.2.2.2.2.2.2.2.2.2.2.2.2.2.2.2.2.2.2.2.2.1
theorem fml_54 {w : vW} (h : FM w) : vln w 54 = 4096 := congrArg (fun x : vC => x.2.1) h.2.2.2.2.2.2.2.2.2.2.2.2.2.2.2.2.2.2.2.2.2.2.2.2.2.2.2.2.2.1
theorem fmc_54 {w : vW} (h : FM w) (j : Int) : vct w 54 j = 0 := congrFun (congrArg (fun x : vC => x.2.2) h.2.2.2.2.2.2.2.2.2.2.2.2.2.2.2.2.2.2.2.2.2.2.2.2.2.2.2.2.2.1) j
theorem fmk_55 {w : vW} (h : FM w) : vkd w 55 = 3 := congrArg (fun x : vC => x.1) h.2.2.2.2.2.2.2.2.2.2.2.2.2.2.2.2.2.2.2.2.2.2.2.2.2.2.2.2.2.2.1
theorem fml_55 {w : vW} (h : FM w) : vln w 55 = 3 := congrArg (fun x : vC => x.2.1) h.2.2.2.2.2.2.2.2.2.2.2.2.2.2.2.2.2.2.2.2.2.2.2.2.2.2.2.2.2.2.1
theorem fmc_55 {w : vW} (h : FM w) (j : Int) : vct w 55 j = 0 := congrFun (congrArg (fun x : vC => x.2.2) h.2.2.2.2.2.2.2.2.2.2.2.2.2.2.2.2.2.2.2.2.2.2.2.2.2.2.2.2.2.2.1) j
theorem fmk_56 {w : vW} (h : FM w) : vkd w 56 = 2 := congrArg (fun x : vC => x.1) h.2.2.2.2.2.2.2.2.2.2.2.2.2.2.2.2.2.2.2.2.2.2.2.2.2.2.2.2.2.2.2
theorem fml_56 {w : vW} (h : FM w) : vln w 56 = 36 := congrArg (fun x : vC => x.2.1) h.2.2.2.2.2.2.2.2.2.2.2.2.2.2.2.2.2.2.2.2.2.2.2.2.2.2.2.2.2.2.2
theorem fmc_56 {w : vW} (h : FM w) (j : Int) : vct w 56 j = 0 := congrFun (congrArg (fun x : vC => x.2.2) h.2.2.2.2.2.2.2.2.2.2.2.2.2.2.2.2.2.2.2.2.2.2.2.2.2.2.2.2.2.2.2) j
theorem FM.c {w w' : vW} (h : FM w) (hw : ∀ b : Int, 25 ≤ b → b < 57 → w'.1 b = w.1 b) : FM w' := ⟨(h.1).c (hw 25 (by omega) (by omega)), ⟨(hw 26 (by omega) (by omega)).trans (h.2.1), ⟨⟨(vkd_cl (hw 27 (by omega) (by omega))).trans h.2.2.1.1, (vln_cl (hw 27 (by omega) (by omega))).trans h.2.2.1.2.1, fun j hj => (congrFun (vct_cl (hw 27 (by omega) (by omega))) _).trans (h.2.2.1.2.2 j hj)⟩, ⟨(hw 28 (by omega) (by omega)).trans (h.2.2.2.1), ⟨(hw 29 (by omega) (by omega)).trans (h.2.2.2.2.1), ⟨(hw 30 (by omega) (by omega)).trans (h.2.2.2.2.2.1), ⟨(hw 31 (by omega) (by omega)).trans (h.2.2.2.2.2.2.1), ⟨⟨(vkd_cl (hw 32 (by omega) (by omega))).trans h.2.2.2.2.2.2.2.1.1, (vln_cl (hw 32 (by omega) (by omega))).trans h.2.2.2.2.2.2.2.1.2.1, fun j hj => (congrFun (vct_cl (hw 32 (by omega) (by omega))) _).trans (h.2.2.2.2.2.2.2.1.2.2 j hj)⟩, ⟨(hw 33 (by omega) (by omega)).trans (h.2.2.2.2.2.2.2.2.1), ⟨(hw 34 (by omega) (by omega)).trans (h.2.2.2.2.2.2.2.2.2.1), ⟨(hw 35 (by omega) (by omega)).trans (h.2.2.2.2.2.2.2.2.2.2.1), ⟨(hw 36 (by omega) (by omega)).trans (h.2.2.2.2.2.2.2.2.2.2.2.1), ⟨(hw 37 (by omega) (by omega)).trans (h.2.2.2.2.2.2.2.2.2.2.2.2.1), ⟨(hw 38 (by omega) (by omega)).trans (h.2.2.2.2.2.2.2.2.2.2.2.2.2.1), ⟨(hw 39 (by omega) (by omega)).trans (h.2.2.2.2.2.2.2.2.2.2.2.2.2.2.1), ⟨(hw 40 (by omega) (by omega)).trans (h.2.2.2.2.2.2.2.2.2.2.2.2.2.2.2.1), ⟨(hw 41 (by omega) (by omega)).trans (h.2.2.2.2.2.2.2.2.2.2.2.2.2.2.2.2.1), ⟨(hw 42 (by omega) (by omega)).trans (h.2.2.2.2.2.2.2.2.2.2.2.2.2.2.2.2.2.1), ⟨(hw 43 (by omega) (by omega)).trans (h.2.2.2.2.2.2.2.2.2.2.2.2.2.2.2.2.2.2.1), ⟨(hw 44 (by omega) (by omega)).trans (h.2.2.2.2.2.2.2.2.2.2.2.2.2.2.2.2.2.2.2.1), ⟨(hw 45 (by omega) (by omega)).trans (h.2.2.2.2.2.2.2.2.2.2.2.2.2.2.2.2.2.2.2.2.1), ⟨(hw 46 (by omega) (by omega)).trans (h.2.2.2.2.2.2.2.2.2.2.2.2.2.2.2.2.2.2.2.2.2.1), ⟨(hw 47 (by omega) (by omega)).trans (h.2.2.2.2.2.2.2.2.2.2.2.2.2.2.2.2.2.2.2.2.2.2.1), ⟨(hw 48 (by omega) (by omega)).trans (h.2.2.2.2.2.2.2.2.2.2.2.2.2.2.2.2.2.2.2.2.2.2.2.1), ⟨(hw 49 (by omega) (by omega)).trans (h.2.2.2.2.2.2.2.2.2.2.2.2.2.2.2.2.2.2.2.2.2.2.2.2.1), ⟨(hw 50 (by omega) (by omega)).trans (h.2.2.2.2.2.2.2.2.2.2.2.2.2.2.2.2.2.2.2.2.2.2.2.2.2.1), ⟨(hw 51 (by omega) (by omega)).trans (h.2.2.2.2.2.2.2.2.2.2.2.2.2.2.2.2.2.2.2.2.2.2.2.2.2.2.1), ⟨(hw 52 (by omega) (by omega)).trans (h.2.2.2.2.2.2.2.2.2.2.2.2.2.2.2.2.2.2.2.2.2.2.2.2.2.2.2.1), ⟨(hw 53 (by omega) (by omega)).trans (h.2.2.2.2.2.2.2.2.2.2.2.2.2.2.2.2.2.2.2.2.2.2.2.2.2.2.2.2.1), ⟨(hw 54 (by omega) (by omega)).trans (h.2.2.2.2.2.2.2.2.2.2.2.2.2.2.2.2.2.2.2.2.2.2.2.2.2.2.2.2.2.1), ⟨(hw 55 (by omega) (by omega)).trans (h.2.2.2.2.2.2.2.2.2.2.2.2.2.2.2.2.2.2.2.2.2.2.2.2.2.2.2.2.2.2.1), (hw 56 (by omega) (by omega)).trans (h.2.2.2.2.2.2.2.2.2.2.2.2.2.2.2.2.2.2.2.2.2.2.2.2.2.2.2.2.2.2.2)⟩⟩⟩⟩⟩⟩⟩⟩⟩⟩⟩⟩⟩⟩⟩⟩⟩⟩⟩⟩⟩⟩⟩⟩⟩⟩⟩⟩⟩⟩⟩
theorem law_st {d L : Nat} {xs : Nat → Int32} {Q : Int → vW → Prop} (h : ∀ w, FX w → FM w → w.1 (-2) = (99, (L : Int), fun j => (xs j.toNat).toInt) → w.1 57 = (2, 1, fun _ => 0) → vnt w = 58 → vec w = 58 → ves w = 57489 → VW (d + 5) 299 23 [(2, -2), (2, 0), (2, 25), (2, 57), (0, 0), (9, 0), (9, 0), (9, 0)] [] w Q) : VW (d + 5) 299 0 [(2, -2), (9, 0), (9, 0), (9, 0), (9, 0), (9, 0), (9, 0), (9, 0)] [] (vw0 L xs) Q := by
  have e0 : vnt (vw0 L xs) = 0 := rfl
  have o0 : OB (vnw (vw0 L xs) 21 15 (vdfl 21) 15) 0 21 [-1, -1, -1, -1, -1, -1, 0, 0, -1, -1, -1, -1, -1, -1, -1] := OB.nw (f := 15)
  refine b299_0.mpr ?_
  rw [e0]
  refine b299_3.mpr ⟨o0.1, k0 (N := 1) o0 rfl (by decide) fun w1 g1 => b299_7.mpr ?_⟩
  have n1 : vnt w1 = 25 := g1.vn
  have o1 : OB (vnw w1 22 62 (vdfl 22) 62) (vnt w1) 22 [0, 0, -1, -1, 0, 0, -1, -1, -1, -1, -1, -1, 0, 0, 0, 0, -1, 0, -1, 0, 0, 0, 0, 0, 0, -1, -1, -1, 0, 0, -1, -1, -1, -1, -1, 0, -1, -1, -1, 0, 0, 0, 0, 0, 0, 0, -1, -1, 0, -1, 0, 0, 0, -1, 0, 0, -1, -1, -1, -1, -1, -1] := OB.nw (f := 62)
  rw [n1] at o1 ⊢
  refine b299_11.mpr ⟨o1.1, k59 (N := 26) o1 (by rw [vnt_nw, n1]; rfl) (by decide) fun w2 g2 => b299_15.mpr ?_⟩
  have n2 : vnt w2 = 57 := g2.vn
  rw [n2]
  have c1 : ∀ b : Int, b < 25 → w2.1 b = w1.1 b := fun b hb => (g2.2.2.2.2.2.1 b (by omega) (by omega)).trans (vcl_nw (by omega))
  have c2 : ∀ b : Int, b < 57 → (vnw w2 2 1 (fun _ => 0) (1 : Int).toNat).1 b = w2.1 b := fun b hb => vcl_nw (by omega)
  have hs1 : vec w1 = 25 := by rw [g1.2.2.2.1]; rfl
  have hs2 : ves w1 = 400 := by rw [g1.2.2.2.2.1]; rfl
  have hs3 : vec w2 = 57 := by rw [g2.2.2.2.1, vec_nw, hs1]
  have hs4 : ves w2 = 57488 := by rw [g2.2.2.2.2.1, ves_nw, hs2]
  refine b299_19.mpr (h _ (FX.c (w := w1) ⟨g1.1, g1.fin⟩ fun b h1 h2 => (c2 b (by omega)).trans (c1 b h2)) (FM.c (w := w2) ⟨g2.1, g2.fin⟩ fun b h1 h2 => c2 b h2) ?_ ?_ ?_ ?_ ?_)
  · rw [c2 _ (by decide), c1 _ (by decide), g1.2.2.2.2.2.1 _ (by decide) (by decide), vcl_nw (show (-2 : Int) ≠ 0 by decide)]
    rfl
  · rw [← n2]; exact if_pos rfl
  · rw [vnt_nw, n2]; rfl
  · rw [vec_nw, hs3]
  · rw [ves_nw, hs4]; rfl
/-- what a call of the class may do to other cells; n new ones of s slots -/
def fr (n s : Nat) (w w1 : vW) : Prop := (∀ b : Int, 25 ≤ b ∧ b < 58 ∨ b = -2 → w1.1 b = w.1 b) ∧ vnt w1 = vnt w + n ∧ vec w1 = vec w + n ∧ ves w1 = ves w + s
/-- what a call of the model does -/
def fm (w w1 : vW) : Prop := w1.2 = w.2 ∧ ∀ b : Int, ¬ (25 ≤ b ∧ b < 57) → w1.1 b = w.1 b
section FRAMES
variable {w w1 w2 : vW} {n s n2 s2 : Nat} {a i v z : Int} {c : Int → Int} {k m : Nat}
theorem fr.rf : fr 0 0 w w := ⟨fun _ _ => rfl, (Int.add_zero _).symm, rfl, rfl⟩
theorem fr.tr (h : fr n s w w1) (h2 : fr n2 s2 w1 w2) : fr (n + n2) (s + s2) w w2 := ⟨fun b hb => (h2.1 b hb).trans (h.1 b hb), by have := h.2.1; have := h2.2.1; omega, by have := h.2.2.1; have := h2.2.2.1; omega, by have := h.2.2.2; have := h2.2.2.2; omega⟩
theorem fr.sv (h : fr n s w w1) (ha : ¬ (25 ≤ a ∧ a < 58 ∨ a = -2)) : fr n s w (vsv w1 a i v) := ⟨fun b hb => (vcl_sv (b := b) (a := a) (fun e => ha (by omega))).trans (h.1 b hb), h.2.1, h.2.2.1, h.2.2.2⟩
theorem fr.up (h : fr n s w w1) (ha : ¬ (25 ≤ a ∧ a < 58 ∨ a = -2)) : fr n s w (vup w1 a c) := ⟨fun b hb => (vcl_up (b := b) (a := a) (fun e => ha (by omega))).trans (h.1 b hb), h.2.1, h.2.2.1, h.2.2.2⟩
theorem fr.nw (h : fr n s w w1) (hw : 58 ≤ vnt w) : fr (n + 1) (s + m) w (vnw w1 k z c m) := by
  obtain ⟨h1, h2, h3, h4⟩ := h
  refine ⟨fun b hb => (vcl_nw (by omega)).trans (h1 b hb), by rw [vnt_nw]; omega, by rw [vec_nw]; omega, by rw [ves_nw]; omega⟩
theorem fm.rf : fm w w := ⟨rfl, fun _ _ => rfl⟩
theorem fm.tr (h : fm w w1) (h2 : fm w1 w2) : fm w w2 := ⟨h2.1.trans h.1, fun b hb => (h2.2 b hb).trans (h.2 b hb)⟩
theorem fm.sv (h : fm w w1) (ha : 25 ≤ a ∧ a < 57) : fm w (vsv w1 a i v) := ⟨h.1, fun b hb => (vcl_sv (b := b) (a := a) (fun e => hb (by omega))).trans (h.2 b hb)⟩
theorem fm.up (h : fm w w1) (ha : 25 ≤ a ∧ a < 57) : fm w (vup w1 a c) := ⟨h.1, fun b hb => (vcl_up (b := b) (a := a) (fun e => hb (by omega))).trans (h.2 b hb)⟩
theorem FM.fr (h : FM w) (h2 : fr n s w w1) : FM w1 := h.c fun b h3 h4 => h2.1 b (by omega)
end FRAMES
theorem ifbr {c A B : Prop} : ((c → A) ∧ (¬ c → B)) ↔ (@ite _ c (Classical.propDecidable c) A B) := by
  by_cases h : c
  · rw [if_pos h]; exact ⟨fun x => x.1 h, fun x => ⟨fun _ => x, fun y => absurd h y⟩⟩
  · rw [if_neg h]; exact ⟨fun x => x.2 h, fun x => ⟨fun y => absurd y h, fun _ => x⟩⟩
