/-! 37: StrikeWhatCancels.shortest(IJ)I -/
set_option maxRecDepth 100000 in
theorem b37_0 {d : Nat} {w : vW} {x0 x1 x2 : Int} {Q : Int → vW → Prop} : VW d 37 0 [(2, x0), (0, x1), (1, x2), (9, 0), (9, 0), (9, 0), (9, 0), (9, 0)] [] w Q ↔ VC d 280 [(1, x2)] w (fun r w1 => VW d 37 4 [(2, x0), (0, x1), (1, x2), (9, 0), (9, 0), (9, 0), (9, 0), (9, 0)] [(1, r)] w1 Q) :=
  (VW_b 2 (F := fun n => vclr (vrun n) d 37 4 280 1 1 [(2, x0), (0, x1), (1, x2), (9, 0), (9, 0), (9, 0), (9, 0), (9, 0)] [(1, x2)] w) (fun _ => rfl)).trans (EX_call rfl)
set_option maxRecDepth 100000 in
theorem b37_4 {d : Nat} {w : vW} {x0 x1 x2 y0 : Int} {Q : Int → vW → Prop} : VW d 37 4 [(2, x0), (0, x1), (1, x2), (9, 0), (9, 0), (9, 0), (9, 0), (9, 0)] [(1, y0)] w Q ↔ (((vlc y0 0) < 0 → VW d 37 22 [(2, x0), (0, x1), (1, x2), (9, 0), (1, y0), (9, 0), (9, 0), (9, 0)] [] w Q) ∧ (¬ ((vlc y0 0) < 0) → VW d 37 13 [(2, x0), (0, x1), (1, x2), (9, 0), (1, y0), (9, 0), (9, 0), (9, 0)] [] w Q)) :=
  (VW_b 5 (F := fun n => (if (vlc y0 0) < 0 then vrun n d 37 22 [(2, x0), (0, x1), (1, x2), (9, 0), (1, y0), (9, 0), (9, 0), (9, 0)] [] w else vrun n d 37 13 [(2, x0), (0, x1), (1, x2), (9, 0), (1, y0), (9, 0), (9, 0), (9, 0)] [] w)) (fun _ => rfl)).trans (EX_br.trans (and_congr (imp_congr Iff.rfl Iff.rfl) (imp_congr Iff.rfl Iff.rfl)))
set_option maxRecDepth 100000 in
theorem b37_13 {d : Nat} {w : vW} {x0 x1 x2 x4 : Int} {Q : Int → vW → Prop} : VW d 37 13 [(2, x0), (0, x1), (1, x2), (9, 0), (1, x4), (9, 0), (9, 0), (9, 0)] [] w Q ↔ ((x1 < 0 → VW d 37 22 [(2, x0), (0, x1), (1, x2), (9, 0), (1, x4), (9, 0), (9, 0), (9, 0)] [] w Q) ∧ (¬ (x1 < 0) → VW d 37 17 [(2, x0), (0, x1), (1, x2), (9, 0), (1, x4), (9, 0), (9, 0), (9, 0)] [] w Q)) :=
  (VW_b 2 (F := fun n => (if x1 < 0 then vrun n d 37 22 [(2, x0), (0, x1), (1, x2), (9, 0), (1, x4), (9, 0), (9, 0), (9, 0)] [] w else vrun n d 37 17 [(2, x0), (0, x1), (1, x2), (9, 0), (1, x4), (9, 0), (9, 0), (9, 0)] [] w)) (fun _ => rfl)).trans (EX_br.trans (and_congr (imp_congr Iff.rfl Iff.rfl) (imp_congr Iff.rfl Iff.rfl)))
set_option maxRecDepth 100000 in
theorem b37_17 {d : Nat} {w : vW} {x0 x1 x2 x4 : Int} {Q : Int → vW → Prop} : VW d 37 17 [(2, x0), (0, x1), (1, x2), (9, 0), (1, x4), (9, 0), (9, 0), (9, 0)] [] w Q ↔ ((2 < x1 → VW d 37 22 [(2, x0), (0, x1), (1, x2), (9, 0), (1, x4), (9, 0), (9, 0), (9, 0)] [] w Q) ∧ (¬ (2 < x1) → VW d 37 24 [(2, x0), (0, x1), (1, x2), (9, 0), (1, x4), (9, 0), (9, 0), (9, 0)] [] w Q)) :=
  (VW_b 3 (F := fun n => (if 2 < x1 then vrun n d 37 22 [(2, x0), (0, x1), (1, x2), (9, 0), (1, x4), (9, 0), (9, 0), (9, 0)] [] w else vrun n d 37 24 [(2, x0), (0, x1), (1, x2), (9, 0), (1, x4), (9, 0), (9, 0), (9, 0)] [] w)) (fun _ => rfl)).trans (EX_br.trans (and_congr (imp_congr Iff.rfl Iff.rfl) (imp_congr Iff.rfl Iff.rfl)))
set_option maxRecDepth 100000 in
theorem b37_22 {d : Nat} {w : vW} {x0 x1 x2 x4 : Int} {Q : Int → vW → Prop} : VW d 37 22 [(2, x0), (0, x1), (1, x2), (9, 0), (1, x4), (9, 0), (9, 0), (9, 0)] [] w Q ↔ Q (-1) w :=
  (VW_b 2 (F := fun n => some (0, (-1), w)) (fun _ => rfl)).trans (EX_ret0)
set_option maxRecDepth 100000 in
theorem b37_24 {d : Nat} {w : vW} {x0 x1 x2 x4 : Int} {Q : Int → vW → Prop} : VW d 37 24 [(2, x0), (0, x1), (1, x2), (9, 0), (1, x4), (9, 0), (9, 0), (9, 0)] [] w Q ↔ VC d 273 [(1, x4)] w (fun r w1 => VW d 37 29 [(2, x0), (0, x1), (1, x2), (9, 0), (1, x4), (9, 0), (9, 0), (9, 0)] [(0, r)] w1 Q) :=
  (VW_b 2 (F := fun n => vclr (vrun n) d 37 29 273 1 0 [(2, x0), (0, x1), (1, x2), (9, 0), (1, x4), (9, 0), (9, 0), (9, 0)] [(1, x4)] w) (fun _ => rfl)).trans (EX_call rfl)
set_option maxRecDepth 100000 in
theorem b37_29 {d : Nat} {w : vW} {x0 x1 x2 x4 y0 : Int} {Q : Int → vW → Prop} : VW d 37 29 [(2, x0), (0, x1), (1, x2), (9, 0), (1, x4), (9, 0), (9, 0), (9, 0)] [(0, y0)] w Q ↔ VW d 37 33 [(2, x0), (0, x1), (1, x2), (9, 0), (1, x4), (9, 0), (0, w32 (y0 + 1)), (9, 0)] [] w Q :=
  (VW_b 3 (F := fun n => vrun n d 37 33 [(2, x0), (0, x1), (1, x2), (9, 0), (1, x4), (9, 0), (0, w32 (y0 + 1)), (9, 0)] [] w) (fun _ => rfl)).trans (Iff.rfl)
set_option maxRecDepth 100000 in
theorem b37_33 {d : Nat} {w : vW} {x0 x1 x2 x4 x6 : Int} {v7 : vV} {Q : Int → vW → Prop} : VW d 37 33 [(2, x0), (0, x1), (1, x2), (9, 0), (1, x4), (9, 0), (0, x6), v7] [] w Q ↔ ((14 < x6 → VW d 37 110 [(2, x0), (0, x1), (1, x2), (9, 0), (1, x4), (9, 0), (0, x6), v7] [] w Q) ∧ (¬ (14 < x6) → VW d 37 40 [(2, x0), (0, x1), (1, x2), (9, 0), (1, x4), (9, 0), (0, x6), v7] [] w Q)) :=
  (VW_b 3 (F := fun n => (if 14 < x6 then vrun n d 37 110 [(2, x0), (0, x1), (1, x2), (9, 0), (1, x4), (9, 0), (0, x6), v7] [] w else vrun n d 37 40 [(2, x0), (0, x1), (1, x2), (9, 0), (1, x4), (9, 0), (0, x6), v7] [] w)) (fun _ => rfl)).trans (EX_br.trans (and_congr (imp_congr Iff.rfl Iff.rfl) (imp_congr Iff.rfl Iff.rfl)))
set_option maxRecDepth 100000 in
theorem b37_40 {d : Nat} {w : vW} {x0 x1 x2 x4 x6 : Int} {v7 : vV} {Q : Int → vW → Prop} : VW d 37 40 [(2, x0), (0, x1), (1, x2), (9, 0), (1, x4), (9, 0), (0, x6), v7] [] w Q ↔ (vkd w x0 = 21) ∧ (vkd w (vct w x0 3) = 12) ∧ VC d 178 [(0, vct w (vct w x0 3) 4), (0, x6)] w (fun r w1 => VW d 37 52 [(2, x0), (0, x1), (1, x2), (9, 0), (1, x4), (9, 0), (0, x6), v7] [(0, r)] w1 Q) :=
  (VW_b 5 (F := fun n => if vkd w x0 = 21 then if vkd w (vct w x0 3) = 12 then vclr (vrun n) d 37 52 178 2 0 [(2, x0), (0, x1), (1, x2), (9, 0), (1, x4), (9, 0), (0, x6), v7] [(0, x6), (0, vct w (vct w x0 3) 4)] w else none else none) (fun _ => rfl)).trans (EX_if.trans (and_congr Iff.rfl (EX_if.trans (and_congr Iff.rfl (EX_call rfl)))))
set_option maxRecDepth 100000 in
theorem b37_52 {d : Nat} {w : vW} {x0 x1 x2 x4 x6 y0 : Int} {v7 : vV} {Q : Int → vW → Prop} : VW d 37 52 [(2, x0), (0, x1), (1, x2), (9, 0), (1, x4), (9, 0), (0, x6), v7] [(0, y0)] w Q ↔ ((4096 < y0 → VW d 37 110 [(2, x0), (0, x1), (1, x2), (9, 0), (1, x4), (9, 0), (0, x6), v7] [] w Q) ∧ (¬ (4096 < y0) → VW d 37 58 [(2, x0), (0, x1), (1, x2), (9, 0), (1, x4), (9, 0), (0, x6), v7] [] w Q)) :=
  (VW_b 2 (F := fun n => (if 4096 < y0 then vrun n d 37 110 [(2, x0), (0, x1), (1, x2), (9, 0), (1, x4), (9, 0), (0, x6), v7] [] w else vrun n d 37 58 [(2, x0), (0, x1), (1, x2), (9, 0), (1, x4), (9, 0), (0, x6), v7] [] w)) (fun _ => rfl)).trans (EX_br.trans (and_congr (imp_congr Iff.rfl Iff.rfl) (imp_congr Iff.rfl Iff.rfl)))
set_option maxRecDepth 100000 in
theorem b37_58 {d : Nat} {w : vW} {x0 x1 x2 x4 x6 : Int} {v7 : vV} {Q : Int → vW → Prop} : VW d 37 58 [(2, x0), (0, x1), (1, x2), (9, 0), (1, x4), (9, 0), (0, x6), v7] [] w Q ↔ (vkd w x0 = 21) ∧ VC d 53 [(2, x0), (0, x1), (0, x6)] w (fun r w1 => VW d 37 65 [(2, x0), (0, x1), (1, x2), (9, 0), (1, x4), (9, 0), (0, x6), v7] [(2, r)] w1 Q) :=
  (VW_b 4 (F := fun n => if vkd w x0 = 21 then vclr (vrun n) d 37 65 53 3 2 [(2, x0), (0, x1), (1, x2), (9, 0), (1, x4), (9, 0), (0, x6), v7] [(0, x6), (0, x1), (2, x0)] w else none) (fun _ => rfl)).trans (EX_if.trans (and_congr Iff.rfl (EX_call rfl)))
set_option maxRecDepth 100000 in
theorem b37_65 {d : Nat} {w : vW} {x0 x1 x2 x4 x6 y0 : Int} {v7 : vV} {Q : Int → vW → Prop} : VW d 37 65 [(2, x0), (0, x1), (1, x2), (9, 0), (1, x4), (9, 0), (0, x6), v7] [(2, y0)] w Q ↔ (vkd w y0 = 13) ∧ VC d 186 [(2, y0), (0, x6), (1, x4)] w (fun r w1 => VW d 37 76 [(2, x0), (0, x1), (1, x2), (9, 0), (1, x4), (9, 0), (0, x6), (2, y0)] [(0, r)] w1 Q) :=
  (VW_b 5 (F := fun n => if vkd w y0 = 13 then vclr (vrun n) d 37 76 186 3 0 [(2, x0), (0, x1), (1, x2), (9, 0), (1, x4), (9, 0), (0, x6), (2, y0)] [(1, x4), (0, x6), (2, y0)] w else none) (fun _ => rfl)).trans (EX_if.trans (and_congr Iff.rfl (EX_call rfl)))
set_option maxRecDepth 100000 in
theorem b37_76 {d : Nat} {w : vW} {x0 x1 x2 x4 x6 x7 y0 : Int} {Q : Int → vW → Prop} : VW d 37 76 [(2, x0), (0, x1), (1, x2), (9, 0), (1, x4), (9, 0), (0, x6), (2, x7)] [(0, y0)] w Q ↔ ((0 < y0 → VW d 37 79 [(2, x0), (0, x1), (1, x2), (9, 0), (1, x4), (9, 0), (0, x6), (2, x7)] [] w Q) ∧ (¬ (0 < y0) → VW d 37 104 [(2, x0), (0, x1), (1, x2), (9, 0), (1, x4), (9, 0), (0, x6), (2, x7)] [] w Q)) :=
  (VW_b 1 (F := fun n => (if 0 < y0 then vrun n d 37 79 [(2, x0), (0, x1), (1, x2), (9, 0), (1, x4), (9, 0), (0, x6), (2, x7)] [] w else vrun n d 37 104 [(2, x0), (0, x1), (1, x2), (9, 0), (1, x4), (9, 0), (0, x6), (2, x7)] [] w)) (fun _ => rfl)).trans (EX_br.trans (and_congr (imp_congr Iff.rfl Iff.rfl) (imp_congr Iff.rfl Iff.rfl)))
set_option maxRecDepth 100000 in
theorem b37_79 {d : Nat} {w : vW} {x0 x1 x2 x4 x6 x7 : Int} {Q : Int → vW → Prop} : VW d 37 79 [(2, x0), (0, x1), (1, x2), (9, 0), (1, x4), (9, 0), (0, x6), (2, x7)] [] w Q ↔ (vkd w x0 = 21) ∧ (vkd w (vct w x0 2) = 20) ∧ VC d 291 [(2, vct w x0 2)] w (fun _ w1 => VW d 37 86 [(2, x0), (0, x1), (1, x2), (9, 0), (1, x4), (9, 0), (0, x6), (2, x7)] [] w1 Q) :=
  (VW_b 3 (F := fun n => if vkd w x0 = 21 then if vkd w (vct w x0 2) = 20 then vclr (vrun n) d 37 86 291 1 9 [(2, x0), (0, x1), (1, x2), (9, 0), (1, x4), (9, 0), (0, x6), (2, x7)] [(2, vct w x0 2)] w else none else none) (fun _ => rfl)).trans (EX_if.trans (and_congr Iff.rfl (EX_if.trans (and_congr Iff.rfl (EX_call rfl)))))
set_option maxRecDepth 100000 in
theorem b37_86 {d : Nat} {w : vW} {x0 x1 x2 x4 x6 x7 : Int} {Q : Int → vW → Prop} : VW d 37 86 [(2, x0), (0, x1), (1, x2), (9, 0), (1, x4), (9, 0), (0, x6), (2, x7)] [] w Q ↔ (vkd w x0 = 21) ∧ (vkd w x7 = 13) ∧ VC d 281 [(1, vct w x7 8)] w (fun r w1 => VW d 37 98 [(2, x0), (0, x1), (1, x2), (9, 0), (1, x4), (9, 0), (0, x6), (2, x7)] [(1, r), (2, vct w x0 2)] w1 Q) :=
  (VW_b 5 (F := fun n => if vkd w x0 = 21 then if vkd w x7 = 13 then vclr (vrun n) d 37 98 281 1 1 [(2, x0), (0, x1), (1, x2), (9, 0), (1, x4), (9, 0), (0, x6), (2, x7)] [(1, vct w x7 8), (2, vct w x0 2)] w else none else none) (fun _ => rfl)).trans (EX_if.trans (and_congr Iff.rfl (EX_if.trans (and_congr Iff.rfl (EX_call rfl)))))
set_option maxRecDepth 100000 in
theorem b37_98 {d : Nat} {w : vW} {x0 x1 x2 x4 x6 x7 y0 y1 : Int} {Q : Int → vW → Prop} : VW d 37 98 [(2, x0), (0, x1), (1, x2), (9, 0), (1, x4), (9, 0), (0, x6), (2, x7)] [(1, y1), (2, y0)] w Q ↔ (vkd w y0 = 20) ∧ VC d 293 [(2, y0), (1, y1)] w (fun _ w1 => VW d 37 101 [(2, x0), (0, x1), (1, x2), (9, 0), (1, x4), (9, 0), (0, x6), (2, x7)] [] w1 Q) :=
  (VW_b 1 (F := fun n => if vkd w y0 = 20 then vclr (vrun n) d 37 101 293 2 9 [(2, x0), (0, x1), (1, x2), (9, 0), (1, x4), (9, 0), (0, x6), (2, x7)] [(1, y1), (2, y0)] w else none) (fun _ => rfl)).trans (EX_if.trans (and_congr Iff.rfl (EX_call rfl)))
set_option maxRecDepth 100000 in
theorem b37_101 {d : Nat} {w : vW} {x0 x1 x2 x4 x6 x7 : Int} {Q : Int → vW → Prop} : VW d 37 101 [(2, x0), (0, x1), (1, x2), (9, 0), (1, x4), (9, 0), (0, x6), (2, x7)] [] w Q ↔ Q x6 w :=
  (VW_b 2 (F := fun n => some (0, x6, w)) (fun _ => rfl)).trans (EX_ret0)
set_option maxRecDepth 100000 in
theorem b37_104 {d : Nat} {w : vW} {x0 x1 x2 x4 x6 x7 : Int} {Q : Int → vW → Prop} : VW d 37 104 [(2, x0), (0, x1), (1, x2), (9, 0), (1, x4), (9, 0), (0, x6), (2, x7)] [] w Q ↔ VW d 37 33 [(2, x0), (0, x1), (1, x2), (9, 0), (1, x4), (9, 0), (0, w32 (x6 + 1)), (2, x7)] [] w Q :=
  (VW_b 2 (F := fun n => vrun n d 37 33 [(2, x0), (0, x1), (1, x2), (9, 0), (1, x4), (9, 0), (0, w32 (x6 + 1)), (2, x7)] [] w) (fun _ => rfl)).trans (Iff.rfl)
set_option maxRecDepth 100000 in
theorem b37_110 {d : Nat} {w : vW} {x0 x1 x2 x4 x6 : Int} {v7 : vV} {Q : Int → vW → Prop} : VW d 37 110 [(2, x0), (0, x1), (1, x2), (9, 0), (1, x4), (9, 0), (0, x6), v7] [] w Q ↔ Q (-2) w :=
  (VW_b 2 (F := fun n => some (0, (-2), w)) (fun _ => rfl)).trans (EX_ret0)
/-! 38: StrikeWhatCancels.longest(II)I -/
set_option maxRecDepth 100000 in
theorem b38_0 {d : Nat} {w : vW} {x0 x1 x2 : Int} {Q : Int → vW → Prop} : VW d 38 0 [(2, x0), (0, x1), (0, x2), (9, 0), (9, 0), (9, 0), (9, 0)] [] w Q ↔ (vkd w x0 = 21) ∧ VC d 42 [(2, x0), (0, x1), (0, x2)] w (fun r w1 => VW d 38 6 [(2, x0), (0, x1), (0, x2), (9, 0), (9, 0), (9, 0), (9, 0)] [(0, r)] w1 Q) :=
  (VW_b 4 (F := fun n => if vkd w x0 = 21 then vclr (vrun n) d 38 6 42 3 0 [(2, x0), (0, x1), (0, x2), (9, 0), (9, 0), (9, 0), (9, 0)] [(0, x2), (0, x1), (2, x0)] w else none) (fun _ => rfl)).trans (EX_if.trans (and_congr Iff.rfl (EX_call rfl)))
set_option maxRecDepth 100000 in
theorem b38_6 {d : Nat} {w : vW} {x0 x1 x2 y0 : Int} {Q : Int → vW → Prop} : VW d 38 6 [(2, x0), (0, x1), (0, x2), (9, 0), (9, 0), (9, 0), (9, 0)] [(0, y0)] w Q ↔ ((y0 < 0 → VW d 38 11 [(2, x0), (0, x1), (0, x2), (0, y0), (9, 0), (9, 0), (9, 0)] [] w Q) ∧ (¬ (y0 < 0) → VW d 38 13 [(2, x0), (0, x1), (0, x2), (0, y0), (9, 0), (9, 0), (9, 0)] [] w Q)) :=
  (VW_b 3 (F := fun n => (if y0 < 0 then vrun n d 38 11 [(2, x0), (0, x1), (0, x2), (0, y0), (9, 0), (9, 0), (9, 0)] [] w else vrun n d 38 13 [(2, x0), (0, x1), (0, x2), (0, y0), (9, 0), (9, 0), (9, 0)] [] w)) (fun _ => rfl)).trans (EX_br.trans (and_congr (imp_congr Iff.rfl Iff.rfl) (imp_congr Iff.rfl Iff.rfl)))
set_option maxRecDepth 100000 in
theorem b38_11 {d : Nat} {w : vW} {x0 x1 x2 x3 : Int} {Q : Int → vW → Prop} : VW d 38 11 [(2, x0), (0, x1), (0, x2), (0, x3), (9, 0), (9, 0), (9, 0)] [] w Q ↔ Q x3 w :=
  (VW_b 2 (F := fun n => some (0, x3, w)) (fun _ => rfl)).trans (EX_ret0)
set_option maxRecDepth 100000 in
theorem b38_13 {d : Nat} {w : vW} {x0 x1 x2 x3 : Int} {Q : Int → vW → Prop} : VW d 38 13 [(2, x0), (0, x1), (0, x2), (0, x3), (9, 0), (9, 0), (9, 0)] [] w Q ↔ (vkd w x0 = 21) ∧ VC d 53 [(2, x0), (0, x1), (0, x2)] w (fun r w1 => VW d 38 19 [(2, x0), (0, x1), (0, x2), (0, x3), (9, 0), (9, 0), (9, 0)] [(2, r)] w1 Q) :=
  (VW_b 4 (F := fun n => if vkd w x0 = 21 then vclr (vrun n) d 38 19 53 3 2 [(2, x0), (0, x1), (0, x2), (0, x3), (9, 0), (9, 0), (9, 0)] [(0, x2), (0, x1), (2, x0)] w else none) (fun _ => rfl)).trans (EX_if.trans (and_congr Iff.rfl (EX_call rfl)))
set_option maxRecDepth 100000 in
theorem b38_19 {d : Nat} {w : vW} {x0 x1 x2 x3 y0 : Int} {Q : Int → vW → Prop} : VW d 38 19 [(2, x0), (0, x1), (0, x2), (0, x3), (9, 0), (9, 0), (9, 0)] [(2, y0)] w Q ↔ (vkd w y0 = 13) ∧ VC d 187 [(2, y0), (0, x2)] w (fun r w1 => VW d 38 27 [(2, x0), (0, x1), (0, x2), (0, x3), (2, y0), (9, 0), (9, 0)] [(1, r)] w1 Q) :=
  (VW_b 4 (F := fun n => if vkd w y0 = 13 then vclr (vrun n) d 38 27 187 2 1 [(2, x0), (0, x1), (0, x2), (0, x3), (2, y0), (9, 0), (9, 0)] [(0, x2), (2, y0)] w else none) (fun _ => rfl)).trans (EX_if.trans (and_congr Iff.rfl (EX_call rfl)))
set_option maxRecDepth 100000 in
theorem b38_27 {d : Nat} {w : vW} {x0 x1 x2 x3 x4 y0 : Int} {Q : Int → vW → Prop} : VW d 38 27 [(2, x0), (0, x1), (0, x2), (0, x3), (2, x4), (9, 0), (9, 0)] [(1, y0)] w Q ↔ (vkd w x0 = 21) ∧ (vkd w (vct w x0 2) = 20) ∧ VC d 291 [(2, vct w x0 2)] w (fun _ w1 => VW d 38 36 [(2, x0), (0, x1), (0, x2), (0, x3), (2, x4), (1, y0), (9, 0)] [] w1 Q) :=
  (VW_b 4 (F := fun n => if vkd w x0 = 21 then if vkd w (vct w x0 2) = 20 then vclr (vrun n) d 38 36 291 1 9 [(2, x0), (0, x1), (0, x2), (0, x3), (2, x4), (1, y0), (9, 0)] [(2, vct w x0 2)] w else none else none) (fun _ => rfl)).trans (EX_if.trans (and_congr Iff.rfl (EX_if.trans (and_congr Iff.rfl (EX_call rfl)))))
set_option maxRecDepth 100000 in
theorem b38_36 {d : Nat} {w : vW} {x0 x1 x2 x3 x4 x5 : Int} {Q : Int → vW → Prop} : VW d 38 36 [(2, x0), (0, x1), (0, x2), (0, x3), (2, x4), (1, x5), (9, 0)] [] w Q ↔ (vkd w x0 = 21) ∧ (vkd w x4 = 13) ∧ VC d 281 [(1, vct w x4 8)] w (fun r w1 => VW d 38 48 [(2, x0), (0, x1), (0, x2), (0, x3), (2, x4), (1, x5), (9, 0)] [(1, r), (2, vct w x0 2)] w1 Q) :=
  (VW_b 5 (F := fun n => if vkd w x0 = 21 then if vkd w x4 = 13 then vclr (vrun n) d 38 48 281 1 1 [(2, x0), (0, x1), (0, x2), (0, x3), (2, x4), (1, x5), (9, 0)] [(1, vct w x4 8), (2, vct w x0 2)] w else none else none) (fun _ => rfl)).trans (EX_if.trans (and_congr Iff.rfl (EX_if.trans (and_congr Iff.rfl (EX_call rfl)))))
set_option maxRecDepth 100000 in
theorem b38_48 {d : Nat} {w : vW} {x0 x1 x2 x3 x4 x5 y0 y1 : Int} {Q : Int → vW → Prop} : VW d 38 48 [(2, x0), (0, x1), (0, x2), (0, x3), (2, x4), (1, x5), (9, 0)] [(1, y1), (2, y0)] w Q ↔ (vkd w y0 = 20) ∧ VC d 293 [(2, y0), (1, y1)] w (fun _ w1 => VW d 38 51 [(2, x0), (0, x1), (0, x2), (0, x3), (2, x4), (1, x5), (9, 0)] [] w1 Q) :=
  (VW_b 1 (F := fun n => if vkd w y0 = 20 then vclr (vrun n) d 38 51 293 2 9 [(2, x0), (0, x1), (0, x2), (0, x3), (2, x4), (1, x5), (9, 0)] [(1, y1), (2, y0)] w else none) (fun _ => rfl)).trans (EX_if.trans (and_congr Iff.rfl (EX_call rfl)))
set_option maxRecDepth 100000 in
theorem b38_51 {d : Nat} {w : vW} {x0 x1 x2 x3 x4 x5 : Int} {Q : Int → vW → Prop} : VW d 38 51 [(2, x0), (0, x1), (0, x2), (0, x3), (2, x4), (1, x5), (9, 0)] [] w Q ↔ (vkd w x0 = 21) ∧ (vkd w x4 = 13) ∧ (vkd w (vct w x0 2) = 20) ∧ VC d 293 [(2, vct w x0 2), (1, (vct w x4 9))] w (fun _ w1 => VW d 38 64 [(2, x0), (0, x1), (0, x2), (0, x3), (2, x4), (1, x5), (9, 0)] [] w1 Q) :=
  (VW_b 6 (F := fun n => if vkd w x0 = 21 then if vkd w x4 = 13 then if vkd w (vct w x0 2) = 20 then vclr (vrun n) d 38 64 293 2 9 [(2, x0), (0, x1), (0, x2), (0, x3), (2, x4), (1, x5), (9, 0)] [(1, (vct w x4 9)), (2, vct w x0 2)] w else none else none else none) (fun _ => rfl)).trans (EX_if.trans (and_congr Iff.rfl (EX_if.trans (and_congr Iff.rfl (EX_if.trans (and_congr Iff.rfl (EX_call rfl)))))))
set_option maxRecDepth 100000 in
theorem b38_64 {d : Nat} {w : vW} {x0 x1 x2 x3 x4 x5 : Int} {Q : Int → vW → Prop} : VW d 38 64 [(2, x0), (0, x1), (0, x2), (0, x3), (2, x4), (1, x5), (9, 0)] [] w Q ↔ Q (w32 x5) w :=
  (VW_b 3 (F := fun n => some (0, w32 x5, w)) (fun _ => rfl)).trans (EX_ret0)
/-! 39: StrikeWhatCancels.still(I)J -/
set_option maxRecDepth 100000 in
theorem b39_0 {d : Nat} {w : vW} {x0 x1 : Int} {Q : Int → vW → Prop} : VW d 39 0 [(2, x0), (0, x1)] [] w Q ↔ ((x1 < 0 → VW d 39 10 [(2, x0), (0, x1)] [] w Q) ∧ (¬ (x1 < 0) → VW d 39 4 [(2, x0), (0, x1)] [] w Q)) :=
  (VW_b 2 (F := fun n => (if x1 < 0 then vrun n d 39 10 [(2, x0), (0, x1)] [] w else vrun n d 39 4 [(2, x0), (0, x1)] [] w)) (fun _ => rfl)).trans (EX_br.trans (and_congr (imp_congr Iff.rfl Iff.rfl) (imp_congr Iff.rfl Iff.rfl)))
set_option maxRecDepth 100000 in
theorem b39_4 {d : Nat} {w : vW} {x0 x1 : Int} {Q : Int → vW → Prop} : VW d 39 4 [(2, x0), (0, x1)] [] w Q ↔ ((20 < x1 → VW d 39 10 [(2, x0), (0, x1)] [] w Q) ∧ (¬ (20 < x1) → VW d 39 14 [(2, x0), (0, x1)] [] w Q)) :=
  (VW_b 3 (F := fun n => (if 20 < x1 then vrun n d 39 10 [(2, x0), (0, x1)] [] w else vrun n d 39 14 [(2, x0), (0, x1)] [] w)) (fun _ => rfl)).trans (EX_br.trans (and_congr (imp_congr Iff.rfl Iff.rfl) (imp_congr Iff.rfl Iff.rfl)))
set_option maxRecDepth 100000 in
theorem b39_10 {d : Nat} {w : vW} {x0 x1 : Int} {Q : Int → vW → Prop} : VW d 39 10 [(2, x0), (0, x1)] [] w Q ↔ Q (-1) w :=
  (VW_b 2 (F := fun n => some (0, (-1), w)) (fun _ => rfl)).trans (EX_ret0)
set_option maxRecDepth 100000 in
theorem b39_14 {d : Nat} {w : vW} {x0 x1 : Int} {Q : Int → vW → Prop} : VW d 39 14 [(2, x0), (0, x1)] [] w Q ↔ (vkd w x0 = 21) ∧ (((vct w x0 12) = (-1) → VW d 39 21 [(2, x0), (0, x1)] [] w Q) ∧ (¬ ((vct w x0 12) = (-1)) → VW d 39 32 [(2, x0), (0, x1)] [] w Q)) :=
  (VW_b 3 (F := fun n => if vkd w x0 = 21 then (if (vct w x0 12) = (-1) then vrun n d 39 21 [(2, x0), (0, x1)] [] w else vrun n d 39 32 [(2, x0), (0, x1)] [] w) else none) (fun _ => rfl)).trans (EX_if.trans (and_congr Iff.rfl (EX_br.trans (and_congr (imp_congr Iff.rfl Iff.rfl) (imp_congr Iff.rfl Iff.rfl)))))
set_option maxRecDepth 100000 in
theorem b39_21 {d : Nat} {w : vW} {x0 x1 : Int} {Q : Int → vW → Prop} : VW d 39 21 [(2, x0), (0, x1)] [] w Q ↔ VW d 39 25 [(2, x0), (0, x1)] [(2, vnt w), (2, x0)] (vnw w 19 4 (vdfl 19) 4) Q :=
  (VW_b 2 (F := fun n => vrun n d 39 25 [(2, x0), (0, x1)] [(2, vnt w), (2, x0)] (vnw w 19 4 (vdfl 19) 4)) (fun _ => rfl)).trans (Iff.rfl)
set_option maxRecDepth 100000 in
theorem b39_25 {d : Nat} {w : vW} {x0 x1 y0 y1 : Int} {Q : Int → vW → Prop} : VW d 39 25 [(2, x0), (0, x1)] [(2, y1), (2, y0)] w Q ↔ (vkd w y1 = 19) ∧ VC d 283 [(2, y1)] w (fun _ w1 => VW d 39 29 [(2, x0), (0, x1)] [(2, y1), (2, y0)] w1 Q) :=
  (VW_b 2 (F := fun n => if vkd w y1 = 19 then vclr (vrun n) d 39 29 283 1 9 [(2, x0), (0, x1)] [(2, y1), (2, y1), (2, y0)] w else none) (fun _ => rfl)).trans (EX_if.trans (and_congr Iff.rfl (EX_call rfl)))
set_option maxRecDepth 100000 in
theorem b39_29 {d : Nat} {w : vW} {x0 x1 y0 y1 : Int} {Q : Int → vW → Prop} : VW d 39 29 [(2, x0), (0, x1)] [(2, y1), (2, y0)] w Q ↔ (vkd w y0 = 21) ∧ VW d 39 32 [(2, x0), (0, x1)] [] (vsv w y0 12 y1) Q :=
  (VW_b 1 (F := fun n => if vkd w y0 = 21 then vrun n d 39 32 [(2, x0), (0, x1)] [] (vsv w y0 12 y1) else none) (fun _ => rfl)).trans (EX_if.trans (and_congr Iff.rfl (Iff.rfl)))
set_option maxRecDepth 100000 in
theorem b39_32 {d : Nat} {w : vW} {x0 x1 : Int} {Q : Int → vW → Prop} : VW d 39 32 [(2, x0), (0, x1)] [] w Q ↔ (vkd w x0 = 21) ∧ (vkd w x0 = 21) ∧ (vkd w x0 = 21) ∧ (vkd w (vct w x0 3) = 12) ∧ (vkd w (vct w x0 12) = 19) ∧ VC d 284 [(2, vct w x0 12), (2, vct w x0 0), (0, x1), (0, vct w (vct w x0 3) 4)] w (fun r w1 => VW d 39 51 [(2, x0), (0, x1)] [(1, r)] w1 Q) :=
  (VW_b 9 (F := fun n => if vkd w x0 = 21 then if vkd w x0 = 21 then if vkd w x0 = 21 then if vkd w (vct w x0 3) = 12 then if vkd w (vct w x0 12) = 19 then vclr (vrun n) d 39 51 284 4 1 [(2, x0), (0, x1)] [(0, vct w (vct w x0 3) 4), (0, x1), (2, vct w x0 0), (2, vct w x0 12)] w else none else none else none else none else none) (fun _ => rfl)).trans (EX_if.trans (and_congr Iff.rfl (EX_if.trans (and_congr Iff.rfl (EX_if.trans (and_congr Iff.rfl (EX_if.trans (and_congr Iff.rfl (EX_if.trans (and_congr Iff.rfl (EX_call rfl)))))))))))
set_option maxRecDepth 100000 in
theorem b39_51 {d : Nat} {w : vW} {x0 x1 y0 : Int} {Q : Int → vW → Prop} : VW d 39 51 [(2, x0), (0, x1)] [(1, y0)] w Q ↔ Q y0 w :=
  (VW_b 1 (F := fun n => some (0, y0, w)) (fun _ => rfl)).trans (EX_ret0)
/-! 40: StrikeWhatCancels.sorts(II)I -/
set_option maxRecDepth 100000 in
theorem b40_0 {d : Nat} {w : vW} {x0 x1 x2 : Int} {Q : Int → vW → Prop} : VW d 40 0 [(2, x0), (0, x1), (0, x2), (9, 0), (9, 0), (9, 0)] [] w Q ↔ (vkd w x0 = 21) ∧ VC d 42 [(2, x0), (0, x1), (0, x2)] w (fun r w1 => VW d 40 6 [(2, x0), (0, x1), (0, x2), (9, 0), (9, 0), (9, 0)] [(0, r)] w1 Q) :=
  (VW_b 4 (F := fun n => if vkd w x0 = 21 then vclr (vrun n) d 40 6 42 3 0 [(2, x0), (0, x1), (0, x2), (9, 0), (9, 0), (9, 0)] [(0, x2), (0, x1), (2, x0)] w else none) (fun _ => rfl)).trans (EX_if.trans (and_congr Iff.rfl (EX_call rfl)))
set_option maxRecDepth 100000 in
theorem b40_6 {d : Nat} {w : vW} {x0 x1 x2 y0 : Int} {Q : Int → vW → Prop} : VW d 40 6 [(2, x0), (0, x1), (0, x2), (9, 0), (9, 0), (9, 0)] [(0, y0)] w Q ↔ ((y0 < 0 → VW d 40 11 [(2, x0), (0, x1), (0, x2), (0, y0), (9, 0), (9, 0)] [] w Q) ∧ (¬ (y0 < 0) → VW d 40 13 [(2, x0), (0, x1), (0, x2), (0, y0), (9, 0), (9, 0)] [] w Q)) :=
  (VW_b 3 (F := fun n => (if y0 < 0 then vrun n d 40 11 [(2, x0), (0, x1), (0, x2), (0, y0), (9, 0), (9, 0)] [] w else vrun n d 40 13 [(2, x0), (0, x1), (0, x2), (0, y0), (9, 0), (9, 0)] [] w)) (fun _ => rfl)).trans (EX_br.trans (and_congr (imp_congr Iff.rfl Iff.rfl) (imp_congr Iff.rfl Iff.rfl)))
set_option maxRecDepth 100000 in
theorem b40_11 {d : Nat} {w : vW} {x0 x1 x2 x3 : Int} {Q : Int → vW → Prop} : VW d 40 11 [(2, x0), (0, x1), (0, x2), (0, x3), (9, 0), (9, 0)] [] w Q ↔ Q x3 w :=
  (VW_b 2 (F := fun n => some (0, x3, w)) (fun _ => rfl)).trans (EX_ret0)
set_option maxRecDepth 100000 in
theorem b40_13 {d : Nat} {w : vW} {x0 x1 x2 x3 : Int} {Q : Int → vW → Prop} : VW d 40 13 [(2, x0), (0, x1), (0, x2), (0, x3), (9, 0), (9, 0)] [] w Q ↔ (vkd w x0 = 21) ∧ VC d 53 [(2, x0), (0, x1), (0, x2)] w (fun r w1 => VW d 40 19 [(2, x0), (0, x1), (0, x2), (0, x3), (9, 0), (9, 0)] [(2, r)] w1 Q) :=
  (VW_b 4 (F := fun n => if vkd w x0 = 21 then vclr (vrun n) d 40 19 53 3 2 [(2, x0), (0, x1), (0, x2), (0, x3), (9, 0), (9, 0)] [(0, x2), (0, x1), (2, x0)] w else none) (fun _ => rfl)).trans (EX_if.trans (and_congr Iff.rfl (EX_call rfl)))
set_option maxRecDepth 100000 in
theorem b40_19 {d : Nat} {w : vW} {x0 x1 x2 x3 y0 : Int} {Q : Int → vW → Prop} : VW d 40 19 [(2, x0), (0, x1), (0, x2), (0, x3), (9, 0), (9, 0)] [(2, y0)] w Q ↔ (vkd w y0 = 13) ∧ VC d 188 [(2, y0), (0, x2)] w (fun r w1 => VW d 40 27 [(2, x0), (0, x1), (0, x2), (0, x3), (2, y0), (9, 0)] [(0, r)] w1 Q) :=
  (VW_b 4 (F := fun n => if vkd w y0 = 13 then vclr (vrun n) d 40 27 188 2 0 [(2, x0), (0, x1), (0, x2), (0, x3), (2, y0), (9, 0)] [(0, x2), (2, y0)] w else none) (fun _ => rfl)).trans (EX_if.trans (and_congr Iff.rfl (EX_call rfl)))
set_option maxRecDepth 100000 in
theorem b40_27 {d : Nat} {w : vW} {x0 x1 x2 x3 x4 y0 : Int} {Q : Int → vW → Prop} : VW d 40 27 [(2, x0), (0, x1), (0, x2), (0, x3), (2, x4), (9, 0)] [(0, y0)] w Q ↔ (vkd w x0 = 21) ∧ (vkd w (vct w x0 2) = 20) ∧ VC d 291 [(2, vct w x0 2)] w (fun _ w1 => VW d 40 36 [(2, x0), (0, x1), (0, x2), (0, x3), (2, x4), (0, y0)] [] w1 Q) :=
  (VW_b 4 (F := fun n => if vkd w x0 = 21 then if vkd w (vct w x0 2) = 20 then vclr (vrun n) d 40 36 291 1 9 [(2, x0), (0, x1), (0, x2), (0, x3), (2, x4), (0, y0)] [(2, vct w x0 2)] w else none else none) (fun _ => rfl)).trans (EX_if.trans (and_congr Iff.rfl (EX_if.trans (and_congr Iff.rfl (EX_call rfl)))))
set_option maxRecDepth 100000 in
theorem b40_36 {d : Nat} {w : vW} {x0 x1 x2 x3 x4 x5 : Int} {Q : Int → vW → Prop} : VW d 40 36 [(2, x0), (0, x1), (0, x2), (0, x3), (2, x4), (0, x5)] [] w Q ↔ (vkd w x0 = 21) ∧ (vkd w x4 = 13) ∧ VC d 281 [(1, vct w x4 8)] w (fun r w1 => VW d 40 48 [(2, x0), (0, x1), (0, x2), (0, x3), (2, x4), (0, x5)] [(1, r), (2, vct w x0 2)] w1 Q) :=
  (VW_b 5 (F := fun n => if vkd w x0 = 21 then if vkd w x4 = 13 then vclr (vrun n) d 40 48 281 1 1 [(2, x0), (0, x1), (0, x2), (0, x3), (2, x4), (0, x5)] [(1, vct w x4 8), (2, vct w x0 2)] w else none else none) (fun _ => rfl)).trans (EX_if.trans (and_congr Iff.rfl (EX_if.trans (and_congr Iff.rfl (EX_call rfl)))))
set_option maxRecDepth 100000 in
theorem b40_48 {d : Nat} {w : vW} {x0 x1 x2 x3 x4 x5 y0 y1 : Int} {Q : Int → vW → Prop} : VW d 40 48 [(2, x0), (0, x1), (0, x2), (0, x3), (2, x4), (0, x5)] [(1, y1), (2, y0)] w Q ↔ (vkd w y0 = 20) ∧ VC d 293 [(2, y0), (1, y1)] w (fun _ w1 => VW d 40 51 [(2, x0), (0, x1), (0, x2), (0, x3), (2, x4), (0, x5)] [] w1 Q) :=
  (VW_b 1 (F := fun n => if vkd w y0 = 20 then vclr (vrun n) d 40 51 293 2 9 [(2, x0), (0, x1), (0, x2), (0, x3), (2, x4), (0, x5)] [(1, y1), (2, y0)] w else none) (fun _ => rfl)).trans (EX_if.trans (and_congr Iff.rfl (EX_call rfl)))
set_option maxRecDepth 100000 in
theorem b40_51 {d : Nat} {w : vW} {x0 x1 x2 x3 x4 x5 : Int} {Q : Int → vW → Prop} : VW d 40 51 [(2, x0), (0, x1), (0, x2), (0, x3), (2, x4), (0, x5)] [] w Q ↔ (vkd w x0 = 21) ∧ (vkd w x4 = 13) ∧ (vkd w (vct w x0 2) = 20) ∧ VC d 293 [(2, vct w x0 2), (1, (vct w x4 9))] w (fun _ w1 => VW d 40 64 [(2, x0), (0, x1), (0, x2), (0, x3), (2, x4), (0, x5)] [] w1 Q) :=
  (VW_b 6 (F := fun n => if vkd w x0 = 21 then if vkd w x4 = 13 then if vkd w (vct w x0 2) = 20 then vclr (vrun n) d 40 64 293 2 9 [(2, x0), (0, x1), (0, x2), (0, x3), (2, x4), (0, x5)] [(1, (vct w x4 9)), (2, vct w x0 2)] w else none else none else none) (fun _ => rfl)).trans (EX_if.trans (and_congr Iff.rfl (EX_if.trans (and_congr Iff.rfl (EX_if.trans (and_congr Iff.rfl (EX_call rfl)))))))
set_option maxRecDepth 100000 in
theorem b40_64 {d : Nat} {w : vW} {x0 x1 x2 x3 x4 x5 : Int} {Q : Int → vW → Prop} : VW d 40 64 [(2, x0), (0, x1), (0, x2), (0, x3), (2, x4), (0, x5)] [] w Q ↔ Q x5 w :=
  (VW_b 2 (F := fun n => some (0, x5, w)) (fun _ => rfl)).trans (EX_ret0)
/-! 41: StrikeWhatCancels.quarrels(I)I -/
set_option maxRecDepth 100000 in
theorem b41_0 {d : Nat} {w : vW} {x0 x1 : Int} {Q : Int → vW → Prop} : VW d 41 0 [(2, x0), (0, x1), (9, 0), (9, 0), (9, 0)] [] w Q ↔ (vkd w x0 = 21) ∧ VC d 42 [(2, x0), (0, 0), (0, x1)] w (fun r w1 => VW d 41 6 [(2, x0), (0, x1), (9, 0), (9, 0), (9, 0)] [(0, r)] w1 Q) :=
  (VW_b 4 (F := fun n => if vkd w x0 = 21 then vclr (vrun n) d 41 6 42 3 0 [(2, x0), (0, x1), (9, 0), (9, 0), (9, 0)] [(0, x1), (0, 0), (2, x0)] w else none) (fun _ => rfl)).trans (EX_if.trans (and_congr Iff.rfl (EX_call rfl)))
set_option maxRecDepth 100000 in
theorem b41_6 {d : Nat} {w : vW} {x0 x1 y0 : Int} {Q : Int → vW → Prop} : VW d 41 6 [(2, x0), (0, x1), (9, 0), (9, 0), (9, 0)] [(0, y0)] w Q ↔ ((y0 < 0 → VW d 41 11 [(2, x0), (0, x1), (0, y0), (9, 0), (9, 0)] [] w Q) ∧ (¬ (y0 < 0) → VW d 41 13 [(2, x0), (0, x1), (0, y0), (9, 0), (9, 0)] [] w Q)) :=
  (VW_b 3 (F := fun n => (if y0 < 0 then vrun n d 41 11 [(2, x0), (0, x1), (0, y0), (9, 0), (9, 0)] [] w else vrun n d 41 13 [(2, x0), (0, x1), (0, y0), (9, 0), (9, 0)] [] w)) (fun _ => rfl)).trans (EX_br.trans (and_congr (imp_congr Iff.rfl Iff.rfl) (imp_congr Iff.rfl Iff.rfl)))
set_option maxRecDepth 100000 in
theorem b41_11 {d : Nat} {w : vW} {x0 x1 x2 : Int} {Q : Int → vW → Prop} : VW d 41 11 [(2, x0), (0, x1), (0, x2), (9, 0), (9, 0)] [] w Q ↔ Q x2 w :=
  (VW_b 2 (F := fun n => some (0, x2, w)) (fun _ => rfl)).trans (EX_ret0)
set_option maxRecDepth 100000 in
theorem b41_13 {d : Nat} {w : vW} {x0 x1 x2 : Int} {Q : Int → vW → Prop} : VW d 41 13 [(2, x0), (0, x1), (0, x2), (9, 0), (9, 0)] [] w Q ↔ (vkd w x0 = 21) ∧ VC d 53 [(2, x0), (0, 0), (0, x1)] w (fun r w1 => VW d 41 19 [(2, x0), (0, x1), (0, x2), (9, 0), (9, 0)] [(2, r)] w1 Q) :=
  (VW_b 4 (F := fun n => if vkd w x0 = 21 then vclr (vrun n) d 41 19 53 3 2 [(2, x0), (0, x1), (0, x2), (9, 0), (9, 0)] [(0, x1), (0, 0), (2, x0)] w else none) (fun _ => rfl)).trans (EX_if.trans (and_congr Iff.rfl (EX_call rfl)))
set_option maxRecDepth 100000 in
theorem b41_19 {d : Nat} {w : vW} {x0 x1 x2 y0 : Int} {Q : Int → vW → Prop} : VW d 41 19 [(2, x0), (0, x1), (0, x2), (9, 0), (9, 0)] [(2, y0)] w Q ↔ (vkd w x0 = 21) ∧ VC d 53 [(2, x0), (0, 1), (0, x1)] w (fun r w1 => VW d 41 27 [(2, x0), (0, x1), (0, x2), (2, y0), (9, 0)] [(2, r), (2, y0)] w1 Q) :=
  (VW_b 6 (F := fun n => if vkd w x0 = 21 then vclr (vrun n) d 41 27 53 3 2 [(2, x0), (0, x1), (0, x2), (2, y0), (9, 0)] [(0, x1), (0, 1), (2, x0), (2, y0)] w else none) (fun _ => rfl)).trans (EX_if.trans (and_congr Iff.rfl (EX_call rfl)))
set_option maxRecDepth 100000 in
theorem b41_27 {d : Nat} {w : vW} {x0 x1 x2 x3 y0 y1 : Int} {Q : Int → vW → Prop} : VW d 41 27 [(2, x0), (0, x1), (0, x2), (2, x3), (9, 0)] [(2, y1), (2, y0)] w Q ↔ (vkd w y0 = 13) ∧ VC d 189 [(2, y0), (2, y1), (0, x1)] w (fun r w1 => VW d 41 31 [(2, x0), (0, x1), (0, x2), (2, x3), (9, 0)] [(0, r)] w1 Q) :=
  (VW_b 2 (F := fun n => if vkd w y0 = 13 then vclr (vrun n) d 41 31 189 3 0 [(2, x0), (0, x1), (0, x2), (2, x3), (9, 0)] [(0, x1), (2, y1), (2, y0)] w else none) (fun _ => rfl)).trans (EX_if.trans (and_congr Iff.rfl (EX_call rfl)))
set_option maxRecDepth 100000 in
theorem b41_31 {d : Nat} {w : vW} {x0 x1 x2 x3 y0 : Int} {Q : Int → vW → Prop} : VW d 41 31 [(2, x0), (0, x1), (0, x2), (2, x3), (9, 0)] [(0, y0)] w Q ↔ (vkd w x0 = 21) ∧ (vkd w (vct w x0 2) = 20) ∧ VC d 291 [(2, vct w x0 2)] w (fun _ w1 => VW d 41 40 [(2, x0), (0, x1), (0, x2), (2, x3), (0, y0)] [] w1 Q) :=
  (VW_b 4 (F := fun n => if vkd w x0 = 21 then if vkd w (vct w x0 2) = 20 then vclr (vrun n) d 41 40 291 1 9 [(2, x0), (0, x1), (0, x2), (2, x3), (0, y0)] [(2, vct w x0 2)] w else none else none) (fun _ => rfl)).trans (EX_if.trans (and_congr Iff.rfl (EX_if.trans (and_congr Iff.rfl (EX_call rfl)))))
set_option maxRecDepth 100000 in
theorem b41_40 {d : Nat} {w : vW} {x0 x1 x2 x3 x4 : Int} {Q : Int → vW → Prop} : VW d 41 40 [(2, x0), (0, x1), (0, x2), (2, x3), (0, x4)] [] w Q ↔ ((0 < x4 → VW d 41 45 [(2, x0), (0, x1), (0, x2), (2, x3), (0, x4)] [] w Q) ∧ (¬ (0 < x4) → VW d 41 59 [(2, x0), (0, x1), (0, x2), (2, x3), (0, x4)] [] w Q)) :=
  (VW_b 2 (F := fun n => (if 0 < x4 then vrun n d 41 45 [(2, x0), (0, x1), (0, x2), (2, x3), (0, x4)] [] w else vrun n d 41 59 [(2, x0), (0, x1), (0, x2), (2, x3), (0, x4)] [] w)) (fun _ => rfl)).trans (EX_br.trans (and_congr (imp_congr Iff.rfl Iff.rfl) (imp_congr Iff.rfl Iff.rfl)))
set_option maxRecDepth 100000 in
theorem b41_45 {d : Nat} {w : vW} {x0 x1 x2 x3 x4 : Int} {Q : Int → vW → Prop} : VW d 41 45 [(2, x0), (0, x1), (0, x2), (2, x3), (0, x4)] [] w Q ↔ (vkd w x0 = 21) ∧ (vkd w x3 = 13) ∧ VC d 281 [(1, vct w x3 8)] w (fun r w1 => VW d 41 56 [(2, x0), (0, x1), (0, x2), (2, x3), (0, x4)] [(1, r), (2, vct w x0 2)] w1 Q) :=
  (VW_b 5 (F := fun n => if vkd w x0 = 21 then if vkd w x3 = 13 then vclr (vrun n) d 41 56 281 1 1 [(2, x0), (0, x1), (0, x2), (2, x3), (0, x4)] [(1, vct w x3 8), (2, vct w x0 2)] w else none else none) (fun _ => rfl)).trans (EX_if.trans (and_congr Iff.rfl (EX_if.trans (and_congr Iff.rfl (EX_call rfl)))))
set_option maxRecDepth 100000 in
theorem b41_56 {d : Nat} {w : vW} {x0 x1 x2 x3 x4 y0 y1 : Int} {Q : Int → vW → Prop} : VW d 41 56 [(2, x0), (0, x1), (0, x2), (2, x3), (0, x4)] [(1, y1), (2, y0)] w Q ↔ (vkd w y0 = 20) ∧ VC d 293 [(2, y0), (1, y1)] w (fun _ w1 => VW d 41 59 [(2, x0), (0, x1), (0, x2), (2, x3), (0, x4)] [] w1 Q) :=
  (VW_b 1 (F := fun n => if vkd w y0 = 20 then vclr (vrun n) d 41 59 293 2 9 [(2, x0), (0, x1), (0, x2), (2, x3), (0, x4)] [(1, y1), (2, y0)] w else none) (fun _ => rfl)).trans (EX_if.trans (and_congr Iff.rfl (EX_call rfl)))
set_option maxRecDepth 100000 in
theorem b41_59 {d : Nat} {w : vW} {x0 x1 x2 x3 x4 : Int} {Q : Int → vW → Prop} : VW d 41 59 [(2, x0), (0, x1), (0, x2), (2, x3), (0, x4)] [] w Q ↔ Q x4 w :=
  (VW_b 2 (F := fun n => some (0, x4, w)) (fun _ => rfl)).trans (EX_ret0)
/-! 42: StrikeWhatCancels.refusal(II)I -/
set_option maxRecDepth 100000 in
theorem b42_0 {d : Nat} {w : vW} {x0 x1 x2 : Int} {Q : Int → vW → Prop} : VW d 42 0 [(2, x0), (0, x1), (0, x2)] [] w Q ↔ ((x1 < 0 → VW d 42 19 [(2, x0), (0, x1), (0, x2)] [] w Q) ∧ (¬ (x1 < 0) → VW d 42 4 [(2, x0), (0, x1), (0, x2)] [] w Q)) :=
  (VW_b 2 (F := fun n => (if x1 < 0 then vrun n d 42 19 [(2, x0), (0, x1), (0, x2)] [] w else vrun n d 42 4 [(2, x0), (0, x1), (0, x2)] [] w)) (fun _ => rfl)).trans (EX_br.trans (and_congr (imp_congr Iff.rfl Iff.rfl) (imp_congr Iff.rfl Iff.rfl)))
set_option maxRecDepth 100000 in
theorem b42_4 {d : Nat} {w : vW} {x0 x1 x2 : Int} {Q : Int → vW → Prop} : VW d 42 4 [(2, x0), (0, x1), (0, x2)] [] w Q ↔ ((2 < x1 → VW d 42 19 [(2, x0), (0, x1), (0, x2)] [] w Q) ∧ (¬ (2 < x1) → VW d 42 9 [(2, x0), (0, x1), (0, x2)] [] w Q)) :=
  (VW_b 3 (F := fun n => (if 2 < x1 then vrun n d 42 19 [(2, x0), (0, x1), (0, x2)] [] w else vrun n d 42 9 [(2, x0), (0, x1), (0, x2)] [] w)) (fun _ => rfl)).trans (EX_br.trans (and_congr (imp_congr Iff.rfl Iff.rfl) (imp_congr Iff.rfl Iff.rfl)))
set_option maxRecDepth 100000 in
theorem b42_9 {d : Nat} {w : vW} {x0 x1 x2 : Int} {Q : Int → vW → Prop} : VW d 42 9 [(2, x0), (0, x1), (0, x2)] [] w Q ↔ ((x2 < 0 → VW d 42 19 [(2, x0), (0, x1), (0, x2)] [] w Q) ∧ (¬ (x2 < 0) → VW d 42 13 [(2, x0), (0, x1), (0, x2)] [] w Q)) :=
  (VW_b 2 (F := fun n => (if x2 < 0 then vrun n d 42 19 [(2, x0), (0, x1), (0, x2)] [] w else vrun n d 42 13 [(2, x0), (0, x1), (0, x2)] [] w)) (fun _ => rfl)).trans (EX_br.trans (and_congr (imp_congr Iff.rfl Iff.rfl) (imp_congr Iff.rfl Iff.rfl)))
set_option maxRecDepth 100000 in
theorem b42_13 {d : Nat} {w : vW} {x0 x1 x2 : Int} {Q : Int → vW → Prop} : VW d 42 13 [(2, x0), (0, x1), (0, x2)] [] w Q ↔ ((14 < x2 → VW d 42 19 [(2, x0), (0, x1), (0, x2)] [] w Q) ∧ (¬ (14 < x2) → VW d 42 21 [(2, x0), (0, x1), (0, x2)] [] w Q)) :=
  (VW_b 3 (F := fun n => (if 14 < x2 then vrun n d 42 19 [(2, x0), (0, x1), (0, x2)] [] w else vrun n d 42 21 [(2, x0), (0, x1), (0, x2)] [] w)) (fun _ => rfl)).trans (EX_br.trans (and_congr (imp_congr Iff.rfl Iff.rfl) (imp_congr Iff.rfl Iff.rfl)))
set_option maxRecDepth 100000 in
theorem b42_19 {d : Nat} {w : vW} {x0 x1 x2 : Int} {Q : Int → vW → Prop} : VW d 42 19 [(2, x0), (0, x1), (0, x2)] [] w Q ↔ Q (-1) w :=
  (VW_b 2 (F := fun n => some (0, (-1), w)) (fun _ => rfl)).trans (EX_ret0)
set_option maxRecDepth 100000 in
theorem b42_21 {d : Nat} {w : vW} {x0 x1 x2 : Int} {Q : Int → vW → Prop} : VW d 42 21 [(2, x0), (0, x1), (0, x2)] [] w Q ↔ (vkd w x0 = 21) ∧ (vkd w (vct w x0 3) = 12) ∧ VC d 178 [(0, vct w (vct w x0 3) 4), (0, x2)] w (fun r w1 => VW d 42 32 [(2, x0), (0, x1), (0, x2)] [(0, r)] w1 Q) :=
  (VW_b 5 (F := fun n => if vkd w x0 = 21 then if vkd w (vct w x0 3) = 12 then vclr (vrun n) d 42 32 178 2 0 [(2, x0), (0, x1), (0, x2)] [(0, x2), (0, vct w (vct w x0 3) 4)] w else none else none) (fun _ => rfl)).trans (EX_if.trans (and_congr Iff.rfl (EX_if.trans (and_congr Iff.rfl (EX_call rfl)))))
set_option maxRecDepth 100000 in
theorem b42_32 {d : Nat} {w : vW} {x0 x1 x2 y0 : Int} {Q : Int → vW → Prop} : VW d 42 32 [(2, x0), (0, x1), (0, x2)] [(0, y0)] w Q ↔ ((4096 < y0 → VW d 42 38 [(2, x0), (0, x1), (0, x2)] [] w Q) ∧ (¬ (4096 < y0) → VW d 42 43 [(2, x0), (0, x1), (0, x2)] [] w Q)) :=
  (VW_b 2 (F := fun n => (if 4096 < y0 then vrun n d 42 38 [(2, x0), (0, x1), (0, x2)] [] w else vrun n d 42 43 [(2, x0), (0, x1), (0, x2)] [] w)) (fun _ => rfl)).trans (EX_br.trans (and_congr (imp_congr Iff.rfl Iff.rfl) (imp_congr Iff.rfl Iff.rfl)))
set_option maxRecDepth 100000 in
theorem b42_38 {d : Nat} {w : vW} {x0 x1 x2 : Int} {Q : Int → vW → Prop} : VW d 42 38 [(2, x0), (0, x1), (0, x2)] [] w Q ↔ VW d 42 44 [(2, x0), (0, x1), (0, x2)] [(0, (-3))] w Q :=
  (VW_b 2 (F := fun n => vrun n d 42 44 [(2, x0), (0, x1), (0, x2)] [(0, (-3))] w) (fun _ => rfl)).trans (Iff.rfl)
set_option maxRecDepth 100000 in
theorem b42_43 {d : Nat} {w : vW} {x0 x1 x2 : Int} {Q : Int → vW → Prop} : VW d 42 43 [(2, x0), (0, x1), (0, x2)] [] w Q ↔ VW d 42 44 [(2, x0), (0, x1), (0, x2)] [(0, 0)] w Q :=
  (VW_b 1 (F := fun n => vrun n d 42 44 [(2, x0), (0, x1), (0, x2)] [(0, 0)] w) (fun _ => rfl)).trans (Iff.rfl)
set_option maxRecDepth 100000 in
theorem b42_44 {d : Nat} {w : vW} {x0 x1 x2 y0 : Int} {Q : Int → vW → Prop} : VW d 42 44 [(2, x0), (0, x1), (0, x2)] [(0, y0)] w Q ↔ Q y0 w :=
  (VW_b 1 (F := fun n => some (0, y0, w)) (fun _ => rfl)).trans (EX_ret0)
/-! 43: StrikeWhatCancels.seed(I)I -/
set_option maxRecDepth 100000 in
theorem b43_0 {d : Nat} {w : vW} {x0 x1 : Int} {Q : Int → vW → Prop} : VW d 43 0 [(2, x0), (0, x1), (9, 0)] [] w Q ↔ (vkd w x0 = 21) ∧ (vkd w (vct w x0 3) = 12) ∧ (vkd w x0 = 21) ∧ (vkd w (vct w x0 3) = 12) ∧ VW d 43 16 [(2, x0), (0, x1), (0, vct w (vct w x0 3) 3)] [] (vsv w (vct w x0 3) 3 x1) Q :=
  (VW_b 8 (F := fun n => if vkd w x0 = 21 then if vkd w (vct w x0 3) = 12 then if vkd w x0 = 21 then if vkd w (vct w x0 3) = 12 then vrun n d 43 16 [(2, x0), (0, x1), (0, vct w (vct w x0 3) 3)] [] (vsv w (vct w x0 3) 3 x1) else none else none else none else none) (fun _ => rfl)).trans (EX_if.trans (and_congr Iff.rfl (EX_if.trans (and_congr Iff.rfl (EX_if.trans (and_congr Iff.rfl (EX_if.trans (and_congr Iff.rfl (Iff.rfl)))))))))
set_option maxRecDepth 100000 in
theorem b43_16 {d : Nat} {w : vW} {x0 x1 x2 : Int} {Q : Int → vW → Prop} : VW d 43 16 [(2, x0), (0, x1), (0, x2)] [] w Q ↔ Q x2 w :=
  (VW_b 2 (F := fun n => some (0, x2, w)) (fun _ => rfl)).trans (EX_ret0)
/-! 44: StrikeWhatCancels.keep(I)Z -/
set_option maxRecDepth 100000 in
theorem b44_0 {d : Nat} {w : vW} {x0 x1 : Int} {Q : Int → vW → Prop} : VW d 44 0 [(2, x0), (0, x1)] [] w Q ↔ ((x1 < 0 → VW d 44 22 [(2, x0), (0, x1)] [] w Q) ∧ (¬ (x1 < 0) → VW d 44 4 [(2, x0), (0, x1)] [] w Q)) :=
  (VW_b 2 (F := fun n => (if x1 < 0 then vrun n d 44 22 [(2, x0), (0, x1)] [] w else vrun n d 44 4 [(2, x0), (0, x1)] [] w)) (fun _ => rfl)).trans (EX_br.trans (and_congr (imp_congr Iff.rfl Iff.rfl) (imp_congr Iff.rfl Iff.rfl)))
set_option maxRecDepth 100000 in
theorem b44_4 {d : Nat} {w : vW} {x0 x1 : Int} {Q : Int → vW → Prop} : VW d 44 4 [(2, x0), (0, x1)] [] w Q ↔ (vkd w x0 = 21) ∧ (vkd w (vct w x0 4) = 4) ∧ ((x1 < (vln w (vct w x0 4)) → VW d 44 13 [(2, x0), (0, x1)] [] w Q) ∧ (¬ (x1 < (vln w (vct w x0 4))) → VW d 44 22 [(2, x0), (0, x1)] [] w Q)) :=
  (VW_b 5 (F := fun n => if vkd w x0 = 21 then if vkd w (vct w x0 4) = 4 then (if x1 < (vln w (vct w x0 4)) then vrun n d 44 13 [(2, x0), (0, x1)] [] w else vrun n d 44 22 [(2, x0), (0, x1)] [] w) else none else none) (fun _ => rfl)).trans (EX_if.trans (and_congr Iff.rfl (EX_if.trans (and_congr Iff.rfl (EX_br.trans (and_congr (imp_congr Iff.rfl Iff.rfl) (imp_congr Iff.rfl Iff.rfl)))))))
set_option maxRecDepth 100000 in
theorem b44_13 {d : Nat} {w : vW} {x0 x1 : Int} {Q : Int → vW → Prop} : VW d 44 13 [(2, x0), (0, x1)] [] w Q ↔ (vkd w x0 = 21) ∧ (vkd w (vct w x0 4) = 4 ∧ (0 : Int) ≤ x1 ∧ x1 < vln w (vct w x0 4)) ∧ (((vct w (vct w x0 4) x1) = (-1) → VW d 44 22 [(2, x0), (0, x1)] [] w Q) ∧ (¬ ((vct w (vct w x0 4) x1) = (-1)) → VW d 44 24 [(2, x0), (0, x1)] [] w Q)) :=
  (VW_b 5 (F := fun n => if vkd w x0 = 21 then if vkd w (vct w x0 4) = 4 ∧ (0 : Int) ≤ x1 ∧ x1 < vln w (vct w x0 4) then (if (vct w (vct w x0 4) x1) = (-1) then vrun n d 44 22 [(2, x0), (0, x1)] [] w else vrun n d 44 24 [(2, x0), (0, x1)] [] w) else none else none) (fun _ => rfl)).trans (EX_if.trans (and_congr Iff.rfl (EX_if.trans (and_congr Iff.rfl (EX_br.trans (and_congr (imp_congr Iff.rfl Iff.rfl) (imp_congr Iff.rfl Iff.rfl)))))))
set_option maxRecDepth 100000 in
theorem b44_22 {d : Nat} {w : vW} {x0 x1 : Int} {Q : Int → vW → Prop} : VW d 44 22 [(2, x0), (0, x1)] [] w Q ↔ Q 0 w :=
  (VW_b 2 (F := fun n => some (0, 0, w)) (fun _ => rfl)).trans (EX_ret0)
set_option maxRecDepth 100000 in
theorem b44_24 {d : Nat} {w : vW} {x0 x1 : Int} {Q : Int → vW → Prop} : VW d 44 24 [(2, x0), (0, x1)] [] w Q ↔ (vkd w x0 = 21) ∧ (vkd w (vct w x0 4) = 4 ∧ (0 : Int) ≤ x1 ∧ x1 < vln w (vct w x0 4)) ∧ (vkd w x0 = 21) ∧ (vkd w (vct w (vct w x0 4) x1) = 12) ∧ VC d 173 [(2, vct w (vct w x0 4) x1), (2, vct w x0 3)] w (fun _ w1 => VW d 44 37 [(2, x0), (0, x1)] [] w1 Q) :=
  (VW_b 7 (F := fun n => if vkd w x0 = 21 then if vkd w (vct w x0 4) = 4 ∧ (0 : Int) ≤ x1 ∧ x1 < vln w (vct w x0 4) then if vkd w x0 = 21 then if vkd w (vct w (vct w x0 4) x1) = 12 then vclr (vrun n) d 44 37 173 2 9 [(2, x0), (0, x1)] [(2, vct w x0 3), (2, vct w (vct w x0 4) x1)] w else none else none else none else none) (fun _ => rfl)).trans (EX_if.trans (and_congr Iff.rfl (EX_if.trans (and_congr Iff.rfl (EX_if.trans (and_congr Iff.rfl (EX_if.trans (and_congr Iff.rfl (EX_call rfl)))))))))
set_option maxRecDepth 100000 in
theorem b44_37 {d : Nat} {w : vW} {x0 x1 : Int} {Q : Int → vW → Prop} : VW d 44 37 [(2, x0), (0, x1)] [] w Q ↔ (vkd w x0 = 21) ∧ (vkd w (vct w x0 4) = 4 ∧ (0 : Int) ≤ x1 ∧ x1 < vln w (vct w x0 4)) ∧ ((0 : Int) ≤ 1 ∧ 1 ≤ 1) ∧ (vkd w (vct w (vct w x0 4) x1) = 12) ∧ VW d 44 47 [(2, x0), (0, x1)] [] (vsv w (vct w (vct w x0 4) x1) 5 1) Q :=
  (VW_b 6 (F := fun n => if vkd w x0 = 21 then if vkd w (vct w x0 4) = 4 ∧ (0 : Int) ≤ x1 ∧ x1 < vln w (vct w x0 4) then if (0 : Int) ≤ 1 ∧ 1 ≤ 1 then if vkd w (vct w (vct w x0 4) x1) = 12 then vrun n d 44 47 [(2, x0), (0, x1)] [] (vsv w (vct w (vct w x0 4) x1) 5 1) else none else none else none else none) (fun _ => rfl)).trans (EX_if.trans (and_congr Iff.rfl (EX_if.trans (and_congr Iff.rfl (EX_if.trans (and_congr Iff.rfl (EX_if.trans (and_congr Iff.rfl (Iff.rfl)))))))))
set_option maxRecDepth 100000 in
theorem b44_47 {d : Nat} {w : vW} {x0 x1 : Int} {Q : Int → vW → Prop} : VW d 44 47 [(2, x0), (0, x1)] [] w Q ↔ Q 1 w :=
  (VW_b 2 (F := fun n => some (0, 1, w)) (fun _ => rfl)).trans (EX_ret0)
/-! 45: StrikeWhatCancels.again(I)Z -/
set_option maxRecDepth 100000 in
theorem b45_0 {d : Nat} {w : vW} {x0 x1 : Int} {Q : Int → vW → Prop} : VW d 45 0 [(2, x0), (0, x1)] [] w Q ↔ ((x1 < 0 → VW d 45 34 [(2, x0), (0, x1)] [] w Q) ∧ (¬ (x1 < 0) → VW d 45 4 [(2, x0), (0, x1)] [] w Q)) :=
  (VW_b 2 (F := fun n => (if x1 < 0 then vrun n d 45 34 [(2, x0), (0, x1)] [] w else vrun n d 45 4 [(2, x0), (0, x1)] [] w)) (fun _ => rfl)).trans (EX_br.trans (and_congr (imp_congr Iff.rfl Iff.rfl) (imp_congr Iff.rfl Iff.rfl)))
set_option maxRecDepth 100000 in
theorem b45_4 {d : Nat} {w : vW} {x0 x1 : Int} {Q : Int → vW → Prop} : VW d 45 4 [(2, x0), (0, x1)] [] w Q ↔ (vkd w x0 = 21) ∧ (vkd w (vct w x0 4) = 4) ∧ ((x1 < (vln w (vct w x0 4)) → VW d 45 13 [(2, x0), (0, x1)] [] w Q) ∧ (¬ (x1 < (vln w (vct w x0 4))) → VW d 45 34 [(2, x0), (0, x1)] [] w Q)) :=
  (VW_b 5 (F := fun n => if vkd w x0 = 21 then if vkd w (vct w x0 4) = 4 then (if x1 < (vln w (vct w x0 4)) then vrun n d 45 13 [(2, x0), (0, x1)] [] w else vrun n d 45 34 [(2, x0), (0, x1)] [] w) else none else none) (fun _ => rfl)).trans (EX_if.trans (and_congr Iff.rfl (EX_if.trans (and_congr Iff.rfl (EX_br.trans (and_congr (imp_congr Iff.rfl Iff.rfl) (imp_congr Iff.rfl Iff.rfl)))))))
set_option maxRecDepth 100000 in
theorem b45_13 {d : Nat} {w : vW} {x0 x1 : Int} {Q : Int → vW → Prop} : VW d 45 13 [(2, x0), (0, x1)] [] w Q ↔ (vkd w x0 = 21) ∧ (vkd w (vct w x0 4) = 4 ∧ (0 : Int) ≤ x1 ∧ x1 < vln w (vct w x0 4)) ∧ (((vct w (vct w x0 4) x1) = (-1) → VW d 45 34 [(2, x0), (0, x1)] [] w Q) ∧ (¬ ((vct w (vct w x0 4) x1) = (-1)) → VW d 45 22 [(2, x0), (0, x1)] [] w Q)) :=
  (VW_b 5 (F := fun n => if vkd w x0 = 21 then if vkd w (vct w x0 4) = 4 ∧ (0 : Int) ≤ x1 ∧ x1 < vln w (vct w x0 4) then (if (vct w (vct w x0 4) x1) = (-1) then vrun n d 45 34 [(2, x0), (0, x1)] [] w else vrun n d 45 22 [(2, x0), (0, x1)] [] w) else none else none) (fun _ => rfl)).trans (EX_if.trans (and_congr Iff.rfl (EX_if.trans (and_congr Iff.rfl (EX_br.trans (and_congr (imp_congr Iff.rfl Iff.rfl) (imp_congr Iff.rfl Iff.rfl)))))))
set_option maxRecDepth 100000 in
theorem b45_22 {d : Nat} {w : vW} {x0 x1 : Int} {Q : Int → vW → Prop} : VW d 45 22 [(2, x0), (0, x1)] [] w Q ↔ (vkd w x0 = 21) ∧ (vkd w (vct w x0 4) = 4 ∧ (0 : Int) ≤ x1 ∧ x1 < vln w (vct w x0 4)) ∧ (vkd w (vct w (vct w x0 4) x1) = 12) ∧ (((vct w (vct w (vct w x0 4) x1) 5) = 0 → VW d 45 34 [(2, x0), (0, x1)] [] w Q) ∧ (¬ ((vct w (vct w (vct w x0 4) x1) 5) = 0) → VW d 45 36 [(2, x0), (0, x1)] [] w Q)) :=
  (VW_b 6 (F := fun n => if vkd w x0 = 21 then if vkd w (vct w x0 4) = 4 ∧ (0 : Int) ≤ x1 ∧ x1 < vln w (vct w x0 4) then if vkd w (vct w (vct w x0 4) x1) = 12 then (if (vct w (vct w (vct w x0 4) x1) 5) = 0 then vrun n d 45 34 [(2, x0), (0, x1)] [] w else vrun n d 45 36 [(2, x0), (0, x1)] [] w) else none else none else none) (fun _ => rfl)).trans (EX_if.trans (and_congr Iff.rfl (EX_if.trans (and_congr Iff.rfl (EX_if.trans (and_congr Iff.rfl (EX_br.trans (and_congr (imp_congr Iff.rfl Iff.rfl) (imp_congr Iff.rfl Iff.rfl)))))))))
set_option maxRecDepth 100000 in
theorem b45_34 {d : Nat} {w : vW} {x0 x1 : Int} {Q : Int → vW → Prop} : VW d 45 34 [(2, x0), (0, x1)] [] w Q ↔ Q 0 w :=
  (VW_b 2 (F := fun n => some (0, 0, w)) (fun _ => rfl)).trans (EX_ret0)
set_option maxRecDepth 100000 in
theorem b45_36 {d : Nat} {w : vW} {x0 x1 : Int} {Q : Int → vW → Prop} : VW d 45 36 [(2, x0), (0, x1)] [] w Q ↔ (vkd w x0 = 21) ∧ (vkd w x0 = 21) ∧ (vkd w (vct w x0 4) = 4 ∧ (0 : Int) ≤ x1 ∧ x1 < vln w (vct w x0 4)) ∧ (vkd w (vct w x0 3) = 12) ∧ VC d 173 [(2, vct w x0 3), (2, vct w (vct w x0 4) x1)] w (fun _ w1 => VW d 45 49 [(2, x0), (0, x1)] [] w1 Q) :=
  (VW_b 7 (F := fun n => if vkd w x0 = 21 then if vkd w x0 = 21 then if vkd w (vct w x0 4) = 4 ∧ (0 : Int) ≤ x1 ∧ x1 < vln w (vct w x0 4) then if vkd w (vct w x0 3) = 12 then vclr (vrun n) d 45 49 173 2 9 [(2, x0), (0, x1)] [(2, vct w (vct w x0 4) x1), (2, vct w x0 3)] w else none else none else none else none) (fun _ => rfl)).trans (EX_if.trans (and_congr Iff.rfl (EX_if.trans (and_congr Iff.rfl (EX_if.trans (and_congr Iff.rfl (EX_if.trans (and_congr Iff.rfl (EX_call rfl)))))))))
set_option maxRecDepth 100000 in
theorem b45_49 {d : Nat} {w : vW} {x0 x1 : Int} {Q : Int → vW → Prop} : VW d 45 49 [(2, x0), (0, x1)] [] w Q ↔ (vkd w x0 = 21) ∧ VW d 45 54 [(2, x0), (0, x1)] [] (vsv w x0 7 0) Q :=
  (VW_b 3 (F := fun n => if vkd w x0 = 21 then vrun n d 45 54 [(2, x0), (0, x1)] [] (vsv w x0 7 0) else none) (fun _ => rfl)).trans (EX_if.trans (and_congr Iff.rfl (Iff.rfl)))
set_option maxRecDepth 100000 in
theorem b45_54 {d : Nat} {w : vW} {x0 x1 : Int} {Q : Int → vW → Prop} : VW d 45 54 [(2, x0), (0, x1)] [] w Q ↔ Q 1 w :=
  (VW_b 2 (F := fun n => some (0, 1, w)) (fun _ => rfl)).trans (EX_ret0)
/-! 46: StrikeWhatCancels.count(I)I -/
set_option maxRecDepth 100000 in
theorem b46_0 {d : Nat} {w : vW} {x0 x1 : Int} {Q : Int → vW → Prop} : VW d 46 0 [(2, x0), (0, x1)] [] w Q ↔ VW d 46 (vswt 0 x1) [(2, x0), (0, x1)] [] w Q :=
  (VW_b 2 (F := fun n => vrun n d 46 (vswt 0 x1) [(2, x0), (0, x1)] [] w) (fun _ => rfl)).trans (Iff.rfl)
set_option maxRecDepth 100000 in
theorem b46_44 {d : Nat} {w : vW} {x0 x1 : Int} {Q : Int → vW → Prop} : VW d 46 44 [(2, x0), (0, x1)] [] w Q ↔ (vkd w x0 = 21) ∧ (vkd w (vct w x0 0) = 18) ∧ Q (vct w (vct w x0 0) 3) w :=
  (VW_b 4 (F := fun n => if vkd w x0 = 21 then if vkd w (vct w x0 0) = 18 then some (0, vct w (vct w x0 0) 3, w) else none else none) (fun _ => rfl)).trans (EX_if.trans (and_congr Iff.rfl (EX_if.trans (and_congr Iff.rfl (EX_ret0)))))
set_option maxRecDepth 100000 in
theorem b46_52 {d : Nat} {w : vW} {x0 x1 : Int} {Q : Int → vW → Prop} : VW d 46 52 [(2, x0), (0, x1)] [] w Q ↔ (vkd w x0 = 21) ∧ (vkd w (vct w x0 3) = 12) ∧ VC d 273 [(1, vct w (vct w x0 3) 1)] w (fun r w1 => VW d 46 62 [(2, x0), (0, x1)] [(0, r)] w1 Q) :=
  (VW_b 4 (F := fun n => if vkd w x0 = 21 then if vkd w (vct w x0 3) = 12 then vclr (vrun n) d 46 62 273 1 0 [(2, x0), (0, x1)] [(1, vct w (vct w x0 3) 1)] w else none else none) (fun _ => rfl)).trans (EX_if.trans (and_congr Iff.rfl (EX_if.trans (and_congr Iff.rfl (EX_call rfl)))))
set_option maxRecDepth 100000 in
theorem b46_62 {d : Nat} {w : vW} {x0 x1 y0 : Int} {Q : Int → vW → Prop} : VW d 46 62 [(2, x0), (0, x1)] [(0, y0)] w Q ↔ Q y0 w :=
  (VW_b 1 (F := fun n => some (0, y0, w)) (fun _ => rfl)).trans (EX_ret0)
set_option maxRecDepth 100000 in
theorem b46_63 {d : Nat} {w : vW} {x0 x1 : Int} {Q : Int → vW → Prop} : VW d 46 63 [(2, x0), (0, x1)] [] w Q ↔ (vkd w x0 = 21) ∧ (vkd w (vct w x0 3) = 12) ∧ VC d 273 [(1, vct w (vct w x0 3) 2)] w (fun r w1 => VW d 46 73 [(2, x0), (0, x1)] [(0, r)] w1 Q) :=
  (VW_b 4 (F := fun n => if vkd w x0 = 21 then if vkd w (vct w x0 3) = 12 then vclr (vrun n) d 46 73 273 1 0 [(2, x0), (0, x1)] [(1, vct w (vct w x0 3) 2)] w else none else none) (fun _ => rfl)).trans (EX_if.trans (and_congr Iff.rfl (EX_if.trans (and_congr Iff.rfl (EX_call rfl)))))
set_option maxRecDepth 100000 in
theorem b46_73 {d : Nat} {w : vW} {x0 x1 y0 : Int} {Q : Int → vW → Prop} : VW d 46 73 [(2, x0), (0, x1)] [(0, y0)] w Q ↔ Q y0 w :=
  (VW_b 1 (F := fun n => some (0, y0, w)) (fun _ => rfl)).trans (EX_ret0)
set_option maxRecDepth 100000 in
theorem b46_74 {d : Nat} {w : vW} {x0 x1 : Int} {Q : Int → vW → Prop} : VW d 46 74 [(2, x0), (0, x1)] [] w Q ↔ (vkd w x0 = 21) ∧ Q (vct w x0 7) w :=
  (VW_b 3 (F := fun n => if vkd w x0 = 21 then some (0, vct w x0 7, w) else none) (fun _ => rfl)).trans (EX_if.trans (and_congr Iff.rfl (EX_ret0)))
set_option maxRecDepth 100000 in
theorem b46_79 {d : Nat} {w : vW} {x0 x1 : Int} {Q : Int → vW → Prop} : VW d 46 79 [(2, x0), (0, x1)] [] w Q ↔ (vkd w x0 = 21) ∧ (vkd w (vct w x0 3) = 12) ∧ Q (vct w (vct w x0 3) 4) w :=
  (VW_b 4 (F := fun n => if vkd w x0 = 21 then if vkd w (vct w x0 3) = 12 then some (0, vct w (vct w x0 3) 4, w) else none else none) (fun _ => rfl)).trans (EX_if.trans (and_congr Iff.rfl (EX_if.trans (and_congr Iff.rfl (EX_ret0)))))
set_option maxRecDepth 100000 in
theorem b46_87 {d : Nat} {w : vW} {x0 x1 : Int} {Q : Int → vW → Prop} : VW d 46 87 [(2, x0), (0, x1)] [] w Q ↔ (vkd w x0 = 21) ∧ (vkd w (vct w x0 2) = 20) ∧ Q (vct w (vct w x0 2) 1) w :=
  (VW_b 4 (F := fun n => if vkd w x0 = 21 then if vkd w (vct w x0 2) = 20 then some (0, vct w (vct w x0 2) 1, w) else none else none) (fun _ => rfl)).trans (EX_if.trans (and_congr Iff.rfl (EX_if.trans (and_congr Iff.rfl (EX_ret0)))))
set_option maxRecDepth 100000 in
theorem b46_95 {d : Nat} {w : vW} {x0 x1 : Int} {Q : Int → vW → Prop} : VW d 46 95 [(2, x0), (0, x1)] [] w Q ↔ (vkd w x0 = 21) ∧ (vkd w (vct w x0 1) = 17) ∧ Q (vct w (vct w x0 1) 1) w :=
  (VW_b 4 (F := fun n => if vkd w x0 = 21 then if vkd w (vct w x0 1) = 17 then some (0, vct w (vct w x0 1) 1, w) else none else none) (fun _ => rfl)).trans (EX_if.trans (and_congr Iff.rfl (EX_if.trans (and_congr Iff.rfl (EX_ret0)))))
set_option maxRecDepth 100000 in
theorem b46_103 {d : Nat} {w : vW} {x0 x1 : Int} {Q : Int → vW → Prop} : VW d 46 103 [(2, x0), (0, x1)] [] w Q ↔ Q (-1) w :=
  (VW_b 2 (F := fun n => some (0, (-1), w)) (fun _ => rfl)).trans (EX_ret0)
/-! 47: StrikeWhatCancels.minutes()J -/
set_option maxRecDepth 100000 in
theorem b47_0 {d : Nat} {w : vW} {x0 : Int} {Q : Int → vW → Prop} : VW d 47 0 [(2, x0)] [] w Q ↔ (vkd w x0 = 21) ∧ (vkd w (vct w x0 3) = 12) ∧ VC d 281 [(1, vct w (vct w x0 3) 2)] w (fun r w1 => VW d 47 10 [(2, x0)] [(1, r)] w1 Q) :=
  (VW_b 4 (F := fun n => if vkd w x0 = 21 then if vkd w (vct w x0 3) = 12 then vclr (vrun n) d 47 10 281 1 1 [(2, x0)] [(1, vct w (vct w x0 3) 2)] w else none else none) (fun _ => rfl)).trans (EX_if.trans (and_congr Iff.rfl (EX_if.trans (and_congr Iff.rfl (EX_call rfl)))))
set_option maxRecDepth 100000 in
theorem b47_10 {d : Nat} {w : vW} {x0 y0 : Int} {Q : Int → vW → Prop} : VW d 47 10 [(2, x0)] [(1, y0)] w Q ↔ Q y0 w :=
  (VW_b 1 (F := fun n => some (0, y0, w)) (fun _ => rfl)).trans (EX_ret0)
/-! 48: StrikeWhatCancels.row(I)J -/
set_option maxRecDepth 100000 in
theorem b48_0 {d : Nat} {w : vW} {x0 x1 : Int} {Q : Int → vW → Prop} {QX : vW → Prop} : VX d 48 0 [(2, x0), (0, x1)] [] w Q QX ↔ ((x1 < 0 → VX d 48 15 [(2, x0), (0, x1)] [] w Q QX) ∧ (¬ (x1 < 0) → VX d 48 4 [(2, x0), (0, x1)] [] w Q QX)) :=
  (VX_b 2 (F := fun n => (if x1 < 0 then vrun n d 48 15 [(2, x0), (0, x1)] [] w else vrun n d 48 4 [(2, x0), (0, x1)] [] w)) (fun _ => rfl)).trans (EX_br.trans (and_congr (imp_congr Iff.rfl Iff.rfl) (imp_congr Iff.rfl Iff.rfl)))
set_option maxRecDepth 100000 in
theorem b48_4 {d : Nat} {w : vW} {x0 x1 : Int} {Q : Int → vW → Prop} {QX : vW → Prop} : VX d 48 4 [(2, x0), (0, x1)] [] w Q QX ↔ (vkd w x0 = 21) ∧ (vkd w (vct w x0 2) = 20) ∧ ((x1 < (vct w (vct w x0 2) 1) → VX d 48 23 [(2, x0), (0, x1)] [] w Q QX) ∧ (¬ (x1 < (vct w (vct w x0 2) 1)) → VX d 48 15 [(2, x0), (0, x1)] [] w Q QX)) :=
  (VX_b 5 (F := fun n => if vkd w x0 = 21 then if vkd w (vct w x0 2) = 20 then (if x1 < (vct w (vct w x0 2) 1) then vrun n d 48 23 [(2, x0), (0, x1)] [] w else vrun n d 48 15 [(2, x0), (0, x1)] [] w) else none else none) (fun _ => rfl)).trans (EX_if.trans (and_congr Iff.rfl (EX_if.trans (and_congr Iff.rfl (EX_br.trans (and_congr (imp_congr Iff.rfl Iff.rfl) (imp_congr Iff.rfl Iff.rfl)))))))
set_option maxRecDepth 100000 in
theorem b48_15 {d : Nat} {w : vW} {x0 x1 : Int} {Q : Int → vW → Prop} {QX : vW → Prop} : VX d 48 15 [(2, x0), (0, x1)] [] w Q QX ↔ QX (vxw w) :=
  (VX_b 1 (F := fun n => some (1, 0, vxw w)) (fun _ => rfl)).trans (EX_thr)
set_option maxRecDepth 100000 in
theorem b48_23 {d : Nat} {w : vW} {x0 x1 : Int} {Q : Int → vW → Prop} {QX : vW → Prop} : VX d 48 23 [(2, x0), (0, x1)] [] w Q QX ↔ (vkd w x0 = 21) ∧ (vkd w (vct w x0 2) = 20) ∧ VC d 296 [(2, vct w x0 2), (0, x1)] w (fun r w1 => VX d 48 31 [(2, x0), (0, x1)] [(1, r)] w1 Q QX) :=
  (VX_b 4 (F := fun n => if vkd w x0 = 21 then if vkd w (vct w x0 2) = 20 then vclr (vrun n) d 48 31 296 2 1 [(2, x0), (0, x1)] [(0, x1), (2, vct w x0 2)] w else none else none) (fun _ => rfl)).trans (EX_if.trans (and_congr Iff.rfl (EX_if.trans (and_congr Iff.rfl (EX_call rfl)))))
set_option maxRecDepth 100000 in
theorem b48_31 {d : Nat} {w : vW} {x0 x1 y0 : Int} {Q : Int → vW → Prop} {QX : vW → Prop} : VX d 48 31 [(2, x0), (0, x1)] [(1, y0)] w Q QX ↔ Q y0 w :=
  (VX_b 1 (F := fun n => some (0, y0, w)) (fun _ => rfl)).trans (EX_retx)
/-! 49: StrikeWhatCancels.first()LStrikeWhatCancels$Net; -/
set_option maxRecDepth 100000 in
theorem b49_0 {d : Nat} {w : vW} {x0 : Int} {Q : Int → vW → Prop} : VW d 49 0 [(2, x0)] [] w Q ↔ (vkd w x0 = 21) ∧ (((vct w x0 8) = (-1) → VW d 49 7 [(2, x0)] [] w Q) ∧ (¬ ((vct w x0 8) = (-1)) → VW d 49 18 [(2, x0)] [] w Q)) :=
  (VW_b 3 (F := fun n => if vkd w x0 = 21 then (if (vct w x0 8) = (-1) then vrun n d 49 7 [(2, x0)] [] w else vrun n d 49 18 [(2, x0)] [] w) else none) (fun _ => rfl)).trans (EX_if.trans (and_congr Iff.rfl (EX_br.trans (and_congr (imp_congr Iff.rfl Iff.rfl) (imp_congr Iff.rfl Iff.rfl)))))
set_option maxRecDepth 100000 in
theorem b49_7 {d : Nat} {w : vW} {x0 : Int} {Q : Int → vW → Prop} : VW d 49 7 [(2, x0)] [] w Q ↔ VW d 49 11 [(2, x0)] [(2, vnt w), (2, x0)] (vnw w 15 18 (vdfl 15) 18) Q :=
  (VW_b 2 (F := fun n => vrun n d 49 11 [(2, x0)] [(2, vnt w), (2, x0)] (vnw w 15 18 (vdfl 15) 18)) (fun _ => rfl)).trans (Iff.rfl)
set_option maxRecDepth 100000 in
theorem b49_11 {d : Nat} {w : vW} {x0 y0 y1 : Int} {Q : Int → vW → Prop} : VW d 49 11 [(2, x0)] [(2, y1), (2, y0)] w Q ↔ (vkd w y1 = 15) ∧ VC d 196 [(2, y1)] w (fun _ w1 => VW d 49 15 [(2, x0)] [(2, y1), (2, y0)] w1 Q) :=
  (VW_b 2 (F := fun n => if vkd w y1 = 15 then vclr (vrun n) d 49 15 196 1 9 [(2, x0)] [(2, y1), (2, y1), (2, y0)] w else none) (fun _ => rfl)).trans (EX_if.trans (and_congr Iff.rfl (EX_call rfl)))
set_option maxRecDepth 100000 in
theorem b49_15 {d : Nat} {w : vW} {x0 y0 y1 : Int} {Q : Int → vW → Prop} : VW d 49 15 [(2, x0)] [(2, y1), (2, y0)] w Q ↔ (vkd w y0 = 21) ∧ VW d 49 18 [(2, x0)] [] (vsv w y0 8 y1) Q :=
  (VW_b 1 (F := fun n => if vkd w y0 = 21 then vrun n d 49 18 [(2, x0)] [] (vsv w y0 8 y1) else none) (fun _ => rfl)).trans (EX_if.trans (and_congr Iff.rfl (Iff.rfl)))
set_option maxRecDepth 100000 in
theorem b49_18 {d : Nat} {w : vW} {x0 : Int} {Q : Int → vW → Prop} : VW d 49 18 [(2, x0)] [] w Q ↔ (vkd w x0 = 21) ∧ Q (vct w x0 8) w :=
  (VW_b 3 (F := fun n => if vkd w x0 = 21 then some (0, vct w x0 8, w) else none) (fun _ => rfl)).trans (EX_if.trans (and_congr Iff.rfl (EX_ret0)))
/-! 50: StrikeWhatCancels.second()LStrikeWhatCancels$Net; -/
set_option maxRecDepth 100000 in
theorem b50_0 {d : Nat} {w : vW} {x0 : Int} {Q : Int → vW → Prop} : VW d 50 0 [(2, x0)] [] w Q ↔ (vkd w x0 = 21) ∧ (((vct w x0 9) = (-1) → VW d 50 7 [(2, x0)] [] w Q) ∧ (¬ ((vct w x0 9) = (-1)) → VW d 50 18 [(2, x0)] [] w Q)) :=
  (VW_b 3 (F := fun n => if vkd w x0 = 21 then (if (vct w x0 9) = (-1) then vrun n d 50 7 [(2, x0)] [] w else vrun n d 50 18 [(2, x0)] [] w) else none) (fun _ => rfl)).trans (EX_if.trans (and_congr Iff.rfl (EX_br.trans (and_congr (imp_congr Iff.rfl Iff.rfl) (imp_congr Iff.rfl Iff.rfl)))))
set_option maxRecDepth 100000 in
theorem b50_7 {d : Nat} {w : vW} {x0 : Int} {Q : Int → vW → Prop} : VW d 50 7 [(2, x0)] [] w Q ↔ VW d 50 11 [(2, x0)] [(2, vnt w), (2, x0)] (vnw w 15 18 (vdfl 15) 18) Q :=
  (VW_b 2 (F := fun n => vrun n d 50 11 [(2, x0)] [(2, vnt w), (2, x0)] (vnw w 15 18 (vdfl 15) 18)) (fun _ => rfl)).trans (Iff.rfl)
set_option maxRecDepth 100000 in
theorem b50_11 {d : Nat} {w : vW} {x0 y0 y1 : Int} {Q : Int → vW → Prop} : VW d 50 11 [(2, x0)] [(2, y1), (2, y0)] w Q ↔ (vkd w y1 = 15) ∧ VC d 196 [(2, y1)] w (fun _ w1 => VW d 50 15 [(2, x0)] [(2, y1), (2, y0)] w1 Q) :=
  (VW_b 2 (F := fun n => if vkd w y1 = 15 then vclr (vrun n) d 50 15 196 1 9 [(2, x0)] [(2, y1), (2, y1), (2, y0)] w else none) (fun _ => rfl)).trans (EX_if.trans (and_congr Iff.rfl (EX_call rfl)))
set_option maxRecDepth 100000 in
theorem b50_15 {d : Nat} {w : vW} {x0 y0 y1 : Int} {Q : Int → vW → Prop} : VW d 50 15 [(2, x0)] [(2, y1), (2, y0)] w Q ↔ (vkd w y0 = 21) ∧ VW d 50 18 [(2, x0)] [] (vsv w y0 9 y1) Q :=
  (VW_b 1 (F := fun n => if vkd w y0 = 21 then vrun n d 50 18 [(2, x0)] [] (vsv w y0 9 y1) else none) (fun _ => rfl)).trans (EX_if.trans (and_congr Iff.rfl (Iff.rfl)))
set_option maxRecDepth 100000 in
theorem b50_18 {d : Nat} {w : vW} {x0 : Int} {Q : Int → vW → Prop} : VW d 50 18 [(2, x0)] [] w Q ↔ (vkd w x0 = 21) ∧ Q (vct w x0 9) w :=
  (VW_b 3 (F := fun n => if vkd w x0 = 21 then some (0, vct w x0 9, w) else none) (fun _ => rfl)).trans (EX_if.trans (and_congr Iff.rfl (EX_ret0)))
/-! 51: StrikeWhatCancels.laps()LStrikeWhatCancels$Overlaps; -/
set_option maxRecDepth 100000 in
theorem b51_0 {d : Nat} {w : vW} {x0 : Int} {Q : Int → vW → Prop} : VW d 51 0 [(2, x0)] [] w Q ↔ (vkd w x0 = 21) ∧ (((vct w x0 10) = (-1) → VW d 51 7 [(2, x0)] [] w Q) ∧ (¬ ((vct w x0 10) = (-1)) → VW d 51 18 [(2, x0)] [] w Q)) :=
  (VW_b 3 (F := fun n => if vkd w x0 = 21 then (if (vct w x0 10) = (-1) then vrun n d 51 7 [(2, x0)] [] w else vrun n d 51 18 [(2, x0)] [] w) else none) (fun _ => rfl)).trans (EX_if.trans (and_congr Iff.rfl (EX_br.trans (and_congr (imp_congr Iff.rfl Iff.rfl) (imp_congr Iff.rfl Iff.rfl)))))
set_option maxRecDepth 100000 in
theorem b51_7 {d : Nat} {w : vW} {x0 : Int} {Q : Int → vW → Prop} : VW d 51 7 [(2, x0)] [] w Q ↔ VW d 51 11 [(2, x0)] [(2, vnt w), (2, x0)] (vnw w 16 8 (vdfl 16) 8) Q :=
  (VW_b 2 (F := fun n => vrun n d 51 11 [(2, x0)] [(2, vnt w), (2, x0)] (vnw w 16 8 (vdfl 16) 8)) (fun _ => rfl)).trans (Iff.rfl)
set_option maxRecDepth 100000 in
theorem b51_11 {d : Nat} {w : vW} {x0 y0 y1 : Int} {Q : Int → vW → Prop} : VW d 51 11 [(2, x0)] [(2, y1), (2, y0)] w Q ↔ (vkd w y1 = 16) ∧ VC d 225 [(2, y1)] w (fun _ w1 => VW d 51 15 [(2, x0)] [(2, y1), (2, y0)] w1 Q) :=
  (VW_b 2 (F := fun n => if vkd w y1 = 16 then vclr (vrun n) d 51 15 225 1 9 [(2, x0)] [(2, y1), (2, y1), (2, y0)] w else none) (fun _ => rfl)).trans (EX_if.trans (and_congr Iff.rfl (EX_call rfl)))
set_option maxRecDepth 100000 in
theorem b51_15 {d : Nat} {w : vW} {x0 y0 y1 : Int} {Q : Int → vW → Prop} : VW d 51 15 [(2, x0)] [(2, y1), (2, y0)] w Q ↔ (vkd w y0 = 21) ∧ VW d 51 18 [(2, x0)] [] (vsv w y0 10 y1) Q :=
  (VW_b 1 (F := fun n => if vkd w y0 = 21 then vrun n d 51 18 [(2, x0)] [] (vsv w y0 10 y1) else none) (fun _ => rfl)).trans (EX_if.trans (and_congr Iff.rfl (Iff.rfl)))
set_option maxRecDepth 100000 in
theorem b51_18 {d : Nat} {w : vW} {x0 : Int} {Q : Int → vW → Prop} : VW d 51 18 [(2, x0)] [] w Q ↔ (vkd w x0 = 21) ∧ Q (vct w x0 10) w :=
  (VW_b 3 (F := fun n => if vkd w x0 = 21 then some (0, vct w x0 10, w) else none) (fun _ => rfl)).trans (EX_if.trans (and_congr Iff.rfl (EX_ret0)))
/-! 52: StrikeWhatCancels.aside()LStrikeWhatCancels$Aside; -/
set_option maxRecDepth 100000 in
theorem b52_0 {d : Nat} {w : vW} {x0 : Int} {Q : Int → vW → Prop} : VW d 52 0 [(2, x0)] [] w Q ↔ (vkd w x0 = 21) ∧ (((vct w x0 11) = (-1) → VW d 52 7 [(2, x0)] [] w Q) ∧ (¬ ((vct w x0 11) = (-1)) → VW d 52 18 [(2, x0)] [] w Q)) :=
  (VW_b 3 (F := fun n => if vkd w x0 = 21 then (if (vct w x0 11) = (-1) then vrun n d 52 7 [(2, x0)] [] w else vrun n d 52 18 [(2, x0)] [] w) else none) (fun _ => rfl)).trans (EX_if.trans (and_congr Iff.rfl (EX_br.trans (and_congr (imp_congr Iff.rfl Iff.rfl) (imp_congr Iff.rfl Iff.rfl)))))
set_option maxRecDepth 100000 in
theorem b52_7 {d : Nat} {w : vW} {x0 : Int} {Q : Int → vW → Prop} : VW d 52 7 [(2, x0)] [] w Q ↔ VW d 52 11 [(2, x0)] [(2, vnt w), (2, x0)] (vnw w 10 6 (vdfl 10) 6) Q :=
  (VW_b 2 (F := fun n => vrun n d 52 11 [(2, x0)] [(2, vnt w), (2, x0)] (vnw w 10 6 (vdfl 10) 6)) (fun _ => rfl)).trans (Iff.rfl)
set_option maxRecDepth 100000 in
theorem b52_11 {d : Nat} {w : vW} {x0 y0 y1 : Int} {Q : Int → vW → Prop} : VW d 52 11 [(2, x0)] [(2, y1), (2, y0)] w Q ↔ (vkd w y1 = 10) ∧ VC d 157 [(2, y1)] w (fun _ w1 => VW d 52 15 [(2, x0)] [(2, y1), (2, y0)] w1 Q) :=
  (VW_b 2 (F := fun n => if vkd w y1 = 10 then vclr (vrun n) d 52 15 157 1 9 [(2, x0)] [(2, y1), (2, y1), (2, y0)] w else none) (fun _ => rfl)).trans (EX_if.trans (and_congr Iff.rfl (EX_call rfl)))
set_option maxRecDepth 100000 in
theorem b52_15 {d : Nat} {w : vW} {x0 y0 y1 : Int} {Q : Int → vW → Prop} : VW d 52 15 [(2, x0)] [(2, y1), (2, y0)] w Q ↔ (vkd w y0 = 21) ∧ VW d 52 18 [(2, x0)] [] (vsv w y0 11 y1) Q :=
  (VW_b 1 (F := fun n => if vkd w y0 = 21 then vrun n d 52 18 [(2, x0)] [] (vsv w y0 11 y1) else none) (fun _ => rfl)).trans (EX_if.trans (and_congr Iff.rfl (Iff.rfl)))
set_option maxRecDepth 100000 in
theorem b52_18 {d : Nat} {w : vW} {x0 : Int} {Q : Int → vW → Prop} : VW d 52 18 [(2, x0)] [] w Q ↔ (vkd w x0 = 21) ∧ Q (vct w x0 11) w :=
  (VW_b 3 (F := fun n => if vkd w x0 = 21 then some (0, vct w x0 11, w) else none) (fun _ => rfl)).trans (EX_if.trans (and_congr Iff.rfl (EX_ret0)))
/-! 53: StrikeWhatCancels.finalsOf(II)LStrikeWhatCancels$Finals; -/
set_option maxRecDepth 100000 in
theorem b53_0 {d : Nat} {w : vW} {x0 x1 x2 : Int} {Q : Int → vW → Prop} : VW d 53 0 [(2, x0), (0, x1), (0, x2), (9, 0)] [] w Q ↔ ((x1 < 0 → VW d 53 17 [(2, x0), (0, x1), (0, x2), (9, 0)] [] w Q) ∧ (¬ (x1 < 0) → VW d 53 4 [(2, x0), (0, x1), (0, x2), (9, 0)] [] w Q)) :=
  (VW_b 2 (F := fun n => (if x1 < 0 then vrun n d 53 17 [(2, x0), (0, x1), (0, x2), (9, 0)] [] w else vrun n d 53 4 [(2, x0), (0, x1), (0, x2), (9, 0)] [] w)) (fun _ => rfl)).trans (EX_br.trans (and_congr (imp_congr Iff.rfl Iff.rfl) (imp_congr Iff.rfl Iff.rfl)))
set_option maxRecDepth 100000 in
theorem b53_4 {d : Nat} {w : vW} {x0 x1 x2 : Int} {Q : Int → vW → Prop} : VW d 53 4 [(2, x0), (0, x1), (0, x2), (9, 0)] [] w Q ↔ (vkd w x0 = 21) ∧ (vkd w (vct w x0 14) = 5) ∧ ((x1 < (vln w (vct w x0 14)) → VW d 53 13 [(2, x0), (0, x1), (0, x2), (9, 0)] [] w Q) ∧ (¬ (x1 < (vln w (vct w x0 14))) → VW d 53 17 [(2, x0), (0, x1), (0, x2), (9, 0)] [] w Q)) :=
  (VW_b 5 (F := fun n => if vkd w x0 = 21 then if vkd w (vct w x0 14) = 5 then (if x1 < (vln w (vct w x0 14)) then vrun n d 53 13 [(2, x0), (0, x1), (0, x2), (9, 0)] [] w else vrun n d 53 17 [(2, x0), (0, x1), (0, x2), (9, 0)] [] w) else none else none) (fun _ => rfl)).trans (EX_if.trans (and_congr Iff.rfl (EX_if.trans (and_congr Iff.rfl (EX_br.trans (and_congr (imp_congr Iff.rfl Iff.rfl) (imp_congr Iff.rfl Iff.rfl)))))))
set_option maxRecDepth 100000 in
theorem b53_13 {d : Nat} {w : vW} {x0 x1 x2 : Int} {Q : Int → vW → Prop} : VW d 53 13 [(2, x0), (0, x1), (0, x2), (9, 0)] [] w Q ↔ VW d 53 18 [(2, x0), (0, x1), (0, x2), (9, 0)] [(0, x1)] w Q :=
  (VW_b 2 (F := fun n => vrun n d 53 18 [(2, x0), (0, x1), (0, x2), (9, 0)] [(0, x1)] w) (fun _ => rfl)).trans (Iff.rfl)
set_option maxRecDepth 100000 in
theorem b53_17 {d : Nat} {w : vW} {x0 x1 x2 : Int} {Q : Int → vW → Prop} : VW d 53 17 [(2, x0), (0, x1), (0, x2), (9, 0)] [] w Q ↔ VW d 53 18 [(2, x0), (0, x1), (0, x2), (9, 0)] [(0, 0)] w Q :=
  (VW_b 1 (F := fun n => vrun n d 53 18 [(2, x0), (0, x1), (0, x2), (9, 0)] [(0, 0)] w) (fun _ => rfl)).trans (Iff.rfl)
set_option maxRecDepth 100000 in
theorem b53_18 {d : Nat} {w : vW} {x0 x1 x2 y0 : Int} {Q : Int → vW → Prop} : VW d 53 18 [(2, x0), (0, x1), (0, x2), (9, 0)] [(0, y0)] w Q ↔ (vkd w x0 = 21) ∧ (vkd w (vct w x0 14) = 5 ∧ (0 : Int) ≤ y0 ∧ y0 < vln w (vct w x0 14)) ∧ (((vct w (vct w x0 14) y0) = (-1) → VW d 53 28 [(2, x0), (0, x1), (0, x2), (0, y0)] [] w Q) ∧ (¬ ((vct w (vct w x0 14) y0) = (-1)) → VW d 53 42 [(2, x0), (0, x1), (0, x2), (0, y0)] [] w Q)) :=
  (VW_b 6 (F := fun n => if vkd w x0 = 21 then if vkd w (vct w x0 14) = 5 ∧ (0 : Int) ≤ y0 ∧ y0 < vln w (vct w x0 14) then (if (vct w (vct w x0 14) y0) = (-1) then vrun n d 53 28 [(2, x0), (0, x1), (0, x2), (0, y0)] [] w else vrun n d 53 42 [(2, x0), (0, x1), (0, x2), (0, y0)] [] w) else none else none) (fun _ => rfl)).trans (EX_if.trans (and_congr Iff.rfl (EX_if.trans (and_congr Iff.rfl (EX_br.trans (and_congr (imp_congr Iff.rfl Iff.rfl) (imp_congr Iff.rfl Iff.rfl)))))))
set_option maxRecDepth 100000 in
theorem b53_28 {d : Nat} {w : vW} {x0 x1 x2 x3 : Int} {Q : Int → vW → Prop} : VW d 53 28 [(2, x0), (0, x1), (0, x2), (0, x3)] [] w Q ↔ (vkd w x0 = 21) ∧ VW d 53 36 [(2, x0), (0, x1), (0, x2), (0, x3)] [(2, vnt w), (0, x3), (2, vct w x0 14)] (vnw w 13 10 (vdfl 13) 10) Q :=
  (VW_b 4 (F := fun n => if vkd w x0 = 21 then vrun n d 53 36 [(2, x0), (0, x1), (0, x2), (0, x3)] [(2, vnt w), (0, x3), (2, vct w x0 14)] (vnw w 13 10 (vdfl 13) 10) else none) (fun _ => rfl)).trans (EX_if.trans (and_congr Iff.rfl (Iff.rfl)))
set_option maxRecDepth 100000 in
theorem b53_36 {d : Nat} {w : vW} {x0 x1 x2 x3 y0 y1 y2 : Int} {Q : Int → vW → Prop} : VW d 53 36 [(2, x0), (0, x1), (0, x2), (0, x3)] [(2, y2), (0, y1), (2, y0)] w Q ↔ (vkd w y2 = 13) ∧ VC d 177 [(2, y2), (0, x3)] w (fun _ w1 => VW d 53 41 [(2, x0), (0, x1), (0, x2), (0, x3)] [(2, y2), (0, y1), (2, y0)] w1 Q) :=
  (VW_b 3 (F := fun n => if vkd w y2 = 13 then vclr (vrun n) d 53 41 177 2 9 [(2, x0), (0, x1), (0, x2), (0, x3)] [(0, x3), (2, y2), (2, y2), (0, y1), (2, y0)] w else none) (fun _ => rfl)).trans (EX_if.trans (and_congr Iff.rfl (EX_call rfl)))
set_option maxRecDepth 100000 in
theorem b53_41 {d : Nat} {w : vW} {x0 x1 x2 x3 y0 y1 y2 : Int} {Q : Int → vW → Prop} : VW d 53 41 [(2, x0), (0, x1), (0, x2), (0, x3)] [(2, y2), (0, y1), (2, y0)] w Q ↔ (vkd w y0 = 5 ∧ (0 : Int) ≤ y1 ∧ y1 < vln w y0 ∧ vkd w y2 = 13) ∧ VW d 53 42 [(2, x0), (0, x1), (0, x2), (0, x3)] [] (vsv w y0 y1 y2) Q :=
  (VW_b 1 (F := fun n => if vkd w y0 = 5 ∧ (0 : Int) ≤ y1 ∧ y1 < vln w y0 ∧ vkd w y2 = 13 then vrun n d 53 42 [(2, x0), (0, x1), (0, x2), (0, x3)] [] (vsv w y0 y1 y2) else none) (fun _ => rfl)).trans (EX_if.trans (and_congr Iff.rfl (Iff.rfl)))
set_option maxRecDepth 100000 in
theorem b53_42 {d : Nat} {w : vW} {x0 x1 x2 x3 : Int} {Q : Int → vW → Prop} : VW d 53 42 [(2, x0), (0, x1), (0, x2), (0, x3)] [] w Q ↔ (vkd w x0 = 21) ∧ (vkd w (vct w x0 14) = 5 ∧ (0 : Int) ≤ x3 ∧ x3 < vln w (vct w x0 14)) ∧ (vkd w x0 = 21) ∧ (vkd w x0 = 21) ∧ (vkd w (vct w x0 3) = 12) ∧ (vkd w (vct w (vct w x0 14) x3) = 13) ∧ VC d 179 [(2, vct w (vct w x0 14) x3), (2, vct w x0 0), (0, vct w (vct w x0 3) 4), (0, x2)] w (fun _ w1 => VW d 53 63 [(2, x0), (0, x1), (0, x2), (0, x3)] [] w1 Q) :=
  (VW_b 11 (F := fun n => if vkd w x0 = 21 then if vkd w (vct w x0 14) = 5 ∧ (0 : Int) ≤ x3 ∧ x3 < vln w (vct w x0 14) then if vkd w x0 = 21 then if vkd w x0 = 21 then if vkd w (vct w x0 3) = 12 then if vkd w (vct w (vct w x0 14) x3) = 13 then vclr (vrun n) d 53 63 179 4 9 [(2, x0), (0, x1), (0, x2), (0, x3)] [(0, x2), (0, vct w (vct w x0 3) 4), (2, vct w x0 0), (2, vct w (vct w x0 14) x3)] w else none else none else none else none else none else none) (fun _ => rfl)).trans (EX_if.trans (and_congr Iff.rfl (EX_if.trans (and_congr Iff.rfl (EX_if.trans (and_congr Iff.rfl (EX_if.trans (and_congr Iff.rfl (EX_if.trans (and_congr Iff.rfl (EX_if.trans (and_congr Iff.rfl (EX_call rfl)))))))))))))
set_option maxRecDepth 100000 in
theorem b53_63 {d : Nat} {w : vW} {x0 x1 x2 x3 : Int} {Q : Int → vW → Prop} : VW d 53 63 [(2, x0), (0, x1), (0, x2), (0, x3)] [] w Q ↔ (vkd w x0 = 21) ∧ (vkd w (vct w x0 14) = 5 ∧ (0 : Int) ≤ x3 ∧ x3 < vln w (vct w x0 14)) ∧ Q (vct w (vct w x0 14) x3) w :=
  (VW_b 5 (F := fun n => if vkd w x0 = 21 then if vkd w (vct w x0 14) = 5 ∧ (0 : Int) ≤ x3 ∧ x3 < vln w (vct w x0 14) then some (0, vct w (vct w x0 14) x3, w) else none else none) (fun _ => rfl)).trans (EX_if.trans (and_congr Iff.rfl (EX_if.trans (and_congr Iff.rfl (EX_ret0)))))
/-! 54: StrikeWhatCancelsModel.thrown()I -/
set_option maxRecDepth 100000 in
theorem b54_0 {d : Nat} {w : vW} {x0 : Int} {Q : Int → vW → Prop} : VW d 54 0 [(2, x0)] [] w Q ↔ (vkd w x0 = 22) ∧ Q (vct w x0 0) w :=
  (VW_b 3 (F := fun n => if vkd w x0 = 22 then some (0, vct w x0 0, w) else none) (fun _ => rfl)).trans (EX_if.trans (and_congr Iff.rfl (EX_ret0)))
/-! 55: StrikeWhatCancelsModel.refuse()J -/
set_option maxRecDepth 100000 in
theorem b55_0 {d : Nat} {w : vW} {x0 : Int} {Q : Int → vW → Prop} : VW d 55 0 [(2, x0)] [] w Q ↔ (vkd w x0 = 22) ∧ VW d 55 5 [(2, x0)] [] (vsv w x0 0 1) Q :=
  (VW_b 3 (F := fun n => if vkd w x0 = 22 then vrun n d 55 5 [(2, x0)] [] (vsv w x0 0 1) else none) (fun _ => rfl)).trans (EX_if.trans (and_congr Iff.rfl (Iff.rfl)))
set_option maxRecDepth 100000 in
theorem b55_5 {d : Nat} {w : vW} {x0 : Int} {Q : Int → vW → Prop} : VW d 55 5 [(2, x0)] [] w Q ↔ Q 0 w :=
  (VW_b 2 (F := fun n => some (0, 0, w)) (fun _ => rfl)).trans (EX_ret0)
/-! 56: StrikeWhatCancelsModel.in(JJJ)Z -/
set_option maxRecDepth 100000 in
theorem b56_0 {d : Nat} {w : vW} {x0 x2 x4 : Int} {Q : Int → vW → Prop} : VW d 56 0 [(1, x0), (9, 0), (1, x2), (9, 0), (1, x4), (9, 0)] [] w Q ↔ (((vlc x0 x2) < 0 → VW d 56 17 [(1, x0), (9, 0), (1, x2), (9, 0), (1, x4), (9, 0)] [] w Q) ∧ (¬ ((vlc x0 x2) < 0) → VW d 56 6 [(1, x0), (9, 0), (1, x2), (9, 0), (1, x4), (9, 0)] [] w Q)) :=
  (VW_b 4 (F := fun n => (if (vlc x0 x2) < 0 then vrun n d 56 17 [(1, x0), (9, 0), (1, x2), (9, 0), (1, x4), (9, 0)] [] w else vrun n d 56 6 [(1, x0), (9, 0), (1, x2), (9, 0), (1, x4), (9, 0)] [] w)) (fun _ => rfl)).trans (EX_br.trans (and_congr (imp_congr Iff.rfl Iff.rfl) (imp_congr Iff.rfl Iff.rfl)))
set_option maxRecDepth 100000 in
theorem b56_6 {d : Nat} {w : vW} {x0 x2 x4 : Int} {Q : Int → vW → Prop} : VW d 56 6 [(1, x0), (9, 0), (1, x2), (9, 0), (1, x4), (9, 0)] [] w Q ↔ ((0 < (vlc x0 x4) → VW d 56 17 [(1, x0), (9, 0), (1, x2), (9, 0), (1, x4), (9, 0)] [] w Q) ∧ (¬ (0 < (vlc x0 x4)) → VW d 56 13 [(1, x0), (9, 0), (1, x2), (9, 0), (1, x4), (9, 0)] [] w Q)) :=
  (VW_b 4 (F := fun n => (if 0 < (vlc x0 x4) then vrun n d 56 17 [(1, x0), (9, 0), (1, x2), (9, 0), (1, x4), (9, 0)] [] w else vrun n d 56 13 [(1, x0), (9, 0), (1, x2), (9, 0), (1, x4), (9, 0)] [] w)) (fun _ => rfl)).trans (EX_br.trans (and_congr (imp_congr Iff.rfl Iff.rfl) (imp_congr Iff.rfl Iff.rfl)))
set_option maxRecDepth 100000 in
theorem b56_13 {d : Nat} {w : vW} {x0 x2 x4 : Int} {Q : Int → vW → Prop} : VW d 56 13 [(1, x0), (9, 0), (1, x2), (9, 0), (1, x4), (9, 0)] [] w Q ↔ VW d 56 18 [(1, x0), (9, 0), (1, x2), (9, 0), (1, x4), (9, 0)] [(0, 1)] w Q :=
  (VW_b 2 (F := fun n => vrun n d 56 18 [(1, x0), (9, 0), (1, x2), (9, 0), (1, x4), (9, 0)] [(0, 1)] w) (fun _ => rfl)).trans (Iff.rfl)
set_option maxRecDepth 100000 in
theorem b56_17 {d : Nat} {w : vW} {x0 x2 x4 : Int} {Q : Int → vW → Prop} : VW d 56 17 [(1, x0), (9, 0), (1, x2), (9, 0), (1, x4), (9, 0)] [] w Q ↔ VW d 56 18 [(1, x0), (9, 0), (1, x2), (9, 0), (1, x4), (9, 0)] [(0, 0)] w Q :=
  (VW_b 1 (F := fun n => vrun n d 56 18 [(1, x0), (9, 0), (1, x2), (9, 0), (1, x4), (9, 0)] [(0, 0)] w) (fun _ => rfl)).trans (Iff.rfl)
set_option maxRecDepth 100000 in
theorem b56_18 {d : Nat} {w : vW} {x0 x2 x4 y0 : Int} {Q : Int → vW → Prop} : VW d 56 18 [(1, x0), (9, 0), (1, x2), (9, 0), (1, x4), (9, 0)] [(0, y0)] w Q ↔ ((0 : Int) ≤ y0 ∧ y0 ≤ 1) ∧ Q y0 w :=
  (VW_b 1 (F := fun n => if (0 : Int) ≤ y0 ∧ y0 ≤ 1 then some (0, y0, w) else none) (fun _ => rfl)).trans (EX_if.trans (and_congr Iff.rfl (EX_ret0)))
/-! 57: StrikeWhatCancelsModel.flag(Z)I -/
set_option maxRecDepth 100000 in
theorem b57_0 {d : Nat} {w : vW} {x0 : Int} {Q : Int → vW → Prop} : VW d 57 0 [(0, x0)] [] w Q ↔ ((x0 = 0 → VW d 57 8 [(0, x0)] [] w Q) ∧ (¬ (x0 = 0) → VW d 57 4 [(0, x0)] [] w Q)) :=
  (VW_b 2 (F := fun n => (if x0 = 0 then vrun n d 57 8 [(0, x0)] [] w else vrun n d 57 4 [(0, x0)] [] w)) (fun _ => rfl)).trans (EX_br.trans (and_congr (imp_congr Iff.rfl Iff.rfl) (imp_congr Iff.rfl Iff.rfl)))
set_option maxRecDepth 100000 in
theorem b57_4 {d : Nat} {w : vW} {x0 : Int} {Q : Int → vW → Prop} : VW d 57 4 [(0, x0)] [] w Q ↔ VW d 57 9 [(0, x0)] [(0, 1)] w Q :=
  (VW_b 2 (F := fun n => vrun n d 57 9 [(0, x0)] [(0, 1)] w) (fun _ => rfl)).trans (Iff.rfl)
set_option maxRecDepth 100000 in
theorem b57_8 {d : Nat} {w : vW} {x0 : Int} {Q : Int → vW → Prop} : VW d 57 8 [(0, x0)] [] w Q ↔ VW d 57 9 [(0, x0)] [(0, 0)] w Q :=
  (VW_b 1 (F := fun n => vrun n d 57 9 [(0, x0)] [(0, 0)] w) (fun _ => rfl)).trans (Iff.rfl)
set_option maxRecDepth 100000 in
theorem b57_9 {d : Nat} {w : vW} {x0 y0 : Int} {Q : Int → vW → Prop} : VW d 57 9 [(0, x0)] [(0, y0)] w Q ↔ Q y0 w :=
  (VW_b 1 (F := fun n => some (0, y0, w)) (fun _ => rfl)).trans (EX_ret0)
/-! 58: StrikeWhatCancelsModel.enters(J)V -/
set_option maxRecDepth 100000 in
theorem b58_0 {d : Nat} {w : vW} {x0 x1 : Int} {Q : Int → vW → Prop} : VW d 58 0 [(2, x0), (1, x1), (9, 0)] [] w Q ↔ (vkd w x0 = 22) ∧ (vkd w x0 = 22) ∧ (vkd w (vct w x0 2) = 2 ∧ (0 : Int) ≤ (vct w x0 1) ∧ (vct w x0 1) < vln w (vct w x0 2)) ∧ VW d 58 10 [(2, x0), (1, x1), (9, 0)] [] (vsv w (vct w x0 2) (vct w x0 1) x1) Q :=
  (VW_b 6 (F := fun n => if vkd w x0 = 22 then if vkd w x0 = 22 then if vkd w (vct w x0 2) = 2 ∧ (0 : Int) ≤ (vct w x0 1) ∧ (vct w x0 1) < vln w (vct w x0 2) then vrun n d 58 10 [(2, x0), (1, x1), (9, 0)] [] (vsv w (vct w x0 2) (vct w x0 1) x1) else none else none else none) (fun _ => rfl)).trans (EX_if.trans (and_congr Iff.rfl (EX_if.trans (and_congr Iff.rfl (EX_if.trans (and_congr Iff.rfl (Iff.rfl)))))))
set_option maxRecDepth 100000 in
theorem b58_10 {d : Nat} {w : vW} {x0 x1 : Int} {Q : Int → vW → Prop} : VW d 58 10 [(2, x0), (1, x1), (9, 0)] [] w Q ↔ (vkd w x0 = 22) ∧ (vkd w x0 = 22) ∧ VW d 58 20 [(2, x0), (1, x1), (9, 0)] [] (vsv w x0 1 (w32 ((vct w x0 1) + 1))) Q :=
  (VW_b 6 (F := fun n => if vkd w x0 = 22 then if vkd w x0 = 22 then vrun n d 58 20 [(2, x0), (1, x1), (9, 0)] [] (vsv w x0 1 (w32 ((vct w x0 1) + 1))) else none else none) (fun _ => rfl)).trans (EX_if.trans (and_congr Iff.rfl (EX_if.trans (and_congr Iff.rfl (Iff.rfl)))))
set_option maxRecDepth 100000 in
theorem b58_20 {d : Nat} {w : vW} {x0 x1 : Int} {Q : Int → vW → Prop} : VW d 58 20 [(2, x0), (1, x1), (9, 0)] [] w Q ↔ Q 0 w :=
  (VW_b 1 (F := fun n => some (0, 0, w)) (fun _ => rfl)).trans (EX_ret0)
/-! 59: StrikeWhatCancelsModel.<init>()V -/
set_option maxRecDepth 100000 in
theorem b59_0 {d : Nat} {w : vW} {x0 : Int} {Q : Int → vW → Prop} : VW d 59 0 [(2, x0), (9, 0)] [] w Q ↔ (vkd w x0 ≠ 0) ∧ VW d 59 9 [(2, x0), (9, 0)] [(2, vnt w), (2, x0)] (vnw w 2 32 (fun _ => 0) (32 : Int).toNat) Q :=
  (VW_b 5 (F := fun n => if vkd w x0 ≠ 0 then vrun n d 59 9 [(2, x0), (9, 0)] [(2, vnt w), (2, x0)] (vnw w 2 32 (fun _ => 0) (32 : Int).toNat) else none) (fun _ => rfl)).trans (EX_if.trans (and_congr Iff.rfl (Iff.rfl)))
set_option maxRecDepth 100000 in
theorem b59_9 {d : Nat} {w : vW} {x0 y0 y1 : Int} {Q : Int → vW → Prop} : VW d 59 9 [(2, x0), (9, 0)] [(2, y1), (2, y0)] w Q ↔ (vkd w y0 = 22) ∧ VW d 59 12 [(2, x0), (9, 0)] [] (vsv w y0 2 y1) Q :=
  (VW_b 1 (F := fun n => if vkd w y0 = 22 then vrun n d 59 12 [(2, x0), (9, 0)] [] (vsv w y0 2 y1) else none) (fun _ => rfl)).trans (EX_if.trans (and_congr Iff.rfl (Iff.rfl)))
set_option maxRecDepth 100000 in
theorem b59_12 {d : Nat} {w : vW} {x0 : Int} {Q : Int → vW → Prop} : VW d 59 12 [(2, x0), (9, 0)] [] w Q ↔ VW d 59 17 [(2, x0), (9, 0)] [(2, vnt w), (2, x0)] (vnw w 2 20 (fun _ => 0) (20 : Int).toNat) Q :=
  (VW_b 3 (F := fun n => vrun n d 59 17 [(2, x0), (9, 0)] [(2, vnt w), (2, x0)] (vnw w 2 20 (fun _ => 0) (20 : Int).toNat)) (fun _ => rfl)).trans (Iff.rfl)
set_option maxRecDepth 100000 in
theorem b59_17 {d : Nat} {w : vW} {x0 y0 y1 : Int} {Q : Int → vW → Prop} : VW d 59 17 [(2, x0), (9, 0)] [(2, y1), (2, y0)] w Q ↔ (vkd w y0 = 22) ∧ VW d 59 20 [(2, x0), (9, 0)] [] (vsv w y0 3 y1) Q :=
  (VW_b 1 (F := fun n => if vkd w y0 = 22 then vrun n d 59 20 [(2, x0), (9, 0)] [] (vsv w y0 3 y1) else none) (fun _ => rfl)).trans (EX_if.trans (and_congr Iff.rfl (Iff.rfl)))
set_option maxRecDepth 100000 in
theorem b59_20 {d : Nat} {w : vW} {x0 : Int} {Q : Int → vW → Prop} : VW d 59 20 [(2, x0), (9, 0)] [] w Q ↔ VW d 59 25 [(2, x0), (9, 0)] [(2, vnt w), (2, x0)] (vnw w 2 36 (fun _ => 0) (36 : Int).toNat) Q :=
  (VW_b 3 (F := fun n => vrun n d 59 25 [(2, x0), (9, 0)] [(2, vnt w), (2, x0)] (vnw w 2 36 (fun _ => 0) (36 : Int).toNat)) (fun _ => rfl)).trans (Iff.rfl)
set_option maxRecDepth 100000 in
theorem b59_25 {d : Nat} {w : vW} {x0 y0 y1 : Int} {Q : Int → vW → Prop} : VW d 59 25 [(2, x0), (9, 0)] [(2, y1), (2, y0)] w Q ↔ (vkd w y0 = 22) ∧ VW d 59 28 [(2, x0), (9, 0)] [] (vsv w y0 6 y1) Q :=
  (VW_b 1 (F := fun n => if vkd w y0 = 22 then vrun n d 59 28 [(2, x0), (9, 0)] [] (vsv w y0 6 y1) else none) (fun _ => rfl)).trans (EX_if.trans (and_congr Iff.rfl (Iff.rfl)))
set_option maxRecDepth 100000 in
theorem b59_28 {d : Nat} {w : vW} {x0 : Int} {Q : Int → vW → Prop} : VW d 59 28 [(2, x0), (9, 0)] [] w Q ↔ VW d 59 33 [(2, x0), (9, 0)] [(2, vnt w), (2, x0)] (vnw w 2 36 (fun _ => 0) (36 : Int).toNat) Q :=
  (VW_b 3 (F := fun n => vrun n d 59 33 [(2, x0), (9, 0)] [(2, vnt w), (2, x0)] (vnw w 2 36 (fun _ => 0) (36 : Int).toNat)) (fun _ => rfl)).trans (Iff.rfl)
set_option maxRecDepth 100000 in
theorem b59_33 {d : Nat} {w : vW} {x0 y0 y1 : Int} {Q : Int → vW → Prop} : VW d 59 33 [(2, x0), (9, 0)] [(2, y1), (2, y0)] w Q ↔ (vkd w y0 = 22) ∧ VW d 59 36 [(2, x0), (9, 0)] [] (vsv w y0 7 y1) Q :=
  (VW_b 1 (F := fun n => if vkd w y0 = 22 then vrun n d 59 36 [(2, x0), (9, 0)] [] (vsv w y0 7 y1) else none) (fun _ => rfl)).trans (EX_if.trans (and_congr Iff.rfl (Iff.rfl)))
set_option maxRecDepth 100000 in
theorem b59_36 {d : Nat} {w : vW} {x0 : Int} {Q : Int → vW → Prop} : VW d 59 36 [(2, x0), (9, 0)] [] w Q ↔ VW d 59 41 [(2, x0), (9, 0)] [(2, vnt w), (2, x0)] (vnw w 1 36 (fun _ => 0) (36 : Int).toNat) Q :=
  (VW_b 3 (F := fun n => vrun n d 59 41 [(2, x0), (9, 0)] [(2, vnt w), (2, x0)] (vnw w 1 36 (fun _ => 0) (36 : Int).toNat)) (fun _ => rfl)).trans (Iff.rfl)
set_option maxRecDepth 100000 in
theorem b59_41 {d : Nat} {w : vW} {x0 y0 y1 : Int} {Q : Int → vW → Prop} : VW d 59 41 [(2, x0), (9, 0)] [(2, y1), (2, y0)] w Q ↔ (vkd w y0 = 22) ∧ VW d 59 44 [(2, x0), (9, 0)] [] (vsv w y0 8 y1) Q :=
  (VW_b 1 (F := fun n => if vkd w y0 = 22 then vrun n d 59 44 [(2, x0), (9, 0)] [] (vsv w y0 8 y1) else none) (fun _ => rfl)).trans (EX_if.trans (and_congr Iff.rfl (Iff.rfl)))
set_option maxRecDepth 100000 in
theorem b59_44 {d : Nat} {w : vW} {x0 : Int} {Q : Int → vW → Prop} : VW d 59 44 [(2, x0), (9, 0)] [] w Q ↔ VW d 59 49 [(2, x0), (9, 0)] [(2, vnt w), (2, x0)] (vnw w 1 36 (fun _ => 0) (36 : Int).toNat) Q :=
  (VW_b 3 (F := fun n => vrun n d 59 49 [(2, x0), (9, 0)] [(2, vnt w), (2, x0)] (vnw w 1 36 (fun _ => 0) (36 : Int).toNat)) (fun _ => rfl)).trans (Iff.rfl)
set_option maxRecDepth 100000 in
theorem b59_49 {d : Nat} {w : vW} {x0 y0 y1 : Int} {Q : Int → vW → Prop} : VW d 59 49 [(2, x0), (9, 0)] [(2, y1), (2, y0)] w Q ↔ (vkd w y0 = 22) ∧ VW d 59 52 [(2, x0), (9, 0)] [] (vsv w y0 9 y1) Q :=
  (VW_b 1 (F := fun n => if vkd w y0 = 22 then vrun n d 59 52 [(2, x0), (9, 0)] [] (vsv w y0 9 y1) else none) (fun _ => rfl)).trans (EX_if.trans (and_congr Iff.rfl (Iff.rfl)))
set_option maxRecDepth 100000 in
theorem b59_52 {d : Nat} {w : vW} {x0 : Int} {Q : Int → vW → Prop} : VW d 59 52 [(2, x0), (9, 0)] [] w Q ↔ VW d 59 57 [(2, x0), (9, 0)] [(2, vnt w), (2, x0)] (vnw w 1 8 (fun _ => 0) (8 : Int).toNat) Q :=
  (VW_b 3 (F := fun n => vrun n d 59 57 [(2, x0), (9, 0)] [(2, vnt w), (2, x0)] (vnw w 1 8 (fun _ => 0) (8 : Int).toNat)) (fun _ => rfl)).trans (Iff.rfl)
set_option maxRecDepth 100000 in
theorem b59_57 {d : Nat} {w : vW} {x0 y0 y1 : Int} {Q : Int → vW → Prop} : VW d 59 57 [(2, x0), (9, 0)] [(2, y1), (2, y0)] w Q ↔ (vkd w y0 = 22) ∧ VW d 59 60 [(2, x0), (9, 0)] [] (vsv w y0 10 y1) Q :=
  (VW_b 1 (F := fun n => if vkd w y0 = 22 then vrun n d 59 60 [(2, x0), (9, 0)] [] (vsv w y0 10 y1) else none) (fun _ => rfl)).trans (EX_if.trans (and_congr Iff.rfl (Iff.rfl)))
set_option maxRecDepth 100000 in
theorem b59_60 {d : Nat} {w : vW} {x0 : Int} {Q : Int → vW → Prop} : VW d 59 60 [(2, x0), (9, 0)] [] w Q ↔ VW d 59 65 [(2, x0), (9, 0)] [(2, vnt w), (2, x0)] (vnw w 1 8 (fun _ => 0) (8 : Int).toNat) Q :=
  (VW_b 3 (F := fun n => vrun n d 59 65 [(2, x0), (9, 0)] [(2, vnt w), (2, x0)] (vnw w 1 8 (fun _ => 0) (8 : Int).toNat)) (fun _ => rfl)).trans (Iff.rfl)
set_option maxRecDepth 100000 in
theorem b59_65 {d : Nat} {w : vW} {x0 y0 y1 : Int} {Q : Int → vW → Prop} : VW d 59 65 [(2, x0), (9, 0)] [(2, y1), (2, y0)] w Q ↔ (vkd w y0 = 22) ∧ VW d 59 68 [(2, x0), (9, 0)] [] (vsv w y0 11 y1) Q :=
  (VW_b 1 (F := fun n => if vkd w y0 = 22 then vrun n d 59 68 [(2, x0), (9, 0)] [] (vsv w y0 11 y1) else none) (fun _ => rfl)).trans (EX_if.trans (and_congr Iff.rfl (Iff.rfl)))
set_option maxRecDepth 100000 in
theorem b59_68 {d : Nat} {w : vW} {x0 : Int} {Q : Int → vW → Prop} : VW d 59 68 [(2, x0), (9, 0)] [] w Q ↔ (vkd w x0 = 22) ∧ VW d 59 73 [(2, x0), (9, 0)] [] (vsv w x0 12 3) Q :=
  (VW_b 3 (F := fun n => if vkd w x0 = 22 then vrun n d 59 73 [(2, x0), (9, 0)] [] (vsv w x0 12 3) else none) (fun _ => rfl)).trans (EX_if.trans (and_congr Iff.rfl (Iff.rfl)))
set_option maxRecDepth 100000 in
theorem b59_73 {d : Nat} {w : vW} {x0 : Int} {Q : Int → vW → Prop} : VW d 59 73 [(2, x0), (9, 0)] [] w Q ↔ VW d 59 78 [(2, x0), (9, 0)] [(2, vnt w), (2, x0)] (vnw w 2 64 (fun _ => 0) (64 : Int).toNat) Q :=
  (VW_b 3 (F := fun n => vrun n d 59 78 [(2, x0), (9, 0)] [(2, vnt w), (2, x0)] (vnw w 2 64 (fun _ => 0) (64 : Int).toNat)) (fun _ => rfl)).trans (Iff.rfl)
set_option maxRecDepth 100000 in
theorem b59_78 {d : Nat} {w : vW} {x0 y0 y1 : Int} {Q : Int → vW → Prop} : VW d 59 78 [(2, x0), (9, 0)] [(2, y1), (2, y0)] w Q ↔ (vkd w y0 = 22) ∧ VW d 59 81 [(2, x0), (9, 0)] [] (vsv w y0 16 y1) Q :=
  (VW_b 1 (F := fun n => if vkd w y0 = 22 then vrun n d 59 81 [(2, x0), (9, 0)] [] (vsv w y0 16 y1) else none) (fun _ => rfl)).trans (EX_if.trans (and_congr Iff.rfl (Iff.rfl)))
set_option maxRecDepth 100000 in
theorem b59_81 {d : Nat} {w : vW} {x0 : Int} {Q : Int → vW → Prop} : VW d 59 81 [(2, x0), (9, 0)] [] w Q ↔ (vkd w x0 = 22) ∧ VW d 59 86 [(2, x0), (9, 0)] [] (vsv w x0 17 1) Q :=
  (VW_b 3 (F := fun n => if vkd w x0 = 22 then vrun n d 59 86 [(2, x0), (9, 0)] [] (vsv w x0 17 1) else none) (fun _ => rfl)).trans (EX_if.trans (and_congr Iff.rfl (Iff.rfl)))
set_option maxRecDepth 100000 in
theorem b59_86 {d : Nat} {w : vW} {x0 : Int} {Q : Int → vW → Prop} : VW d 59 86 [(2, x0), (9, 0)] [] w Q ↔ VW d 59 91 [(2, x0), (9, 0)] [(2, vnt w), (2, x0)] (vnw w 1 80 (fun _ => 0) (80 : Int).toNat) Q :=
  (VW_b 3 (F := fun n => vrun n d 59 91 [(2, x0), (9, 0)] [(2, vnt w), (2, x0)] (vnw w 1 80 (fun _ => 0) (80 : Int).toNat)) (fun _ => rfl)).trans (Iff.rfl)
set_option maxRecDepth 100000 in
theorem b59_91 {d : Nat} {w : vW} {x0 y0 y1 : Int} {Q : Int → vW → Prop} : VW d 59 91 [(2, x0), (9, 0)] [(2, y1), (2, y0)] w Q ↔ (vkd w y0 = 22) ∧ VW d 59 94 [(2, x0), (9, 0)] [] (vsv w y0 18 y1) Q :=
  (VW_b 1 (F := fun n => if vkd w y0 = 22 then vrun n d 59 94 [(2, x0), (9, 0)] [] (vsv w y0 18 y1) else none) (fun _ => rfl)).trans (EX_if.trans (and_congr Iff.rfl (Iff.rfl)))
set_option maxRecDepth 100000 in
theorem b59_94 {d : Nat} {w : vW} {x0 : Int} {Q : Int → vW → Prop} : VW d 59 94 [(2, x0), (9, 0)] [] w Q ↔ VW d 59 99 [(2, x0), (9, 0)] [(2, vnt w), (2, x0)] (vnw w 1 12 (fun _ => 0) (12 : Int).toNat) Q :=
  (VW_b 3 (F := fun n => vrun n d 59 99 [(2, x0), (9, 0)] [(2, vnt w), (2, x0)] (vnw w 1 12 (fun _ => 0) (12 : Int).toNat)) (fun _ => rfl)).trans (Iff.rfl)
set_option maxRecDepth 100000 in
theorem b59_99 {d : Nat} {w : vW} {x0 y0 y1 : Int} {Q : Int → vW → Prop} : VW d 59 99 [(2, x0), (9, 0)] [(2, y1), (2, y0)] w Q ↔ (vkd w y0 = 22) ∧ VW d 59 102 [(2, x0), (9, 0)] [] (vsv w y0 25 y1) Q :=
  (VW_b 1 (F := fun n => if vkd w y0 = 22 then vrun n d 59 102 [(2, x0), (9, 0)] [] (vsv w y0 25 y1) else none) (fun _ => rfl)).trans (EX_if.trans (and_congr Iff.rfl (Iff.rfl)))
set_option maxRecDepth 100000 in
theorem b59_102 {d : Nat} {w : vW} {x0 : Int} {Q : Int → vW → Prop} : VW d 59 102 [(2, x0), (9, 0)] [] w Q ↔ VW d 59 108 [(2, x0), (9, 0)] [(2, vnt w), (2, x0)] (vnw w 1 8192 (fun _ => 0) (8192 : Int).toNat) Q :=
  (VW_b 3 (F := fun n => vrun n d 59 108 [(2, x0), (9, 0)] [(2, vnt w), (2, x0)] (vnw w 1 8192 (fun _ => 0) (8192 : Int).toNat)) (fun _ => rfl)).trans (Iff.rfl)
set_option maxRecDepth 100000 in
theorem b59_108 {d : Nat} {w : vW} {x0 y0 y1 : Int} {Q : Int → vW → Prop} : VW d 59 108 [(2, x0), (9, 0)] [(2, y1), (2, y0)] w Q ↔ (vkd w y0 = 22) ∧ VW d 59 111 [(2, x0), (9, 0)] [] (vsv w y0 26 y1) Q :=
  (VW_b 1 (F := fun n => if vkd w y0 = 22 then vrun n d 59 111 [(2, x0), (9, 0)] [] (vsv w y0 26 y1) else none) (fun _ => rfl)).trans (EX_if.trans (and_congr Iff.rfl (Iff.rfl)))
set_option maxRecDepth 100000 in
theorem b59_111 {d : Nat} {w : vW} {x0 : Int} {Q : Int → vW → Prop} : VW d 59 111 [(2, x0), (9, 0)] [] w Q ↔ VW d 59 117 [(2, x0), (9, 0)] [(2, vnt w), (2, x0)] (vnw w 2 3001 (fun _ => 0) (3001 : Int).toNat) Q :=
  (VW_b 3 (F := fun n => vrun n d 59 117 [(2, x0), (9, 0)] [(2, vnt w), (2, x0)] (vnw w 2 3001 (fun _ => 0) (3001 : Int).toNat)) (fun _ => rfl)).trans (Iff.rfl)
set_option maxRecDepth 100000 in
theorem b59_117 {d : Nat} {w : vW} {x0 y0 y1 : Int} {Q : Int → vW → Prop} : VW d 59 117 [(2, x0), (9, 0)] [(2, y1), (2, y0)] w Q ↔ (vkd w y0 = 22) ∧ VW d 59 120 [(2, x0), (9, 0)] [] (vsv w y0 27 y1) Q :=
  (VW_b 1 (F := fun n => if vkd w y0 = 22 then vrun n d 59 120 [(2, x0), (9, 0)] [] (vsv w y0 27 y1) else none) (fun _ => rfl)).trans (EX_if.trans (and_congr Iff.rfl (Iff.rfl)))
set_option maxRecDepth 100000 in
theorem b59_120 {d : Nat} {w : vW} {x0 : Int} {Q : Int → vW → Prop} : VW d 59 120 [(2, x0), (9, 0)] [] w Q ↔ (vkd w x0 = 22) ∧ VW d 59 125 [(2, x0), (9, 0)] [] (vsv w x0 29 (-1)) Q :=
  (VW_b 3 (F := fun n => if vkd w x0 = 22 then vrun n d 59 125 [(2, x0), (9, 0)] [] (vsv w x0 29 (-1)) else none) (fun _ => rfl)).trans (EX_if.trans (and_congr Iff.rfl (Iff.rfl)))
set_option maxRecDepth 100000 in
theorem b59_125 {d : Nat} {w : vW} {x0 : Int} {Q : Int → vW → Prop} : VW d 59 125 [(2, x0), (9, 0)] [] w Q ↔ VW d 59 131 [(2, x0), (9, 0)] [(2, vnt w), (2, x0)] (vnw w 1 3000 (fun _ => 0) (3000 : Int).toNat) Q :=
  (VW_b 3 (F := fun n => vrun n d 59 131 [(2, x0), (9, 0)] [(2, vnt w), (2, x0)] (vnw w 1 3000 (fun _ => 0) (3000 : Int).toNat)) (fun _ => rfl)).trans (Iff.rfl)
set_option maxRecDepth 100000 in
theorem b59_131 {d : Nat} {w : vW} {x0 y0 y1 : Int} {Q : Int → vW → Prop} : VW d 59 131 [(2, x0), (9, 0)] [(2, y1), (2, y0)] w Q ↔ (vkd w y0 = 22) ∧ VW d 59 134 [(2, x0), (9, 0)] [] (vsv w y0 30 y1) Q :=
  (VW_b 1 (F := fun n => if vkd w y0 = 22 then vrun n d 59 134 [(2, x0), (9, 0)] [] (vsv w y0 30 y1) else none) (fun _ => rfl)).trans (EX_if.trans (and_congr Iff.rfl (Iff.rfl)))
set_option maxRecDepth 100000 in
theorem b59_134 {d : Nat} {w : vW} {x0 : Int} {Q : Int → vW → Prop} : VW d 59 134 [(2, x0), (9, 0)] [] w Q ↔ VW d 59 140 [(2, x0), (9, 0)] [(2, vnt w), (2, x0)] (vnw w 1 3000 (fun _ => 0) (3000 : Int).toNat) Q :=
  (VW_b 3 (F := fun n => vrun n d 59 140 [(2, x0), (9, 0)] [(2, vnt w), (2, x0)] (vnw w 1 3000 (fun _ => 0) (3000 : Int).toNat)) (fun _ => rfl)).trans (Iff.rfl)
set_option maxRecDepth 100000 in
theorem b59_140 {d : Nat} {w : vW} {x0 y0 y1 : Int} {Q : Int → vW → Prop} : VW d 59 140 [(2, x0), (9, 0)] [(2, y1), (2, y0)] w Q ↔ (vkd w y0 = 22) ∧ VW d 59 143 [(2, x0), (9, 0)] [] (vsv w y0 31 y1) Q :=
  (VW_b 1 (F := fun n => if vkd w y0 = 22 then vrun n d 59 143 [(2, x0), (9, 0)] [] (vsv w y0 31 y1) else none) (fun _ => rfl)).trans (EX_if.trans (and_congr Iff.rfl (Iff.rfl)))
set_option maxRecDepth 100000 in
theorem b59_143 {d : Nat} {w : vW} {x0 : Int} {Q : Int → vW → Prop} : VW d 59 143 [(2, x0), (9, 0)] [] w Q ↔ VW d 59 149 [(2, x0), (9, 0)] [(2, vnt w), (2, x0)] (vnw w 1 3000 (fun _ => 0) (3000 : Int).toNat) Q :=
  (VW_b 3 (F := fun n => vrun n d 59 149 [(2, x0), (9, 0)] [(2, vnt w), (2, x0)] (vnw w 1 3000 (fun _ => 0) (3000 : Int).toNat)) (fun _ => rfl)).trans (Iff.rfl)
set_option maxRecDepth 100000 in
theorem b59_149 {d : Nat} {w : vW} {x0 y0 y1 : Int} {Q : Int → vW → Prop} : VW d 59 149 [(2, x0), (9, 0)] [(2, y1), (2, y0)] w Q ↔ (vkd w y0 = 22) ∧ VW d 59 152 [(2, x0), (9, 0)] [] (vsv w y0 32 y1) Q :=
  (VW_b 1 (F := fun n => if vkd w y0 = 22 then vrun n d 59 152 [(2, x0), (9, 0)] [] (vsv w y0 32 y1) else none) (fun _ => rfl)).trans (EX_if.trans (and_congr Iff.rfl (Iff.rfl)))
set_option maxRecDepth 100000 in
theorem b59_152 {d : Nat} {w : vW} {x0 : Int} {Q : Int → vW → Prop} : VW d 59 152 [(2, x0), (9, 0)] [] w Q ↔ VW d 59 158 [(2, x0), (9, 0)] [(2, vnt w), (2, x0)] (vnw w 1 3000 (fun _ => 0) (3000 : Int).toNat) Q :=
  (VW_b 3 (F := fun n => vrun n d 59 158 [(2, x0), (9, 0)] [(2, vnt w), (2, x0)] (vnw w 1 3000 (fun _ => 0) (3000 : Int).toNat)) (fun _ => rfl)).trans (Iff.rfl)
set_option maxRecDepth 100000 in
theorem b59_158 {d : Nat} {w : vW} {x0 y0 y1 : Int} {Q : Int → vW → Prop} : VW d 59 158 [(2, x0), (9, 0)] [(2, y1), (2, y0)] w Q ↔ (vkd w y0 = 22) ∧ VW d 59 161 [(2, x0), (9, 0)] [] (vsv w y0 33 y1) Q :=
  (VW_b 1 (F := fun n => if vkd w y0 = 22 then vrun n d 59 161 [(2, x0), (9, 0)] [] (vsv w y0 33 y1) else none) (fun _ => rfl)).trans (EX_if.trans (and_congr Iff.rfl (Iff.rfl)))
set_option maxRecDepth 100000 in
theorem b59_161 {d : Nat} {w : vW} {x0 : Int} {Q : Int → vW → Prop} : VW d 59 161 [(2, x0), (9, 0)] [] w Q ↔ VW d 59 167 [(2, x0), (9, 0)] [(2, vnt w), (2, x0)] (vnw w 2 3000 (fun _ => 0) (3000 : Int).toNat) Q :=
  (VW_b 3 (F := fun n => vrun n d 59 167 [(2, x0), (9, 0)] [(2, vnt w), (2, x0)] (vnw w 2 3000 (fun _ => 0) (3000 : Int).toNat)) (fun _ => rfl)).trans (Iff.rfl)
set_option maxRecDepth 100000 in
theorem b59_167 {d : Nat} {w : vW} {x0 y0 y1 : Int} {Q : Int → vW → Prop} : VW d 59 167 [(2, x0), (9, 0)] [(2, y1), (2, y0)] w Q ↔ (vkd w y0 = 22) ∧ VW d 59 170 [(2, x0), (9, 0)] [] (vsv w y0 34 y1) Q :=
  (VW_b 1 (F := fun n => if vkd w y0 = 22 then vrun n d 59 170 [(2, x0), (9, 0)] [] (vsv w y0 34 y1) else none) (fun _ => rfl)).trans (EX_if.trans (and_congr Iff.rfl (Iff.rfl)))
set_option maxRecDepth 100000 in
theorem b59_170 {d : Nat} {w : vW} {x0 : Int} {Q : Int → vW → Prop} : VW d 59 170 [(2, x0), (9, 0)] [] w Q ↔ VW d 59 174 [(2, x0), (9, 0)] [(2, vnt w), (2, x0)] (vnw w 2 3 (fun _ => 0) (3 : Int).toNat) Q :=
  (VW_b 3 (F := fun n => vrun n d 59 174 [(2, x0), (9, 0)] [(2, vnt w), (2, x0)] (vnw w 2 3 (fun _ => 0) (3 : Int).toNat)) (fun _ => rfl)).trans (Iff.rfl)
set_option maxRecDepth 100000 in
theorem b59_174 {d : Nat} {w : vW} {x0 y0 y1 : Int} {Q : Int → vW → Prop} : VW d 59 174 [(2, x0), (9, 0)] [(2, y1), (2, y0)] w Q ↔ (vkd w y0 = 22) ∧ VW d 59 177 [(2, x0), (9, 0)] [] (vsv w y0 36 y1) Q :=
  (VW_b 1 (F := fun n => if vkd w y0 = 22 then vrun n d 59 177 [(2, x0), (9, 0)] [] (vsv w y0 36 y1) else none) (fun _ => rfl)).trans (EX_if.trans (and_congr Iff.rfl (Iff.rfl)))
set_option maxRecDepth 100000 in
theorem b59_177 {d : Nat} {w : vW} {x0 : Int} {Q : Int → vW → Prop} : VW d 59 177 [(2, x0), (9, 0)] [] w Q ↔ VW d 59 181 [(2, x0), (9, 0)] [(2, vnt w), (2, x0)] (vnw w 1 3 (fun _ => 0) (3 : Int).toNat) Q :=
  (VW_b 3 (F := fun n => vrun n d 59 181 [(2, x0), (9, 0)] [(2, vnt w), (2, x0)] (vnw w 1 3 (fun _ => 0) (3 : Int).toNat)) (fun _ => rfl)).trans (Iff.rfl)
set_option maxRecDepth 100000 in
theorem b59_181 {d : Nat} {w : vW} {x0 y0 y1 : Int} {Q : Int → vW → Prop} : VW d 59 181 [(2, x0), (9, 0)] [(2, y1), (2, y0)] w Q ↔ (vkd w y0 = 22) ∧ VW d 59 184 [(2, x0), (9, 0)] [] (vsv w y0 37 y1) Q :=
  (VW_b 1 (F := fun n => if vkd w y0 = 22 then vrun n d 59 184 [(2, x0), (9, 0)] [] (vsv w y0 37 y1) else none) (fun _ => rfl)).trans (EX_if.trans (and_congr Iff.rfl (Iff.rfl)))
set_option maxRecDepth 100000 in
theorem b59_184 {d : Nat} {w : vW} {x0 : Int} {Q : Int → vW → Prop} : VW d 59 184 [(2, x0), (9, 0)] [] w Q ↔ VW d 59 190 [(2, x0), (9, 0)] [(2, vnt w), (2, x0)] (vnw w 2 3000 (fun _ => 0) (3000 : Int).toNat) Q :=
  (VW_b 3 (F := fun n => vrun n d 59 190 [(2, x0), (9, 0)] [(2, vnt w), (2, x0)] (vnw w 2 3000 (fun _ => 0) (3000 : Int).toNat)) (fun _ => rfl)).trans (Iff.rfl)
set_option maxRecDepth 100000 in
theorem b59_190 {d : Nat} {w : vW} {x0 y0 y1 : Int} {Q : Int → vW → Prop} : VW d 59 190 [(2, x0), (9, 0)] [(2, y1), (2, y0)] w Q ↔ (vkd w y0 = 22) ∧ VW d 59 193 [(2, x0), (9, 0)] [] (vsv w y0 38 y1) Q :=
  (VW_b 1 (F := fun n => if vkd w y0 = 22 then vrun n d 59 193 [(2, x0), (9, 0)] [] (vsv w y0 38 y1) else none) (fun _ => rfl)).trans (EX_if.trans (and_congr Iff.rfl (Iff.rfl)))
set_option maxRecDepth 100000 in
theorem b59_193 {d : Nat} {w : vW} {x0 : Int} {Q : Int → vW → Prop} : VW d 59 193 [(2, x0), (9, 0)] [] w Q ↔ VW d 59 198 [(2, x0), (9, 0)] [(2, vnt w), (2, x0)] (vnw w 1 8 (fun _ => 0) (8 : Int).toNat) Q :=
  (VW_b 3 (F := fun n => vrun n d 59 198 [(2, x0), (9, 0)] [(2, vnt w), (2, x0)] (vnw w 1 8 (fun _ => 0) (8 : Int).toNat)) (fun _ => rfl)).trans (Iff.rfl)
set_option maxRecDepth 100000 in
theorem b59_198 {d : Nat} {w : vW} {x0 y0 y1 : Int} {Q : Int → vW → Prop} : VW d 59 198 [(2, x0), (9, 0)] [(2, y1), (2, y0)] w Q ↔ (vkd w y0 = 22) ∧ VW d 59 201 [(2, x0), (9, 0)] [] (vsv w y0 46 y1) Q :=
  (VW_b 1 (F := fun n => if vkd w y0 = 22 then vrun n d 59 201 [(2, x0), (9, 0)] [] (vsv w y0 46 y1) else none) (fun _ => rfl)).trans (EX_if.trans (and_congr Iff.rfl (Iff.rfl)))
set_option maxRecDepth 100000 in
theorem b59_201 {d : Nat} {w : vW} {x0 : Int} {Q : Int → vW → Prop} : VW d 59 201 [(2, x0), (9, 0)] [] w Q ↔ VW d 59 206 [(2, x0), (9, 0)] [(2, vnt w), (2, x0)] (vnw w 1 96 (fun _ => 0) (96 : Int).toNat) Q :=
  (VW_b 3 (F := fun n => vrun n d 59 206 [(2, x0), (9, 0)] [(2, vnt w), (2, x0)] (vnw w 1 96 (fun _ => 0) (96 : Int).toNat)) (fun _ => rfl)).trans (Iff.rfl)
set_option maxRecDepth 100000 in
theorem b59_206 {d : Nat} {w : vW} {x0 y0 y1 : Int} {Q : Int → vW → Prop} : VW d 59 206 [(2, x0), (9, 0)] [(2, y1), (2, y0)] w Q ↔ (vkd w y0 = 22) ∧ VW d 59 209 [(2, x0), (9, 0)] [] (vsv w y0 47 y1) Q :=
  (VW_b 1 (F := fun n => if vkd w y0 = 22 then vrun n d 59 209 [(2, x0), (9, 0)] [] (vsv w y0 47 y1) else none) (fun _ => rfl)).trans (EX_if.trans (and_congr Iff.rfl (Iff.rfl)))
set_option maxRecDepth 100000 in
theorem b59_209 {d : Nat} {w : vW} {x0 : Int} {Q : Int → vW → Prop} : VW d 59 209 [(2, x0), (9, 0)] [] w Q ↔ VW d 59 215 [(2, x0), (9, 0)] [(2, vnt w), (2, x0)] (vnw w 1 3001 (fun _ => 0) (3001 : Int).toNat) Q :=
  (VW_b 3 (F := fun n => vrun n d 59 215 [(2, x0), (9, 0)] [(2, vnt w), (2, x0)] (vnw w 1 3001 (fun _ => 0) (3001 : Int).toNat)) (fun _ => rfl)).trans (Iff.rfl)
set_option maxRecDepth 100000 in
theorem b59_215 {d : Nat} {w : vW} {x0 y0 y1 : Int} {Q : Int → vW → Prop} : VW d 59 215 [(2, x0), (9, 0)] [(2, y1), (2, y0)] w Q ↔ (vkd w y0 = 22) ∧ VW d 59 218 [(2, x0), (9, 0)] [] (vsv w y0 49 y1) Q :=
  (VW_b 1 (F := fun n => if vkd w y0 = 22 then vrun n d 59 218 [(2, x0), (9, 0)] [] (vsv w y0 49 y1) else none) (fun _ => rfl)).trans (EX_if.trans (and_congr Iff.rfl (Iff.rfl)))
set_option maxRecDepth 100000 in
theorem b59_218 {d : Nat} {w : vW} {x0 : Int} {Q : Int → vW → Prop} : VW d 59 218 [(2, x0), (9, 0)] [] w Q ↔ VW d 59 224 [(2, x0), (9, 0)] [(2, vnt w), (2, x0)] (vnw w 1 3001 (fun _ => 0) (3001 : Int).toNat) Q :=
  (VW_b 3 (F := fun n => vrun n d 59 224 [(2, x0), (9, 0)] [(2, vnt w), (2, x0)] (vnw w 1 3001 (fun _ => 0) (3001 : Int).toNat)) (fun _ => rfl)).trans (Iff.rfl)
set_option maxRecDepth 100000 in
theorem b59_224 {d : Nat} {w : vW} {x0 y0 y1 : Int} {Q : Int → vW → Prop} : VW d 59 224 [(2, x0), (9, 0)] [(2, y1), (2, y0)] w Q ↔ (vkd w y0 = 22) ∧ VW d 59 227 [(2, x0), (9, 0)] [] (vsv w y0 53 y1) Q :=
  (VW_b 1 (F := fun n => if vkd w y0 = 22 then vrun n d 59 227 [(2, x0), (9, 0)] [] (vsv w y0 53 y1) else none) (fun _ => rfl)).trans (EX_if.trans (and_congr Iff.rfl (Iff.rfl)))
set_option maxRecDepth 100000 in
theorem b59_227 {d : Nat} {w : vW} {x0 : Int} {Q : Int → vW → Prop} : VW d 59 227 [(2, x0), (9, 0)] [] w Q ↔ VW d 59 233 [(2, x0), (9, 0)] [(2, vnt w), (2, x0)] (vnw w 2 6561 (fun _ => 0) (6561 : Int).toNat) Q :=
  (VW_b 3 (F := fun n => vrun n d 59 233 [(2, x0), (9, 0)] [(2, vnt w), (2, x0)] (vnw w 2 6561 (fun _ => 0) (6561 : Int).toNat)) (fun _ => rfl)).trans (Iff.rfl)
set_option maxRecDepth 100000 in
theorem b59_233 {d : Nat} {w : vW} {x0 y0 y1 : Int} {Q : Int → vW → Prop} : VW d 59 233 [(2, x0), (9, 0)] [(2, y1), (2, y0)] w Q ↔ (vkd w y0 = 22) ∧ VW d 59 236 [(2, x0), (9, 0)] [] (vsv w y0 56 y1) Q :=
  (VW_b 1 (F := fun n => if vkd w y0 = 22 then vrun n d 59 236 [(2, x0), (9, 0)] [] (vsv w y0 56 y1) else none) (fun _ => rfl)).trans (EX_if.trans (and_congr Iff.rfl (Iff.rfl)))
set_option maxRecDepth 100000 in
theorem b59_236 {d : Nat} {w : vW} {x0 : Int} {Q : Int → vW → Prop} : VW d 59 236 [(2, x0), (9, 0)] [] w Q ↔ VW d 59 242 [(2, x0), (9, 0)] [(2, vnt w), (2, x0)] (vnw w 2 6561 (fun _ => 0) (6561 : Int).toNat) Q :=
  (VW_b 3 (F := fun n => vrun n d 59 242 [(2, x0), (9, 0)] [(2, vnt w), (2, x0)] (vnw w 2 6561 (fun _ => 0) (6561 : Int).toNat)) (fun _ => rfl)).trans (Iff.rfl)
set_option maxRecDepth 100000 in
theorem b59_242 {d : Nat} {w : vW} {x0 y0 y1 : Int} {Q : Int → vW → Prop} : VW d 59 242 [(2, x0), (9, 0)] [(2, y1), (2, y0)] w Q ↔ (vkd w y0 = 22) ∧ VW d 59 245 [(2, x0), (9, 0)] [] (vsv w y0 57 y1) Q :=
  (VW_b 1 (F := fun n => if vkd w y0 = 22 then vrun n d 59 245 [(2, x0), (9, 0)] [] (vsv w y0 57 y1) else none) (fun _ => rfl)).trans (EX_if.trans (and_congr Iff.rfl (Iff.rfl)))
set_option maxRecDepth 100000 in
theorem b59_245 {d : Nat} {w : vW} {x0 : Int} {Q : Int → vW → Prop} : VW d 59 245 [(2, x0), (9, 0)] [] w Q ↔ VW d 59 251 [(2, x0), (9, 0)] [(2, vnt w), (2, x0)] (vnw w 2 4096 (fun _ => 0) (4096 : Int).toNat) Q :=
  (VW_b 3 (F := fun n => vrun n d 59 251 [(2, x0), (9, 0)] [(2, vnt w), (2, x0)] (vnw w 2 4096 (fun _ => 0) (4096 : Int).toNat)) (fun _ => rfl)).trans (Iff.rfl)
set_option maxRecDepth 100000 in
theorem b59_251 {d : Nat} {w : vW} {x0 y0 y1 : Int} {Q : Int → vW → Prop} : VW d 59 251 [(2, x0), (9, 0)] [(2, y1), (2, y0)] w Q ↔ (vkd w y0 = 22) ∧ VW d 59 254 [(2, x0), (9, 0)] [] (vsv w y0 58 y1) Q :=
  (VW_b 1 (F := fun n => if vkd w y0 = 22 then vrun n d 59 254 [(2, x0), (9, 0)] [] (vsv w y0 58 y1) else none) (fun _ => rfl)).trans (EX_if.trans (and_congr Iff.rfl (Iff.rfl)))
set_option maxRecDepth 100000 in
theorem b59_254 {d : Nat} {w : vW} {x0 : Int} {Q : Int → vW → Prop} : VW d 59 254 [(2, x0), (9, 0)] [] w Q ↔ VW d 59 260 [(2, x0), (9, 0)] [(2, vnt w), (2, x0)] (vnw w 2 4096 (fun _ => 0) (4096 : Int).toNat) Q :=
  (VW_b 3 (F := fun n => vrun n d 59 260 [(2, x0), (9, 0)] [(2, vnt w), (2, x0)] (vnw w 2 4096 (fun _ => 0) (4096 : Int).toNat)) (fun _ => rfl)).trans (Iff.rfl)
set_option maxRecDepth 100000 in
theorem b59_260 {d : Nat} {w : vW} {x0 y0 y1 : Int} {Q : Int → vW → Prop} : VW d 59 260 [(2, x0), (9, 0)] [(2, y1), (2, y0)] w Q ↔ (vkd w y0 = 22) ∧ VW d 59 263 [(2, x0), (9, 0)] [] (vsv w y0 59 y1) Q :=
  (VW_b 1 (F := fun n => if vkd w y0 = 22 then vrun n d 59 263 [(2, x0), (9, 0)] [] (vsv w y0 59 y1) else none) (fun _ => rfl)).trans (EX_if.trans (and_congr Iff.rfl (Iff.rfl)))
set_option maxRecDepth 100000 in
theorem b59_263 {d : Nat} {w : vW} {x0 : Int} {Q : Int → vW → Prop} : VW d 59 263 [(2, x0), (9, 0)] [] w Q ↔ VW d 59 267 [(2, x0), (9, 0)] [(2, vnt w), (2, x0)] (vnw w 3 3 (fun _ => 0) (3 : Int).toNat) Q :=
  (VW_b 3 (F := fun n => vrun n d 59 267 [(2, x0), (9, 0)] [(2, vnt w), (2, x0)] (vnw w 3 3 (fun _ => 0) (3 : Int).toNat)) (fun _ => rfl)).trans (Iff.rfl)
set_option maxRecDepth 100000 in
theorem b59_267 {d : Nat} {w : vW} {x0 y0 y1 : Int} {Q : Int → vW → Prop} : VW d 59 267 [(2, x0), (9, 0)] [(2, y1), (2, y0)] w Q ↔ (vkd w y0 = 22) ∧ VW d 59 270 [(2, x0), (9, 0)] [] (vsv w y0 60 y1) Q :=
  (VW_b 1 (F := fun n => if vkd w y0 = 22 then vrun n d 59 270 [(2, x0), (9, 0)] [] (vsv w y0 60 y1) else none) (fun _ => rfl)).trans (EX_if.trans (and_congr Iff.rfl (Iff.rfl)))
set_option maxRecDepth 100000 in
theorem b59_270 {d : Nat} {w : vW} {x0 : Int} {Q : Int → vW → Prop} : VW d 59 270 [(2, x0), (9, 0)] [] w Q ↔ VW d 59 275 [(2, x0), (9, 0)] [(2, vnt w), (2, x0)] (vnw w 2 36 (fun _ => 0) (36 : Int).toNat) Q :=
  (VW_b 3 (F := fun n => vrun n d 59 275 [(2, x0), (9, 0)] [(2, vnt w), (2, x0)] (vnw w 2 36 (fun _ => 0) (36 : Int).toNat)) (fun _ => rfl)).trans (Iff.rfl)
set_option maxRecDepth 100000 in
theorem b59_275 {d : Nat} {w : vW} {x0 y0 y1 : Int} {Q : Int → vW → Prop} : VW d 59 275 [(2, x0), (9, 0)] [(2, y1), (2, y0)] w Q ↔ (vkd w y0 = 22) ∧ VW d 59 278 [(2, x0), (9, 0)] [] (vsv w y0 61 y1) Q :=
  (VW_b 1 (F := fun n => if vkd w y0 = 22 then vrun n d 59 278 [(2, x0), (9, 0)] [] (vsv w y0 61 y1) else none) (fun _ => rfl)).trans (EX_if.trans (and_congr Iff.rfl (Iff.rfl)))
set_option maxRecDepth 100000 in
theorem b59_278 {d : Nat} {w : vW} {x0 : Int} {Q : Int → vW → Prop} : VW d 59 278 [(2, x0), (9, 0)] [] w Q ↔ (vkd w x0 = 22) ∧ (vkd w (vct w x0 3) = 2 ∧ (0 : Int) ≤ 0 ∧ 0 < vln w (vct w x0 3)) ∧ VW d 59 285 [(2, x0), (9, 0)] [] (vsv w (vct w x0 3) 0 1) Q :=
  (VW_b 5 (F := fun n => if vkd w x0 = 22 then if vkd w (vct w x0 3) = 2 ∧ (0 : Int) ≤ 0 ∧ 0 < vln w (vct w x0 3) then vrun n d 59 285 [(2, x0), (9, 0)] [] (vsv w (vct w x0 3) 0 1) else none else none) (fun _ => rfl)).trans (EX_if.trans (and_congr Iff.rfl (EX_if.trans (and_congr Iff.rfl (Iff.rfl)))))
set_option maxRecDepth 100000 in
theorem b59_285 {d : Nat} {w : vW} {x0 : Int} {Q : Int → vW → Prop} : VW d 59 285 [(2, x0), (9, 0)] [] w Q ↔ VW d 59 287 [(2, x0), (0, 1)] [] w Q :=
  (VW_b 2 (F := fun n => vrun n d 59 287 [(2, x0), (0, 1)] [] w) (fun _ => rfl)).trans (Iff.rfl)
set_option maxRecDepth 100000 in
theorem b59_287 {d : Nat} {w : vW} {x0 x1 : Int} {Q : Int → vW → Prop} : VW d 59 287 [(2, x0), (0, x1)] [] w Q ↔ (vkd w x0 = 22) ∧ (vkd w (vct w x0 3) = 2) ∧ ((x1 < (vln w (vct w x0 3)) → VW d 59 296 [(2, x0), (0, x1)] [] w Q) ∧ (¬ (x1 < (vln w (vct w x0 3))) → VW d 59 320 [(2, x0), (0, x1)] [] w Q)) :=
  (VW_b 5 (F := fun n => if vkd w x0 = 22 then if vkd w (vct w x0 3) = 2 then (if x1 < (vln w (vct w x0 3)) then vrun n d 59 296 [(2, x0), (0, x1)] [] w else vrun n d 59 320 [(2, x0), (0, x1)] [] w) else none else none) (fun _ => rfl)).trans (EX_if.trans (and_congr Iff.rfl (EX_if.trans (and_congr Iff.rfl (EX_br.trans (and_congr (imp_congr Iff.rfl Iff.rfl) (imp_congr Iff.rfl Iff.rfl)))))))
set_option maxRecDepth 100000 in
theorem b59_296 {d : Nat} {w : vW} {x0 x1 : Int} {Q : Int → vW → Prop} : VW d 59 296 [(2, x0), (0, x1)] [] w Q ↔ (vkd w x0 = 22) ∧ (vkd w x0 = 22) ∧ (vkd w (vct w x0 3) = 2 ∧ (0 : Int) ≤ (w32 (x1 - 1)) ∧ (w32 (x1 - 1)) < vln w (vct w x0 3)) ∧ (vkd w (vct w x0 3) = 2 ∧ (0 : Int) ≤ x1 ∧ x1 < vln w (vct w x0 3)) ∧ VW d 59 314 [(2, x0), (0, x1)] [] (vsv w (vct w x0 3) x1 (w64 ((vct w (vct w x0 3) (w32 (x1 - 1))) * 9))) Q :=
  (VW_b 12 (F := fun n => if vkd w x0 = 22 then if vkd w x0 = 22 then if vkd w (vct w x0 3) = 2 ∧ (0 : Int) ≤ (w32 (x1 - 1)) ∧ (w32 (x1 - 1)) < vln w (vct w x0 3) then if vkd w (vct w x0 3) = 2 ∧ (0 : Int) ≤ x1 ∧ x1 < vln w (vct w x0 3) then vrun n d 59 314 [(2, x0), (0, x1)] [] (vsv w (vct w x0 3) x1 (w64 ((vct w (vct w x0 3) (w32 (x1 - 1))) * 9))) else none else none else none else none) (fun _ => rfl)).trans (EX_if.trans (and_congr Iff.rfl (EX_if.trans (and_congr Iff.rfl (EX_if.trans (and_congr Iff.rfl (EX_if.trans (and_congr Iff.rfl (Iff.rfl)))))))))
set_option maxRecDepth 100000 in
theorem b59_314 {d : Nat} {w : vW} {x0 x1 : Int} {Q : Int → vW → Prop} : VW d 59 314 [(2, x0), (0, x1)] [] w Q ↔ VW d 59 287 [(2, x0), (0, w32 (x1 + 1))] [] w Q :=
  (VW_b 2 (F := fun n => vrun n d 59 287 [(2, x0), (0, w32 (x1 + 1))] [] w) (fun _ => rfl)).trans (Iff.rfl)
set_option maxRecDepth 100000 in
theorem b59_320 {d : Nat} {w : vW} {x0 x1 : Int} {Q : Int → vW → Prop} : VW d 59 320 [(2, x0), (0, x1)] [] w Q ↔ VW d 59 322 [(2, x0), (0, 0)] [] w Q :=
  (VW_b 2 (F := fun n => vrun n d 59 322 [(2, x0), (0, 0)] [] w) (fun _ => rfl)).trans (Iff.rfl)
set_option maxRecDepth 100000 in
theorem b59_322 {d : Nat} {w : vW} {x0 x1 : Int} {Q : Int → vW → Prop} : VW d 59 322 [(2, x0), (0, x1)] [] w Q ↔ ((x1 < 8 → VW d 59 328 [(2, x0), (0, x1)] [] w Q) ∧ (¬ (x1 < 8) → VW d 59 341 [(2, x0), (0, x1)] [] w Q)) :=
  (VW_b 3 (F := fun n => (if x1 < 8 then vrun n d 59 328 [(2, x0), (0, x1)] [] w else vrun n d 59 341 [(2, x0), (0, x1)] [] w)) (fun _ => rfl)).trans (EX_br.trans (and_congr (imp_congr Iff.rfl Iff.rfl) (imp_congr Iff.rfl Iff.rfl)))
set_option maxRecDepth 100000 in
theorem b59_328 {d : Nat} {w : vW} {x0 x1 : Int} {Q : Int → vW → Prop} : VW d 59 328 [(2, x0), (0, x1)] [] w Q ↔ (vkd w x0 = 22) ∧ (vkd w (vct w x0 10) = 1 ∧ (0 : Int) ≤ x1 ∧ x1 < vln w (vct w x0 10)) ∧ VW d 59 335 [(2, x0), (0, x1)] [] (vsv w (vct w x0 10) x1 1) Q :=
  (VW_b 5 (F := fun n => if vkd w x0 = 22 then if vkd w (vct w x0 10) = 1 ∧ (0 : Int) ≤ x1 ∧ x1 < vln w (vct w x0 10) then vrun n d 59 335 [(2, x0), (0, x1)] [] (vsv w (vct w x0 10) x1 1) else none else none) (fun _ => rfl)).trans (EX_if.trans (and_congr Iff.rfl (EX_if.trans (and_congr Iff.rfl (Iff.rfl)))))
set_option maxRecDepth 100000 in
theorem b59_335 {d : Nat} {w : vW} {x0 x1 : Int} {Q : Int → vW → Prop} : VW d 59 335 [(2, x0), (0, x1)] [] w Q ↔ VW d 59 322 [(2, x0), (0, w32 (x1 + 1))] [] w Q :=
  (VW_b 2 (F := fun n => vrun n d 59 322 [(2, x0), (0, w32 (x1 + 1))] [] w) (fun _ => rfl)).trans (Iff.rfl)
set_option maxRecDepth 100000 in
theorem b59_341 {d : Nat} {w : vW} {x0 x1 : Int} {Q : Int → vW → Prop} : VW d 59 341 [(2, x0), (0, x1)] [] w Q ↔ Q 0 w :=
  (VW_b 1 (F := fun n => some (0, 0, w)) (fun _ => rfl)).trans (EX_ret0)
/-! 60: StrikeWhatCancelsModel.lengthOf(J)I -/
set_option maxRecDepth 100000 in
theorem b60_0 {d : Nat} {w : vW} {x0 x1 : Int} {Q : Int → vW → Prop} : VW d 60 0 [(2, x0), (1, x1), (9, 0), (9, 0)] [] w Q ↔ VW d 60 2 [(2, x0), (1, x1), (9, 0), (0, 0)] [] w Q :=
  (VW_b 2 (F := fun n => vrun n d 60 2 [(2, x0), (1, x1), (9, 0), (0, 0)] [] w) (fun _ => rfl)).trans (Iff.rfl)
set_option maxRecDepth 100000 in
theorem b60_2 {d : Nat} {w : vW} {x0 x1 x3 : Int} {Q : Int → vW → Prop} : VW d 60 2 [(2, x0), (1, x1), (9, 0), (0, x3)] [] w Q ↔ (vkd w x0 = 22) ∧ (vkd w (vct w x0 3) = 2 ∧ (0 : Int) ≤ x3 ∧ x3 < vln w (vct w x0 3)) ∧ (((vlc x1 (vct w (vct w x0 3) x3)) < 0 → VW d 60 19 [(2, x0), (1, x1), (9, 0), (0, x3)] [] w Q) ∧ (¬ ((vlc x1 (vct w (vct w x0 3) x3)) < 0) → VW d 60 13 [(2, x0), (1, x1), (9, 0), (0, x3)] [] w Q)) :=
  (VW_b 7 (F := fun n => if vkd w x0 = 22 then if vkd w (vct w x0 3) = 2 ∧ (0 : Int) ≤ x3 ∧ x3 < vln w (vct w x0 3) then (if (vlc x1 (vct w (vct w x0 3) x3)) < 0 then vrun n d 60 19 [(2, x0), (1, x1), (9, 0), (0, x3)] [] w else vrun n d 60 13 [(2, x0), (1, x1), (9, 0), (0, x3)] [] w) else none else none) (fun _ => rfl)).trans (EX_if.trans (and_congr Iff.rfl (EX_if.trans (and_congr Iff.rfl (EX_br.trans (and_congr (imp_congr Iff.rfl Iff.rfl) (imp_congr Iff.rfl Iff.rfl)))))))
set_option maxRecDepth 100000 in
theorem b60_13 {d : Nat} {w : vW} {x0 x1 x3 : Int} {Q : Int → vW → Prop} : VW d 60 13 [(2, x0), (1, x1), (9, 0), (0, x3)] [] w Q ↔ VW d 60 2 [(2, x0), (1, x1), (9, 0), (0, w32 (x3 + 1))] [] w Q :=
  (VW_b 2 (F := fun n => vrun n d 60 2 [(2, x0), (1, x1), (9, 0), (0, w32 (x3 + 1))] [] w) (fun _ => rfl)).trans (Iff.rfl)
set_option maxRecDepth 100000 in
theorem b60_19 {d : Nat} {w : vW} {x0 x1 x3 : Int} {Q : Int → vW → Prop} : VW d 60 19 [(2, x0), (1, x1), (9, 0), (0, x3)] [] w Q ↔ Q x3 w :=
  (VW_b 2 (F := fun n => some (0, x3, w)) (fun _ => rfl)).trans (EX_ret0)
/-! 61: StrikeWhatCancelsModel.isSaying(J)Z -/
set_option maxRecDepth 100000 in
theorem b61_0 {d : Nat} {w : vW} {x0 x1 : Int} {Q : Int → vW → Prop} : VW d 61 0 [(2, x0), (1, x1), (9, 0), (9, 0), (9, 0), (9, 0)] [] w Q ↔ (((vlc x1 0) < 0 → VW d 61 18 [(2, x0), (1, x1), (9, 0), (9, 0), (9, 0), (9, 0)] [] w Q) ∧ (¬ ((vlc x1 0) < 0) → VW d 61 6 [(2, x0), (1, x1), (9, 0), (9, 0), (9, 0), (9, 0)] [] w Q)) :=
  (VW_b 4 (F := fun n => (if (vlc x1 0) < 0 then vrun n d 61 18 [(2, x0), (1, x1), (9, 0), (9, 0), (9, 0), (9, 0)] [] w else vrun n d 61 6 [(2, x0), (1, x1), (9, 0), (9, 0), (9, 0), (9, 0)] [] w)) (fun _ => rfl)).trans (EX_br.trans (and_congr (imp_congr Iff.rfl Iff.rfl) (imp_congr Iff.rfl Iff.rfl)))
set_option maxRecDepth 100000 in
theorem b61_6 {d : Nat} {w : vW} {x0 x1 : Int} {Q : Int → vW → Prop} : VW d 61 6 [(2, x0), (1, x1), (9, 0), (9, 0), (9, 0), (9, 0)] [] w Q ↔ (vkd w x0 = 22) ∧ (vkd w (vct w x0 3) = 2 ∧ (0 : Int) ≤ 14 ∧ 14 < vln w (vct w x0 3)) ∧ (((vlc x1 (vct w (vct w x0 3) 14)) < 0 → VW d 61 20 [(2, x0), (1, x1), (9, 0), (9, 0), (9, 0), (9, 0)] [] w Q) ∧ (¬ ((vlc x1 (vct w (vct w x0 3) 14)) < 0) → VW d 61 18 [(2, x0), (1, x1), (9, 0), (9, 0), (9, 0), (9, 0)] [] w Q)) :=
  (VW_b 7 (F := fun n => if vkd w x0 = 22 then if vkd w (vct w x0 3) = 2 ∧ (0 : Int) ≤ 14 ∧ 14 < vln w (vct w x0 3) then (if (vlc x1 (vct w (vct w x0 3) 14)) < 0 then vrun n d 61 20 [(2, x0), (1, x1), (9, 0), (9, 0), (9, 0), (9, 0)] [] w else vrun n d 61 18 [(2, x0), (1, x1), (9, 0), (9, 0), (9, 0), (9, 0)] [] w) else none else none) (fun _ => rfl)).trans (EX_if.trans (and_congr Iff.rfl (EX_if.trans (and_congr Iff.rfl (EX_br.trans (and_congr (imp_congr Iff.rfl Iff.rfl) (imp_congr Iff.rfl Iff.rfl)))))))
set_option maxRecDepth 100000 in
theorem b61_18 {d : Nat} {w : vW} {x0 x1 : Int} {Q : Int → vW → Prop} : VW d 61 18 [(2, x0), (1, x1), (9, 0), (9, 0), (9, 0), (9, 0)] [] w Q ↔ Q 0 w :=
  (VW_b 2 (F := fun n => some (0, 0, w)) (fun _ => rfl)).trans (EX_ret0)
set_option maxRecDepth 100000 in
theorem b61_20 {d : Nat} {w : vW} {x0 x1 : Int} {Q : Int → vW → Prop} : VW d 61 20 [(2, x0), (1, x1), (9, 0), (9, 0), (9, 0), (9, 0)] [] w Q ↔ VW d 61 25 [(2, x0), (1, x1), (9, 0), (0, 1), (1, x1), (9, 0)] [] w Q :=
  (VW_b 4 (F := fun n => vrun n d 61 25 [(2, x0), (1, x1), (9, 0), (0, 1), (1, x1), (9, 0)] [] w) (fun _ => rfl)).trans (Iff.rfl)
set_option maxRecDepth 100000 in
theorem b61_25 {d : Nat} {w : vW} {x0 x1 x3 x4 : Int} {Q : Int → vW → Prop} : VW d 61 25 [(2, x0), (1, x1), (9, 0), (0, x3), (1, x4), (9, 0)] [] w Q ↔ ((0 < (vlc x4 0) → VW d 61 32 [(2, x0), (1, x1), (9, 0), (0, x3), (1, x4), (9, 0)] [] w Q) ∧ (¬ (0 < (vlc x4 0)) → VW d 61 64 [(2, x0), (1, x1), (9, 0), (0, x3), (1, x4), (9, 0)] [] w Q)) :=
  (VW_b 4 (F := fun n => (if 0 < (vlc x4 0) then vrun n d 61 32 [(2, x0), (1, x1), (9, 0), (0, x3), (1, x4), (9, 0)] [] w else vrun n d 61 64 [(2, x0), (1, x1), (9, 0), (0, x3), (1, x4), (9, 0)] [] w)) (fun _ => rfl)).trans (EX_br.trans (and_congr (imp_congr Iff.rfl Iff.rfl) (imp_congr Iff.rfl Iff.rfl)))
set_option maxRecDepth 100000 in
theorem b61_32 {d : Nat} {w : vW} {x0 x1 x3 x4 : Int} {Q : Int → vW → Prop} : VW d 61 32 [(2, x0), (1, x1), (9, 0), (0, x3), (1, x4), (9, 0)] [] w Q ↔ ((x3 = 0 → VW d 61 51 [(2, x0), (1, x1), (9, 0), (0, x3), (1, x4), (9, 0)] [] w Q) ∧ (¬ (x3 = 0) → VW d 61 36 [(2, x0), (1, x1), (9, 0), (0, x3), (1, x4), (9, 0)] [] w Q)) :=
  (VW_b 2 (F := fun n => (if x3 = 0 then vrun n d 61 51 [(2, x0), (1, x1), (9, 0), (0, x3), (1, x4), (9, 0)] [] w else vrun n d 61 36 [(2, x0), (1, x1), (9, 0), (0, x3), (1, x4), (9, 0)] [] w)) (fun _ => rfl)).trans (EX_br.trans (and_congr (imp_congr Iff.rfl Iff.rfl) (imp_congr Iff.rfl Iff.rfl)))
set_option maxRecDepth 100000 in
theorem b61_36 {d : Nat} {w : vW} {x0 x1 x3 x4 : Int} {Q : Int → vW → Prop} : VW d 61 36 [(2, x0), (1, x1), (9, 0), (0, x3), (1, x4), (9, 0)] [] w Q ↔ ((0 < (vlc (Int.tmod x4 9) 0) → VW d 61 47 [(2, x0), (1, x1), (9, 0), (0, x3), (1, x4), (9, 0)] [] w Q) ∧ (¬ (0 < (vlc (Int.tmod x4 9) 0)) → VW d 61 51 [(2, x0), (1, x1), (9, 0), (0, x3), (1, x4), (9, 0)] [] w Q)) :=
  (VW_b 6 (F := fun n => (if 0 < (vlc (Int.tmod x4 9) 0) then vrun n d 61 47 [(2, x0), (1, x1), (9, 0), (0, x3), (1, x4), (9, 0)] [] w else vrun n d 61 51 [(2, x0), (1, x1), (9, 0), (0, x3), (1, x4), (9, 0)] [] w)) (fun _ => rfl)).trans (EX_br.trans (and_congr (imp_congr Iff.rfl Iff.rfl) (imp_congr Iff.rfl Iff.rfl)))
set_option maxRecDepth 100000 in
theorem b61_47 {d : Nat} {w : vW} {x0 x1 x3 x4 : Int} {Q : Int → vW → Prop} : VW d 61 47 [(2, x0), (1, x1), (9, 0), (0, x3), (1, x4), (9, 0)] [] w Q ↔ VW d 61 52 [(2, x0), (1, x1), (9, 0), (0, x3), (1, x4), (9, 0)] [(0, 1)] w Q :=
  (VW_b 2 (F := fun n => vrun n d 61 52 [(2, x0), (1, x1), (9, 0), (0, x3), (1, x4), (9, 0)] [(0, 1)] w) (fun _ => rfl)).trans (Iff.rfl)
set_option maxRecDepth 100000 in
theorem b61_51 {d : Nat} {w : vW} {x0 x1 x3 x4 : Int} {Q : Int → vW → Prop} : VW d 61 51 [(2, x0), (1, x1), (9, 0), (0, x3), (1, x4), (9, 0)] [] w Q ↔ VW d 61 52 [(2, x0), (1, x1), (9, 0), (0, x3), (1, x4), (9, 0)] [(0, 0)] w Q :=
  (VW_b 1 (F := fun n => vrun n d 61 52 [(2, x0), (1, x1), (9, 0), (0, x3), (1, x4), (9, 0)] [(0, 0)] w) (fun _ => rfl)).trans (Iff.rfl)
set_option maxRecDepth 100000 in
theorem b61_52 {d : Nat} {w : vW} {x0 x1 x3 x4 y0 : Int} {Q : Int → vW → Prop} : VW d 61 52 [(2, x0), (1, x1), (9, 0), (0, x3), (1, x4), (9, 0)] [(0, y0)] w Q ↔ VW d 61 25 [(2, x0), (1, x1), (9, 0), (0, y0), (1, w64 (Int.tdiv x4 9)), (9, 0)] [] w Q :=
  (VW_b 6 (F := fun n => vrun n d 61 25 [(2, x0), (1, x1), (9, 0), (0, y0), (1, w64 (Int.tdiv x4 9)), (9, 0)] [] w) (fun _ => rfl)).trans (Iff.rfl)
set_option maxRecDepth 100000 in
theorem b61_64 {d : Nat} {w : vW} {x0 x1 x3 x4 : Int} {Q : Int → vW → Prop} : VW d 61 64 [(2, x0), (1, x1), (9, 0), (0, x3), (1, x4), (9, 0)] [] w Q ↔ ((0 : Int) ≤ x3 ∧ x3 ≤ 1) ∧ Q x3 w :=
  (VW_b 2 (F := fun n => if (0 : Int) ≤ x3 ∧ x3 ≤ 1 then some (0, x3, w) else none) (fun _ => rfl)).trans (EX_if.trans (and_congr Iff.rfl (EX_ret0)))
/-! 62: StrikeWhatCancelsModel.sign(I)I -/
set_option maxRecDepth 100000 in
theorem b62_0 {d : Nat} {w : vW} {x0 x1 : Int} {Q : Int → vW → Prop} : VW d 62 0 [(2, x0), (0, x1), (9, 0)] [] w Q ↔ (vkd w x0 = 22) ∧ VW d 62 5 [(2, x0), (0, x1), (9, 0)] [] (vsv w x0 0 0) Q :=
  (VW_b 3 (F := fun n => if vkd w x0 = 22 then vrun n d 62 5 [(2, x0), (0, x1), (9, 0)] [] (vsv w x0 0 0) else none) (fun _ => rfl)).trans (EX_if.trans (and_congr Iff.rfl (Iff.rfl)))
set_option maxRecDepth 100000 in
theorem b62_5 {d : Nat} {w : vW} {x0 x1 : Int} {Q : Int → vW → Prop} : VW d 62 5 [(2, x0), (0, x1), (9, 0)] [] w Q ↔ (vkd w x0 = 22) ∧ ((76 < (vct w x0 19) → VW d 62 14 [(2, x0), (0, x1), (9, 0)] [] w Q) ∧ (¬ (76 < (vct w x0 19)) → VW d 62 16 [(2, x0), (0, x1), (9, 0)] [] w Q)) :=
  (VW_b 4 (F := fun n => if vkd w x0 = 22 then (if 76 < (vct w x0 19) then vrun n d 62 14 [(2, x0), (0, x1), (9, 0)] [] w else vrun n d 62 16 [(2, x0), (0, x1), (9, 0)] [] w) else none) (fun _ => rfl)).trans (EX_if.trans (and_congr Iff.rfl (EX_br.trans (and_congr (imp_congr Iff.rfl Iff.rfl) (imp_congr Iff.rfl Iff.rfl)))))
set_option maxRecDepth 100000 in
theorem b62_14 {d : Nat} {w : vW} {x0 x1 : Int} {Q : Int → vW → Prop} : VW d 62 14 [(2, x0), (0, x1), (9, 0)] [] w Q ↔ Q (-1) w :=
  (VW_b 2 (F := fun n => some (0, (-1), w)) (fun _ => rfl)).trans (EX_ret0)
set_option maxRecDepth 100000 in
theorem b62_16 {d : Nat} {w : vW} {x0 x1 : Int} {Q : Int → vW → Prop} : VW d 62 16 [(2, x0), (0, x1), (9, 0)] [] w Q ↔ VW d 62 18 [(2, x0), (0, x1), (0, 0)] [] w Q :=
  (VW_b 2 (F := fun n => vrun n d 62 18 [(2, x0), (0, x1), (0, 0)] [] w) (fun _ => rfl)).trans (Iff.rfl)
set_option maxRecDepth 100000 in
theorem b62_18 {d : Nat} {w : vW} {x0 x1 x2 : Int} {Q : Int → vW → Prop} : VW d 62 18 [(2, x0), (0, x1), (0, x2)] [] w Q ↔ ((x2 < 4 → VW d 62 23 [(2, x0), (0, x1), (0, x2)] [] w Q) ∧ (¬ (x2 < 4) → VW d 62 53 [(2, x0), (0, x1), (0, x2)] [] w Q)) :=
  (VW_b 3 (F := fun n => (if x2 < 4 then vrun n d 62 23 [(2, x0), (0, x1), (0, x2)] [] w else vrun n d 62 53 [(2, x0), (0, x1), (0, x2)] [] w)) (fun _ => rfl)).trans (EX_br.trans (and_congr (imp_congr Iff.rfl Iff.rfl) (imp_congr Iff.rfl Iff.rfl)))
set_option maxRecDepth 100000 in
theorem b62_23 {d : Nat} {w : vW} {x0 x1 x2 : Int} {Q : Int → vW → Prop} : VW d 62 23 [(2, x0), (0, x1), (0, x2)] [] w Q ↔ (vkd w x0 = 22) ∧ (vkd w x0 = 22) ∧ (vkd w (vct w x0 18) = 1 ∧ (0 : Int) ≤ (w32 ((vct w x0 19) + x2)) ∧ (w32 ((vct w x0 19) + x2)) < vln w (vct w x0 18)) ∧ VW d 62 47 [(2, x0), (0, x1), (0, x2)] [] (vsv w (vct w x0 18) (w32 ((vct w x0 19) + x2)) (i_and (i_shr x1 (w32 (24 - (w32 (8 * x2))))) 255)) Q :=
  (VW_b 16 (F := fun n => if vkd w x0 = 22 then if vkd w x0 = 22 then if vkd w (vct w x0 18) = 1 ∧ (0 : Int) ≤ (w32 ((vct w x0 19) + x2)) ∧ (w32 ((vct w x0 19) + x2)) < vln w (vct w x0 18) then vrun n d 62 47 [(2, x0), (0, x1), (0, x2)] [] (vsv w (vct w x0 18) (w32 ((vct w x0 19) + x2)) (i_and (i_shr x1 (w32 (24 - (w32 (8 * x2))))) 255)) else none else none else none) (fun _ => rfl)).trans (EX_if.trans (and_congr Iff.rfl (EX_if.trans (and_congr Iff.rfl (EX_if.trans (and_congr Iff.rfl (Iff.rfl)))))))
set_option maxRecDepth 100000 in
theorem b62_47 {d : Nat} {w : vW} {x0 x1 x2 : Int} {Q : Int → vW → Prop} : VW d 62 47 [(2, x0), (0, x1), (0, x2)] [] w Q ↔ VW d 62 18 [(2, x0), (0, x1), (0, w32 (x2 + 1))] [] w Q :=
  (VW_b 2 (F := fun n => vrun n d 62 18 [(2, x0), (0, x1), (0, w32 (x2 + 1))] [] w) (fun _ => rfl)).trans (Iff.rfl)
set_option maxRecDepth 100000 in
theorem b62_53 {d : Nat} {w : vW} {x0 x1 x2 : Int} {Q : Int → vW → Prop} : VW d 62 53 [(2, x0), (0, x1), (0, x2)] [] w Q ↔ (vkd w x0 = 22) ∧ (vkd w x0 = 22) ∧ VW d 62 63 [(2, x0), (0, x1), (0, x2)] [] (vsv w x0 19 (w32 ((vct w x0 19) + 4))) Q :=
  (VW_b 6 (F := fun n => if vkd w x0 = 22 then if vkd w x0 = 22 then vrun n d 62 63 [(2, x0), (0, x1), (0, x2)] [] (vsv w x0 19 (w32 ((vct w x0 19) + 4))) else none else none) (fun _ => rfl)).trans (EX_if.trans (and_congr Iff.rfl (EX_if.trans (and_congr Iff.rfl (Iff.rfl)))))
set_option maxRecDepth 100000 in
theorem b62_63 {d : Nat} {w : vW} {x0 x1 x2 : Int} {Q : Int → vW → Prop} : VW d 62 63 [(2, x0), (0, x1), (0, x2)] [] w Q ↔ (vkd w x0 = 22) ∧ Q (vct w x0 19) w :=
  (VW_b 3 (F := fun n => if vkd w x0 = 22 then some (0, vct w x0 19, w) else none) (fun _ => rfl)).trans (EX_if.trans (and_congr Iff.rfl (EX_ret0)))
/-! 63: StrikeWhatCancelsModel.end(I)Z -/
set_option maxRecDepth 100000 in
theorem b63_0 {d : Nat} {w : vW} {x0 x1 : Int} {Q : Int → vW → Prop} : VW d 63 0 [(2, x0), (0, x1)] [] w Q ↔ (vkd w x0 = 22) ∧ VW d 63 5 [(2, x0), (0, x1)] [] (vsv w x0 0 0) Q :=
  (VW_b 3 (F := fun n => if vkd w x0 = 22 then vrun n d 63 5 [(2, x0), (0, x1)] [] (vsv w x0 0 0) else none) (fun _ => rfl)).trans (EX_if.trans (and_congr Iff.rfl (Iff.rfl)))
set_option maxRecDepth 100000 in
theorem b63_5 {d : Nat} {w : vW} {x0 x1 : Int} {Q : Int → vW → Prop} : VW d 63 5 [(2, x0), (0, x1)] [] w Q ↔ (vkd w x0 = 22) ∧ VC d 56 [(1, x1), (1, 0), (1, (vct w x0 19))] w (fun r w1 => VW d 63 16 [(2, x0), (0, x1)] [(0, r)] w1 Q) :=
  (VW_b 7 (F := fun n => if vkd w x0 = 22 then vclr (vrun n) d 63 16 56 3 0 [(2, x0), (0, x1)] [(1, (vct w x0 19)), (1, 0), (1, x1)] w else none) (fun _ => rfl)).trans (EX_if.trans (and_congr Iff.rfl (EX_call rfl)))
set_option maxRecDepth 100000 in
theorem b63_16 {d : Nat} {w : vW} {x0 x1 y0 : Int} {Q : Int → vW → Prop} : VW d 63 16 [(2, x0), (0, x1)] [(0, y0)] w Q ↔ ((y0 = 0 → VW d 63 19 [(2, x0), (0, x1)] [] w Q) ∧ (¬ (y0 = 0) → VW d 63 21 [(2, x0), (0, x1)] [] w Q)) :=
  (VW_b 1 (F := fun n => (if y0 = 0 then vrun n d 63 19 [(2, x0), (0, x1)] [] w else vrun n d 63 21 [(2, x0), (0, x1)] [] w)) (fun _ => rfl)).trans (EX_br.trans (and_congr (imp_congr Iff.rfl Iff.rfl) (imp_congr Iff.rfl Iff.rfl)))
set_option maxRecDepth 100000 in
theorem b63_19 {d : Nat} {w : vW} {x0 x1 : Int} {Q : Int → vW → Prop} : VW d 63 19 [(2, x0), (0, x1)] [] w Q ↔ Q 0 w :=
  (VW_b 2 (F := fun n => some (0, 0, w)) (fun _ => rfl)).trans (EX_ret0)
set_option maxRecDepth 100000 in
theorem b63_21 {d : Nat} {w : vW} {x0 x1 : Int} {Q : Int → vW → Prop} : VW d 63 21 [(2, x0), (0, x1)] [] w Q ↔ (vkd w x0 = 22) ∧ VW d 63 26 [(2, x0), (0, x1)] [] (vsv w x0 19 x1) Q :=
  (VW_b 3 (F := fun n => if vkd w x0 = 22 then vrun n d 63 26 [(2, x0), (0, x1)] [] (vsv w x0 19 x1) else none) (fun _ => rfl)).trans (EX_if.trans (and_congr Iff.rfl (Iff.rfl)))
set_option maxRecDepth 100000 in
theorem b63_26 {d : Nat} {w : vW} {x0 x1 : Int} {Q : Int → vW → Prop} : VW d 63 26 [(2, x0), (0, x1)] [] w Q ↔ Q 1 w :=
  (VW_b 2 (F := fun n => some (0, 1, w)) (fun _ => rfl)).trans (EX_ret0)
/-! 64: StrikeWhatCancelsModel.begins()I -/
set_option maxRecDepth 100000 in
theorem b64_0 {d : Nat} {w : vW} {x0 : Int} {Q : Int → vW → Prop} : VW d 64 0 [(2, x0), (9, 0)] [] w Q ↔ (vkd w x0 = 22) ∧ (vkd w x0 = 22) ∧ VW d 64 10 [(2, x0), (0, vct w x0 19)] [] (vsv w x0 19 0) Q :=
  (VW_b 6 (F := fun n => if vkd w x0 = 22 then if vkd w x0 = 22 then vrun n d 64 10 [(2, x0), (0, vct w x0 19)] [] (vsv w x0 19 0) else none else none) (fun _ => rfl)).trans (EX_if.trans (and_congr Iff.rfl (EX_if.trans (and_congr Iff.rfl (Iff.rfl)))))
set_option maxRecDepth 100000 in
theorem b64_10 {d : Nat} {w : vW} {x0 x1 : Int} {Q : Int → vW → Prop} : VW d 64 10 [(2, x0), (0, x1)] [] w Q ↔ (vkd w x0 = 22) ∧ VW d 64 15 [(2, x0), (0, x1)] [] (vsv w x0 20 0) Q :=
  (VW_b 3 (F := fun n => if vkd w x0 = 22 then vrun n d 64 15 [(2, x0), (0, x1)] [] (vsv w x0 20 0) else none) (fun _ => rfl)).trans (EX_if.trans (and_congr Iff.rfl (Iff.rfl)))
set_option maxRecDepth 100000 in
theorem b64_15 {d : Nat} {w : vW} {x0 x1 : Int} {Q : Int → vW → Prop} : VW d 64 15 [(2, x0), (0, x1)] [] w Q ↔ (vkd w x0 = 22) ∧ VW d 64 25 [(2, x0), (0, x1)] [] (vsv w x0 21 (min x1 76)) Q :=
  (VW_b 5 (F := fun n => if vkd w x0 = 22 then vrun n d 64 25 [(2, x0), (0, x1)] [] (vsv w x0 21 (min x1 76)) else none) (fun _ => rfl)).trans (EX_if.trans (and_congr Iff.rfl (Iff.rfl)))
set_option maxRecDepth 100000 in
theorem b64_25 {d : Nat} {w : vW} {x0 x1 : Int} {Q : Int → vW → Prop} : VW d 64 25 [(2, x0), (0, x1)] [] w Q ↔ Q x1 w :=
  (VW_b 2 (F := fun n => some (0, x1, w)) (fun _ => rfl)).trans (EX_ret0)
/-! 65: StrikeWhatCancelsModel.takes(I)Z -/
set_option maxRecDepth 100000 in
theorem b65_0 {d : Nat} {w : vW} {x0 x1 : Int} {Q : Int → vW → Prop} : VW d 65 0 [(2, x0), (0, x1), (9, 0)] [] w Q ↔ (vkd w x0 = 22) ∧ (vkd w x0 = 22) ∧ (((vct w x0 20) < (vct w x0 21) → VW d 65 11 [(2, x0), (0, x1), (9, 0)] [] w Q) ∧ (¬ ((vct w x0 20) < (vct w x0 21)) → VW d 65 28 [(2, x0), (0, x1), (9, 0)] [] w Q)) :=
  (VW_b 5 (F := fun n => if vkd w x0 = 22 then if vkd w x0 = 22 then (if (vct w x0 20) < (vct w x0 21) then vrun n d 65 11 [(2, x0), (0, x1), (9, 0)] [] w else vrun n d 65 28 [(2, x0), (0, x1), (9, 0)] [] w) else none else none) (fun _ => rfl)).trans (EX_if.trans (and_congr Iff.rfl (EX_if.trans (and_congr Iff.rfl (EX_br.trans (and_congr (imp_congr Iff.rfl Iff.rfl) (imp_congr Iff.rfl Iff.rfl)))))))
set_option maxRecDepth 100000 in
theorem b65_11 {d : Nat} {w : vW} {x0 x1 : Int} {Q : Int → vW → Prop} : VW d 65 11 [(2, x0), (0, x1), (9, 0)] [] w Q ↔ (vkd w x0 = 22) ∧ (vkd w x0 = 22) ∧ (vkd w (vct w x0 18) = 1 ∧ (0 : Int) ≤ (vct w x0 20) ∧ (vct w x0 20) < vln w (vct w x0 18)) ∧ (((vct w (vct w x0 18) (vct w x0 20)) = x1 → VW d 65 24 [(2, x0), (0, x1), (9, 0)] [] w Q) ∧ (¬ ((vct w (vct w x0 18) (vct w x0 20)) = x1) → VW d 65 28 [(2, x0), (0, x1), (9, 0)] [] w Q)) :=
  (VW_b 7 (F := fun n => if vkd w x0 = 22 then if vkd w x0 = 22 then if vkd w (vct w x0 18) = 1 ∧ (0 : Int) ≤ (vct w x0 20) ∧ (vct w x0 20) < vln w (vct w x0 18) then (if (vct w (vct w x0 18) (vct w x0 20)) = x1 then vrun n d 65 24 [(2, x0), (0, x1), (9, 0)] [] w else vrun n d 65 28 [(2, x0), (0, x1), (9, 0)] [] w) else none else none else none) (fun _ => rfl)).trans (EX_if.trans (and_congr Iff.rfl (EX_if.trans (and_congr Iff.rfl (EX_if.trans (and_congr Iff.rfl (EX_br.trans (and_congr (imp_congr Iff.rfl Iff.rfl) (imp_congr Iff.rfl Iff.rfl)))))))))
set_option maxRecDepth 100000 in
theorem b65_24 {d : Nat} {w : vW} {x0 x1 : Int} {Q : Int → vW → Prop} : VW d 65 24 [(2, x0), (0, x1), (9, 0)] [] w Q ↔ VW d 65 29 [(2, x0), (0, x1), (9, 0)] [(0, 1)] w Q :=
  (VW_b 2 (F := fun n => vrun n d 65 29 [(2, x0), (0, x1), (9, 0)] [(0, 1)] w) (fun _ => rfl)).trans (Iff.rfl)
set_option maxRecDepth 100000 in
theorem b65_28 {d : Nat} {w : vW} {x0 x1 : Int} {Q : Int → vW → Prop} : VW d 65 28 [(2, x0), (0, x1), (9, 0)] [] w Q ↔ VW d 65 29 [(2, x0), (0, x1), (9, 0)] [(0, 0)] w Q :=
  (VW_b 1 (F := fun n => vrun n d 65 29 [(2, x0), (0, x1), (9, 0)] [(0, 0)] w) (fun _ => rfl)).trans (Iff.rfl)
set_option maxRecDepth 100000 in
theorem b65_29 {d : Nat} {w : vW} {x0 x1 y0 : Int} {Q : Int → vW → Prop} : VW d 65 29 [(2, x0), (0, x1), (9, 0)] [(0, y0)] w Q ↔ (vkd w x0 = 22) ∧ VC d 57 [(0, y0)] w (fun r w1 => VW d 65 39 [(2, x0), (0, x1), (0, y0)] [(0, r), (0, vct w x0 20), (2, x0)] w1 Q) :=
  (VW_b 6 (F := fun n => if vkd w x0 = 22 then vclr (vrun n) d 65 39 57 1 0 [(2, x0), (0, x1), (0, y0)] [(0, y0), (0, vct w x0 20), (2, x0)] w else none) (fun _ => rfl)).trans (EX_if.trans (and_congr Iff.rfl (EX_call rfl)))
set_option maxRecDepth 100000 in
theorem b65_39 {d : Nat} {w : vW} {x0 x1 x2 y0 y1 y2 : Int} {Q : Int → vW → Prop} : VW d 65 39 [(2, x0), (0, x1), (0, x2)] [(0, y2), (0, y1), (2, y0)] w Q ↔ (vkd w y0 = 22) ∧ VW d 65 43 [(2, x0), (0, x1), (0, x2)] [] (vsv w y0 20 (w32 (y1 + y2))) Q :=
  (VW_b 2 (F := fun n => if vkd w y0 = 22 then vrun n d 65 43 [(2, x0), (0, x1), (0, x2)] [] (vsv w y0 20 (w32 (y1 + y2))) else none) (fun _ => rfl)).trans (EX_if.trans (and_congr Iff.rfl (Iff.rfl)))
set_option maxRecDepth 100000 in
theorem b65_43 {d : Nat} {w : vW} {x0 x1 x2 : Int} {Q : Int → vW → Prop} : VW d 65 43 [(2, x0), (0, x1), (0, x2)] [] w Q ↔ ((0 : Int) ≤ x2 ∧ x2 ≤ 1) ∧ Q x2 w :=
  (VW_b 2 (F := fun n => if (0 : Int) ≤ x2 ∧ x2 ≤ 1 then some (0, x2, w) else none) (fun _ => rfl)).trans (EX_if.trans (and_congr Iff.rfl (EX_ret0)))
/-! 66: StrikeWhatCancelsModel.isWord()Z -/
set_option maxRecDepth 100000 in
theorem b66_0 {d : Nat} {w : vW} {x0 : Int} {Q : Int → vW → Prop} : VW d 66 0 [(2, x0)] [] w Q ↔ (vkd w x0 = 22) ∧ (vkd w x0 = 22) ∧ (((vct w x0 20) < (vct w x0 21) → VW d 66 11 [(2, x0)] [] w Q) ∧ (¬ ((vct w x0 20) < (vct w x0 21)) → VW d 66 37 [(2, x0)] [] w Q)) :=
  (VW_b 5 (F := fun n => if vkd w x0 = 22 then if vkd w x0 = 22 then (if (vct w x0 20) < (vct w x0 21) then vrun n d 66 11 [(2, x0)] [] w else vrun n d 66 37 [(2, x0)] [] w) else none else none) (fun _ => rfl)).trans (EX_if.trans (and_congr Iff.rfl (EX_if.trans (and_congr Iff.rfl (EX_br.trans (and_congr (imp_congr Iff.rfl Iff.rfl) (imp_congr Iff.rfl Iff.rfl)))))))
set_option maxRecDepth 100000 in
theorem b66_11 {d : Nat} {w : vW} {x0 : Int} {Q : Int → vW → Prop} : VW d 66 11 [(2, x0)] [] w Q ↔ (vkd w x0 = 22) ∧ (vkd w x0 = 22) ∧ (vkd w (vct w x0 18) = 1 ∧ (0 : Int) ≤ (vct w x0 20) ∧ (vct w x0 20) < vln w (vct w x0 18)) ∧ VC d 56 [(1, (vct w (vct w x0 18) (vct w x0 20))), (1, 97), (1, 104)] w (fun r w1 => VW d 66 30 [(2, x0)] [(0, r)] w1 Q) :=
  (VW_b 9 (F := fun n => if vkd w x0 = 22 then if vkd w x0 = 22 then if vkd w (vct w x0 18) = 1 ∧ (0 : Int) ≤ (vct w x0 20) ∧ (vct w x0 20) < vln w (vct w x0 18) then vclr (vrun n) d 66 30 56 3 0 [(2, x0)] [(1, 104), (1, 97), (1, (vct w (vct w x0 18) (vct w x0 20)))] w else none else none else none) (fun _ => rfl)).trans (EX_if.trans (and_congr Iff.rfl (EX_if.trans (and_congr Iff.rfl (EX_if.trans (and_congr Iff.rfl (EX_call rfl)))))))
set_option maxRecDepth 100000 in
theorem b66_30 {d : Nat} {w : vW} {x0 y0 : Int} {Q : Int → vW → Prop} : VW d 66 30 [(2, x0)] [(0, y0)] w Q ↔ ((y0 = 0 → VW d 66 37 [(2, x0)] [] w Q) ∧ (¬ (y0 = 0) → VW d 66 33 [(2, x0)] [] w Q)) :=
  (VW_b 1 (F := fun n => (if y0 = 0 then vrun n d 66 37 [(2, x0)] [] w else vrun n d 66 33 [(2, x0)] [] w)) (fun _ => rfl)).trans (EX_br.trans (and_congr (imp_congr Iff.rfl Iff.rfl) (imp_congr Iff.rfl Iff.rfl)))
set_option maxRecDepth 100000 in
theorem b66_33 {d : Nat} {w : vW} {x0 : Int} {Q : Int → vW → Prop} : VW d 66 33 [(2, x0)] [] w Q ↔ VW d 66 38 [(2, x0)] [(0, 1)] w Q :=
  (VW_b 2 (F := fun n => vrun n d 66 38 [(2, x0)] [(0, 1)] w) (fun _ => rfl)).trans (Iff.rfl)
set_option maxRecDepth 100000 in
theorem b66_37 {d : Nat} {w : vW} {x0 : Int} {Q : Int → vW → Prop} : VW d 66 37 [(2, x0)] [] w Q ↔ VW d 66 38 [(2, x0)] [(0, 0)] w Q :=
  (VW_b 1 (F := fun n => vrun n d 66 38 [(2, x0)] [(0, 0)] w) (fun _ => rfl)).trans (Iff.rfl)
set_option maxRecDepth 100000 in
theorem b66_38 {d : Nat} {w : vW} {x0 y0 : Int} {Q : Int → vW → Prop} : VW d 66 38 [(2, x0)] [(0, y0)] w Q ↔ ((0 : Int) ≤ y0 ∧ y0 ≤ 1) ∧ Q y0 w :=
  (VW_b 1 (F := fun n => if (0 : Int) ≤ y0 ∧ y0 ≤ 1 then some (0, y0, w) else none) (fun _ => rfl)).trans (EX_if.trans (and_congr Iff.rfl (EX_ret0)))
/-! 67: StrikeWhatCancelsModel.words(I)J -/
set_option maxRecDepth 100000 in
theorem b67_0 {d : Nat} {w : vW} {x0 x1 : Int} {Q : Int → vW → Prop} : VW d 67 0 [(2, x0), (0, x1), (9, 0), (9, 0), (9, 0)] [] w Q ↔ VW d 67 5 [(2, x0), (0, x1), (1, 0), (9, 0), (0, 0)] [] w Q :=
  (VW_b 4 (F := fun n => vrun n d 67 5 [(2, x0), (0, x1), (1, 0), (9, 0), (0, 0)] [] w) (fun _ => rfl)).trans (Iff.rfl)
set_option maxRecDepth 100000 in
theorem b67_5 {d : Nat} {w : vW} {x0 x1 x2 x4 : Int} {Q : Int → vW → Prop} : VW d 67 5 [(2, x0), (0, x1), (1, x2), (9, 0), (0, x4)] [] w Q ↔ ((x4 < x1 → VW d 67 11 [(2, x0), (0, x1), (1, x2), (9, 0), (0, x4)] [] w Q) ∧ (¬ (x4 < x1) → VW d 67 57 [(2, x0), (0, x1), (1, x2), (9, 0), (0, x4)] [] w Q)) :=
  (VW_b 3 (F := fun n => (if x4 < x1 then vrun n d 67 11 [(2, x0), (0, x1), (1, x2), (9, 0), (0, x4)] [] w else vrun n d 67 57 [(2, x0), (0, x1), (1, x2), (9, 0), (0, x4)] [] w)) (fun _ => rfl)).trans (EX_br.trans (and_congr (imp_congr Iff.rfl Iff.rfl) (imp_congr Iff.rfl Iff.rfl)))
set_option maxRecDepth 100000 in
theorem b67_11 {d : Nat} {w : vW} {x0 x1 x2 x4 : Int} {Q : Int → vW → Prop} : VW d 67 11 [(2, x0), (0, x1), (1, x2), (9, 0), (0, x4)] [] w Q ↔ (vkd w x0 = 22) ∧ VC d 66 [(2, x0)] w (fun r w1 => VW d 67 15 [(2, x0), (0, x1), (1, x2), (9, 0), (0, x4)] [(0, r)] w1 Q) :=
  (VW_b 2 (F := fun n => if vkd w x0 = 22 then vclr (vrun n) d 67 15 66 1 0 [(2, x0), (0, x1), (1, x2), (9, 0), (0, x4)] [(2, x0)] w else none) (fun _ => rfl)).trans (EX_if.trans (and_congr Iff.rfl (EX_call rfl)))
set_option maxRecDepth 100000 in
theorem b67_15 {d : Nat} {w : vW} {x0 x1 x2 x4 y0 : Int} {Q : Int → vW → Prop} : VW d 67 15 [(2, x0), (0, x1), (1, x2), (9, 0), (0, x4)] [(0, y0)] w Q ↔ ((y0 = 0 → VW d 67 57 [(2, x0), (0, x1), (1, x2), (9, 0), (0, x4)] [] w Q) ∧ (¬ (y0 = 0) → VW d 67 18 [(2, x0), (0, x1), (1, x2), (9, 0), (0, x4)] [] w Q)) :=
  (VW_b 1 (F := fun n => (if y0 = 0 then vrun n d 67 57 [(2, x0), (0, x1), (1, x2), (9, 0), (0, x4)] [] w else vrun n d 67 18 [(2, x0), (0, x1), (1, x2), (9, 0), (0, x4)] [] w)) (fun _ => rfl)).trans (EX_br.trans (and_congr (imp_congr Iff.rfl Iff.rfl) (imp_congr Iff.rfl Iff.rfl)))
set_option maxRecDepth 100000 in
theorem b67_18 {d : Nat} {w : vW} {x0 x1 x2 x4 : Int} {Q : Int → vW → Prop} : VW d 67 18 [(2, x0), (0, x1), (1, x2), (9, 0), (0, x4)] [] w Q ↔ (vkd w x0 = 22) ∧ (vkd w x0 = 22) ∧ (vkd w (vct w x0 18) = 1 ∧ (0 : Int) ≤ (vct w x0 20) ∧ (vct w x0 20) < vln w (vct w x0 18)) ∧ VW d 67 41 [(2, x0), (0, x1), (1, w64 ((w64 ((w64 ((w64 (x2 * 9)) + (vct w (vct w x0 18) (vct w x0 20)))) - 97)) + 1)), (9, 0), (0, x4)] [] w Q :=
  (VW_b 15 (F := fun n => if vkd w x0 = 22 then if vkd w x0 = 22 then if vkd w (vct w x0 18) = 1 ∧ (0 : Int) ≤ (vct w x0 20) ∧ (vct w x0 20) < vln w (vct w x0 18) then vrun n d 67 41 [(2, x0), (0, x1), (1, w64 ((w64 ((w64 ((w64 (x2 * 9)) + (vct w (vct w x0 18) (vct w x0 20)))) - 97)) + 1)), (9, 0), (0, x4)] [] w else none else none else none) (fun _ => rfl)).trans (EX_if.trans (and_congr Iff.rfl (EX_if.trans (and_congr Iff.rfl (EX_if.trans (and_congr Iff.rfl (Iff.rfl)))))))
set_option maxRecDepth 100000 in
theorem b67_41 {d : Nat} {w : vW} {x0 x1 x2 x4 : Int} {Q : Int → vW → Prop} : VW d 67 41 [(2, x0), (0, x1), (1, x2), (9, 0), (0, x4)] [] w Q ↔ (vkd w x0 = 22) ∧ (vkd w x0 = 22) ∧ VW d 67 51 [(2, x0), (0, x1), (1, x2), (9, 0), (0, x4)] [] (vsv w x0 20 (w32 ((vct w x0 20) + 1))) Q :=
  (VW_b 6 (F := fun n => if vkd w x0 = 22 then if vkd w x0 = 22 then vrun n d 67 51 [(2, x0), (0, x1), (1, x2), (9, 0), (0, x4)] [] (vsv w x0 20 (w32 ((vct w x0 20) + 1))) else none else none) (fun _ => rfl)).trans (EX_if.trans (and_congr Iff.rfl (EX_if.trans (and_congr Iff.rfl (Iff.rfl)))))
set_option maxRecDepth 100000 in
theorem b67_51 {d : Nat} {w : vW} {x0 x1 x2 x4 : Int} {Q : Int → vW → Prop} : VW d 67 51 [(2, x0), (0, x1), (1, x2), (9, 0), (0, x4)] [] w Q ↔ VW d 67 5 [(2, x0), (0, x1), (1, x2), (9, 0), (0, w32 (x4 + 1))] [] w Q :=
  (VW_b 2 (F := fun n => vrun n d 67 5 [(2, x0), (0, x1), (1, x2), (9, 0), (0, w32 (x4 + 1))] [] w) (fun _ => rfl)).trans (Iff.rfl)
set_option maxRecDepth 100000 in
theorem b67_57 {d : Nat} {w : vW} {x0 x1 x2 x4 : Int} {Q : Int → vW → Prop} : VW d 67 57 [(2, x0), (0, x1), (1, x2), (9, 0), (0, x4)] [] w Q ↔ Q x2 w :=
  (VW_b 2 (F := fun n => some (0, x2, w)) (fun _ => rfl)).trans (EX_ret0)
/-! 68: StrikeWhatCancelsModel.faultOf(IZ)I -/
set_option maxRecDepth 100000 in
theorem b68_0 {d : Nat} {w : vW} {x0 x1 x2 : Int} {Q : Int → vW → Prop} : VW d 68 0 [(2, x0), (0, x1), (0, x2), (9, 0)] [] w Q ↔ ((x2 = 0 → VW d 68 19 [(2, x0), (0, x1), (0, x2), (9, 0)] [] w Q) ∧ (¬ (x2 = 0) → VW d 68 4 [(2, x0), (0, x1), (0, x2), (9, 0)] [] w Q)) :=
  (VW_b 2 (F := fun n => (if x2 = 0 then vrun n d 68 19 [(2, x0), (0, x1), (0, x2), (9, 0)] [] w else vrun n d 68 4 [(2, x0), (0, x1), (0, x2), (9, 0)] [] w)) (fun _ => rfl)).trans (EX_br.trans (and_congr (imp_congr Iff.rfl Iff.rfl) (imp_congr Iff.rfl Iff.rfl)))
set_option maxRecDepth 100000 in
theorem b68_4 {d : Nat} {w : vW} {x0 x1 x2 : Int} {Q : Int → vW → Prop} : VW d 68 4 [(2, x0), (0, x1), (0, x2), (9, 0)] [] w Q ↔ (vkd w x0 = 22) ∧ (vkd w x0 = 22) ∧ (((vct w x0 20) = (vct w x0 21) → VW d 68 15 [(2, x0), (0, x1), (0, x2), (9, 0)] [] w Q) ∧ (¬ ((vct w x0 20) = (vct w x0 21)) → VW d 68 19 [(2, x0), (0, x1), (0, x2), (9, 0)] [] w Q)) :=
  (VW_b 5 (F := fun n => if vkd w x0 = 22 then if vkd w x0 = 22 then (if (vct w x0 20) = (vct w x0 21) then vrun n d 68 15 [(2, x0), (0, x1), (0, x2), (9, 0)] [] w else vrun n d 68 19 [(2, x0), (0, x1), (0, x2), (9, 0)] [] w) else none else none) (fun _ => rfl)).trans (EX_if.trans (and_congr Iff.rfl (EX_if.trans (and_congr Iff.rfl (EX_br.trans (and_congr (imp_congr Iff.rfl Iff.rfl) (imp_congr Iff.rfl Iff.rfl)))))))
set_option maxRecDepth 100000 in
theorem b68_15 {d : Nat} {w : vW} {x0 x1 x2 : Int} {Q : Int → vW → Prop} : VW d 68 15 [(2, x0), (0, x1), (0, x2), (9, 0)] [] w Q ↔ VW d 68 20 [(2, x0), (0, x1), (0, x2), (9, 0)] [(0, 1)] w Q :=
  (VW_b 2 (F := fun n => vrun n d 68 20 [(2, x0), (0, x1), (0, x2), (9, 0)] [(0, 1)] w) (fun _ => rfl)).trans (Iff.rfl)
set_option maxRecDepth 100000 in
theorem b68_19 {d : Nat} {w : vW} {x0 x1 x2 : Int} {Q : Int → vW → Prop} : VW d 68 19 [(2, x0), (0, x1), (0, x2), (9, 0)] [] w Q ↔ VW d 68 20 [(2, x0), (0, x1), (0, x2), (9, 0)] [(0, 0)] w Q :=
  (VW_b 1 (F := fun n => vrun n d 68 20 [(2, x0), (0, x1), (0, x2), (9, 0)] [(0, 0)] w) (fun _ => rfl)).trans (Iff.rfl)
set_option maxRecDepth 100000 in
theorem b68_20 {d : Nat} {w : vW} {x0 x1 x2 y0 : Int} {Q : Int → vW → Prop} : VW d 68 20 [(2, x0), (0, x1), (0, x2), (9, 0)] [(0, y0)] w Q ↔ ((76 < x1 → VW d 68 27 [(2, x0), (0, x1), (0, x2), (0, y0)] [] w Q) ∧ (¬ (76 < x1) → VW d 68 43 [(2, x0), (0, x1), (0, x2), (0, y0)] [] w Q)) :=
  (VW_b 4 (F := fun n => (if 76 < x1 then vrun n d 68 27 [(2, x0), (0, x1), (0, x2), (0, y0)] [] w else vrun n d 68 43 [(2, x0), (0, x1), (0, x2), (0, y0)] [] w)) (fun _ => rfl)).trans (EX_br.trans (and_congr (imp_congr Iff.rfl Iff.rfl) (imp_congr Iff.rfl Iff.rfl)))
set_option maxRecDepth 100000 in
theorem b68_27 {d : Nat} {w : vW} {x0 x1 x2 x3 : Int} {Q : Int → vW → Prop} : VW d 68 27 [(2, x0), (0, x1), (0, x2), (0, x3)] [] w Q ↔ ((x3 = 0 → VW d 68 31 [(2, x0), (0, x1), (0, x2), (0, x3)] [] w Q) ∧ (¬ (x3 = 0) → VW d 68 40 [(2, x0), (0, x1), (0, x2), (0, x3)] [] w Q)) :=
  (VW_b 2 (F := fun n => (if x3 = 0 then vrun n d 68 31 [(2, x0), (0, x1), (0, x2), (0, x3)] [] w else vrun n d 68 40 [(2, x0), (0, x1), (0, x2), (0, x3)] [] w)) (fun _ => rfl)).trans (EX_br.trans (and_congr (imp_congr Iff.rfl Iff.rfl) (imp_congr Iff.rfl Iff.rfl)))
set_option maxRecDepth 100000 in
theorem b68_31 {d : Nat} {w : vW} {x0 x1 x2 x3 : Int} {Q : Int → vW → Prop} : VW d 68 31 [(2, x0), (0, x1), (0, x2), (0, x3)] [] w Q ↔ (vkd w x0 = 22) ∧ (((vct w x0 20) < 76 → VW d 68 43 [(2, x0), (0, x1), (0, x2), (0, x3)] [] w Q) ∧ (¬ ((vct w x0 20) < 76) → VW d 68 40 [(2, x0), (0, x1), (0, x2), (0, x3)] [] w Q)) :=
  (VW_b 4 (F := fun n => if vkd w x0 = 22 then (if (vct w x0 20) < 76 then vrun n d 68 43 [(2, x0), (0, x1), (0, x2), (0, x3)] [] w else vrun n d 68 40 [(2, x0), (0, x1), (0, x2), (0, x3)] [] w) else none) (fun _ => rfl)).trans (EX_if.trans (and_congr Iff.rfl (EX_br.trans (and_congr (imp_congr Iff.rfl Iff.rfl) (imp_congr Iff.rfl Iff.rfl)))))
set_option maxRecDepth 100000 in
theorem b68_40 {d : Nat} {w : vW} {x0 x1 x2 x3 : Int} {Q : Int → vW → Prop} : VW d 68 40 [(2, x0), (0, x1), (0, x2), (0, x3)] [] w Q ↔ Q (-77) w :=
  (VW_b 2 (F := fun n => some (0, (-77), w)) (fun _ => rfl)).trans (EX_ret0)
set_option maxRecDepth 100000 in
theorem b68_43 {d : Nat} {w : vW} {x0 x1 x2 x3 : Int} {Q : Int → vW → Prop} : VW d 68 43 [(2, x0), (0, x1), (0, x2), (0, x3)] [] w Q ↔ ((x3 = 0 → VW d 68 51 [(2, x0), (0, x1), (0, x2), (0, x3)] [] w Q) ∧ (¬ (x3 = 0) → VW d 68 47 [(2, x0), (0, x1), (0, x2), (0, x3)] [] w Q)) :=
  (VW_b 2 (F := fun n => (if x3 = 0 then vrun n d 68 51 [(2, x0), (0, x1), (0, x2), (0, x3)] [] w else vrun n d 68 47 [(2, x0), (0, x1), (0, x2), (0, x3)] [] w)) (fun _ => rfl)).trans (EX_br.trans (and_congr (imp_congr Iff.rfl Iff.rfl) (imp_congr Iff.rfl Iff.rfl)))
set_option maxRecDepth 100000 in
theorem b68_47 {d : Nat} {w : vW} {x0 x1 x2 x3 : Int} {Q : Int → vW → Prop} : VW d 68 47 [(2, x0), (0, x1), (0, x2), (0, x3)] [] w Q ↔ VW d 68 57 [(2, x0), (0, x1), (0, x2), (0, x3)] [(0, 0)] w Q :=
  (VW_b 2 (F := fun n => vrun n d 68 57 [(2, x0), (0, x1), (0, x2), (0, x3)] [(0, 0)] w) (fun _ => rfl)).trans (Iff.rfl)
set_option maxRecDepth 100000 in
theorem b68_51 {d : Nat} {w : vW} {x0 x1 x2 x3 : Int} {Q : Int → vW → Prop} : VW d 68 51 [(2, x0), (0, x1), (0, x2), (0, x3)] [] w Q ↔ (vkd w x0 = 22) ∧ VW d 68 57 [(2, x0), (0, x1), (0, x2), (0, x3)] [(0, w32 ((-1) - (vct w x0 20)))] w Q :=
  (VW_b 4 (F := fun n => if vkd w x0 = 22 then vrun n d 68 57 [(2, x0), (0, x1), (0, x2), (0, x3)] [(0, w32 ((-1) - (vct w x0 20)))] w else none) (fun _ => rfl)).trans (EX_if.trans (and_congr Iff.rfl (Iff.rfl)))
set_option maxRecDepth 100000 in
theorem b68_57 {d : Nat} {w : vW} {x0 x1 x2 x3 y0 : Int} {Q : Int → vW → Prop} : VW d 68 57 [(2, x0), (0, x1), (0, x2), (0, x3)] [(0, y0)] w Q ↔ Q y0 w :=
  (VW_b 1 (F := fun n => some (0, y0, w)) (fun _ => rfl)).trans (EX_ret0)
/-! 69: StrikeWhatCancelsModel.lays(IJJ)V -/
set_option maxRecDepth 100000 in
theorem b69_0 {d : Nat} {w : vW} {x0 x1 x2 x4 : Int} {Q : Int → vW → Prop} : VW d 69 0 [(2, x0), (0, x1), (1, x2), (9, 0), (1, x4), (9, 0)] [] w Q ↔ (vkd w x0 = 22) ∧ (vkd w (vct w x0 6) = 2 ∧ (0 : Int) ≤ x1 ∧ x1 < vln w (vct w x0 6)) ∧ VW d 69 7 [(2, x0), (0, x1), (1, x2), (9, 0), (1, x4), (9, 0)] [] (vsv w (vct w x0 6) x1 x2) Q :=
  (VW_b 5 (F := fun n => if vkd w x0 = 22 then if vkd w (vct w x0 6) = 2 ∧ (0 : Int) ≤ x1 ∧ x1 < vln w (vct w x0 6) then vrun n d 69 7 [(2, x0), (0, x1), (1, x2), (9, 0), (1, x4), (9, 0)] [] (vsv w (vct w x0 6) x1 x2) else none else none) (fun _ => rfl)).trans (EX_if.trans (and_congr Iff.rfl (EX_if.trans (and_congr Iff.rfl (Iff.rfl)))))
set_option maxRecDepth 100000 in
theorem b69_7 {d : Nat} {w : vW} {x0 x1 x2 x4 : Int} {Q : Int → vW → Prop} : VW d 69 7 [(2, x0), (0, x1), (1, x2), (9, 0), (1, x4), (9, 0)] [] w Q ↔ (vkd w x0 = 22) ∧ (vkd w (vct w x0 7) = 2 ∧ (0 : Int) ≤ x1 ∧ x1 < vln w (vct w x0 7)) ∧ VW d 69 15 [(2, x0), (0, x1), (1, x2), (9, 0), (1, x4), (9, 0)] [] (vsv w (vct w x0 7) x1 x4) Q :=
  (VW_b 5 (F := fun n => if vkd w x0 = 22 then if vkd w (vct w x0 7) = 2 ∧ (0 : Int) ≤ x1 ∧ x1 < vln w (vct w x0 7) then vrun n d 69 15 [(2, x0), (0, x1), (1, x2), (9, 0), (1, x4), (9, 0)] [] (vsv w (vct w x0 7) x1 x4) else none else none) (fun _ => rfl)).trans (EX_if.trans (and_congr Iff.rfl (EX_if.trans (and_congr Iff.rfl (Iff.rfl)))))
set_option maxRecDepth 100000 in
theorem b69_15 {d : Nat} {w : vW} {x0 x1 x2 x4 : Int} {Q : Int → vW → Prop} : VW d 69 15 [(2, x0), (0, x1), (1, x2), (9, 0), (1, x4), (9, 0)] [] w Q ↔ (vkd w x0 = 22) ∧ (vkd w x0 = 22) ∧ VC d 60 [(2, x0), (1, x2)] w (fun r w1 => VW d 69 25 [(2, x0), (0, x1), (1, x2), (9, 0), (1, x4), (9, 0)] [(0, r), (0, x1), (2, vct w x0 8)] w1 Q) :=
  (VW_b 6 (F := fun n => if vkd w x0 = 22 then if vkd w x0 = 22 then vclr (vrun n) d 69 25 60 2 0 [(2, x0), (0, x1), (1, x2), (9, 0), (1, x4), (9, 0)] [(1, x2), (2, x0), (0, x1), (2, vct w x0 8)] w else none else none) (fun _ => rfl)).trans (EX_if.trans (and_congr Iff.rfl (EX_if.trans (and_congr Iff.rfl (EX_call rfl)))))
set_option maxRecDepth 100000 in
theorem b69_25 {d : Nat} {w : vW} {x0 x1 x2 x4 y0 y1 y2 : Int} {Q : Int → vW → Prop} : VW d 69 25 [(2, x0), (0, x1), (1, x2), (9, 0), (1, x4), (9, 0)] [(0, y2), (0, y1), (2, y0)] w Q ↔ (vkd w y0 = 1 ∧ (0 : Int) ≤ y1 ∧ y1 < vln w y0) ∧ VW d 69 26 [(2, x0), (0, x1), (1, x2), (9, 0), (1, x4), (9, 0)] [] (vsv w y0 y1 y2) Q :=
  (VW_b 1 (F := fun n => if vkd w y0 = 1 ∧ (0 : Int) ≤ y1 ∧ y1 < vln w y0 then vrun n d 69 26 [(2, x0), (0, x1), (1, x2), (9, 0), (1, x4), (9, 0)] [] (vsv w y0 y1 y2) else none) (fun _ => rfl)).trans (EX_if.trans (and_congr Iff.rfl (Iff.rfl)))
set_option maxRecDepth 100000 in
theorem b69_26 {d : Nat} {w : vW} {x0 x1 x2 x4 : Int} {Q : Int → vW → Prop} : VW d 69 26 [(2, x0), (0, x1), (1, x2), (9, 0), (1, x4), (9, 0)] [] w Q ↔ (vkd w x0 = 22) ∧ (vkd w x0 = 22) ∧ VC d 60 [(2, x0), (1, x4)] w (fun r w1 => VW d 69 37 [(2, x0), (0, x1), (1, x2), (9, 0), (1, x4), (9, 0)] [(0, r), (0, x1), (2, vct w x0 9)] w1 Q) :=
  (VW_b 6 (F := fun n => if vkd w x0 = 22 then if vkd w x0 = 22 then vclr (vrun n) d 69 37 60 2 0 [(2, x0), (0, x1), (1, x2), (9, 0), (1, x4), (9, 0)] [(1, x4), (2, x0), (0, x1), (2, vct w x0 9)] w else none else none) (fun _ => rfl)).trans (EX_if.trans (and_congr Iff.rfl (EX_if.trans (and_congr Iff.rfl (EX_call rfl)))))
set_option maxRecDepth 100000 in
theorem b69_37 {d : Nat} {w : vW} {x0 x1 x2 x4 y0 y1 y2 : Int} {Q : Int → vW → Prop} : VW d 69 37 [(2, x0), (0, x1), (1, x2), (9, 0), (1, x4), (9, 0)] [(0, y2), (0, y1), (2, y0)] w Q ↔ (vkd w y0 = 1 ∧ (0 : Int) ≤ y1 ∧ y1 < vln w y0) ∧ VW d 69 38 [(2, x0), (0, x1), (1, x2), (9, 0), (1, x4), (9, 0)] [] (vsv w y0 y1 y2) Q :=
  (VW_b 1 (F := fun n => if vkd w y0 = 1 ∧ (0 : Int) ≤ y1 ∧ y1 < vln w y0 then vrun n d 69 38 [(2, x0), (0, x1), (1, x2), (9, 0), (1, x4), (9, 0)] [] (vsv w y0 y1 y2) else none) (fun _ => rfl)).trans (EX_if.trans (and_congr Iff.rfl (Iff.rfl)))
set_option maxRecDepth 100000 in
theorem b69_38 {d : Nat} {w : vW} {x0 x1 x2 x4 : Int} {Q : Int → vW → Prop} : VW d 69 38 [(2, x0), (0, x1), (1, x2), (9, 0), (1, x4), (9, 0)] [] w Q ↔ Q 0 w :=
  (VW_b 1 (F := fun n => some (0, 0, w)) (fun _ => rfl)).trans (EX_ret0)
/-! 70: StrikeWhatCancelsModel.readsLine()Z -/
set_option maxRecDepth 100000 in
theorem b70_0 {d : Nat} {w : vW} {x0 : Int} {Q : Int → vW → Prop} : VW d 70 0 [(2, x0), (9, 0), (9, 0), (9, 0), (9, 0)] [] w Q ↔ (vkd w x0 = 22) ∧ VC d 67 [(2, x0), (0, 5)] w (fun r w1 => VW d 70 5 [(2, x0), (9, 0), (9, 0), (9, 0), (9, 0)] [(1, r)] w1 Q) :=
  (VW_b 3 (F := fun n => if vkd w x0 = 22 then vclr (vrun n) d 70 5 67 2 1 [(2, x0), (9, 0), (9, 0), (9, 0), (9, 0)] [(0, 5), (2, x0)] w else none) (fun _ => rfl)).trans (EX_if.trans (and_congr Iff.rfl (EX_call rfl)))
set_option maxRecDepth 100000 in
theorem b70_5 {d : Nat} {w : vW} {x0 y0 : Int} {Q : Int → vW → Prop} : VW d 70 5 [(2, x0), (9, 0), (9, 0), (9, 0), (9, 0)] [(1, y0)] w Q ↔ (((vlc y0 0) = 0 → VW d 70 12 [(2, x0), (1, y0), (9, 0), (9, 0), (9, 0)] [] w Q) ∧ (¬ ((vlc y0 0) = 0) → VW d 70 14 [(2, x0), (1, y0), (9, 0), (9, 0), (9, 0)] [] w Q)) :=
  (VW_b 5 (F := fun n => (if (vlc y0 0) = 0 then vrun n d 70 12 [(2, x0), (1, y0), (9, 0), (9, 0), (9, 0)] [] w else vrun n d 70 14 [(2, x0), (1, y0), (9, 0), (9, 0), (9, 0)] [] w)) (fun _ => rfl)).trans (EX_br.trans (and_congr (imp_congr Iff.rfl Iff.rfl) (imp_congr Iff.rfl Iff.rfl)))
set_option maxRecDepth 100000 in
theorem b70_12 {d : Nat} {w : vW} {x0 x1 : Int} {Q : Int → vW → Prop} : VW d 70 12 [(2, x0), (1, x1), (9, 0), (9, 0), (9, 0)] [] w Q ↔ Q 0 w :=
  (VW_b 2 (F := fun n => some (0, 0, w)) (fun _ => rfl)).trans (EX_ret0)
set_option maxRecDepth 100000 in
theorem b70_14 {d : Nat} {w : vW} {x0 x1 : Int} {Q : Int → vW → Prop} : VW d 70 14 [(2, x0), (1, x1), (9, 0), (9, 0), (9, 0)] [] w Q ↔ (((vlc x1 9) < 0 → VW d 70 22 [(2, x0), (1, x1), (9, 0), (9, 0), (9, 0)] [] w Q) ∧ (¬ ((vlc x1 9) < 0) → VW d 70 107 [(2, x0), (1, x1), (9, 0), (9, 0), (9, 0)] [] w Q)) :=
  (VW_b 4 (F := fun n => (if (vlc x1 9) < 0 then vrun n d 70 22 [(2, x0), (1, x1), (9, 0), (9, 0), (9, 0)] [] w else vrun n d 70 107 [(2, x0), (1, x1), (9, 0), (9, 0), (9, 0)] [] w)) (fun _ => rfl)).trans (EX_br.trans (and_congr (imp_congr Iff.rfl Iff.rfl) (imp_congr Iff.rfl Iff.rfl)))
set_option maxRecDepth 100000 in
theorem b70_22 {d : Nat} {w : vW} {x0 x1 : Int} {Q : Int → vW → Prop} : VW d 70 22 [(2, x0), (1, x1), (9, 0), (9, 0), (9, 0)] [] w Q ↔ (vkd w x0 = 22) ∧ VC d 65 [(2, x0), (0, 61)] w (fun r w1 => VW d 70 28 [(2, x0), (1, x1), (9, 0), (9, 0), (9, 0)] [(0, r)] w1 Q) :=
  (VW_b 3 (F := fun n => if vkd w x0 = 22 then vclr (vrun n) d 70 28 65 2 0 [(2, x0), (1, x1), (9, 0), (9, 0), (9, 0)] [(0, 61), (2, x0)] w else none) (fun _ => rfl)).trans (EX_if.trans (and_congr Iff.rfl (EX_call rfl)))
set_option maxRecDepth 100000 in
theorem b70_28 {d : Nat} {w : vW} {x0 x1 y0 : Int} {Q : Int → vW → Prop} : VW d 70 28 [(2, x0), (1, x1), (9, 0), (9, 0), (9, 0)] [(0, y0)] w Q ↔ ((y0 = 0 → VW d 70 107 [(2, x0), (1, x1), (9, 0), (9, 0), (9, 0)] [] w Q) ∧ (¬ (y0 = 0) → VW d 70 31 [(2, x0), (1, x1), (9, 0), (9, 0), (9, 0)] [] w Q)) :=
  (VW_b 1 (F := fun n => (if y0 = 0 then vrun n d 70 107 [(2, x0), (1, x1), (9, 0), (9, 0), (9, 0)] [] w else vrun n d 70 31 [(2, x0), (1, x1), (9, 0), (9, 0), (9, 0)] [] w)) (fun _ => rfl)).trans (EX_br.trans (and_congr (imp_congr Iff.rfl Iff.rfl) (imp_congr Iff.rfl Iff.rfl)))
set_option maxRecDepth 100000 in
theorem b70_31 {d : Nat} {w : vW} {x0 x1 : Int} {Q : Int → vW → Prop} : VW d 70 31 [(2, x0), (1, x1), (9, 0), (9, 0), (9, 0)] [] w Q ↔ (vkd w x0 = 22) ∧ (vkd w x0 = 22) ∧ (((vct w x0 20) < (vct w x0 21) → VW d 70 42 [(2, x0), (1, x1), (9, 0), (9, 0), (9, 0)] [] w Q) ∧ (¬ ((vct w x0 20) < (vct w x0 21)) → VW d 70 68 [(2, x0), (1, x1), (9, 0), (9, 0), (9, 0)] [] w Q)) :=
  (VW_b 5 (F := fun n => if vkd w x0 = 22 then if vkd w x0 = 22 then (if (vct w x0 20) < (vct w x0 21) then vrun n d 70 42 [(2, x0), (1, x1), (9, 0), (9, 0), (9, 0)] [] w else vrun n d 70 68 [(2, x0), (1, x1), (9, 0), (9, 0), (9, 0)] [] w) else none else none) (fun _ => rfl)).trans (EX_if.trans (and_congr Iff.rfl (EX_if.trans (and_congr Iff.rfl (EX_br.trans (and_congr (imp_congr Iff.rfl Iff.rfl) (imp_congr Iff.rfl Iff.rfl)))))))
set_option maxRecDepth 100000 in
theorem b70_42 {d : Nat} {w : vW} {x0 x1 : Int} {Q : Int → vW → Prop} : VW d 70 42 [(2, x0), (1, x1), (9, 0), (9, 0), (9, 0)] [] w Q ↔ (vkd w x0 = 22) ∧ (vkd w x0 = 22) ∧ (vkd w (vct w x0 18) = 1 ∧ (0 : Int) ≤ (vct w x0 20) ∧ (vct w x0 20) < vln w (vct w x0 18)) ∧ VC d 56 [(1, (vct w (vct w x0 18) (vct w x0 20))), (1, 49), (1, 57)] w (fun r w1 => VW d 70 61 [(2, x0), (1, x1), (9, 0), (9, 0), (9, 0)] [(0, r)] w1 Q) :=
  (VW_b 9 (F := fun n => if vkd w x0 = 22 then if vkd w x0 = 22 then if vkd w (vct w x0 18) = 1 ∧ (0 : Int) ≤ (vct w x0 20) ∧ (vct w x0 20) < vln w (vct w x0 18) then vclr (vrun n) d 70 61 56 3 0 [(2, x0), (1, x1), (9, 0), (9, 0), (9, 0)] [(1, 57), (1, 49), (1, (vct w (vct w x0 18) (vct w x0 20)))] w else none else none else none) (fun _ => rfl)).trans (EX_if.trans (and_congr Iff.rfl (EX_if.trans (and_congr Iff.rfl (EX_if.trans (and_congr Iff.rfl (EX_call rfl)))))))
set_option maxRecDepth 100000 in
theorem b70_61 {d : Nat} {w : vW} {x0 x1 y0 : Int} {Q : Int → vW → Prop} : VW d 70 61 [(2, x0), (1, x1), (9, 0), (9, 0), (9, 0)] [(0, y0)] w Q ↔ ((y0 = 0 → VW d 70 68 [(2, x0), (1, x1), (9, 0), (9, 0), (9, 0)] [] w Q) ∧ (¬ (y0 = 0) → VW d 70 64 [(2, x0), (1, x1), (9, 0), (9, 0), (9, 0)] [] w Q)) :=
  (VW_b 1 (F := fun n => (if y0 = 0 then vrun n d 70 68 [(2, x0), (1, x1), (9, 0), (9, 0), (9, 0)] [] w else vrun n d 70 64 [(2, x0), (1, x1), (9, 0), (9, 0), (9, 0)] [] w)) (fun _ => rfl)).trans (EX_br.trans (and_congr (imp_congr Iff.rfl Iff.rfl) (imp_congr Iff.rfl Iff.rfl)))
set_option maxRecDepth 100000 in
theorem b70_64 {d : Nat} {w : vW} {x0 x1 : Int} {Q : Int → vW → Prop} : VW d 70 64 [(2, x0), (1, x1), (9, 0), (9, 0), (9, 0)] [] w Q ↔ VW d 70 69 [(2, x0), (1, x1), (9, 0), (9, 0), (9, 0)] [(0, 1)] w Q :=
  (VW_b 2 (F := fun n => vrun n d 70 69 [(2, x0), (1, x1), (9, 0), (9, 0), (9, 0)] [(0, 1)] w) (fun _ => rfl)).trans (Iff.rfl)
set_option maxRecDepth 100000 in
theorem b70_68 {d : Nat} {w : vW} {x0 x1 : Int} {Q : Int → vW → Prop} : VW d 70 68 [(2, x0), (1, x1), (9, 0), (9, 0), (9, 0)] [] w Q ↔ VW d 70 69 [(2, x0), (1, x1), (9, 0), (9, 0), (9, 0)] [(0, 0)] w Q :=
  (VW_b 1 (F := fun n => vrun n d 70 69 [(2, x0), (1, x1), (9, 0), (9, 0), (9, 0)] [(0, 0)] w) (fun _ => rfl)).trans (Iff.rfl)
set_option maxRecDepth 100000 in
theorem b70_69 {d : Nat} {w : vW} {x0 x1 y0 : Int} {Q : Int → vW → Prop} : VW d 70 69 [(2, x0), (1, x1), (9, 0), (9, 0), (9, 0)] [(0, y0)] w Q ↔ ((y0 = 0 → VW d 70 105 [(2, x0), (1, x1), (9, 0), (0, y0), (9, 0)] [] w Q) ∧ (¬ (y0 = 0) → VW d 70 74 [(2, x0), (1, x1), (9, 0), (0, y0), (9, 0)] [] w Q)) :=
  (VW_b 3 (F := fun n => (if y0 = 0 then vrun n d 70 105 [(2, x0), (1, x1), (9, 0), (0, y0), (9, 0)] [] w else vrun n d 70 74 [(2, x0), (1, x1), (9, 0), (0, y0), (9, 0)] [] w)) (fun _ => rfl)).trans (EX_br.trans (and_congr (imp_congr Iff.rfl Iff.rfl) (imp_congr Iff.rfl Iff.rfl)))
set_option maxRecDepth 100000 in
theorem b70_74 {d : Nat} {w : vW} {x0 x1 x3 : Int} {Q : Int → vW → Prop} : VW d 70 74 [(2, x0), (1, x1), (9, 0), (0, x3), (9, 0)] [] w Q ↔ (vkd w x0 = 22) ∧ (vkd w x0 = 22) ∧ (vkd w x0 = 22) ∧ (vkd w (vct w x0 18) = 1 ∧ (0 : Int) ≤ (vct w x0 20) ∧ (vct w x0 20) < vln w (vct w x0 18)) ∧ (vkd w (vct w x0 11) = 1 ∧ (0 : Int) ≤ (w32 ((w32 x1) - 1)) ∧ (w32 ((w32 x1) - 1)) < vln w (vct w x0 11)) ∧ VW d 70 95 [(2, x0), (1, x1), (9, 0), (0, x3), (9, 0)] [] (vsv w (vct w x0 11) (w32 ((w32 x1) - 1)) (w32 ((vct w (vct w x0 18) (vct w x0 20)) - 48))) Q :=
  (VW_b 14 (F := fun n => if vkd w x0 = 22 then if vkd w x0 = 22 then if vkd w x0 = 22 then if vkd w (vct w x0 18) = 1 ∧ (0 : Int) ≤ (vct w x0 20) ∧ (vct w x0 20) < vln w (vct w x0 18) then if vkd w (vct w x0 11) = 1 ∧ (0 : Int) ≤ (w32 ((w32 x1) - 1)) ∧ (w32 ((w32 x1) - 1)) < vln w (vct w x0 11) then vrun n d 70 95 [(2, x0), (1, x1), (9, 0), (0, x3), (9, 0)] [] (vsv w (vct w x0 11) (w32 ((w32 x1) - 1)) (w32 ((vct w (vct w x0 18) (vct w x0 20)) - 48))) else none else none else none else none else none) (fun _ => rfl)).trans (EX_if.trans (and_congr Iff.rfl (EX_if.trans (and_congr Iff.rfl (EX_if.trans (and_congr Iff.rfl (EX_if.trans (and_congr Iff.rfl (EX_if.trans (and_congr Iff.rfl (Iff.rfl)))))))))))
set_option maxRecDepth 100000 in
theorem b70_95 {d : Nat} {w : vW} {x0 x1 x3 : Int} {Q : Int → vW → Prop} : VW d 70 95 [(2, x0), (1, x1), (9, 0), (0, x3), (9, 0)] [] w Q ↔ (vkd w x0 = 22) ∧ (vkd w x0 = 22) ∧ VW d 70 105 [(2, x0), (1, x1), (9, 0), (0, x3), (9, 0)] [] (vsv w x0 20 (w32 ((vct w x0 20) + 1))) Q :=
  (VW_b 6 (F := fun n => if vkd w x0 = 22 then if vkd w x0 = 22 then vrun n d 70 105 [(2, x0), (1, x1), (9, 0), (0, x3), (9, 0)] [] (vsv w x0 20 (w32 ((vct w x0 20) + 1))) else none else none) (fun _ => rfl)).trans (EX_if.trans (and_congr Iff.rfl (EX_if.trans (and_congr Iff.rfl (Iff.rfl)))))
set_option maxRecDepth 100000 in
theorem b70_105 {d : Nat} {w : vW} {x0 x1 x3 : Int} {Q : Int → vW → Prop} : VW d 70 105 [(2, x0), (1, x1), (9, 0), (0, x3), (9, 0)] [] w Q ↔ ((0 : Int) ≤ x3 ∧ x3 ≤ 1) ∧ Q x3 w :=
  (VW_b 2 (F := fun n => if (0 : Int) ≤ x3 ∧ x3 ≤ 1 then some (0, x3, w) else none) (fun _ => rfl)).trans (EX_if.trans (and_congr Iff.rfl (EX_ret0)))
set_option maxRecDepth 100000 in
theorem b70_107 {d : Nat} {w : vW} {x0 x1 : Int} {Q : Int → vW → Prop} : VW d 70 107 [(2, x0), (1, x1), (9, 0), (9, 0), (9, 0)] [] w Q ↔ (vkd w x0 = 22) ∧ (((vct w x0 22) = 12 → VW d 70 125 [(2, x0), (1, x1), (9, 0), (9, 0), (9, 0)] [] w Q) ∧ (¬ ((vct w x0 22) = 12) → VW d 70 116 [(2, x0), (1, x1), (9, 0), (9, 0), (9, 0)] [] w Q)) :=
  (VW_b 4 (F := fun n => if vkd w x0 = 22 then (if (vct w x0 22) = 12 then vrun n d 70 125 [(2, x0), (1, x1), (9, 0), (9, 0), (9, 0)] [] w else vrun n d 70 116 [(2, x0), (1, x1), (9, 0), (9, 0), (9, 0)] [] w) else none) (fun _ => rfl)).trans (EX_if.trans (and_congr Iff.rfl (EX_br.trans (and_congr (imp_congr Iff.rfl Iff.rfl) (imp_congr Iff.rfl Iff.rfl)))))
set_option maxRecDepth 100000 in
theorem b70_116 {d : Nat} {w : vW} {x0 x1 : Int} {Q : Int → vW → Prop} : VW d 70 116 [(2, x0), (1, x1), (9, 0), (9, 0), (9, 0)] [] w Q ↔ (vkd w x0 = 22) ∧ VC d 65 [(2, x0), (0, 62)] w (fun r w1 => VW d 70 122 [(2, x0), (1, x1), (9, 0), (9, 0), (9, 0)] [(0, r)] w1 Q) :=
  (VW_b 3 (F := fun n => if vkd w x0 = 22 then vclr (vrun n) d 70 122 65 2 0 [(2, x0), (1, x1), (9, 0), (9, 0), (9, 0)] [(0, 62), (2, x0)] w else none) (fun _ => rfl)).trans (EX_if.trans (and_congr Iff.rfl (EX_call rfl)))
set_option maxRecDepth 100000 in
theorem b70_122 {d : Nat} {w : vW} {x0 x1 y0 : Int} {Q : Int → vW → Prop} : VW d 70 122 [(2, x0), (1, x1), (9, 0), (9, 0), (9, 0)] [(0, y0)] w Q ↔ ((y0 = 0 → VW d 70 125 [(2, x0), (1, x1), (9, 0), (9, 0), (9, 0)] [] w Q) ∧ (¬ (y0 = 0) → VW d 70 127 [(2, x0), (1, x1), (9, 0), (9, 0), (9, 0)] [] w Q)) :=
  (VW_b 1 (F := fun n => (if y0 = 0 then vrun n d 70 125 [(2, x0), (1, x1), (9, 0), (9, 0), (9, 0)] [] w else vrun n d 70 127 [(2, x0), (1, x1), (9, 0), (9, 0), (9, 0)] [] w)) (fun _ => rfl)).trans (EX_br.trans (and_congr (imp_congr Iff.rfl Iff.rfl) (imp_congr Iff.rfl Iff.rfl)))
set_option maxRecDepth 100000 in
theorem b70_125 {d : Nat} {w : vW} {x0 x1 : Int} {Q : Int → vW → Prop} : VW d 70 125 [(2, x0), (1, x1), (9, 0), (9, 0), (9, 0)] [] w Q ↔ Q 0 w :=
  (VW_b 2 (F := fun n => some (0, 0, w)) (fun _ => rfl)).trans (EX_ret0)
set_option maxRecDepth 100000 in
theorem b70_127 {d : Nat} {w : vW} {x0 x1 : Int} {Q : Int → vW → Prop} : VW d 70 127 [(2, x0), (1, x1), (9, 0), (9, 0), (9, 0)] [] w Q ↔ (vkd w x0 = 22) ∧ VC d 67 [(2, x0), (0, 5)] w (fun r w1 => VW d 70 132 [(2, x0), (1, x1), (9, 0), (9, 0), (9, 0)] [(1, r)] w1 Q) :=
  (VW_b 3 (F := fun n => if vkd w x0 = 22 then vclr (vrun n) d 70 132 67 2 1 [(2, x0), (1, x1), (9, 0), (9, 0), (9, 0)] [(0, 5), (2, x0)] w else none) (fun _ => rfl)).trans (EX_if.trans (and_congr Iff.rfl (EX_call rfl)))
set_option maxRecDepth 100000 in
theorem b70_132 {d : Nat} {w : vW} {x0 x1 y0 : Int} {Q : Int → vW → Prop} : VW d 70 132 [(2, x0), (1, x1), (9, 0), (9, 0), (9, 0)] [(1, y0)] w Q ↔ (((vlc y0 x1) < 0 → VW d 70 139 [(2, x0), (1, x1), (9, 0), (1, y0), (9, 0)] [] w Q) ∧ (¬ ((vlc y0 x1) < 0) → VW d 70 146 [(2, x0), (1, x1), (9, 0), (1, y0), (9, 0)] [] w Q)) :=
  (VW_b 5 (F := fun n => (if (vlc y0 x1) < 0 then vrun n d 70 139 [(2, x0), (1, x1), (9, 0), (1, y0), (9, 0)] [] w else vrun n d 70 146 [(2, x0), (1, x1), (9, 0), (1, y0), (9, 0)] [] w)) (fun _ => rfl)).trans (EX_br.trans (and_congr (imp_congr Iff.rfl Iff.rfl) (imp_congr Iff.rfl Iff.rfl)))
set_option maxRecDepth 100000 in
theorem b70_139 {d : Nat} {w : vW} {x0 x1 x3 : Int} {Q : Int → vW → Prop} : VW d 70 139 [(2, x0), (1, x1), (9, 0), (1, x3), (9, 0)] [] w Q ↔ (vkd w x0 = 22) ∧ VC d 66 [(2, x0)] w (fun r w1 => VW d 70 143 [(2, x0), (1, x1), (9, 0), (1, x3), (9, 0)] [(0, r)] w1 Q) :=
  (VW_b 2 (F := fun n => if vkd w x0 = 22 then vclr (vrun n) d 70 143 66 1 0 [(2, x0), (1, x1), (9, 0), (1, x3), (9, 0)] [(2, x0)] w else none) (fun _ => rfl)).trans (EX_if.trans (and_congr Iff.rfl (EX_call rfl)))
set_option maxRecDepth 100000 in
theorem b70_143 {d : Nat} {w : vW} {x0 x1 x3 y0 : Int} {Q : Int → vW → Prop} : VW d 70 143 [(2, x0), (1, x1), (9, 0), (1, x3), (9, 0)] [(0, y0)] w Q ↔ ((y0 = 0 → VW d 70 148 [(2, x0), (1, x1), (9, 0), (1, x3), (9, 0)] [] w Q) ∧ (¬ (y0 = 0) → VW d 70 146 [(2, x0), (1, x1), (9, 0), (1, x3), (9, 0)] [] w Q)) :=
  (VW_b 1 (F := fun n => (if y0 = 0 then vrun n d 70 148 [(2, x0), (1, x1), (9, 0), (1, x3), (9, 0)] [] w else vrun n d 70 146 [(2, x0), (1, x1), (9, 0), (1, x3), (9, 0)] [] w)) (fun _ => rfl)).trans (EX_br.trans (and_congr (imp_congr Iff.rfl Iff.rfl) (imp_congr Iff.rfl Iff.rfl)))
set_option maxRecDepth 100000 in
theorem b70_146 {d : Nat} {w : vW} {x0 x1 x3 : Int} {Q : Int → vW → Prop} : VW d 70 146 [(2, x0), (1, x1), (9, 0), (1, x3), (9, 0)] [] w Q ↔ Q 0 w :=
  (VW_b 2 (F := fun n => some (0, 0, w)) (fun _ => rfl)).trans (EX_ret0)
set_option maxRecDepth 100000 in
theorem b70_148 {d : Nat} {w : vW} {x0 x1 x3 : Int} {Q : Int → vW → Prop} : VW d 70 148 [(2, x0), (1, x1), (9, 0), (1, x3), (9, 0)] [] w Q ↔ (vkd w x0 = 22) ∧ (vkd w x0 = 22) ∧ VC d 69 [(2, x0), (0, vct w x0 22), (1, x1), (1, x3)] w (fun _ w1 => VW d 70 158 [(2, x0), (1, x1), (9, 0), (1, x3), (9, 0)] [] w1 Q) :=
  (VW_b 6 (F := fun n => if vkd w x0 = 22 then if vkd w x0 = 22 then vclr (vrun n) d 70 158 69 4 9 [(2, x0), (1, x1), (9, 0), (1, x3), (9, 0)] [(1, x3), (1, x1), (0, vct w x0 22), (2, x0)] w else none else none) (fun _ => rfl)).trans (EX_if.trans (and_congr Iff.rfl (EX_if.trans (and_congr Iff.rfl (EX_call rfl)))))
set_option maxRecDepth 100000 in
theorem b70_158 {d : Nat} {w : vW} {x0 x1 x3 : Int} {Q : Int → vW → Prop} : VW d 70 158 [(2, x0), (1, x1), (9, 0), (1, x3), (9, 0)] [] w Q ↔ (vkd w x0 = 22) ∧ (vkd w x0 = 22) ∧ VW d 70 168 [(2, x0), (1, x1), (9, 0), (1, x3), (9, 0)] [] (vsv w x0 22 (w32 ((vct w x0 22) + 1))) Q :=
  (VW_b 6 (F := fun n => if vkd w x0 = 22 then if vkd w x0 = 22 then vrun n d 70 168 [(2, x0), (1, x1), (9, 0), (1, x3), (9, 0)] [] (vsv w x0 22 (w32 ((vct w x0 22) + 1))) else none else none) (fun _ => rfl)).trans (EX_if.trans (and_congr Iff.rfl (EX_if.trans (and_congr Iff.rfl (Iff.rfl)))))
set_option maxRecDepth 100000 in
theorem b70_168 {d : Nat} {w : vW} {x0 x1 x3 : Int} {Q : Int → vW → Prop} : VW d 70 168 [(2, x0), (1, x1), (9, 0), (1, x3), (9, 0)] [] w Q ↔ Q 1 w :=
  (VW_b 2 (F := fun n => some (0, 1, w)) (fun _ => rfl)).trans (EX_ret0)
/-! 71: StrikeWhatCancelsModel.book()I -/
set_option maxRecDepth 100000 in
theorem b71_0 {d : Nat} {w : vW} {x0 : Int} {Q : Int → vW → Prop} : VW d 71 0 [(2, x0), (9, 0), (9, 0), (9, 0), (9, 0), (9, 0), (9, 0)] [] w Q ↔ (vkd w x0 = 22) ∧ VW d 71 5 [(2, x0), (9, 0), (9, 0), (9, 0), (9, 0), (9, 0), (9, 0)] [] (vsv w x0 0 0) Q :=
  (VW_b 3 (F := fun n => if vkd w x0 = 22 then vrun n d 71 5 [(2, x0), (9, 0), (9, 0), (9, 0), (9, 0), (9, 0), (9, 0)] [] (vsv w x0 0 0) else none) (fun _ => rfl)).trans (EX_if.trans (and_congr Iff.rfl (Iff.rfl)))
set_option maxRecDepth 100000 in
theorem b71_5 {d : Nat} {w : vW} {x0 : Int} {Q : Int → vW → Prop} : VW d 71 5 [(2, x0), (9, 0), (9, 0), (9, 0), (9, 0), (9, 0), (9, 0)] [] w Q ↔ (vkd w x0 = 22) ∧ VC d 64 [(2, x0)] w (fun r w1 => VW d 71 9 [(2, x0), (9, 0), (9, 0), (9, 0), (9, 0), (9, 0), (9, 0)] [(0, r)] w1 Q) :=
  (VW_b 2 (F := fun n => if vkd w x0 = 22 then vclr (vrun n) d 71 9 64 1 0 [(2, x0), (9, 0), (9, 0), (9, 0), (9, 0), (9, 0), (9, 0)] [(2, x0)] w else none) (fun _ => rfl)).trans (EX_if.trans (and_congr Iff.rfl (EX_call rfl)))
set_option maxRecDepth 100000 in
theorem b71_9 {d : Nat} {w : vW} {x0 y0 : Int} {Q : Int → vW → Prop} : VW d 71 9 [(2, x0), (9, 0), (9, 0), (9, 0), (9, 0), (9, 0), (9, 0)] [(0, y0)] w Q ↔ (vkd w x0 = 22) ∧ (vkd w x0 = 22) ∧ VW d 71 18 [(2, x0), (0, y0), (9, 0), (9, 0), (9, 0), (9, 0), (9, 0)] [] (vsv w x0 22 (vct w x0 4)) Q :=
  (VW_b 5 (F := fun n => if vkd w x0 = 22 then if vkd w x0 = 22 then vrun n d 71 18 [(2, x0), (0, y0), (9, 0), (9, 0), (9, 0), (9, 0), (9, 0)] [] (vsv w x0 22 (vct w x0 4)) else none else none) (fun _ => rfl)).trans (EX_if.trans (and_congr Iff.rfl (EX_if.trans (and_congr Iff.rfl (Iff.rfl)))))
set_option maxRecDepth 100000 in
theorem b71_18 {d : Nat} {w : vW} {x0 x1 : Int} {Q : Int → vW → Prop} : VW d 71 18 [(2, x0), (0, x1), (9, 0), (9, 0), (9, 0), (9, 0), (9, 0)] [] w Q ↔ VW d 71 20 [(2, x0), (0, x1), (0, 0), (9, 0), (9, 0), (9, 0), (9, 0)] [] w Q :=
  (VW_b 2 (F := fun n => vrun n d 71 20 [(2, x0), (0, x1), (0, 0), (9, 0), (9, 0), (9, 0), (9, 0)] [] w) (fun _ => rfl)).trans (Iff.rfl)
set_option maxRecDepth 100000 in
theorem b71_20 {d : Nat} {w : vW} {x0 x1 x2 : Int} {Q : Int → vW → Prop} : VW d 71 20 [(2, x0), (0, x1), (0, x2), (9, 0), (9, 0), (9, 0), (9, 0)] [] w Q ↔ ((x2 < 8 → VW d 71 26 [(2, x0), (0, x1), (0, x2), (9, 0), (9, 0), (9, 0), (9, 0)] [] w Q) ∧ (¬ (x2 < 8) → VW d 71 44 [(2, x0), (0, x1), (0, x2), (9, 0), (9, 0), (9, 0), (9, 0)] [] w Q)) :=
  (VW_b 3 (F := fun n => (if x2 < 8 then vrun n d 71 26 [(2, x0), (0, x1), (0, x2), (9, 0), (9, 0), (9, 0), (9, 0)] [] w else vrun n d 71 44 [(2, x0), (0, x1), (0, x2), (9, 0), (9, 0), (9, 0), (9, 0)] [] w)) (fun _ => rfl)).trans (EX_br.trans (and_congr (imp_congr Iff.rfl Iff.rfl) (imp_congr Iff.rfl Iff.rfl)))
set_option maxRecDepth 100000 in
theorem b71_26 {d : Nat} {w : vW} {x0 x1 x2 : Int} {Q : Int → vW → Prop} : VW d 71 26 [(2, x0), (0, x1), (0, x2), (9, 0), (9, 0), (9, 0), (9, 0)] [] w Q ↔ (vkd w x0 = 22) ∧ (vkd w x0 = 22) ∧ (vkd w (vct w x0 10) = 1 ∧ (0 : Int) ≤ x2 ∧ x2 < vln w (vct w x0 10)) ∧ (vkd w (vct w x0 11) = 1 ∧ (0 : Int) ≤ x2 ∧ x2 < vln w (vct w x0 11)) ∧ VW d 71 38 [(2, x0), (0, x1), (0, x2), (9, 0), (9, 0), (9, 0), (9, 0)] [] (vsv w (vct w x0 11) x2 (vct w (vct w x0 10) x2)) Q :=
  (VW_b 8 (F := fun n => if vkd w x0 = 22 then if vkd w x0 = 22 then if vkd w (vct w x0 10) = 1 ∧ (0 : Int) ≤ x2 ∧ x2 < vln w (vct w x0 10) then if vkd w (vct w x0 11) = 1 ∧ (0 : Int) ≤ x2 ∧ x2 < vln w (vct w x0 11) then vrun n d 71 38 [(2, x0), (0, x1), (0, x2), (9, 0), (9, 0), (9, 0), (9, 0)] [] (vsv w (vct w x0 11) x2 (vct w (vct w x0 10) x2)) else none else none else none else none) (fun _ => rfl)).trans (EX_if.trans (and_congr Iff.rfl (EX_if.trans (and_congr Iff.rfl (EX_if.trans (and_congr Iff.rfl (EX_if.trans (and_congr Iff.rfl (Iff.rfl)))))))))
set_option maxRecDepth 100000 in
theorem b71_38 {d : Nat} {w : vW} {x0 x1 x2 : Int} {Q : Int → vW → Prop} : VW d 71 38 [(2, x0), (0, x1), (0, x2), (9, 0), (9, 0), (9, 0), (9, 0)] [] w Q ↔ VW d 71 20 [(2, x0), (0, x1), (0, w32 (x2 + 1)), (9, 0), (9, 0), (9, 0), (9, 0)] [] w Q :=
  (VW_b 2 (F := fun n => vrun n d 71 20 [(2, x0), (0, x1), (0, w32 (x2 + 1)), (9, 0), (9, 0), (9, 0), (9, 0)] [] w) (fun _ => rfl)).trans (Iff.rfl)
set_option maxRecDepth 100000 in
theorem b71_44 {d : Nat} {w : vW} {x0 x1 x2 : Int} {Q : Int → vW → Prop} : VW d 71 44 [(2, x0), (0, x1), (0, x2), (9, 0), (9, 0), (9, 0), (9, 0)] [] w Q ↔ ((0 < x1 → VW d 71 52 [(2, x0), (0, x1), (0, 0), (0, 1), (9, 0), (9, 0), (9, 0)] [] w Q) ∧ (¬ (0 < x1) → VW d 71 56 [(2, x0), (0, x1), (0, 0), (0, 1), (9, 0), (9, 0), (9, 0)] [] w Q)) :=
  (VW_b 6 (F := fun n => (if 0 < x1 then vrun n d 71 52 [(2, x0), (0, x1), (0, 0), (0, 1), (9, 0), (9, 0), (9, 0)] [] w else vrun n d 71 56 [(2, x0), (0, x1), (0, 0), (0, 1), (9, 0), (9, 0), (9, 0)] [] w)) (fun _ => rfl)).trans (EX_br.trans (and_congr (imp_congr Iff.rfl Iff.rfl) (imp_congr Iff.rfl Iff.rfl)))
set_option maxRecDepth 100000 in
theorem b71_52 {d : Nat} {w : vW} {x0 x1 x2 x3 : Int} {Q : Int → vW → Prop} : VW d 71 52 [(2, x0), (0, x1), (0, x2), (0, x3), (9, 0), (9, 0), (9, 0)] [] w Q ↔ VW d 71 57 [(2, x0), (0, x1), (0, x2), (0, x3), (9, 0), (9, 0), (9, 0)] [(0, 1)] w Q :=
  (VW_b 2 (F := fun n => vrun n d 71 57 [(2, x0), (0, x1), (0, x2), (0, x3), (9, 0), (9, 0), (9, 0)] [(0, 1)] w) (fun _ => rfl)).trans (Iff.rfl)
set_option maxRecDepth 100000 in
theorem b71_56 {d : Nat} {w : vW} {x0 x1 x2 x3 : Int} {Q : Int → vW → Prop} : VW d 71 56 [(2, x0), (0, x1), (0, x2), (0, x3), (9, 0), (9, 0), (9, 0)] [] w Q ↔ VW d 71 57 [(2, x0), (0, x1), (0, x2), (0, x3), (9, 0), (9, 0), (9, 0)] [(0, 0)] w Q :=
  (VW_b 1 (F := fun n => vrun n d 71 57 [(2, x0), (0, x1), (0, x2), (0, x3), (9, 0), (9, 0), (9, 0)] [(0, 0)] w) (fun _ => rfl)).trans (Iff.rfl)
set_option maxRecDepth 100000 in
theorem b71_57 {d : Nat} {w : vW} {x0 x1 x2 x3 y0 : Int} {Q : Int → vW → Prop} : VW d 71 57 [(2, x0), (0, x1), (0, x2), (0, x3), (9, 0), (9, 0), (9, 0)] [(0, y0)] w Q ↔ VW d 71 59 [(2, x0), (0, x1), (0, x2), (0, x3), (0, y0), (9, 0), (9, 0)] [] w Q :=
  (VW_b 1 (F := fun n => vrun n d 71 59 [(2, x0), (0, x1), (0, x2), (0, x3), (0, y0), (9, 0), (9, 0)] [] w) (fun _ => rfl)).trans (Iff.rfl)
set_option maxRecDepth 100000 in
theorem b71_59 {d : Nat} {w : vW} {x0 x1 x2 x3 x4 : Int} {Q : Int → vW → Prop} : VW d 71 59 [(2, x0), (0, x1), (0, x2), (0, x3), (0, x4), (9, 0), (9, 0)] [] w Q ↔ ((x4 = 0 → VW d 71 95 [(2, x0), (0, x1), (0, x2), (0, x3), (0, x4), (9, 0), (9, 0)] [] w Q) ∧ (¬ (x4 = 0) → VW d 71 64 [(2, x0), (0, x1), (0, x2), (0, x3), (0, x4), (9, 0), (9, 0)] [] w Q)) :=
  (VW_b 2 (F := fun n => (if x4 = 0 then vrun n d 71 95 [(2, x0), (0, x1), (0, x2), (0, x3), (0, x4), (9, 0), (9, 0)] [] w else vrun n d 71 64 [(2, x0), (0, x1), (0, x2), (0, x3), (0, x4), (9, 0), (9, 0)] [] w)) (fun _ => rfl)).trans (EX_br.trans (and_congr (imp_congr Iff.rfl Iff.rfl) (imp_congr Iff.rfl Iff.rfl)))
set_option maxRecDepth 100000 in
theorem b71_64 {d : Nat} {w : vW} {x0 x1 x2 x3 x4 : Int} {Q : Int → vW → Prop} : VW d 71 64 [(2, x0), (0, x1), (0, x2), (0, x3), (0, x4), (9, 0), (9, 0)] [] w Q ↔ (vkd w x0 = 22) ∧ VC d 70 [(2, x0)] w (fun r w1 => VW d 71 68 [(2, x0), (0, x1), (0, x2), (0, x3), (0, x4), (9, 0), (9, 0)] [(0, r)] w1 Q) :=
  (VW_b 2 (F := fun n => if vkd w x0 = 22 then vclr (vrun n) d 71 68 70 1 0 [(2, x0), (0, x1), (0, x2), (0, x3), (0, x4), (9, 0), (9, 0)] [(2, x0)] w else none) (fun _ => rfl)).trans (EX_if.trans (and_congr Iff.rfl (EX_call rfl)))
set_option maxRecDepth 100000 in
theorem b71_68 {d : Nat} {w : vW} {x0 x1 x2 x3 x4 y0 : Int} {Q : Int → vW → Prop} : VW d 71 68 [(2, x0), (0, x1), (0, x2), (0, x3), (0, x4), (9, 0), (9, 0)] [(0, y0)] w Q ↔ ((y0 = 0 → VW d 71 89 [(2, x0), (0, x1), (0, w32 (x2 + 1)), (0, y0), (0, x4), (9, 0), (9, 0)] [] w Q) ∧ (¬ (y0 = 0) → VW d 71 76 [(2, x0), (0, x1), (0, w32 (x2 + 1)), (0, y0), (0, x4), (9, 0), (9, 0)] [] w Q)) :=
  (VW_b 4 (F := fun n => (if y0 = 0 then vrun n d 71 89 [(2, x0), (0, x1), (0, w32 (x2 + 1)), (0, y0), (0, x4), (9, 0), (9, 0)] [] w else vrun n d 71 76 [(2, x0), (0, x1), (0, w32 (x2 + 1)), (0, y0), (0, x4), (9, 0), (9, 0)] [] w)) (fun _ => rfl)).trans (EX_br.trans (and_congr (imp_congr Iff.rfl Iff.rfl) (imp_congr Iff.rfl Iff.rfl)))
set_option maxRecDepth 100000 in
theorem b71_76 {d : Nat} {w : vW} {x0 x1 x2 x3 x4 : Int} {Q : Int → vW → Prop} : VW d 71 76 [(2, x0), (0, x1), (0, x2), (0, x3), (0, x4), (9, 0), (9, 0)] [] w Q ↔ (vkd w x0 = 22) ∧ VC d 65 [(2, x0), (0, 59)] w (fun r w1 => VW d 71 82 [(2, x0), (0, x1), (0, x2), (0, x3), (0, x4), (9, 0), (9, 0)] [(0, r)] w1 Q) :=
  (VW_b 3 (F := fun n => if vkd w x0 = 22 then vclr (vrun n) d 71 82 65 2 0 [(2, x0), (0, x1), (0, x2), (0, x3), (0, x4), (9, 0), (9, 0)] [(0, 59), (2, x0)] w else none) (fun _ => rfl)).trans (EX_if.trans (and_congr Iff.rfl (EX_call rfl)))
set_option maxRecDepth 100000 in
theorem b71_82 {d : Nat} {w : vW} {x0 x1 x2 x3 x4 y0 : Int} {Q : Int → vW → Prop} : VW d 71 82 [(2, x0), (0, x1), (0, x2), (0, x3), (0, x4), (9, 0), (9, 0)] [(0, y0)] w Q ↔ ((y0 = 0 → VW d 71 89 [(2, x0), (0, x1), (0, x2), (0, x3), (0, x4), (9, 0), (9, 0)] [] w Q) ∧ (¬ (y0 = 0) → VW d 71 85 [(2, x0), (0, x1), (0, x2), (0, x3), (0, x4), (9, 0), (9, 0)] [] w Q)) :=
  (VW_b 1 (F := fun n => (if y0 = 0 then vrun n d 71 89 [(2, x0), (0, x1), (0, x2), (0, x3), (0, x4), (9, 0), (9, 0)] [] w else vrun n d 71 85 [(2, x0), (0, x1), (0, x2), (0, x3), (0, x4), (9, 0), (9, 0)] [] w)) (fun _ => rfl)).trans (EX_br.trans (and_congr (imp_congr Iff.rfl Iff.rfl) (imp_congr Iff.rfl Iff.rfl)))
set_option maxRecDepth 100000 in
theorem b71_85 {d : Nat} {w : vW} {x0 x1 x2 x3 x4 : Int} {Q : Int → vW → Prop} : VW d 71 85 [(2, x0), (0, x1), (0, x2), (0, x3), (0, x4), (9, 0), (9, 0)] [] w Q ↔ VW d 71 90 [(2, x0), (0, x1), (0, x2), (0, x3), (0, x4), (9, 0), (9, 0)] [(0, 1)] w Q :=
  (VW_b 2 (F := fun n => vrun n d 71 90 [(2, x0), (0, x1), (0, x2), (0, x3), (0, x4), (9, 0), (9, 0)] [(0, 1)] w) (fun _ => rfl)).trans (Iff.rfl)
set_option maxRecDepth 100000 in
theorem b71_89 {d : Nat} {w : vW} {x0 x1 x2 x3 x4 : Int} {Q : Int → vW → Prop} : VW d 71 89 [(2, x0), (0, x1), (0, x2), (0, x3), (0, x4), (9, 0), (9, 0)] [] w Q ↔ VW d 71 90 [(2, x0), (0, x1), (0, x2), (0, x3), (0, x4), (9, 0), (9, 0)] [(0, 0)] w Q :=
  (VW_b 1 (F := fun n => vrun n d 71 90 [(2, x0), (0, x1), (0, x2), (0, x3), (0, x4), (9, 0), (9, 0)] [(0, 0)] w) (fun _ => rfl)).trans (Iff.rfl)
set_option maxRecDepth 100000 in
theorem b71_90 {d : Nat} {w : vW} {x0 x1 x2 x3 x4 y0 : Int} {Q : Int → vW → Prop} : VW d 71 90 [(2, x0), (0, x1), (0, x2), (0, x3), (0, x4), (9, 0), (9, 0)] [(0, y0)] w Q ↔ VW d 71 59 [(2, x0), (0, x1), (0, x2), (0, x3), (0, y0), (9, 0), (9, 0)] [] w Q :=
  (VW_b 2 (F := fun n => vrun n d 71 59 [(2, x0), (0, x1), (0, x2), (0, x3), (0, y0), (9, 0), (9, 0)] [] w) (fun _ => rfl)).trans (Iff.rfl)
set_option maxRecDepth 100000 in
theorem b71_95 {d : Nat} {w : vW} {x0 x1 x2 x3 x4 : Int} {Q : Int → vW → Prop} : VW d 71 95 [(2, x0), (0, x1), (0, x2), (0, x3), (0, x4), (9, 0), (9, 0)] [] w Q ↔ (vkd w x0 = 22) ∧ VC d 68 [(2, x0), (0, x1), (0, x3)] w (fun r w1 => VW d 71 101 [(2, x0), (0, x1), (0, x2), (0, x3), (0, x4), (9, 0), (9, 0)] [(0, r)] w1 Q) :=
  (VW_b 4 (F := fun n => if vkd w x0 = 22 then vclr (vrun n) d 71 101 68 3 0 [(2, x0), (0, x1), (0, x2), (0, x3), (0, x4), (9, 0), (9, 0)] [(0, x3), (0, x1), (2, x0)] w else none) (fun _ => rfl)).trans (EX_if.trans (and_congr Iff.rfl (EX_call rfl)))
set_option maxRecDepth 100000 in
theorem b71_101 {d : Nat} {w : vW} {x0 x1 x2 x3 x4 y0 : Int} {Q : Int → vW → Prop} : VW d 71 101 [(2, x0), (0, x1), (0, x2), (0, x3), (0, x4), (9, 0), (9, 0)] [(0, y0)] w Q ↔ ((y0 < 0 → VW d 71 108 [(2, x0), (0, x1), (0, x2), (0, x3), (0, x4), (0, y0), (9, 0)] [] w Q) ∧ (¬ (y0 < 0) → VW d 71 111 [(2, x0), (0, x1), (0, x2), (0, x3), (0, x4), (0, y0), (9, 0)] [] w Q)) :=
  (VW_b 3 (F := fun n => (if y0 < 0 then vrun n d 71 108 [(2, x0), (0, x1), (0, x2), (0, x3), (0, x4), (0, y0), (9, 0)] [] w else vrun n d 71 111 [(2, x0), (0, x1), (0, x2), (0, x3), (0, x4), (0, y0), (9, 0)] [] w)) (fun _ => rfl)).trans (EX_br.trans (and_congr (imp_congr Iff.rfl Iff.rfl) (imp_congr Iff.rfl Iff.rfl)))
set_option maxRecDepth 100000 in
theorem b71_108 {d : Nat} {w : vW} {x0 x1 x2 x3 x4 x5 : Int} {Q : Int → vW → Prop} : VW d 71 108 [(2, x0), (0, x1), (0, x2), (0, x3), (0, x4), (0, x5), (9, 0)] [] w Q ↔ Q x5 w :=
  (VW_b 2 (F := fun n => some (0, x5, w)) (fun _ => rfl)).trans (EX_ret0)
set_option maxRecDepth 100000 in
theorem b71_111 {d : Nat} {w : vW} {x0 x1 x2 x3 x4 x5 : Int} {Q : Int → vW → Prop} : VW d 71 111 [(2, x0), (0, x1), (0, x2), (0, x3), (0, x4), (0, x5), (9, 0)] [] w Q ↔ (vkd w x0 = 22) ∧ (vkd w x0 = 22) ∧ VW d 71 119 [(2, x0), (0, x1), (0, x2), (0, x3), (0, x4), (0, x5), (9, 0)] [] (vsv w x0 4 (vct w x0 22)) Q :=
  (VW_b 4 (F := fun n => if vkd w x0 = 22 then if vkd w x0 = 22 then vrun n d 71 119 [(2, x0), (0, x1), (0, x2), (0, x3), (0, x4), (0, x5), (9, 0)] [] (vsv w x0 4 (vct w x0 22)) else none else none) (fun _ => rfl)).trans (EX_if.trans (and_congr Iff.rfl (EX_if.trans (and_congr Iff.rfl (Iff.rfl)))))
set_option maxRecDepth 100000 in
theorem b71_119 {d : Nat} {w : vW} {x0 x1 x2 x3 x4 x5 : Int} {Q : Int → vW → Prop} : VW d 71 119 [(2, x0), (0, x1), (0, x2), (0, x3), (0, x4), (0, x5), (9, 0)] [] w Q ↔ VW d 71 122 [(2, x0), (0, x1), (0, x2), (0, x3), (0, x4), (0, x5), (0, 0)] [] w Q :=
  (VW_b 2 (F := fun n => vrun n d 71 122 [(2, x0), (0, x1), (0, x2), (0, x3), (0, x4), (0, x5), (0, 0)] [] w) (fun _ => rfl)).trans (Iff.rfl)
set_option maxRecDepth 100000 in
theorem b71_122 {d : Nat} {w : vW} {x0 x1 x2 x3 x4 x5 x6 : Int} {Q : Int → vW → Prop} : VW d 71 122 [(2, x0), (0, x1), (0, x2), (0, x3), (0, x4), (0, x5), (0, x6)] [] w Q ↔ ((x6 < 8 → VW d 71 129 [(2, x0), (0, x1), (0, x2), (0, x3), (0, x4), (0, x5), (0, x6)] [] w Q) ∧ (¬ (x6 < 8) → VW d 71 149 [(2, x0), (0, x1), (0, x2), (0, x3), (0, x4), (0, x5), (0, x6)] [] w Q)) :=
  (VW_b 3 (F := fun n => (if x6 < 8 then vrun n d 71 129 [(2, x0), (0, x1), (0, x2), (0, x3), (0, x4), (0, x5), (0, x6)] [] w else vrun n d 71 149 [(2, x0), (0, x1), (0, x2), (0, x3), (0, x4), (0, x5), (0, x6)] [] w)) (fun _ => rfl)).trans (EX_br.trans (and_congr (imp_congr Iff.rfl Iff.rfl) (imp_congr Iff.rfl Iff.rfl)))
set_option maxRecDepth 100000 in
theorem b71_129 {d : Nat} {w : vW} {x0 x1 x2 x3 x4 x5 x6 : Int} {Q : Int → vW → Prop} : VW d 71 129 [(2, x0), (0, x1), (0, x2), (0, x3), (0, x4), (0, x5), (0, x6)] [] w Q ↔ (vkd w x0 = 22) ∧ (vkd w x0 = 22) ∧ (vkd w (vct w x0 11) = 1 ∧ (0 : Int) ≤ x6 ∧ x6 < vln w (vct w x0 11)) ∧ (vkd w (vct w x0 10) = 1 ∧ (0 : Int) ≤ x6 ∧ x6 < vln w (vct w x0 10)) ∧ VW d 71 143 [(2, x0), (0, x1), (0, x2), (0, x3), (0, x4), (0, x5), (0, x6)] [] (vsv w (vct w x0 10) x6 (vct w (vct w x0 11) x6)) Q :=
  (VW_b 8 (F := fun n => if vkd w x0 = 22 then if vkd w x0 = 22 then if vkd w (vct w x0 11) = 1 ∧ (0 : Int) ≤ x6 ∧ x6 < vln w (vct w x0 11) then if vkd w (vct w x0 10) = 1 ∧ (0 : Int) ≤ x6 ∧ x6 < vln w (vct w x0 10) then vrun n d 71 143 [(2, x0), (0, x1), (0, x2), (0, x3), (0, x4), (0, x5), (0, x6)] [] (vsv w (vct w x0 10) x6 (vct w (vct w x0 11) x6)) else none else none else none else none) (fun _ => rfl)).trans (EX_if.trans (and_congr Iff.rfl (EX_if.trans (and_congr Iff.rfl (EX_if.trans (and_congr Iff.rfl (EX_if.trans (and_congr Iff.rfl (Iff.rfl)))))))))
set_option maxRecDepth 100000 in
theorem b71_143 {d : Nat} {w : vW} {x0 x1 x2 x3 x4 x5 x6 : Int} {Q : Int → vW → Prop} : VW d 71 143 [(2, x0), (0, x1), (0, x2), (0, x3), (0, x4), (0, x5), (0, x6)] [] w Q ↔ VW d 71 122 [(2, x0), (0, x1), (0, x2), (0, x3), (0, x4), (0, x5), (0, w32 (x6 + 1))] [] w Q :=
  (VW_b 2 (F := fun n => vrun n d 71 122 [(2, x0), (0, x1), (0, x2), (0, x3), (0, x4), (0, x5), (0, w32 (x6 + 1))] [] w) (fun _ => rfl)).trans (Iff.rfl)
set_option maxRecDepth 100000 in
theorem b71_149 {d : Nat} {w : vW} {x0 x1 x2 x3 x4 x5 x6 : Int} {Q : Int → vW → Prop} : VW d 71 149 [(2, x0), (0, x1), (0, x2), (0, x3), (0, x4), (0, x5), (0, x6)] [] w Q ↔ Q x2 w :=
  (VW_b 2 (F := fun n => some (0, x2, w)) (fun _ => rfl)).trans (EX_ret0)
/-! 72: StrikeWhatCancelsModel.says(J)V -/
set_option maxRecDepth 100000 in
theorem b72_0 {d : Nat} {w : vW} {x0 x1 : Int} {Q : Int → vW → Prop} : VW d 72 0 [(2, x0), (1, x1), (9, 0)] [] w Q ↔ (vkd w x0 = 22) ∧ VW d 72 5 [(2, x0), (1, x1), (9, 0)] [] (vsv w x0 13 x1) Q :=
  (VW_b 3 (F := fun n => if vkd w x0 = 22 then vrun n d 72 5 [(2, x0), (1, x1), (9, 0)] [] (vsv w x0 13 x1) else none) (fun _ => rfl)).trans (EX_if.trans (and_congr Iff.rfl (Iff.rfl)))
set_option maxRecDepth 100000 in
theorem b72_5 {d : Nat} {w : vW} {x0 x1 : Int} {Q : Int → vW → Prop} : VW d 72 5 [(2, x0), (1, x1), (9, 0)] [] w Q ↔ (vkd w x0 = 22) ∧ VW d 72 10 [(2, x0), (1, x1), (9, 0)] [] (vsv w x0 14 x1) Q :=
  (VW_b 3 (F := fun n => if vkd w x0 = 22 then vrun n d 72 10 [(2, x0), (1, x1), (9, 0)] [] (vsv w x0 14 x1) else none) (fun _ => rfl)).trans (EX_if.trans (and_congr Iff.rfl (Iff.rfl)))
set_option maxRecDepth 100000 in
theorem b72_10 {d : Nat} {w : vW} {x0 x1 : Int} {Q : Int → vW → Prop} : VW d 72 10 [(2, x0), (1, x1), (9, 0)] [] w Q ↔ (vkd w x0 = 22) ∧ VW d 72 15 [(2, x0), (1, x1), (9, 0)] [] (vsv w x0 15 0) Q :=
  (VW_b 3 (F := fun n => if vkd w x0 = 22 then vrun n d 72 15 [(2, x0), (1, x1), (9, 0)] [] (vsv w x0 15 0) else none) (fun _ => rfl)).trans (EX_if.trans (and_congr Iff.rfl (Iff.rfl)))
set_option maxRecDepth 100000 in
theorem b72_15 {d : Nat} {w : vW} {x0 x1 : Int} {Q : Int → vW → Prop} : VW d 72 15 [(2, x0), (1, x1), (9, 0)] [] w Q ↔ Q 0 w :=
  (VW_b 1 (F := fun n => some (0, 0, w)) (fun _ => rfl)).trans (EX_ret0)
/-! 73: StrikeWhatCancelsModel.speech()I -/
set_option maxRecDepth 100000 in
theorem b73_0 {d : Nat} {w : vW} {x0 : Int} {Q : Int → vW → Prop} : VW d 73 0 [(2, x0), (9, 0), (9, 0), (9, 0), (9, 0)] [] w Q ↔ (vkd w x0 = 22) ∧ VW d 73 5 [(2, x0), (9, 0), (9, 0), (9, 0), (9, 0)] [] (vsv w x0 0 0) Q :=
  (VW_b 3 (F := fun n => if vkd w x0 = 22 then vrun n d 73 5 [(2, x0), (9, 0), (9, 0), (9, 0), (9, 0)] [] (vsv w x0 0 0) else none) (fun _ => rfl)).trans (EX_if.trans (and_congr Iff.rfl (Iff.rfl)))
set_option maxRecDepth 100000 in
theorem b73_5 {d : Nat} {w : vW} {x0 : Int} {Q : Int → vW → Prop} : VW d 73 5 [(2, x0), (9, 0), (9, 0), (9, 0), (9, 0)] [] w Q ↔ (vkd w x0 = 22) ∧ VC d 64 [(2, x0)] w (fun r w1 => VW d 73 9 [(2, x0), (9, 0), (9, 0), (9, 0), (9, 0)] [(0, r)] w1 Q) :=
  (VW_b 2 (F := fun n => if vkd w x0 = 22 then vclr (vrun n) d 73 9 64 1 0 [(2, x0), (9, 0), (9, 0), (9, 0), (9, 0)] [(2, x0)] w else none) (fun _ => rfl)).trans (EX_if.trans (and_congr Iff.rfl (EX_call rfl)))
set_option maxRecDepth 100000 in
theorem b73_9 {d : Nat} {w : vW} {x0 y0 : Int} {Q : Int → vW → Prop} : VW d 73 9 [(2, x0), (9, 0), (9, 0), (9, 0), (9, 0)] [(0, y0)] w Q ↔ (vkd w x0 = 22) ∧ VC d 67 [(2, x0), (0, 14)] w (fun r w1 => VW d 73 16 [(2, x0), (0, y0), (9, 0), (9, 0), (9, 0)] [(1, r)] w1 Q) :=
  (VW_b 4 (F := fun n => if vkd w x0 = 22 then vclr (vrun n) d 73 16 67 2 1 [(2, x0), (0, y0), (9, 0), (9, 0), (9, 0)] [(0, 14), (2, x0)] w else none) (fun _ => rfl)).trans (EX_if.trans (and_congr Iff.rfl (EX_call rfl)))
set_option maxRecDepth 100000 in
theorem b73_16 {d : Nat} {w : vW} {x0 x1 y0 : Int} {Q : Int → vW → Prop} : VW d 73 16 [(2, x0), (0, x1), (9, 0), (9, 0), (9, 0)] [(1, y0)] w Q ↔ (vkd w x0 = 22) ∧ VC d 68 [(2, x0), (0, x1), (0, 1)] w (fun r w1 => VW d 73 23 [(2, x0), (0, x1), (1, y0), (9, 0), (9, 0)] [(0, r)] w1 Q) :=
  (VW_b 5 (F := fun n => if vkd w x0 = 22 then vclr (vrun n) d 73 23 68 3 0 [(2, x0), (0, x1), (1, y0), (9, 0), (9, 0)] [(0, 1), (0, x1), (2, x0)] w else none) (fun _ => rfl)).trans (EX_if.trans (and_congr Iff.rfl (EX_call rfl)))
set_option maxRecDepth 100000 in
theorem b73_23 {d : Nat} {w : vW} {x0 x1 x2 y0 : Int} {Q : Int → vW → Prop} : VW d 73 23 [(2, x0), (0, x1), (1, x2), (9, 0), (9, 0)] [(0, y0)] w Q ↔ ((y0 < 0 → VW d 73 30 [(2, x0), (0, x1), (1, x2), (9, 0), (0, y0)] [] w Q) ∧ (¬ (y0 < 0) → VW d 73 33 [(2, x0), (0, x1), (1, x2), (9, 0), (0, y0)] [] w Q)) :=
  (VW_b 3 (F := fun n => (if y0 < 0 then vrun n d 73 30 [(2, x0), (0, x1), (1, x2), (9, 0), (0, y0)] [] w else vrun n d 73 33 [(2, x0), (0, x1), (1, x2), (9, 0), (0, y0)] [] w)) (fun _ => rfl)).trans (EX_br.trans (and_congr (imp_congr Iff.rfl Iff.rfl) (imp_congr Iff.rfl Iff.rfl)))
set_option maxRecDepth 100000 in
theorem b73_30 {d : Nat} {w : vW} {x0 x1 x2 x4 : Int} {Q : Int → vW → Prop} : VW d 73 30 [(2, x0), (0, x1), (1, x2), (9, 0), (0, x4)] [] w Q ↔ Q x4 w :=
  (VW_b 2 (F := fun n => some (0, x4, w)) (fun _ => rfl)).trans (EX_ret0)
set_option maxRecDepth 100000 in
theorem b73_33 {d : Nat} {w : vW} {x0 x1 x2 x4 : Int} {Q : Int → vW → Prop} : VW d 73 33 [(2, x0), (0, x1), (1, x2), (9, 0), (0, x4)] [] w Q ↔ (vkd w x0 = 22) ∧ VC d 72 [(2, x0), (1, x2)] w (fun _ w1 => VW d 73 38 [(2, x0), (0, x1), (1, x2), (9, 0), (0, x4)] [] w1 Q) :=
  (VW_b 3 (F := fun n => if vkd w x0 = 22 then vclr (vrun n) d 73 38 72 2 9 [(2, x0), (0, x1), (1, x2), (9, 0), (0, x4)] [(1, x2), (2, x0)] w else none) (fun _ => rfl)).trans (EX_if.trans (and_congr Iff.rfl (EX_call rfl)))
set_option maxRecDepth 100000 in
theorem b73_38 {d : Nat} {w : vW} {x0 x1 x2 x4 : Int} {Q : Int → vW → Prop} : VW d 73 38 [(2, x0), (0, x1), (1, x2), (9, 0), (0, x4)] [] w Q ↔ (vkd w x0 = 22) ∧ VC d 60 [(2, x0), (1, x2)] w (fun r w1 => VW d 73 43 [(2, x0), (0, x1), (1, x2), (9, 0), (0, x4)] [(0, r)] w1 Q) :=
  (VW_b 3 (F := fun n => if vkd w x0 = 22 then vclr (vrun n) d 73 43 60 2 0 [(2, x0), (0, x1), (1, x2), (9, 0), (0, x4)] [(1, x2), (2, x0)] w else none) (fun _ => rfl)).trans (EX_if.trans (and_congr Iff.rfl (EX_call rfl)))
set_option maxRecDepth 100000 in
theorem b73_43 {d : Nat} {w : vW} {x0 x1 x2 x4 y0 : Int} {Q : Int → vW → Prop} : VW d 73 43 [(2, x0), (0, x1), (1, x2), (9, 0), (0, x4)] [(0, y0)] w Q ↔ Q y0 w :=
  (VW_b 1 (F := fun n => some (0, y0, w)) (fun _ => rfl)).trans (EX_ret0)
/-! 74: StrikeWhatCancelsModel.speak(J)I -/
set_option maxRecDepth 100000 in
theorem b74_0 {d : Nat} {w : vW} {x0 x1 : Int} {Q : Int → vW → Prop} : VW d 74 0 [(2, x0), (1, x1), (9, 0)] [] w Q ↔ (vkd w x0 = 22) ∧ VW d 74 5 [(2, x0), (1, x1), (9, 0)] [] (vsv w x0 0 0) Q :=
  (VW_b 3 (F := fun n => if vkd w x0 = 22 then vrun n d 74 5 [(2, x0), (1, x1), (9, 0)] [] (vsv w x0 0 0) else none) (fun _ => rfl)).trans (EX_if.trans (and_congr Iff.rfl (Iff.rfl)))
set_option maxRecDepth 100000 in
theorem b74_5 {d : Nat} {w : vW} {x0 x1 : Int} {Q : Int → vW → Prop} : VW d 74 5 [(2, x0), (1, x1), (9, 0)] [] w Q ↔ (vkd w x0 = 22) ∧ VC d 61 [(2, x0), (1, x1)] w (fun r w1 => VW d 74 10 [(2, x0), (1, x1), (9, 0)] [(0, r)] w1 Q) :=
  (VW_b 3 (F := fun n => if vkd w x0 = 22 then vclr (vrun n) d 74 10 61 2 0 [(2, x0), (1, x1), (9, 0)] [(1, x1), (2, x0)] w else none) (fun _ => rfl)).trans (EX_if.trans (and_congr Iff.rfl (EX_call rfl)))
set_option maxRecDepth 100000 in
theorem b74_10 {d : Nat} {w : vW} {x0 x1 y0 : Int} {Q : Int → vW → Prop} : VW d 74 10 [(2, x0), (1, x1), (9, 0)] [(0, y0)] w Q ↔ ((y0 = 0 → VW d 74 13 [(2, x0), (1, x1), (9, 0)] [] w Q) ∧ (¬ (y0 = 0) → VW d 74 15 [(2, x0), (1, x1), (9, 0)] [] w Q)) :=
  (VW_b 1 (F := fun n => (if y0 = 0 then vrun n d 74 13 [(2, x0), (1, x1), (9, 0)] [] w else vrun n d 74 15 [(2, x0), (1, x1), (9, 0)] [] w)) (fun _ => rfl)).trans (EX_br.trans (and_congr (imp_congr Iff.rfl Iff.rfl) (imp_congr Iff.rfl Iff.rfl)))
set_option maxRecDepth 100000 in
theorem b74_13 {d : Nat} {w : vW} {x0 x1 : Int} {Q : Int → vW → Prop} : VW d 74 13 [(2, x0), (1, x1), (9, 0)] [] w Q ↔ Q (-1) w :=
  (VW_b 2 (F := fun n => some (0, (-1), w)) (fun _ => rfl)).trans (EX_ret0)
set_option maxRecDepth 100000 in
theorem b74_15 {d : Nat} {w : vW} {x0 x1 : Int} {Q : Int → vW → Prop} : VW d 74 15 [(2, x0), (1, x1), (9, 0)] [] w Q ↔ (vkd w x0 = 22) ∧ VC d 72 [(2, x0), (1, x1)] w (fun _ w1 => VW d 74 20 [(2, x0), (1, x1), (9, 0)] [] w1 Q) :=
  (VW_b 3 (F := fun n => if vkd w x0 = 22 then vclr (vrun n) d 74 20 72 2 9 [(2, x0), (1, x1), (9, 0)] [(1, x1), (2, x0)] w else none) (fun _ => rfl)).trans (EX_if.trans (and_congr Iff.rfl (EX_call rfl)))
set_option maxRecDepth 100000 in
theorem b74_20 {d : Nat} {w : vW} {x0 x1 : Int} {Q : Int → vW → Prop} : VW d 74 20 [(2, x0), (1, x1), (9, 0)] [] w Q ↔ (vkd w x0 = 22) ∧ VC d 60 [(2, x0), (1, x1)] w (fun r w1 => VW d 74 25 [(2, x0), (1, x1), (9, 0)] [(0, r)] w1 Q) :=
  (VW_b 3 (F := fun n => if vkd w x0 = 22 then vclr (vrun n) d 74 25 60 2 0 [(2, x0), (1, x1), (9, 0)] [(1, x1), (2, x0)] w else none) (fun _ => rfl)).trans (EX_if.trans (and_congr Iff.rfl (EX_call rfl)))
set_option maxRecDepth 100000 in
theorem b74_25 {d : Nat} {w : vW} {x0 x1 y0 : Int} {Q : Int → vW → Prop} : VW d 74 25 [(2, x0), (1, x1), (9, 0)] [(0, y0)] w Q ↔ Q y0 w :=
  (VW_b 1 (F := fun n => some (0, y0, w)) (fun _ => rfl)).trans (EX_ret0)
/-! 75: StrikeWhatCancelsModel.weighs(J)I -/
set_option maxRecDepth 100000 in
theorem b75_0 {d : Nat} {w : vW} {x0 x1 : Int} {Q : Int → vW → Prop} : VW d 75 0 [(2, x0), (1, x1), (9, 0), (9, 0), (9, 0), (9, 0)] [] w Q ↔ VW d 75 5 [(2, x0), (1, x1), (9, 0), (0, 0), (1, x1), (9, 0)] [] w Q :=
  (VW_b 4 (F := fun n => vrun n d 75 5 [(2, x0), (1, x1), (9, 0), (0, 0), (1, x1), (9, 0)] [] w) (fun _ => rfl)).trans (Iff.rfl)
set_option maxRecDepth 100000 in
theorem b75_5 {d : Nat} {w : vW} {x0 x1 x3 x4 : Int} {Q : Int → vW → Prop} : VW d 75 5 [(2, x0), (1, x1), (9, 0), (0, x3), (1, x4), (9, 0)] [] w Q ↔ ((0 < (vlc x4 0) → VW d 75 12 [(2, x0), (1, x1), (9, 0), (0, x3), (1, x4), (9, 0)] [] w Q) ∧ (¬ (0 < (vlc x4 0)) → VW d 75 40 [(2, x0), (1, x1), (9, 0), (0, x3), (1, x4), (9, 0)] [] w Q)) :=
  (VW_b 4 (F := fun n => (if 0 < (vlc x4 0) then vrun n d 75 12 [(2, x0), (1, x1), (9, 0), (0, x3), (1, x4), (9, 0)] [] w else vrun n d 75 40 [(2, x0), (1, x1), (9, 0), (0, x3), (1, x4), (9, 0)] [] w)) (fun _ => rfl)).trans (EX_br.trans (and_congr (imp_congr Iff.rfl Iff.rfl) (imp_congr Iff.rfl Iff.rfl)))
set_option maxRecDepth 100000 in
theorem b75_12 {d : Nat} {w : vW} {x0 x1 x3 x4 : Int} {Q : Int → vW → Prop} : VW d 75 12 [(2, x0), (1, x1), (9, 0), (0, x3), (1, x4), (9, 0)] [] w Q ↔ (vkd w x0 = 22) ∧ (vkd w (vct w x0 10) = 1 ∧ (0 : Int) ≤ (w32 ((w32 (Int.tmod x4 9)) - 1)) ∧ (w32 ((w32 (Int.tmod x4 9)) - 1)) < vln w (vct w x0 10)) ∧ VW d 75 5 [(2, x0), (1, x1), (9, 0), (0, w32 (x3 + (vct w (vct w x0 10) (w32 ((w32 (Int.tmod x4 9)) - 1))))), (1, w64 (Int.tdiv x4 9)), (9, 0)] [] w Q :=
  (VW_b 17 (F := fun n => if vkd w x0 = 22 then if vkd w (vct w x0 10) = 1 ∧ (0 : Int) ≤ (w32 ((w32 (Int.tmod x4 9)) - 1)) ∧ (w32 ((w32 (Int.tmod x4 9)) - 1)) < vln w (vct w x0 10) then vrun n d 75 5 [(2, x0), (1, x1), (9, 0), (0, w32 (x3 + (vct w (vct w x0 10) (w32 ((w32 (Int.tmod x4 9)) - 1))))), (1, w64 (Int.tdiv x4 9)), (9, 0)] [] w else none else none) (fun _ => rfl)).trans (EX_if.trans (and_congr Iff.rfl (EX_if.trans (and_congr Iff.rfl (Iff.rfl)))))
set_option maxRecDepth 100000 in
theorem b75_40 {d : Nat} {w : vW} {x0 x1 x3 x4 : Int} {Q : Int → vW → Prop} : VW d 75 40 [(2, x0), (1, x1), (9, 0), (0, x3), (1, x4), (9, 0)] [] w Q ↔ Q x3 w :=
  (VW_b 2 (F := fun n => some (0, x3, w)) (fun _ => rfl)).trans (EX_ret0)
/-! 76: StrikeWhatCancelsModel.rule(II)J -/
set_option maxRecDepth 100000 in
theorem b76_0 {d : Nat} {w : vW} {x0 x1 x2 : Int} {Q : Int → vW → Prop} : VW d 76 0 [(2, x0), (0, x1), (0, x2)] [] w Q ↔ (vkd w x0 = 22) ∧ VW d 76 5 [(2, x0), (0, x1), (0, x2)] [] (vsv w x0 0 0) Q :=
  (VW_b 3 (F := fun n => if vkd w x0 = 22 then vrun n d 76 5 [(2, x0), (0, x1), (0, x2)] [] (vsv w x0 0 0) else none) (fun _ => rfl)).trans (EX_if.trans (and_congr Iff.rfl (Iff.rfl)))
set_option maxRecDepth 100000 in
theorem b76_5 {d : Nat} {w : vW} {x0 x1 x2 : Int} {Q : Int → vW → Prop} : VW d 76 5 [(2, x0), (0, x1), (0, x2)] [] w Q ↔ (vkd w x0 = 22) ∧ VC d 56 [(1, x1), (1, 0), (1, (w32 ((vct w x0 4) - 1)))] w (fun r w1 => VW d 76 18 [(2, x0), (0, x1), (0, x2)] [(0, r)] w1 Q) :=
  (VW_b 9 (F := fun n => if vkd w x0 = 22 then vclr (vrun n) d 76 18 56 3 0 [(2, x0), (0, x1), (0, x2)] [(1, (w32 ((vct w x0 4) - 1))), (1, 0), (1, x1)] w else none) (fun _ => rfl)).trans (EX_if.trans (and_congr Iff.rfl (EX_call rfl)))
set_option maxRecDepth 100000 in
theorem b76_18 {d : Nat} {w : vW} {x0 x1 x2 y0 : Int} {Q : Int → vW → Prop} : VW d 76 18 [(2, x0), (0, x1), (0, x2)] [(0, y0)] w Q ↔ ((y0 = 0 → VW d 76 33 [(2, x0), (0, x1), (0, x2)] [] w Q) ∧ (¬ (y0 = 0) → VW d 76 21 [(2, x0), (0, x1), (0, x2)] [] w Q)) :=
  (VW_b 1 (F := fun n => (if y0 = 0 then vrun n d 76 33 [(2, x0), (0, x1), (0, x2)] [] w else vrun n d 76 21 [(2, x0), (0, x1), (0, x2)] [] w)) (fun _ => rfl)).trans (EX_br.trans (and_congr (imp_congr Iff.rfl Iff.rfl) (imp_congr Iff.rfl Iff.rfl)))
set_option maxRecDepth 100000 in
theorem b76_21 {d : Nat} {w : vW} {x0 x1 x2 : Int} {Q : Int → vW → Prop} : VW d 76 21 [(2, x0), (0, x1), (0, x2)] [] w Q ↔ VC d 56 [(1, x2), (1, 0), (1, 2)] w (fun r w1 => VW d 76 30 [(2, x0), (0, x1), (0, x2)] [(0, r)] w1 Q) :=
  (VW_b 5 (F := fun n => vclr (vrun n) d 76 30 56 3 0 [(2, x0), (0, x1), (0, x2)] [(1, 2), (1, 0), (1, x2)] w) (fun _ => rfl)).trans (EX_call rfl)
set_option maxRecDepth 100000 in
theorem b76_30 {d : Nat} {w : vW} {x0 x1 x2 y0 : Int} {Q : Int → vW → Prop} : VW d 76 30 [(2, x0), (0, x1), (0, x2)] [(0, y0)] w Q ↔ ((y0 = 0 → VW d 76 33 [(2, x0), (0, x1), (0, x2)] [] w Q) ∧ (¬ (y0 = 0) → VW d 76 38 [(2, x0), (0, x1), (0, x2)] [] w Q)) :=
  (VW_b 1 (F := fun n => (if y0 = 0 then vrun n d 76 33 [(2, x0), (0, x1), (0, x2)] [] w else vrun n d 76 38 [(2, x0), (0, x1), (0, x2)] [] w)) (fun _ => rfl)).trans (EX_br.trans (and_congr (imp_congr Iff.rfl Iff.rfl) (imp_congr Iff.rfl Iff.rfl)))
set_option maxRecDepth 100000 in
theorem b76_33 {d : Nat} {w : vW} {x0 x1 x2 : Int} {Q : Int → vW → Prop} : VW d 76 33 [(2, x0), (0, x1), (0, x2)] [] w Q ↔ (vkd w x0 = 22) ∧ VC d 55 [(2, x0)] w (fun r w1 => VW d 76 37 [(2, x0), (0, x1), (0, x2)] [(1, r)] w1 Q) :=
  (VW_b 2 (F := fun n => if vkd w x0 = 22 then vclr (vrun n) d 76 37 55 1 1 [(2, x0), (0, x1), (0, x2)] [(2, x0)] w else none) (fun _ => rfl)).trans (EX_if.trans (and_congr Iff.rfl (EX_call rfl)))
set_option maxRecDepth 100000 in
theorem b76_37 {d : Nat} {w : vW} {x0 x1 x2 y0 : Int} {Q : Int → vW → Prop} : VW d 76 37 [(2, x0), (0, x1), (0, x2)] [(1, y0)] w Q ↔ Q y0 w :=
  (VW_b 1 (F := fun n => some (0, y0, w)) (fun _ => rfl)).trans (EX_ret0)
set_option maxRecDepth 100000 in
theorem b76_38 {d : Nat} {w : vW} {x0 x1 x2 : Int} {Q : Int → vW → Prop} : VW d 76 38 [(2, x0), (0, x1), (0, x2)] [] w Q ↔ ((x2 = 0 → VW d 76 42 [(2, x0), (0, x1), (0, x2)] [] w Q) ∧ (¬ (x2 = 0) → VW d 76 51 [(2, x0), (0, x1), (0, x2)] [] w Q)) :=
  (VW_b 2 (F := fun n => (if x2 = 0 then vrun n d 76 42 [(2, x0), (0, x1), (0, x2)] [] w else vrun n d 76 51 [(2, x0), (0, x1), (0, x2)] [] w)) (fun _ => rfl)).trans (EX_br.trans (and_congr (imp_congr Iff.rfl Iff.rfl) (imp_congr Iff.rfl Iff.rfl)))
set_option maxRecDepth 100000 in
theorem b76_42 {d : Nat} {w : vW} {x0 x1 x2 : Int} {Q : Int → vW → Prop} : VW d 76 42 [(2, x0), (0, x1), (0, x2)] [] w Q ↔ (vkd w x0 = 22) ∧ (vkd w (vct w x0 6) = 2 ∧ (0 : Int) ≤ x1 ∧ x1 < vln w (vct w x0 6)) ∧ VW d 76 87 [(2, x0), (0, x1), (0, x2)] [(1, vct w (vct w x0 6) x1)] w Q :=
  (VW_b 5 (F := fun n => if vkd w x0 = 22 then if vkd w (vct w x0 6) = 2 ∧ (0 : Int) ≤ x1 ∧ x1 < vln w (vct w x0 6) then vrun n d 76 87 [(2, x0), (0, x1), (0, x2)] [(1, vct w (vct w x0 6) x1)] w else none else none) (fun _ => rfl)).trans (EX_if.trans (and_congr Iff.rfl (EX_if.trans (and_congr Iff.rfl (Iff.rfl)))))
set_option maxRecDepth 100000 in
theorem b76_51 {d : Nat} {w : vW} {x0 x1 x2 : Int} {Q : Int → vW → Prop} : VW d 76 51 [(2, x0), (0, x1), (0, x2)] [] w Q ↔ ((x2 = 1 → VW d 76 56 [(2, x0), (0, x1), (0, x2)] [] w Q) ∧ (¬ (x2 = 1) → VW d 76 65 [(2, x0), (0, x1), (0, x2)] [] w Q)) :=
  (VW_b 3 (F := fun n => (if x2 = 1 then vrun n d 76 56 [(2, x0), (0, x1), (0, x2)] [] w else vrun n d 76 65 [(2, x0), (0, x1), (0, x2)] [] w)) (fun _ => rfl)).trans (EX_br.trans (and_congr (imp_congr Iff.rfl Iff.rfl) (imp_congr Iff.rfl Iff.rfl)))
set_option maxRecDepth 100000 in
theorem b76_56 {d : Nat} {w : vW} {x0 x1 x2 : Int} {Q : Int → vW → Prop} : VW d 76 56 [(2, x0), (0, x1), (0, x2)] [] w Q ↔ (vkd w x0 = 22) ∧ (vkd w (vct w x0 7) = 2 ∧ (0 : Int) ≤ x1 ∧ x1 < vln w (vct w x0 7)) ∧ VW d 76 87 [(2, x0), (0, x1), (0, x2)] [(1, vct w (vct w x0 7) x1)] w Q :=
  (VW_b 5 (F := fun n => if vkd w x0 = 22 then if vkd w (vct w x0 7) = 2 ∧ (0 : Int) ≤ x1 ∧ x1 < vln w (vct w x0 7) then vrun n d 76 87 [(2, x0), (0, x1), (0, x2)] [(1, vct w (vct w x0 7) x1)] w else none else none) (fun _ => rfl)).trans (EX_if.trans (and_congr Iff.rfl (EX_if.trans (and_congr Iff.rfl (Iff.rfl)))))
set_option maxRecDepth 100000 in
theorem b76_65 {d : Nat} {w : vW} {x0 x1 x2 : Int} {Q : Int → vW → Prop} : VW d 76 65 [(2, x0), (0, x1), (0, x2)] [] w Q ↔ (vkd w x0 = 22) ∧ (vkd w (vct w x0 6) = 2 ∧ (0 : Int) ≤ x1 ∧ x1 < vln w (vct w x0 6)) ∧ (vkd w x0 = 22) ∧ VC d 75 [(2, x0), (1, vct w (vct w x0 6) x1)] w (fun r w1 => VW d 76 75 [(2, x0), (0, x1), (0, x2)] [(0, r)] w1 Q) :=
  (VW_b 6 (F := fun n => if vkd w x0 = 22 then if vkd w (vct w x0 6) = 2 ∧ (0 : Int) ≤ x1 ∧ x1 < vln w (vct w x0 6) then if vkd w x0 = 22 then vclr (vrun n) d 76 75 75 2 0 [(2, x0), (0, x1), (0, x2)] [(1, vct w (vct w x0 6) x1), (2, x0)] w else none else none else none) (fun _ => rfl)).trans (EX_if.trans (and_congr Iff.rfl (EX_if.trans (and_congr Iff.rfl (EX_if.trans (and_congr Iff.rfl (EX_call rfl)))))))
set_option maxRecDepth 100000 in
theorem b76_75 {d : Nat} {w : vW} {x0 x1 x2 y0 : Int} {Q : Int → vW → Prop} : VW d 76 75 [(2, x0), (0, x1), (0, x2)] [(0, y0)] w Q ↔ (vkd w x0 = 22) ∧ (vkd w (vct w x0 7) = 2 ∧ (0 : Int) ≤ x1 ∧ x1 < vln w (vct w x0 7)) ∧ (vkd w x0 = 22) ∧ VC d 75 [(2, x0), (1, vct w (vct w x0 7) x1)] w (fun r w1 => VW d 76 85 [(2, x0), (0, x1), (0, x2)] [(0, r), (0, y0)] w1 Q) :=
  (VW_b 6 (F := fun n => if vkd w x0 = 22 then if vkd w (vct w x0 7) = 2 ∧ (0 : Int) ≤ x1 ∧ x1 < vln w (vct w x0 7) then if vkd w x0 = 22 then vclr (vrun n) d 76 85 75 2 0 [(2, x0), (0, x1), (0, x2)] [(1, vct w (vct w x0 7) x1), (2, x0), (0, y0)] w else none else none else none) (fun _ => rfl)).trans (EX_if.trans (and_congr Iff.rfl (EX_if.trans (and_congr Iff.rfl (EX_if.trans (and_congr Iff.rfl (EX_call rfl)))))))
set_option maxRecDepth 100000 in
theorem b76_85 {d : Nat} {w : vW} {x0 x1 x2 y0 y1 : Int} {Q : Int → vW → Prop} : VW d 76 85 [(2, x0), (0, x1), (0, x2)] [(0, y1), (0, y0)] w Q ↔ VW d 76 87 [(2, x0), (0, x1), (0, x2)] [(1, (w32 (y0 - y1)))] w Q :=
  (VW_b 2 (F := fun n => vrun n d 76 87 [(2, x0), (0, x1), (0, x2)] [(1, (w32 (y0 - y1)))] w) (fun _ => rfl)).trans (Iff.rfl)
set_option maxRecDepth 100000 in
theorem b76_87 {d : Nat} {w : vW} {x0 x1 x2 y0 : Int} {Q : Int → vW → Prop} : VW d 76 87 [(2, x0), (0, x1), (0, x2)] [(1, y0)] w Q ↔ Q y0 w :=
  (VW_b 1 (F := fun n => some (0, y0, w)) (fun _ => rfl)).trans (EX_ret0)
/-! 77: StrikeWhatCancelsModel.weigh(II)I -/
set_option maxRecDepth 100000 in
theorem b77_0 {d : Nat} {w : vW} {x0 x1 x2 : Int} {Q : Int → vW → Prop} : VW d 77 0 [(2, x0), (0, x1), (0, x2), (9, 0)] [] w Q ↔ (vkd w x0 = 22) ∧ VW d 77 5 [(2, x0), (0, x1), (0, x2), (9, 0)] [] (vsv w x0 0 0) Q :=
  (VW_b 3 (F := fun n => if vkd w x0 = 22 then vrun n d 77 5 [(2, x0), (0, x1), (0, x2), (9, 0)] [] (vsv w x0 0 0) else none) (fun _ => rfl)).trans (EX_if.trans (and_congr Iff.rfl (Iff.rfl)))
set_option maxRecDepth 100000 in
theorem b77_5 {d : Nat} {w : vW} {x0 x1 x2 : Int} {Q : Int → vW → Prop} : VW d 77 5 [(2, x0), (0, x1), (0, x2), (9, 0)] [] w Q ↔ VC d 56 [(1, x1), (1, 0), (1, 7)] w (fun r w1 => VW d 77 14 [(2, x0), (0, x1), (0, x2), (9, 0)] [(0, r)] w1 Q) :=
  (VW_b 5 (F := fun n => vclr (vrun n) d 77 14 56 3 0 [(2, x0), (0, x1), (0, x2), (9, 0)] [(1, 7), (1, 0), (1, x1)] w) (fun _ => rfl)).trans (EX_call rfl)
set_option maxRecDepth 100000 in
theorem b77_14 {d : Nat} {w : vW} {x0 x1 x2 y0 : Int} {Q : Int → vW → Prop} : VW d 77 14 [(2, x0), (0, x1), (0, x2), (9, 0)] [(0, y0)] w Q ↔ ((y0 = 0 → VW d 77 29 [(2, x0), (0, x1), (0, x2), (9, 0)] [] w Q) ∧ (¬ (y0 = 0) → VW d 77 17 [(2, x0), (0, x1), (0, x2), (9, 0)] [] w Q)) :=
  (VW_b 1 (F := fun n => (if y0 = 0 then vrun n d 77 29 [(2, x0), (0, x1), (0, x2), (9, 0)] [] w else vrun n d 77 17 [(2, x0), (0, x1), (0, x2), (9, 0)] [] w)) (fun _ => rfl)).trans (EX_br.trans (and_congr (imp_congr Iff.rfl Iff.rfl) (imp_congr Iff.rfl Iff.rfl)))
set_option maxRecDepth 100000 in
theorem b77_17 {d : Nat} {w : vW} {x0 x1 x2 : Int} {Q : Int → vW → Prop} : VW d 77 17 [(2, x0), (0, x1), (0, x2), (9, 0)] [] w Q ↔ VC d 56 [(1, x2), (1, 1), (1, 9)] w (fun r w1 => VW d 77 26 [(2, x0), (0, x1), (0, x2), (9, 0)] [(0, r)] w1 Q) :=
  (VW_b 5 (F := fun n => vclr (vrun n) d 77 26 56 3 0 [(2, x0), (0, x1), (0, x2), (9, 0)] [(1, 9), (1, 1), (1, x2)] w) (fun _ => rfl)).trans (EX_call rfl)
set_option maxRecDepth 100000 in
theorem b77_26 {d : Nat} {w : vW} {x0 x1 x2 y0 : Int} {Q : Int → vW → Prop} : VW d 77 26 [(2, x0), (0, x1), (0, x2), (9, 0)] [(0, y0)] w Q ↔ ((y0 = 0 → VW d 77 29 [(2, x0), (0, x1), (0, x2), (9, 0)] [] w Q) ∧ (¬ (y0 = 0) → VW d 77 31 [(2, x0), (0, x1), (0, x2), (9, 0)] [] w Q)) :=
  (VW_b 1 (F := fun n => (if y0 = 0 then vrun n d 77 29 [(2, x0), (0, x1), (0, x2), (9, 0)] [] w else vrun n d 77 31 [(2, x0), (0, x1), (0, x2), (9, 0)] [] w)) (fun _ => rfl)).trans (EX_br.trans (and_congr (imp_congr Iff.rfl Iff.rfl) (imp_congr Iff.rfl Iff.rfl)))
set_option maxRecDepth 100000 in
theorem b77_29 {d : Nat} {w : vW} {x0 x1 x2 : Int} {Q : Int → vW → Prop} : VW d 77 29 [(2, x0), (0, x1), (0, x2), (9, 0)] [] w Q ↔ Q (-1) w :=
  (VW_b 2 (F := fun n => some (0, (-1), w)) (fun _ => rfl)).trans (EX_ret0)
set_option maxRecDepth 100000 in
theorem b77_31 {d : Nat} {w : vW} {x0 x1 x2 : Int} {Q : Int → vW → Prop} : VW d 77 31 [(2, x0), (0, x1), (0, x2), (9, 0)] [] w Q ↔ (vkd w x0 = 22) ∧ (vkd w (vct w x0 10) = 1 ∧ (0 : Int) ≤ x1 ∧ x1 < vln w (vct w x0 10)) ∧ (vkd w x0 = 22) ∧ (vkd w (vct w x0 10) = 1 ∧ (0 : Int) ≤ x1 ∧ x1 < vln w (vct w x0 10)) ∧ VW d 77 45 [(2, x0), (0, x1), (0, x2), (0, vct w (vct w x0 10) x1)] [] (vsv w (vct w x0 10) x1 x2) Q :=
  (VW_b 10 (F := fun n => if vkd w x0 = 22 then if vkd w (vct w x0 10) = 1 ∧ (0 : Int) ≤ x1 ∧ x1 < vln w (vct w x0 10) then if vkd w x0 = 22 then if vkd w (vct w x0 10) = 1 ∧ (0 : Int) ≤ x1 ∧ x1 < vln w (vct w x0 10) then vrun n d 77 45 [(2, x0), (0, x1), (0, x2), (0, vct w (vct w x0 10) x1)] [] (vsv w (vct w x0 10) x1 x2) else none else none else none else none) (fun _ => rfl)).trans (EX_if.trans (and_congr Iff.rfl (EX_if.trans (and_congr Iff.rfl (EX_if.trans (and_congr Iff.rfl (EX_if.trans (and_congr Iff.rfl (Iff.rfl)))))))))
set_option maxRecDepth 100000 in
theorem b77_45 {d : Nat} {w : vW} {x0 x1 x2 x3 : Int} {Q : Int → vW → Prop} : VW d 77 45 [(2, x0), (0, x1), (0, x2), (0, x3)] [] w Q ↔ Q x3 w :=
  (VW_b 2 (F := fun n => some (0, x3, w)) (fun _ => rfl)).trans (EX_ret0)
/-! 78: StrikeWhatCancelsModel.sheet(IIII)I -/
set_option maxRecDepth 100000 in
theorem b78_0 {d : Nat} {w : vW} {x0 x1 x2 x3 x4 : Int} {Q : Int → vW → Prop} : VW d 78 0 [(2, x0), (0, x1), (0, x2), (0, x3), (0, x4), (9, 0), (9, 0), (9, 0), (9, 0)] [] w Q ↔ (vkd w x0 = 22) ∧ VW d 78 5 [(2, x0), (0, x1), (0, x2), (0, x3), (0, x4), (9, 0), (9, 0), (9, 0), (9, 0)] [] (vsv w x0 0 0) Q :=
  (VW_b 3 (F := fun n => if vkd w x0 = 22 then vrun n d 78 5 [(2, x0), (0, x1), (0, x2), (0, x3), (0, x4), (9, 0), (9, 0), (9, 0), (9, 0)] [] (vsv w x0 0 0) else none) (fun _ => rfl)).trans (EX_if.trans (and_congr Iff.rfl (Iff.rfl)))
set_option maxRecDepth 100000 in
theorem b78_5 {d : Nat} {w : vW} {x0 x1 x2 x3 x4 : Int} {Q : Int → vW → Prop} : VW d 78 5 [(2, x0), (0, x1), (0, x2), (0, x3), (0, x4), (9, 0), (9, 0), (9, 0), (9, 0)] [] w Q ↔ VC d 56 [(1, x1), (1, 0), (1, 3)] w (fun r w1 => VW d 78 14 [(2, x0), (0, x1), (0, x2), (0, x3), (0, x4), (9, 0), (9, 0), (9, 0), (9, 0)] [(0, r)] w1 Q) :=
  (VW_b 5 (F := fun n => vclr (vrun n) d 78 14 56 3 0 [(2, x0), (0, x1), (0, x2), (0, x3), (0, x4), (9, 0), (9, 0), (9, 0), (9, 0)] [(1, 3), (1, 0), (1, x1)] w) (fun _ => rfl)).trans (EX_call rfl)
set_option maxRecDepth 100000 in
theorem b78_14 {d : Nat} {w : vW} {x0 x1 x2 x3 x4 y0 : Int} {Q : Int → vW → Prop} : VW d 78 14 [(2, x0), (0, x1), (0, x2), (0, x3), (0, x4), (9, 0), (9, 0), (9, 0), (9, 0)] [(0, y0)] w Q ↔ ((y0 = 0 → VW d 78 23 [(2, x0), (0, x1), (0, x2), (0, x3), (0, x4), (9, 0), (9, 0), (9, 0), (9, 0)] [] w Q) ∧ (¬ (y0 = 0) → VW d 78 17 [(2, x0), (0, x1), (0, x2), (0, x3), (0, x4), (9, 0), (9, 0), (9, 0), (9, 0)] [] w Q)) :=
  (VW_b 1 (F := fun n => (if y0 = 0 then vrun n d 78 23 [(2, x0), (0, x1), (0, x2), (0, x3), (0, x4), (9, 0), (9, 0), (9, 0), (9, 0)] [] w else vrun n d 78 17 [(2, x0), (0, x1), (0, x2), (0, x3), (0, x4), (9, 0), (9, 0), (9, 0), (9, 0)] [] w)) (fun _ => rfl)).trans (EX_br.trans (and_congr (imp_congr Iff.rfl Iff.rfl) (imp_congr Iff.rfl Iff.rfl)))
set_option maxRecDepth 100000 in
theorem b78_17 {d : Nat} {w : vW} {x0 x1 x2 x3 x4 : Int} {Q : Int → vW → Prop} : VW d 78 17 [(2, x0), (0, x1), (0, x2), (0, x3), (0, x4), (9, 0), (9, 0), (9, 0), (9, 0)] [] w Q ↔ ((8 < x2 → VW d 78 23 [(2, x0), (0, x1), (0, x2), (0, x3), (0, x4), (9, 0), (9, 0), (9, 0), (9, 0)] [] w Q) ∧ (¬ (8 < x2) → VW d 78 25 [(2, x0), (0, x1), (0, x2), (0, x3), (0, x4), (9, 0), (9, 0), (9, 0), (9, 0)] [] w Q)) :=
  (VW_b 3 (F := fun n => (if 8 < x2 then vrun n d 78 23 [(2, x0), (0, x1), (0, x2), (0, x3), (0, x4), (9, 0), (9, 0), (9, 0), (9, 0)] [] w else vrun n d 78 25 [(2, x0), (0, x1), (0, x2), (0, x3), (0, x4), (9, 0), (9, 0), (9, 0), (9, 0)] [] w)) (fun _ => rfl)).trans (EX_br.trans (and_congr (imp_congr Iff.rfl Iff.rfl) (imp_congr Iff.rfl Iff.rfl)))
set_option maxRecDepth 100000 in
theorem b78_23 {d : Nat} {w : vW} {x0 x1 x2 x3 x4 : Int} {Q : Int → vW → Prop} : VW d 78 23 [(2, x0), (0, x1), (0, x2), (0, x3), (0, x4), (9, 0), (9, 0), (9, 0), (9, 0)] [] w Q ↔ Q (-1) w :=
  (VW_b 2 (F := fun n => some (0, (-1), w)) (fun _ => rfl)).trans (EX_ret0)
set_option maxRecDepth 100000 in
theorem b78_25 {d : Nat} {w : vW} {x0 x1 x2 x3 x4 : Int} {Q : Int → vW → Prop} : VW d 78 25 [(2, x0), (0, x1), (0, x2), (0, x3), (0, x4), (9, 0), (9, 0), (9, 0), (9, 0)] [] w Q ↔ ((x1 = 3 → VW d 78 37 [(2, x0), (0, x1), (0, x2), (0, x3), (0, x4), (9, 0), (9, 0), (9, 0), (9, 0)] [] w Q) ∧ (¬ (x1 = 3) → VW d 78 30 [(2, x0), (0, x1), (0, x2), (0, x3), (0, x4), (9, 0), (9, 0), (9, 0), (9, 0)] [] w Q)) :=
  (VW_b 3 (F := fun n => (if x1 = 3 then vrun n d 78 37 [(2, x0), (0, x1), (0, x2), (0, x3), (0, x4), (9, 0), (9, 0), (9, 0), (9, 0)] [] w else vrun n d 78 30 [(2, x0), (0, x1), (0, x2), (0, x3), (0, x4), (9, 0), (9, 0), (9, 0), (9, 0)] [] w)) (fun _ => rfl)).trans (EX_br.trans (and_congr (imp_congr Iff.rfl Iff.rfl) (imp_congr Iff.rfl Iff.rfl)))
set_option maxRecDepth 100000 in
theorem b78_30 {d : Nat} {w : vW} {x0 x1 x2 x3 x4 : Int} {Q : Int → vW → Prop} : VW d 78 30 [(2, x0), (0, x1), (0, x2), (0, x3), (0, x4), (9, 0), (9, 0), (9, 0), (9, 0)] [] w Q ↔ ((x2 < 0 → VW d 78 34 [(2, x0), (0, x1), (0, x2), (0, x3), (0, x4), (9, 0), (9, 0), (9, 0), (9, 0)] [] w Q) ∧ (¬ (x2 < 0) → VW d 78 37 [(2, x0), (0, x1), (0, x2), (0, x3), (0, x4), (9, 0), (9, 0), (9, 0), (9, 0)] [] w Q)) :=
  (VW_b 2 (F := fun n => (if x2 < 0 then vrun n d 78 34 [(2, x0), (0, x1), (0, x2), (0, x3), (0, x4), (9, 0), (9, 0), (9, 0), (9, 0)] [] w else vrun n d 78 37 [(2, x0), (0, x1), (0, x2), (0, x3), (0, x4), (9, 0), (9, 0), (9, 0), (9, 0)] [] w)) (fun _ => rfl)).trans (EX_br.trans (and_congr (imp_congr Iff.rfl Iff.rfl) (imp_congr Iff.rfl Iff.rfl)))
set_option maxRecDepth 100000 in
theorem b78_34 {d : Nat} {w : vW} {x0 x1 x2 x3 x4 : Int} {Q : Int → vW → Prop} : VW d 78 34 [(2, x0), (0, x1), (0, x2), (0, x3), (0, x4), (9, 0), (9, 0), (9, 0), (9, 0)] [] w Q ↔ Q (-2) w :=
  (VW_b 2 (F := fun n => some (0, (-2), w)) (fun _ => rfl)).trans (EX_ret0)
set_option maxRecDepth 100000 in
theorem b78_37 {d : Nat} {w : vW} {x0 x1 x2 x3 x4 : Int} {Q : Int → vW → Prop} : VW d 78 37 [(2, x0), (0, x1), (0, x2), (0, x3), (0, x4), (9, 0), (9, 0), (9, 0), (9, 0)] [] w Q ↔ VW d 78 46 [(2, x0), (0, x1), (0, x2), (0, x3), (0, x4), (0, 0), (0, x3), (0, 0), (9, 0)] [] w Q :=
  (VW_b 6 (F := fun n => vrun n d 78 46 [(2, x0), (0, x1), (0, x2), (0, x3), (0, x4), (0, 0), (0, x3), (0, 0), (9, 0)] [] w) (fun _ => rfl)).trans (Iff.rfl)
set_option maxRecDepth 100000 in
theorem b78_46 {d : Nat} {w : vW} {x0 x1 x2 x3 x4 x5 x6 x7 : Int} {v8 : vV} {Q : Int → vW → Prop} : VW d 78 46 [(2, x0), (0, x1), (0, x2), (0, x3), (0, x4), (0, x5), (0, x6), (0, x7), v8] [] w Q ↔ ((x7 < 8 → VW d 78 53 [(2, x0), (0, x1), (0, x2), (0, x3), (0, x4), (0, x5), (0, x6), (0, x7), v8] [] w Q) ∧ (¬ (x7 < 8) → VW d 78 136 [(2, x0), (0, x1), (0, x2), (0, x3), (0, x4), (0, x5), (0, x6), (0, x7), v8] [] w Q)) :=
  (VW_b 3 (F := fun n => (if x7 < 8 then vrun n d 78 53 [(2, x0), (0, x1), (0, x2), (0, x3), (0, x4), (0, x5), (0, x6), (0, x7), v8] [] w else vrun n d 78 136 [(2, x0), (0, x1), (0, x2), (0, x3), (0, x4), (0, x5), (0, x6), (0, x7), v8] [] w)) (fun _ => rfl)).trans (EX_br.trans (and_congr (imp_congr Iff.rfl Iff.rfl) (imp_congr Iff.rfl Iff.rfl)))
set_option maxRecDepth 100000 in
theorem b78_53 {d : Nat} {w : vW} {x0 x1 x2 x3 x4 x5 x6 x7 : Int} {v8 : vV} {Q : Int → vW → Prop} : VW d 78 53 [(2, x0), (0, x1), (0, x2), (0, x3), (0, x4), (0, x5), (0, x6), (0, x7), v8] [] w Q ↔ ((x1 = 0 → VW d 78 57 [(2, x0), (0, x1), (0, x2), (0, x3), (0, x4), (0, x5), (0, x6), (0, x7), v8] [] w Q) ∧ (¬ (x1 = 0) → VW d 78 63 [(2, x0), (0, x1), (0, x2), (0, x3), (0, x4), (0, x5), (0, x6), (0, x7), v8] [] w Q)) :=
  (VW_b 2 (F := fun n => (if x1 = 0 then vrun n d 78 57 [(2, x0), (0, x1), (0, x2), (0, x3), (0, x4), (0, x5), (0, x6), (0, x7), v8] [] w else vrun n d 78 63 [(2, x0), (0, x1), (0, x2), (0, x3), (0, x4), (0, x5), (0, x6), (0, x7), v8] [] w)) (fun _ => rfl)).trans (EX_br.trans (and_congr (imp_congr Iff.rfl Iff.rfl) (imp_congr Iff.rfl Iff.rfl)))
set_option maxRecDepth 100000 in
theorem b78_57 {d : Nat} {w : vW} {x0 x1 x2 x3 x4 x5 x6 x7 : Int} {v8 : vV} {Q : Int → vW → Prop} : VW d 78 57 [(2, x0), (0, x1), (0, x2), (0, x3), (0, x4), (0, x5), (0, x6), (0, x7), v8] [] w Q ↔ VW d 78 76 [(2, x0), (0, x1), (0, x2), (0, x3), (0, x4), (0, x5), (0, x6), (0, x7), v8] [(0, i_b x6)] w Q :=
  (VW_b 3 (F := fun n => vrun n d 78 76 [(2, x0), (0, x1), (0, x2), (0, x3), (0, x4), (0, x5), (0, x6), (0, x7), v8] [(0, i_b x6)] w) (fun _ => rfl)).trans (Iff.rfl)
set_option maxRecDepth 100000 in
theorem b78_63 {d : Nat} {w : vW} {x0 x1 x2 x3 x4 x5 x6 x7 : Int} {v8 : vV} {Q : Int → vW → Prop} : VW d 78 63 [(2, x0), (0, x1), (0, x2), (0, x3), (0, x4), (0, x5), (0, x6), (0, x7), v8] [] w Q ↔ ((x1 = 1 → VW d 78 68 [(2, x0), (0, x1), (0, x2), (0, x3), (0, x4), (0, x5), (0, x6), (0, x7), v8] [] w Q) ∧ (¬ (x1 = 1) → VW d 78 74 [(2, x0), (0, x1), (0, x2), (0, x3), (0, x4), (0, x5), (0, x6), (0, x7), v8] [] w Q)) :=
  (VW_b 3 (F := fun n => (if x1 = 1 then vrun n d 78 68 [(2, x0), (0, x1), (0, x2), (0, x3), (0, x4), (0, x5), (0, x6), (0, x7), v8] [] w else vrun n d 78 74 [(2, x0), (0, x1), (0, x2), (0, x3), (0, x4), (0, x5), (0, x6), (0, x7), v8] [] w)) (fun _ => rfl)).trans (EX_br.trans (and_congr (imp_congr Iff.rfl Iff.rfl) (imp_congr Iff.rfl Iff.rfl)))
set_option maxRecDepth 100000 in
theorem b78_68 {d : Nat} {w : vW} {x0 x1 x2 x3 x4 x5 x6 x7 : Int} {v8 : vV} {Q : Int → vW → Prop} : VW d 78 68 [(2, x0), (0, x1), (0, x2), (0, x3), (0, x4), (0, x5), (0, x6), (0, x7), v8] [] w Q ↔ VW d 78 76 [(2, x0), (0, x1), (0, x2), (0, x3), (0, x4), (0, x5), (0, x6), (0, x7), v8] [(0, i_s x6)] w Q :=
  (VW_b 3 (F := fun n => vrun n d 78 76 [(2, x0), (0, x1), (0, x2), (0, x3), (0, x4), (0, x5), (0, x6), (0, x7), v8] [(0, i_s x6)] w) (fun _ => rfl)).trans (Iff.rfl)
set_option maxRecDepth 100000 in
theorem b78_74 {d : Nat} {w : vW} {x0 x1 x2 x3 x4 x5 x6 x7 : Int} {v8 : vV} {Q : Int → vW → Prop} : VW d 78 74 [(2, x0), (0, x1), (0, x2), (0, x3), (0, x4), (0, x5), (0, x6), (0, x7), v8] [] w Q ↔ VW d 78 76 [(2, x0), (0, x1), (0, x2), (0, x3), (0, x4), (0, x5), (0, x6), (0, x7), v8] [(0, x6)] w Q :=
  (VW_b 1 (F := fun n => vrun n d 78 76 [(2, x0), (0, x1), (0, x2), (0, x3), (0, x4), (0, x5), (0, x6), (0, x7), v8] [(0, x6)] w) (fun _ => rfl)).trans (Iff.rfl)
set_option maxRecDepth 100000 in
theorem b78_76 {d : Nat} {w : vW} {x0 x1 x2 x3 x4 x5 x6 x7 y0 : Int} {v8 : vV} {Q : Int → vW → Prop} : VW d 78 76 [(2, x0), (0, x1), (0, x2), (0, x3), (0, x4), (0, x5), (0, x6), (0, x7), v8] [(0, y0)] w Q ↔ (vkd w x0 = 22) ∧ ((x1 = 3 → VW d 78 95 [(2, x0), (0, x1), (0, x2), (0, x3), (0, x4), (0, x5), (0, x6), (0, x7), (0, y0)] [(0, x7), (2, vct w x0 10)] w Q) ∧ (¬ (x1 = 3) → VW d 78 89 [(2, x0), (0, x1), (0, x2), (0, x3), (0, x4), (0, x5), (0, x6), (0, x7), (0, y0)] [(0, x7), (2, vct w x0 10)] w Q)) :=
  (VW_b 7 (F := fun n => if vkd w x0 = 22 then (if x1 = 3 then vrun n d 78 95 [(2, x0), (0, x1), (0, x2), (0, x3), (0, x4), (0, x5), (0, x6), (0, x7), (0, y0)] [(0, x7), (2, vct w x0 10)] w else vrun n d 78 89 [(2, x0), (0, x1), (0, x2), (0, x3), (0, x4), (0, x5), (0, x6), (0, x7), (0, y0)] [(0, x7), (2, vct w x0 10)] w) else none) (fun _ => rfl)).trans (EX_if.trans (and_congr Iff.rfl (EX_br.trans (and_congr (imp_congr Iff.rfl Iff.rfl) (imp_congr Iff.rfl Iff.rfl)))))
set_option maxRecDepth 100000 in
theorem b78_89 {d : Nat} {w : vW} {x0 x1 x2 x3 x4 x5 x6 x7 x8 y0 y1 : Int} {Q : Int → vW → Prop} : VW d 78 89 [(2, x0), (0, x1), (0, x2), (0, x3), (0, x4), (0, x5), (0, x6), (0, x7), (0, x8)] [(0, y1), (2, y0)] w Q ↔ ((x7 < x2 → VW d 78 99 [(2, x0), (0, x1), (0, x2), (0, x3), (0, x4), (0, x5), (0, x6), (0, x7), (0, x8)] [(0, y1), (2, y0)] w Q) ∧ (¬ (x7 < x2) → VW d 78 95 [(2, x0), (0, x1), (0, x2), (0, x3), (0, x4), (0, x5), (0, x6), (0, x7), (0, x8)] [(0, y1), (2, y0)] w Q)) :=
  (VW_b 3 (F := fun n => (if x7 < x2 then vrun n d 78 99 [(2, x0), (0, x1), (0, x2), (0, x3), (0, x4), (0, x5), (0, x6), (0, x7), (0, x8)] [(0, y1), (2, y0)] w else vrun n d 78 95 [(2, x0), (0, x1), (0, x2), (0, x3), (0, x4), (0, x5), (0, x6), (0, x7), (0, x8)] [(0, y1), (2, y0)] w)) (fun _ => rfl)).trans (EX_br.trans (and_congr (imp_congr Iff.rfl Iff.rfl) (imp_congr Iff.rfl Iff.rfl)))
set_option maxRecDepth 100000 in
theorem b78_95 {d : Nat} {w : vW} {x0 x1 x2 x3 x4 x5 x6 x7 x8 y0 y1 : Int} {Q : Int → vW → Prop} : VW d 78 95 [(2, x0), (0, x1), (0, x2), (0, x3), (0, x4), (0, x5), (0, x6), (0, x7), (0, x8)] [(0, y1), (2, y0)] w Q ↔ VW d 78 110 [(2, x0), (0, x1), (0, x2), (0, x3), (0, x4), (0, x5), (0, x6), (0, x7), (0, x8)] [(0, 1), (0, y1), (2, y0)] w Q :=
  (VW_b 2 (F := fun n => vrun n d 78 110 [(2, x0), (0, x1), (0, x2), (0, x3), (0, x4), (0, x5), (0, x6), (0, x7), (0, x8)] [(0, 1), (0, y1), (2, y0)] w) (fun _ => rfl)).trans (Iff.rfl)
set_option maxRecDepth 100000 in
theorem b78_99 {d : Nat} {w : vW} {x0 x1 x2 x3 x4 x5 x6 x7 x8 y0 y1 : Int} {Q : Int → vW → Prop} : VW d 78 99 [(2, x0), (0, x1), (0, x2), (0, x3), (0, x4), (0, x5), (0, x6), (0, x7), (0, x8)] [(0, y1), (2, y0)] w Q ↔ VW d 78 110 [(2, x0), (0, x1), (0, x2), (0, x3), (0, x4), (0, x5), (0, x6), (0, x7), (0, x8)] [(0, max 1 (min 9 x8)), (0, y1), (2, y0)] w Q :=
  (VW_b 5 (F := fun n => vrun n d 78 110 [(2, x0), (0, x1), (0, x2), (0, x3), (0, x4), (0, x5), (0, x6), (0, x7), (0, x8)] [(0, max 1 (min 9 x8)), (0, y1), (2, y0)] w) (fun _ => rfl)).trans (Iff.rfl)
set_option maxRecDepth 100000 in
theorem b78_110 {d : Nat} {w : vW} {x0 x1 x2 x3 x4 x5 x6 x7 x8 y0 y1 y2 : Int} {Q : Int → vW → Prop} : VW d 78 110 [(2, x0), (0, x1), (0, x2), (0, x3), (0, x4), (0, x5), (0, x6), (0, x7), (0, x8)] [(0, y2), (0, y1), (2, y0)] w Q ↔ (vkd w y0 = 1 ∧ (0 : Int) ≤ y1 ∧ y1 < vln w y0) ∧ VW d 78 111 [(2, x0), (0, x1), (0, x2), (0, x3), (0, x4), (0, x5), (0, x6), (0, x7), (0, x8)] [] (vsv w y0 y1 y2) Q :=
  (VW_b 1 (F := fun n => if vkd w y0 = 1 ∧ (0 : Int) ≤ y1 ∧ y1 < vln w y0 then vrun n d 78 111 [(2, x0), (0, x1), (0, x2), (0, x3), (0, x4), (0, x5), (0, x6), (0, x7), (0, x8)] [] (vsv w y0 y1 y2) else none) (fun _ => rfl)).trans (EX_if.trans (and_congr Iff.rfl (Iff.rfl)))
set_option maxRecDepth 100000 in
theorem b78_111 {d : Nat} {w : vW} {x0 x1 x2 x3 x4 x5 x6 x7 x8 : Int} {Q : Int → vW → Prop} : VW d 78 111 [(2, x0), (0, x1), (0, x2), (0, x3), (0, x4), (0, x5), (0, x6), (0, x7), (0, x8)] [] w Q ↔ (vkd w x0 = 22) ∧ (vkd w (vct w x0 10) = 1 ∧ (0 : Int) ≤ x7 ∧ x7 < vln w (vct w x0 10)) ∧ VW d 78 46 [(2, x0), (0, x1), (0, x2), (0, x3), (0, x4), (0, w32 (x5 + (vct w (vct w x0 10) x7))), (0, w32 (x6 + x4)), (0, w32 (x7 + 1)), (0, x8)] [] w Q :=
  (VW_b 13 (F := fun n => if vkd w x0 = 22 then if vkd w (vct w x0 10) = 1 ∧ (0 : Int) ≤ x7 ∧ x7 < vln w (vct w x0 10) then vrun n d 78 46 [(2, x0), (0, x1), (0, x2), (0, x3), (0, x4), (0, w32 (x5 + (vct w (vct w x0 10) x7))), (0, w32 (x6 + x4)), (0, w32 (x7 + 1)), (0, x8)] [] w else none else none) (fun _ => rfl)).trans (EX_if.trans (and_congr Iff.rfl (EX_if.trans (and_congr Iff.rfl (Iff.rfl)))))
set_option maxRecDepth 100000 in
theorem b78_136 {d : Nat} {w : vW} {x0 x1 x2 x3 x4 x5 x6 x7 : Int} {v8 : vV} {Q : Int → vW → Prop} : VW d 78 136 [(2, x0), (0, x1), (0, x2), (0, x3), (0, x4), (0, x5), (0, x6), (0, x7), v8] [] w Q ↔ ((x1 = 3 → VW d 78 141 [(2, x0), (0, x1), (0, x2), (0, x3), (0, x4), (0, x5), (0, x6), (0, x7), v8] [] w Q) ∧ (¬ (x1 = 3) → VW d 78 146 [(2, x0), (0, x1), (0, x2), (0, x3), (0, x4), (0, x5), (0, x6), (0, x7), v8] [] w Q)) :=
  (VW_b 3 (F := fun n => (if x1 = 3 then vrun n d 78 141 [(2, x0), (0, x1), (0, x2), (0, x3), (0, x4), (0, x5), (0, x6), (0, x7), v8] [] w else vrun n d 78 146 [(2, x0), (0, x1), (0, x2), (0, x3), (0, x4), (0, x5), (0, x6), (0, x7), v8] [] w)) (fun _ => rfl)).trans (EX_br.trans (and_congr (imp_congr Iff.rfl Iff.rfl) (imp_congr Iff.rfl Iff.rfl)))
set_option maxRecDepth 100000 in
theorem b78_141 {d : Nat} {w : vW} {x0 x1 x2 x3 x4 x5 x6 x7 : Int} {v8 : vV} {Q : Int → vW → Prop} : VW d 78 141 [(2, x0), (0, x1), (0, x2), (0, x3), (0, x4), (0, x5), (0, x6), (0, x7), v8] [] w Q ↔ VW d 78 148 [(2, x0), (0, x1), (0, x2), (0, x3), (0, x4), (0, x5), (0, x6), (0, x7), v8] [(0, (-3))] w Q :=
  (VW_b 2 (F := fun n => vrun n d 78 148 [(2, x0), (0, x1), (0, x2), (0, x3), (0, x4), (0, x5), (0, x6), (0, x7), v8] [(0, (-3))] w) (fun _ => rfl)).trans (Iff.rfl)
set_option maxRecDepth 100000 in
theorem b78_146 {d : Nat} {w : vW} {x0 x1 x2 x3 x4 x5 x6 x7 : Int} {v8 : vV} {Q : Int → vW → Prop} : VW d 78 146 [(2, x0), (0, x1), (0, x2), (0, x3), (0, x4), (0, x5), (0, x6), (0, x7), v8] [] w Q ↔ VW d 78 148 [(2, x0), (0, x1), (0, x2), (0, x3), (0, x4), (0, x5), (0, x6), (0, x7), v8] [(0, x5)] w Q :=
  (VW_b 1 (F := fun n => vrun n d 78 148 [(2, x0), (0, x1), (0, x2), (0, x3), (0, x4), (0, x5), (0, x6), (0, x7), v8] [(0, x5)] w) (fun _ => rfl)).trans (Iff.rfl)
set_option maxRecDepth 100000 in
theorem b78_148 {d : Nat} {w : vW} {x0 x1 x2 x3 x4 x5 x6 x7 y0 : Int} {v8 : vV} {Q : Int → vW → Prop} : VW d 78 148 [(2, x0), (0, x1), (0, x2), (0, x3), (0, x4), (0, x5), (0, x6), (0, x7), v8] [(0, y0)] w Q ↔ Q y0 w :=
  (VW_b 1 (F := fun n => some (0, y0, w)) (fun _ => rfl)).trans (EX_ret0)
/-! 79: StrikeWhatCancelsModel.wide(I)I -/
set_option maxRecDepth 100000 in
theorem b79_0 {d : Nat} {w : vW} {x0 x1 : Int} {Q : Int → vW → Prop} : VW d 79 0 [(2, x0), (0, x1), (9, 0)] [] w Q ↔ (vkd w x0 = 22) ∧ VW d 79 5 [(2, x0), (0, x1), (9, 0)] [] (vsv w x0 0 0) Q :=
  (VW_b 3 (F := fun n => if vkd w x0 = 22 then vrun n d 79 5 [(2, x0), (0, x1), (9, 0)] [] (vsv w x0 0 0) else none) (fun _ => rfl)).trans (EX_if.trans (and_congr Iff.rfl (Iff.rfl)))
set_option maxRecDepth 100000 in
theorem b79_5 {d : Nat} {w : vW} {x0 x1 : Int} {Q : Int → vW → Prop} : VW d 79 5 [(2, x0), (0, x1), (9, 0)] [] w Q ↔ VC d 56 [(1, x1), (1, 1), (1, 8)] w (fun r w1 => VW d 79 14 [(2, x0), (0, x1), (9, 0)] [(0, r)] w1 Q) :=
  (VW_b 5 (F := fun n => vclr (vrun n) d 79 14 56 3 0 [(2, x0), (0, x1), (9, 0)] [(1, 8), (1, 1), (1, x1)] w) (fun _ => rfl)).trans (EX_call rfl)
set_option maxRecDepth 100000 in
theorem b79_14 {d : Nat} {w : vW} {x0 x1 y0 : Int} {Q : Int → vW → Prop} : VW d 79 14 [(2, x0), (0, x1), (9, 0)] [(0, y0)] w Q ↔ ((y0 = 0 → VW d 79 17 [(2, x0), (0, x1), (9, 0)] [] w Q) ∧ (¬ (y0 = 0) → VW d 79 19 [(2, x0), (0, x1), (9, 0)] [] w Q)) :=
  (VW_b 1 (F := fun n => (if y0 = 0 then vrun n d 79 17 [(2, x0), (0, x1), (9, 0)] [] w else vrun n d 79 19 [(2, x0), (0, x1), (9, 0)] [] w)) (fun _ => rfl)).trans (EX_br.trans (and_congr (imp_congr Iff.rfl Iff.rfl) (imp_congr Iff.rfl Iff.rfl)))
set_option maxRecDepth 100000 in
theorem b79_17 {d : Nat} {w : vW} {x0 x1 : Int} {Q : Int → vW → Prop} : VW d 79 17 [(2, x0), (0, x1), (9, 0)] [] w Q ↔ Q (-1) w :=
  (VW_b 2 (F := fun n => some (0, (-1), w)) (fun _ => rfl)).trans (EX_ret0)
set_option maxRecDepth 100000 in
theorem b79_19 {d : Nat} {w : vW} {x0 x1 : Int} {Q : Int → vW → Prop} : VW d 79 19 [(2, x0), (0, x1), (9, 0)] [] w Q ↔ (vkd w x0 = 22) ∧ (vkd w x0 = 22) ∧ VW d 79 29 [(2, x0), (0, x1), (0, vct w x0 12)] [] (vsv w x0 12 x1) Q :=
  (VW_b 6 (F := fun n => if vkd w x0 = 22 then if vkd w x0 = 22 then vrun n d 79 29 [(2, x0), (0, x1), (0, vct w x0 12)] [] (vsv w x0 12 x1) else none else none) (fun _ => rfl)).trans (EX_if.trans (and_congr Iff.rfl (EX_if.trans (and_congr Iff.rfl (Iff.rfl)))))
set_option maxRecDepth 100000 in
theorem b79_29 {d : Nat} {w : vW} {x0 x1 x2 : Int} {Q : Int → vW → Prop} : VW d 79 29 [(2, x0), (0, x1), (0, x2)] [] w Q ↔ Q x2 w :=
  (VW_b 2 (F := fun n => some (0, x2, w)) (fun _ => rfl)).trans (EX_ret0)
/-! 80: StrikeWhatCancelsModel.swap(II)Z -/
set_option maxRecDepth 100000 in
theorem b80_0 {d : Nat} {w : vW} {x0 x1 x2 : Int} {Q : Int → vW → Prop} : VW d 80 0 [(2, x0), (0, x1), (0, x2), (9, 0), (9, 0), (9, 0), (9, 0)] [] w Q ↔ (vkd w x0 = 22) ∧ VW d 80 5 [(2, x0), (0, x1), (0, x2), (9, 0), (9, 0), (9, 0), (9, 0)] [] (vsv w x0 0 0) Q :=
  (VW_b 3 (F := fun n => if vkd w x0 = 22 then vrun n d 80 5 [(2, x0), (0, x1), (0, x2), (9, 0), (9, 0), (9, 0), (9, 0)] [] (vsv w x0 0 0) else none) (fun _ => rfl)).trans (EX_if.trans (and_congr Iff.rfl (Iff.rfl)))
set_option maxRecDepth 100000 in
theorem b80_5 {d : Nat} {w : vW} {x0 x1 x2 : Int} {Q : Int → vW → Prop} : VW d 80 5 [(2, x0), (0, x1), (0, x2), (9, 0), (9, 0), (9, 0), (9, 0)] [] w Q ↔ (vkd w x0 = 22) ∧ VC d 56 [(1, x1), (1, 0), (1, (w32 ((vct w x0 4) - 1)))] w (fun r w1 => VW d 80 18 [(2, x0), (0, x1), (0, x2), (9, 0), (9, 0), (9, 0), (9, 0)] [(0, r)] w1 Q) :=
  (VW_b 9 (F := fun n => if vkd w x0 = 22 then vclr (vrun n) d 80 18 56 3 0 [(2, x0), (0, x1), (0, x2), (9, 0), (9, 0), (9, 0), (9, 0)] [(1, (w32 ((vct w x0 4) - 1))), (1, 0), (1, x1)] w else none) (fun _ => rfl)).trans (EX_if.trans (and_congr Iff.rfl (EX_call rfl)))
set_option maxRecDepth 100000 in
theorem b80_18 {d : Nat} {w : vW} {x0 x1 x2 y0 : Int} {Q : Int → vW → Prop} : VW d 80 18 [(2, x0), (0, x1), (0, x2), (9, 0), (9, 0), (9, 0), (9, 0)] [(0, y0)] w Q ↔ ((y0 = 0 → VW d 80 42 [(2, x0), (0, x1), (0, x2), (9, 0), (9, 0), (9, 0), (9, 0)] [] w Q) ∧ (¬ (y0 = 0) → VW d 80 21 [(2, x0), (0, x1), (0, x2), (9, 0), (9, 0), (9, 0), (9, 0)] [] w Q)) :=
  (VW_b 1 (F := fun n => (if y0 = 0 then vrun n d 80 42 [(2, x0), (0, x1), (0, x2), (9, 0), (9, 0), (9, 0), (9, 0)] [] w else vrun n d 80 21 [(2, x0), (0, x1), (0, x2), (9, 0), (9, 0), (9, 0), (9, 0)] [] w)) (fun _ => rfl)).trans (EX_br.trans (and_congr (imp_congr Iff.rfl Iff.rfl) (imp_congr Iff.rfl Iff.rfl)))
set_option maxRecDepth 100000 in
theorem b80_21 {d : Nat} {w : vW} {x0 x1 x2 : Int} {Q : Int → vW → Prop} : VW d 80 21 [(2, x0), (0, x1), (0, x2), (9, 0), (9, 0), (9, 0), (9, 0)] [] w Q ↔ (vkd w x0 = 22) ∧ VC d 56 [(1, x2), (1, 0), (1, (w32 ((vct w x0 4) - 1)))] w (fun r w1 => VW d 80 34 [(2, x0), (0, x1), (0, x2), (9, 0), (9, 0), (9, 0), (9, 0)] [(0, r)] w1 Q) :=
  (VW_b 9 (F := fun n => if vkd w x0 = 22 then vclr (vrun n) d 80 34 56 3 0 [(2, x0), (0, x1), (0, x2), (9, 0), (9, 0), (9, 0), (9, 0)] [(1, (w32 ((vct w x0 4) - 1))), (1, 0), (1, x2)] w else none) (fun _ => rfl)).trans (EX_if.trans (and_congr Iff.rfl (EX_call rfl)))
set_option maxRecDepth 100000 in
theorem b80_34 {d : Nat} {w : vW} {x0 x1 x2 y0 : Int} {Q : Int → vW → Prop} : VW d 80 34 [(2, x0), (0, x1), (0, x2), (9, 0), (9, 0), (9, 0), (9, 0)] [(0, y0)] w Q ↔ ((y0 = 0 → VW d 80 42 [(2, x0), (0, x1), (0, x2), (9, 0), (9, 0), (9, 0), (9, 0)] [] w Q) ∧ (¬ (y0 = 0) → VW d 80 37 [(2, x0), (0, x1), (0, x2), (9, 0), (9, 0), (9, 0), (9, 0)] [] w Q)) :=
  (VW_b 1 (F := fun n => (if y0 = 0 then vrun n d 80 42 [(2, x0), (0, x1), (0, x2), (9, 0), (9, 0), (9, 0), (9, 0)] [] w else vrun n d 80 37 [(2, x0), (0, x1), (0, x2), (9, 0), (9, 0), (9, 0), (9, 0)] [] w)) (fun _ => rfl)).trans (EX_br.trans (and_congr (imp_congr Iff.rfl Iff.rfl) (imp_congr Iff.rfl Iff.rfl)))
set_option maxRecDepth 100000 in
theorem b80_37 {d : Nat} {w : vW} {x0 x1 x2 : Int} {Q : Int → vW → Prop} : VW d 80 37 [(2, x0), (0, x1), (0, x2), (9, 0), (9, 0), (9, 0), (9, 0)] [] w Q ↔ ((x1 = x2 → VW d 80 42 [(2, x0), (0, x1), (0, x2), (9, 0), (9, 0), (9, 0), (9, 0)] [] w Q) ∧ (¬ (x1 = x2) → VW d 80 44 [(2, x0), (0, x1), (0, x2), (9, 0), (9, 0), (9, 0), (9, 0)] [] w Q)) :=
  (VW_b 3 (F := fun n => (if x1 = x2 then vrun n d 80 42 [(2, x0), (0, x1), (0, x2), (9, 0), (9, 0), (9, 0), (9, 0)] [] w else vrun n d 80 44 [(2, x0), (0, x1), (0, x2), (9, 0), (9, 0), (9, 0), (9, 0)] [] w)) (fun _ => rfl)).trans (EX_br.trans (and_congr (imp_congr Iff.rfl Iff.rfl) (imp_congr Iff.rfl Iff.rfl)))
set_option maxRecDepth 100000 in
theorem b80_42 {d : Nat} {w : vW} {x0 x1 x2 : Int} {Q : Int → vW → Prop} : VW d 80 42 [(2, x0), (0, x1), (0, x2), (9, 0), (9, 0), (9, 0), (9, 0)] [] w Q ↔ Q 0 w :=
  (VW_b 2 (F := fun n => some (0, 0, w)) (fun _ => rfl)).trans (EX_ret0)
set_option maxRecDepth 100000 in
theorem b80_44 {d : Nat} {w : vW} {x0 x1 x2 : Int} {Q : Int → vW → Prop} : VW d 80 44 [(2, x0), (0, x1), (0, x2), (9, 0), (9, 0), (9, 0), (9, 0)] [] w Q ↔ (vkd w x0 = 22) ∧ (vkd w (vct w x0 6) = 2 ∧ (0 : Int) ≤ x1 ∧ x1 < vln w (vct w x0 6)) ∧ (vkd w x0 = 22) ∧ (vkd w (vct w x0 7) = 2 ∧ (0 : Int) ≤ x1 ∧ x1 < vln w (vct w x0 7)) ∧ (vkd w x0 = 22) ∧ (vkd w (vct w x0 6) = 2 ∧ (0 : Int) ≤ x2 ∧ x2 < vln w (vct w x0 6)) ∧ (vkd w x0 = 22) ∧ (vkd w (vct w x0 7) = 2 ∧ (0 : Int) ≤ x2 ∧ x2 < vln w (vct w x0 7)) ∧ (vkd w x0 = 22) ∧ VC d 69 [(2, x0), (0, x1), (1, vct w (vct w x0 6) x2), (1, vct w (vct w x0 7) x2)] w (fun _ w1 => VW d 80 76 [(2, x0), (0, x1), (0, x2), (1, vct w (vct w x0 6) x1), (9, 0), (1, vct w (vct w x0 7) x1), (9, 0)] [] w1 Q) :=
  (VW_b 21 (F := fun n => if vkd w x0 = 22 then if vkd w (vct w x0 6) = 2 ∧ (0 : Int) ≤ x1 ∧ x1 < vln w (vct w x0 6) then if vkd w x0 = 22 then if vkd w (vct w x0 7) = 2 ∧ (0 : Int) ≤ x1 ∧ x1 < vln w (vct w x0 7) then if vkd w x0 = 22 then if vkd w (vct w x0 6) = 2 ∧ (0 : Int) ≤ x2 ∧ x2 < vln w (vct w x0 6) then if vkd w x0 = 22 then if vkd w (vct w x0 7) = 2 ∧ (0 : Int) ≤ x2 ∧ x2 < vln w (vct w x0 7) then if vkd w x0 = 22 then vclr (vrun n) d 80 76 69 4 9 [(2, x0), (0, x1), (0, x2), (1, vct w (vct w x0 6) x1), (9, 0), (1, vct w (vct w x0 7) x1), (9, 0)] [(1, vct w (vct w x0 7) x2), (1, vct w (vct w x0 6) x2), (0, x1), (2, x0)] w else none else none else none else none else none else none else none else none else none) (fun _ => rfl)).trans (EX_if.trans (and_congr Iff.rfl (EX_if.trans (and_congr Iff.rfl (EX_if.trans (and_congr Iff.rfl (EX_if.trans (and_congr Iff.rfl (EX_if.trans (and_congr Iff.rfl (EX_if.trans (and_congr Iff.rfl (EX_if.trans (and_congr Iff.rfl (EX_if.trans (and_congr Iff.rfl (EX_if.trans (and_congr Iff.rfl (EX_call rfl)))))))))))))))))))
set_option maxRecDepth 100000 in
theorem b80_76 {d : Nat} {w : vW} {x0 x1 x2 x3 x5 : Int} {Q : Int → vW → Prop} : VW d 80 76 [(2, x0), (0, x1), (0, x2), (1, x3), (9, 0), (1, x5), (9, 0)] [] w Q ↔ (vkd w x0 = 22) ∧ VC d 69 [(2, x0), (0, x2), (1, x3), (1, x5)] w (fun _ w1 => VW d 80 84 [(2, x0), (0, x1), (0, x2), (1, x3), (9, 0), (1, x5), (9, 0)] [] w1 Q) :=
  (VW_b 5 (F := fun n => if vkd w x0 = 22 then vclr (vrun n) d 80 84 69 4 9 [(2, x0), (0, x1), (0, x2), (1, x3), (9, 0), (1, x5), (9, 0)] [(1, x5), (1, x3), (0, x2), (2, x0)] w else none) (fun _ => rfl)).trans (EX_if.trans (and_congr Iff.rfl (EX_call rfl)))
set_option maxRecDepth 100000 in
theorem b80_84 {d : Nat} {w : vW} {x0 x1 x2 x3 x5 : Int} {Q : Int → vW → Prop} : VW d 80 84 [(2, x0), (0, x1), (0, x2), (1, x3), (9, 0), (1, x5), (9, 0)] [] w Q ↔ Q 1 w :=
  (VW_b 2 (F := fun n => some (0, 1, w)) (fun _ => rfl)).trans (EX_ret0)
/-! 81: StrikeWhatCancelsModel.standsAt(JIJII)Z -/
set_option maxRecDepth 100000 in
theorem b81_0 {d : Nat} {w : vW} {x0 x1 x3 x4 x6 x7 : Int} {Q : Int → vW → Prop} : VW d 81 0 [(2, x0), (1, x1), (9, 0), (0, x3), (1, x4), (9, 0), (0, x6), (0, x7), (9, 0)] [] w Q ↔ (((w32 ((w32 (x3 - x7)) - x6)) < 0 → VW d 81 41 [(2, x0), (1, x1), (9, 0), (0, x3), (1, x4), (9, 0), (0, x6), (0, x7), (0, w32 ((w32 (x3 - x7)) - x6))] [] w Q) ∧ (¬ ((w32 ((w32 (x3 - x7)) - x6)) < 0) → VW d 81 14 [(2, x0), (1, x1), (9, 0), (0, x3), (1, x4), (9, 0), (0, x6), (0, x7), (0, w32 ((w32 (x3 - x7)) - x6))] [] w Q)) :=
  (VW_b 8 (F := fun n => (if (w32 ((w32 (x3 - x7)) - x6)) < 0 then vrun n d 81 41 [(2, x0), (1, x1), (9, 0), (0, x3), (1, x4), (9, 0), (0, x6), (0, x7), (0, w32 ((w32 (x3 - x7)) - x6))] [] w else vrun n d 81 14 [(2, x0), (1, x1), (9, 0), (0, x3), (1, x4), (9, 0), (0, x6), (0, x7), (0, w32 ((w32 (x3 - x7)) - x6))] [] w)) (fun _ => rfl)).trans (EX_br.trans (and_congr (imp_congr Iff.rfl Iff.rfl) (imp_congr Iff.rfl Iff.rfl)))
set_option maxRecDepth 100000 in
theorem b81_14 {d : Nat} {w : vW} {x0 x1 x3 x4 x6 x7 x8 : Int} {Q : Int → vW → Prop} : VW d 81 14 [(2, x0), (1, x1), (9, 0), (0, x3), (1, x4), (9, 0), (0, x6), (0, x7), (0, x8)] [] w Q ↔ (vkd w x0 = 22) ∧ (vkd w (vct w x0 3) = 2 ∧ (0 : Int) ≤ x8 ∧ x8 < vln w (vct w x0 3)) ∧ ¬ ((vct w (vct w x0 3) x8) = 0) ∧ (vkd w x0 = 22) ∧ (vkd w (vct w x0 3) = 2 ∧ (0 : Int) ≤ x6 ∧ x6 < vln w (vct w x0 3)) ∧ ¬ ((vct w (vct w x0 3) x6) = 0) ∧ (((vlc (Int.tmod (w64 (Int.tdiv x1 (vct w (vct w x0 3) x8))) (vct w (vct w x0 3) x6)) x4) = 0 → VW d 81 37 [(2, x0), (1, x1), (9, 0), (0, x3), (1, x4), (9, 0), (0, x6), (0, x7), (0, x8)] [] w Q) ∧ (¬ ((vlc (Int.tmod (w64 (Int.tdiv x1 (vct w (vct w x0 3) x8))) (vct w (vct w x0 3) x6)) x4) = 0) → VW d 81 41 [(2, x0), (1, x1), (9, 0), (0, x3), (1, x4), (9, 0), (0, x6), (0, x7), (0, x8)] [] w Q)) :=
  (VW_b 14 (F := fun n => if vkd w x0 = 22 then if vkd w (vct w x0 3) = 2 ∧ (0 : Int) ≤ x8 ∧ x8 < vln w (vct w x0 3) then if (vct w (vct w x0 3) x8) = 0 then none else if vkd w x0 = 22 then if vkd w (vct w x0 3) = 2 ∧ (0 : Int) ≤ x6 ∧ x6 < vln w (vct w x0 3) then if (vct w (vct w x0 3) x6) = 0 then none else (if (vlc (Int.tmod (w64 (Int.tdiv x1 (vct w (vct w x0 3) x8))) (vct w (vct w x0 3) x6)) x4) = 0 then vrun n d 81 37 [(2, x0), (1, x1), (9, 0), (0, x3), (1, x4), (9, 0), (0, x6), (0, x7), (0, x8)] [] w else vrun n d 81 41 [(2, x0), (1, x1), (9, 0), (0, x3), (1, x4), (9, 0), (0, x6), (0, x7), (0, x8)] [] w) else none else none else none else none) (fun _ => rfl)).trans (EX_if.trans (and_congr Iff.rfl (EX_if.trans (and_congr Iff.rfl (EX_ifn.trans (and_congr Iff.rfl (EX_if.trans (and_congr Iff.rfl (EX_if.trans (and_congr Iff.rfl (EX_ifn.trans (and_congr Iff.rfl (EX_br.trans (and_congr (imp_congr Iff.rfl Iff.rfl) (imp_congr Iff.rfl Iff.rfl)))))))))))))))
set_option maxRecDepth 100000 in
theorem b81_37 {d : Nat} {w : vW} {x0 x1 x3 x4 x6 x7 x8 : Int} {Q : Int → vW → Prop} : VW d 81 37 [(2, x0), (1, x1), (9, 0), (0, x3), (1, x4), (9, 0), (0, x6), (0, x7), (0, x8)] [] w Q ↔ VW d 81 42 [(2, x0), (1, x1), (9, 0), (0, x3), (1, x4), (9, 0), (0, x6), (0, x7), (0, x8)] [(0, 1)] w Q :=
  (VW_b 2 (F := fun n => vrun n d 81 42 [(2, x0), (1, x1), (9, 0), (0, x3), (1, x4), (9, 0), (0, x6), (0, x7), (0, x8)] [(0, 1)] w) (fun _ => rfl)).trans (Iff.rfl)
set_option maxRecDepth 100000 in
theorem b81_41 {d : Nat} {w : vW} {x0 x1 x3 x4 x6 x7 x8 : Int} {Q : Int → vW → Prop} : VW d 81 41 [(2, x0), (1, x1), (9, 0), (0, x3), (1, x4), (9, 0), (0, x6), (0, x7), (0, x8)] [] w Q ↔ VW d 81 42 [(2, x0), (1, x1), (9, 0), (0, x3), (1, x4), (9, 0), (0, x6), (0, x7), (0, x8)] [(0, 0)] w Q :=
  (VW_b 1 (F := fun n => vrun n d 81 42 [(2, x0), (1, x1), (9, 0), (0, x3), (1, x4), (9, 0), (0, x6), (0, x7), (0, x8)] [(0, 0)] w) (fun _ => rfl)).trans (Iff.rfl)
set_option maxRecDepth 100000 in
theorem b81_42 {d : Nat} {w : vW} {x0 x1 x3 x4 x6 x7 x8 y0 : Int} {Q : Int → vW → Prop} : VW d 81 42 [(2, x0), (1, x1), (9, 0), (0, x3), (1, x4), (9, 0), (0, x6), (0, x7), (0, x8)] [(0, y0)] w Q ↔ ((0 : Int) ≤ y0 ∧ y0 ≤ 1) ∧ Q y0 w :=
  (VW_b 1 (F := fun n => if (0 : Int) ≤ y0 ∧ y0 ≤ 1 then some (0, y0, w) else none) (fun _ => rfl)).trans (EX_if.trans (and_congr Iff.rfl (EX_ret0)))
/-! 82: StrikeWhatCancelsModel.puts(JIIIJI)J -/
set_option maxRecDepth 100000 in
theorem b82_0 {d : Nat} {w : vW} {x0 x1 x3 x4 x5 x6 x8 : Int} {Q : Int → vW → Prop} : VW d 82 0 [(2, x0), (1, x1), (9, 0), (0, x3), (0, x4), (0, x5), (1, x6), (9, 0), (0, x8), (9, 0)] [] w Q ↔ (vkd w x0 = 22) ∧ (vkd w (vct w x0 3) = 2 ∧ (0 : Int) ≤ (w32 ((w32 ((w32 (x3 - x4)) - x5)) + x5)) ∧ (w32 ((w32 ((w32 (x3 - x4)) - x5)) + x5)) < vln w (vct w x0 3)) ∧ ¬ ((vct w (vct w x0 3) (w32 ((w32 ((w32 (x3 - x4)) - x5)) + x5))) = 0) ∧ (vkd w x0 = 22) ∧ (vkd w (vct w x0 3) = 2 ∧ (0 : Int) ≤ x8 ∧ x8 < vln w (vct w x0 3)) ∧ (vkd w x0 = 22) ∧ (vkd w (vct w x0 3) = 2 ∧ (0 : Int) ≤ (w32 ((w32 (x3 - x4)) - x5)) ∧ (w32 ((w32 (x3 - x4)) - x5)) < vln w (vct w x0 3)) ∧ (vkd w x0 = 22) ∧ (vkd w (vct w x0 3) = 2 ∧ (0 : Int) ≤ (w32 ((w32 (x3 - x4)) - x5)) ∧ (w32 ((w32 (x3 - x4)) - x5)) < vln w (vct w x0 3)) ∧ ¬ ((vct w (vct w x0 3) (w32 ((w32 (x3 - x4)) - x5))) = 0) ∧ Q (w64 ((w64 ((w64 ((w64 ((w64 (Int.tdiv x1 (vct w (vct w x0 3) (w32 ((w32 ((w32 (x3 - x4)) - x5)) + x5))))) * (vct w (vct w x0 3) x8))) + x6)) * (vct w (vct w x0 3) (w32 ((w32 (x3 - x4)) - x5))))) + (Int.tmod x1 (vct w (vct w x0 3) (w32 ((w32 (x3 - x4)) - x5)))))) w :=
  (VW_b 34 (F := fun n => if vkd w x0 = 22 then if vkd w (vct w x0 3) = 2 ∧ (0 : Int) ≤ (w32 ((w32 ((w32 (x3 - x4)) - x5)) + x5)) ∧ (w32 ((w32 ((w32 (x3 - x4)) - x5)) + x5)) < vln w (vct w x0 3) then if (vct w (vct w x0 3) (w32 ((w32 ((w32 (x3 - x4)) - x5)) + x5))) = 0 then none else if vkd w x0 = 22 then if vkd w (vct w x0 3) = 2 ∧ (0 : Int) ≤ x8 ∧ x8 < vln w (vct w x0 3) then if vkd w x0 = 22 then if vkd w (vct w x0 3) = 2 ∧ (0 : Int) ≤ (w32 ((w32 (x3 - x4)) - x5)) ∧ (w32 ((w32 (x3 - x4)) - x5)) < vln w (vct w x0 3) then if vkd w x0 = 22 then if vkd w (vct w x0 3) = 2 ∧ (0 : Int) ≤ (w32 ((w32 (x3 - x4)) - x5)) ∧ (w32 ((w32 (x3 - x4)) - x5)) < vln w (vct w x0 3) then if (vct w (vct w x0 3) (w32 ((w32 (x3 - x4)) - x5))) = 0 then none else some (0, w64 ((w64 ((w64 ((w64 ((w64 (Int.tdiv x1 (vct w (vct w x0 3) (w32 ((w32 ((w32 (x3 - x4)) - x5)) + x5))))) * (vct w (vct w x0 3) x8))) + x6)) * (vct w (vct w x0 3) (w32 ((w32 (x3 - x4)) - x5))))) + (Int.tmod x1 (vct w (vct w x0 3) (w32 ((w32 (x3 - x4)) - x5))))), w) else none else none else none else none else none else none else none else none) (fun _ => rfl)).trans (EX_if.trans (and_congr Iff.rfl (EX_if.trans (and_congr Iff.rfl (EX_ifn.trans (and_congr Iff.rfl (EX_if.trans (and_congr Iff.rfl (EX_if.trans (and_congr Iff.rfl (EX_if.trans (and_congr Iff.rfl (EX_if.trans (and_congr Iff.rfl (EX_if.trans (and_congr Iff.rfl (EX_if.trans (and_congr Iff.rfl (EX_ifn.trans (and_congr Iff.rfl (EX_ret0)))))))))))))))))))))
/-! 83: StrikeWhatCancelsModel.struck(JII)J -/
set_option maxRecDepth 100000 in
theorem b83_0 {d : Nat} {w : vW} {x0 x1 x3 x4 : Int} {Q : Int → vW → Prop} : VW d 83 0 [(2, x0), (1, x1), (9, 0), (0, x3), (0, x4)] [] w Q ↔ (vkd w x0 = 22) ∧ VC d 60 [(2, x0), (1, x1)] w (fun r w1 => VW d 83 7 [(2, x0), (1, x1), (9, 0), (0, x3), (0, x4)] [(0, r), (1, x1), (2, x0)] w1 Q) :=
  (VW_b 5 (F := fun n => if vkd w x0 = 22 then vclr (vrun n) d 83 7 60 2 0 [(2, x0), (1, x1), (9, 0), (0, x3), (0, x4)] [(1, x1), (2, x0), (1, x1), (2, x0)] w else none) (fun _ => rfl)).trans (EX_if.trans (and_congr Iff.rfl (EX_call rfl)))
set_option maxRecDepth 100000 in
theorem b83_7 {d : Nat} {w : vW} {x0 x1 x3 x4 y0 y1 y2 : Int} {Q : Int → vW → Prop} : VW d 83 7 [(2, x0), (1, x1), (9, 0), (0, x3), (0, x4)] [(0, y2), (1, y1), (2, y0)] w Q ↔ (vkd w x0 = 22) ∧ (vkd w (vct w x0 8) = 1 ∧ (0 : Int) ≤ x3 ∧ x3 < vln w (vct w x0 8)) ∧ (vkd w x0 = 22) ∧ (vkd w (vct w x0 7) = 2 ∧ (0 : Int) ≤ x3 ∧ x3 < vln w (vct w x0 7)) ∧ (vkd w x0 = 22) ∧ (vkd w (vct w x0 9) = 1 ∧ (0 : Int) ≤ x3 ∧ x3 < vln w (vct w x0 9)) ∧ (vkd w y0 = 22) ∧ VC d 82 [(2, y0), (1, y1), (0, y2), (0, x4), (0, vct w (vct w x0 8) x3), (1, vct w (vct w x0 7) x3), (0, vct w (vct w x0 9) x3)] w (fun r w1 => VW d 83 30 [(2, x0), (1, x1), (9, 0), (0, x3), (0, x4)] [(1, r)] w1 Q) :=
  (VW_b 14 (F := fun n => if vkd w x0 = 22 then if vkd w (vct w x0 8) = 1 ∧ (0 : Int) ≤ x3 ∧ x3 < vln w (vct w x0 8) then if vkd w x0 = 22 then if vkd w (vct w x0 7) = 2 ∧ (0 : Int) ≤ x3 ∧ x3 < vln w (vct w x0 7) then if vkd w x0 = 22 then if vkd w (vct w x0 9) = 1 ∧ (0 : Int) ≤ x3 ∧ x3 < vln w (vct w x0 9) then if vkd w y0 = 22 then vclr (vrun n) d 83 30 82 7 1 [(2, x0), (1, x1), (9, 0), (0, x3), (0, x4)] [(0, vct w (vct w x0 9) x3), (1, vct w (vct w x0 7) x3), (0, vct w (vct w x0 8) x3), (0, x4), (0, y2), (1, y1), (2, y0)] w else none else none else none else none else none else none else none) (fun _ => rfl)).trans (EX_if.trans (and_congr Iff.rfl (EX_if.trans (and_congr Iff.rfl (EX_if.trans (and_congr Iff.rfl (EX_if.trans (and_congr Iff.rfl (EX_if.trans (and_congr Iff.rfl (EX_if.trans (and_congr Iff.rfl (EX_if.trans (and_congr Iff.rfl (EX_call rfl)))))))))))))))
set_option maxRecDepth 100000 in
theorem b83_30 {d : Nat} {w : vW} {x0 x1 x3 x4 y0 : Int} {Q : Int → vW → Prop} : VW d 83 30 [(2, x0), (1, x1), (9, 0), (0, x3), (0, x4)] [(1, y0)] w Q ↔ Q y0 w :=
  (VW_b 1 (F := fun n => some (0, y0, w)) (fun _ => rfl)).trans (EX_ret0)
/-! 84: StrikeWhatCancelsModel.canAt(JIII)Z -/
set_option maxRecDepth 100000 in
theorem b84_0 {d : Nat} {w : vW} {x0 x1 x3 x4 x5 : Int} {Q : Int → vW → Prop} : VW d 84 0 [(2, x0), (1, x1), (9, 0), (0, x3), (0, x4), (0, x5)] [] w Q ↔ (vkd w x0 = 22) ∧ (vkd w (vct w x0 6) = 2 ∧ (0 : Int) ≤ x4 ∧ x4 < vln w (vct w x0 6)) ∧ (vkd w x0 = 22) ∧ (vkd w (vct w x0 8) = 1 ∧ (0 : Int) ≤ x4 ∧ x4 < vln w (vct w x0 8)) ∧ (vkd w x0 = 22) ∧ VC d 81 [(2, x0), (1, x1), (0, x3), (1, vct w (vct w x0 6) x4), (0, vct w (vct w x0 8) x4), (0, x5)] w (fun r w1 => VW d 84 22 [(2, x0), (1, x1), (9, 0), (0, x3), (0, x4), (0, x5)] [(0, r)] w1 Q) :=
  (VW_b 13 (F := fun n => if vkd w x0 = 22 then if vkd w (vct w x0 6) = 2 ∧ (0 : Int) ≤ x4 ∧ x4 < vln w (vct w x0 6) then if vkd w x0 = 22 then if vkd w (vct w x0 8) = 1 ∧ (0 : Int) ≤ x4 ∧ x4 < vln w (vct w x0 8) then if vkd w x0 = 22 then vclr (vrun n) d 84 22 81 6 0 [(2, x0), (1, x1), (9, 0), (0, x3), (0, x4), (0, x5)] [(0, x5), (0, vct w (vct w x0 8) x4), (1, vct w (vct w x0 6) x4), (0, x3), (1, x1), (2, x0)] w else none else none else none else none else none) (fun _ => rfl)).trans (EX_if.trans (and_congr Iff.rfl (EX_if.trans (and_congr Iff.rfl (EX_if.trans (and_congr Iff.rfl (EX_if.trans (and_congr Iff.rfl (EX_if.trans (and_congr Iff.rfl (EX_call rfl)))))))))))
set_option maxRecDepth 100000 in
theorem b84_22 {d : Nat} {w : vW} {x0 x1 x3 x4 x5 y0 : Int} {Q : Int → vW → Prop} : VW d 84 22 [(2, x0), (1, x1), (9, 0), (0, x3), (0, x4), (0, x5)] [(0, y0)] w Q ↔ ((0 : Int) ≤ y0 ∧ y0 ≤ 1) ∧ Q y0 w :=
  (VW_b 1 (F := fun n => if (0 : Int) ≤ y0 ∧ y0 ≤ 1 then some (0, y0, w) else none) (fun _ => rfl)).trans (EX_if.trans (and_congr Iff.rfl (EX_ret0)))
/-! 85: StrikeWhatCancelsModel.finds(JII)Z -/
set_option maxRecDepth 100000 in
theorem b85_0 {d : Nat} {w : vW} {x0 x1 x3 x4 : Int} {Q : Int → vW → Prop} : VW d 85 0 [(2, x0), (1, x1), (9, 0), (0, x3), (0, x4), (9, 0), (9, 0), (9, 0)] [] w Q ↔ (vkd w x0 = 22) ∧ VC d 60 [(2, x0), (1, x1)] w (fun r w1 => VW d 85 5 [(2, x0), (1, x1), (9, 0), (0, x3), (0, x4), (9, 0), (9, 0), (9, 0)] [(0, r)] w1 Q) :=
  (VW_b 3 (F := fun n => if vkd w x0 = 22 then vclr (vrun n) d 85 5 60 2 0 [(2, x0), (1, x1), (9, 0), (0, x3), (0, x4), (9, 0), (9, 0), (9, 0)] [(1, x1), (2, x0)] w else none) (fun _ => rfl)).trans (EX_if.trans (and_congr Iff.rfl (EX_call rfl)))
set_option maxRecDepth 100000 in
theorem b85_5 {d : Nat} {w : vW} {x0 x1 x3 x4 y0 : Int} {Q : Int → vW → Prop} : VW d 85 5 [(2, x0), (1, x1), (9, 0), (0, x3), (0, x4), (9, 0), (9, 0), (9, 0)] [(0, y0)] w Q ↔ (vkd w x0 = 22) ∧ VW d 85 12 [(2, x0), (1, x1), (9, 0), (0, x3), (0, x4), (0, y0), (9, 0), (9, 0)] [] (vsv w x0 23 (-1)) Q :=
  (VW_b 4 (F := fun n => if vkd w x0 = 22 then vrun n d 85 12 [(2, x0), (1, x1), (9, 0), (0, x3), (0, x4), (0, y0), (9, 0), (9, 0)] [] (vsv w x0 23 (-1)) else none) (fun _ => rfl)).trans (EX_if.trans (and_congr Iff.rfl (Iff.rfl)))
set_option maxRecDepth 100000 in
theorem b85_12 {d : Nat} {w : vW} {x0 x1 x3 x4 x5 : Int} {Q : Int → vW → Prop} : VW d 85 12 [(2, x0), (1, x1), (9, 0), (0, x3), (0, x4), (0, x5), (9, 0), (9, 0)] [] w Q ↔ ((x3 = 2 → VW d 85 17 [(2, x0), (1, x1), (9, 0), (0, x3), (0, x4), (0, x5), (9, 0), (9, 0)] [] w Q) ∧ (¬ (x3 = 2) → VW d 85 87 [(2, x0), (1, x1), (9, 0), (0, x3), (0, x4), (0, x5), (9, 0), (9, 0)] [] w Q)) :=
  (VW_b 3 (F := fun n => (if x3 = 2 then vrun n d 85 17 [(2, x0), (1, x1), (9, 0), (0, x3), (0, x4), (0, x5), (9, 0), (9, 0)] [] w else vrun n d 85 87 [(2, x0), (1, x1), (9, 0), (0, x3), (0, x4), (0, x5), (9, 0), (9, 0)] [] w)) (fun _ => rfl)).trans (EX_br.trans (and_congr (imp_congr Iff.rfl Iff.rfl) (imp_congr Iff.rfl Iff.rfl)))
set_option maxRecDepth 100000 in
theorem b85_17 {d : Nat} {w : vW} {x0 x1 x3 x4 x5 : Int} {Q : Int → vW → Prop} : VW d 85 17 [(2, x0), (1, x1), (9, 0), (0, x3), (0, x4), (0, x5), (9, 0), (9, 0)] [] w Q ↔ VW d 85 20 [(2, x0), (1, x1), (9, 0), (0, x3), (0, x4), (0, x5), (0, 0), (9, 0)] [] w Q :=
  (VW_b 2 (F := fun n => vrun n d 85 20 [(2, x0), (1, x1), (9, 0), (0, x3), (0, x4), (0, x5), (0, 0), (9, 0)] [] w) (fun _ => rfl)).trans (Iff.rfl)
set_option maxRecDepth 100000 in
theorem b85_20 {d : Nat} {w : vW} {x0 x1 x3 x4 x5 x6 : Int} {v7 : vV} {Q : Int → vW → Prop} : VW d 85 20 [(2, x0), (1, x1), (9, 0), (0, x3), (0, x4), (0, x5), (0, x6), v7] [] w Q ↔ ((x6 < x4 → VW d 85 27 [(2, x0), (1, x1), (9, 0), (0, x3), (0, x4), (0, x5), (0, x6), v7] [] w Q) ∧ (¬ (x6 < x4) → VW d 85 74 [(2, x0), (1, x1), (9, 0), (0, x3), (0, x4), (0, x5), (0, x6), v7] [] w Q)) :=
  (VW_b 3 (F := fun n => (if x6 < x4 then vrun n d 85 27 [(2, x0), (1, x1), (9, 0), (0, x3), (0, x4), (0, x5), (0, x6), v7] [] w else vrun n d 85 74 [(2, x0), (1, x1), (9, 0), (0, x3), (0, x4), (0, x5), (0, x6), v7] [] w)) (fun _ => rfl)).trans (EX_br.trans (and_congr (imp_congr Iff.rfl Iff.rfl) (imp_congr Iff.rfl Iff.rfl)))
set_option maxRecDepth 100000 in
theorem b85_27 {d : Nat} {w : vW} {x0 x1 x3 x4 x5 x6 : Int} {v7 : vV} {Q : Int → vW → Prop} : VW d 85 27 [(2, x0), (1, x1), (9, 0), (0, x3), (0, x4), (0, x5), (0, x6), v7] [] w Q ↔ (vkd w x0 = 22) ∧ (((vct w x0 23) < 0 → VW d 85 34 [(2, x0), (1, x1), (9, 0), (0, x3), (0, x4), (0, x5), (0, x6), v7] [] w Q) ∧ (¬ ((vct w x0 23) < 0) → VW d 85 74 [(2, x0), (1, x1), (9, 0), (0, x3), (0, x4), (0, x5), (0, x6), v7] [] w Q)) :=
  (VW_b 3 (F := fun n => if vkd w x0 = 22 then (if (vct w x0 23) < 0 then vrun n d 85 34 [(2, x0), (1, x1), (9, 0), (0, x3), (0, x4), (0, x5), (0, x6), v7] [] w else vrun n d 85 74 [(2, x0), (1, x1), (9, 0), (0, x3), (0, x4), (0, x5), (0, x6), v7] [] w) else none) (fun _ => rfl)).trans (EX_if.trans (and_congr Iff.rfl (EX_br.trans (and_congr (imp_congr Iff.rfl Iff.rfl) (imp_congr Iff.rfl Iff.rfl)))))
set_option maxRecDepth 100000 in
theorem b85_34 {d : Nat} {w : vW} {x0 x1 x3 x4 x5 x6 : Int} {v7 : vV} {Q : Int → vW → Prop} : VW d 85 34 [(2, x0), (1, x1), (9, 0), (0, x3), (0, x4), (0, x5), (0, x6), v7] [] w Q ↔ VW d 85 37 [(2, x0), (1, x1), (9, 0), (0, x3), (0, x4), (0, x5), (0, x6), (0, 0)] [] w Q :=
  (VW_b 2 (F := fun n => vrun n d 85 37 [(2, x0), (1, x1), (9, 0), (0, x3), (0, x4), (0, x5), (0, x6), (0, 0)] [] w) (fun _ => rfl)).trans (Iff.rfl)
set_option maxRecDepth 100000 in
theorem b85_37 {d : Nat} {w : vW} {x0 x1 x3 x4 x5 x6 x7 : Int} {Q : Int → vW → Prop} : VW d 85 37 [(2, x0), (1, x1), (9, 0), (0, x3), (0, x4), (0, x5), (0, x6), (0, x7)] [] w Q ↔ ((x7 < x5 → VW d 85 44 [(2, x0), (1, x1), (9, 0), (0, x3), (0, x4), (0, x5), (0, x6), (0, x7)] [] w Q) ∧ (¬ (x7 < x5) → VW d 85 68 [(2, x0), (1, x1), (9, 0), (0, x3), (0, x4), (0, x5), (0, x6), (0, x7)] [] w Q)) :=
  (VW_b 3 (F := fun n => (if x7 < x5 then vrun n d 85 44 [(2, x0), (1, x1), (9, 0), (0, x3), (0, x4), (0, x5), (0, x6), (0, x7)] [] w else vrun n d 85 68 [(2, x0), (1, x1), (9, 0), (0, x3), (0, x4), (0, x5), (0, x6), (0, x7)] [] w)) (fun _ => rfl)).trans (EX_br.trans (and_congr (imp_congr Iff.rfl Iff.rfl) (imp_congr Iff.rfl Iff.rfl)))
set_option maxRecDepth 100000 in
theorem b85_44 {d : Nat} {w : vW} {x0 x1 x3 x4 x5 x6 x7 : Int} {Q : Int → vW → Prop} : VW d 85 44 [(2, x0), (1, x1), (9, 0), (0, x3), (0, x4), (0, x5), (0, x6), (0, x7)] [] w Q ↔ (vkd w x0 = 22) ∧ (((vct w x0 23) < 0 → VW d 85 51 [(2, x0), (1, x1), (9, 0), (0, x3), (0, x4), (0, x5), (0, x6), (0, x7)] [] w Q) ∧ (¬ ((vct w x0 23) < 0) → VW d 85 68 [(2, x0), (1, x1), (9, 0), (0, x3), (0, x4), (0, x5), (0, x6), (0, x7)] [] w Q)) :=
  (VW_b 3 (F := fun n => if vkd w x0 = 22 then (if (vct w x0 23) < 0 then vrun n d 85 51 [(2, x0), (1, x1), (9, 0), (0, x3), (0, x4), (0, x5), (0, x6), (0, x7)] [] w else vrun n d 85 68 [(2, x0), (1, x1), (9, 0), (0, x3), (0, x4), (0, x5), (0, x6), (0, x7)] [] w) else none) (fun _ => rfl)).trans (EX_if.trans (and_congr Iff.rfl (EX_br.trans (and_congr (imp_congr Iff.rfl Iff.rfl) (imp_congr Iff.rfl Iff.rfl)))))
set_option maxRecDepth 100000 in
theorem b85_51 {d : Nat} {w : vW} {x0 x1 x3 x4 x5 x6 x7 : Int} {Q : Int → vW → Prop} : VW d 85 51 [(2, x0), (1, x1), (9, 0), (0, x3), (0, x4), (0, x5), (0, x6), (0, x7)] [] w Q ↔ (vkd w x0 = 22) ∧ VC d 86 [(2, x0), (1, x1), (0, x5), (0, x6), (0, x7)] w (fun _ w1 => VW d 85 62 [(2, x0), (1, x1), (9, 0), (0, x3), (0, x4), (0, x5), (0, x6), (0, x7)] [] w1 Q) :=
  (VW_b 6 (F := fun n => if vkd w x0 = 22 then vclr (vrun n) d 85 62 86 5 9 [(2, x0), (1, x1), (9, 0), (0, x3), (0, x4), (0, x5), (0, x6), (0, x7)] [(0, x7), (0, x6), (0, x5), (1, x1), (2, x0)] w else none) (fun _ => rfl)).trans (EX_if.trans (and_congr Iff.rfl (EX_call rfl)))
set_option maxRecDepth 100000 in
theorem b85_62 {d : Nat} {w : vW} {x0 x1 x3 x4 x5 x6 x7 : Int} {Q : Int → vW → Prop} : VW d 85 62 [(2, x0), (1, x1), (9, 0), (0, x3), (0, x4), (0, x5), (0, x6), (0, x7)] [] w Q ↔ VW d 85 37 [(2, x0), (1, x1), (9, 0), (0, x3), (0, x4), (0, x5), (0, x6), (0, w32 (x7 + 1))] [] w Q :=
  (VW_b 2 (F := fun n => vrun n d 85 37 [(2, x0), (1, x1), (9, 0), (0, x3), (0, x4), (0, x5), (0, x6), (0, w32 (x7 + 1))] [] w) (fun _ => rfl)).trans (Iff.rfl)
set_option maxRecDepth 100000 in
theorem b85_68 {d : Nat} {w : vW} {x0 x1 x3 x4 x5 x6 x7 : Int} {Q : Int → vW → Prop} : VW d 85 68 [(2, x0), (1, x1), (9, 0), (0, x3), (0, x4), (0, x5), (0, x6), (0, x7)] [] w Q ↔ VW d 85 20 [(2, x0), (1, x1), (9, 0), (0, x3), (0, x4), (0, x5), (0, w32 (x6 + 1)), (0, x7)] [] w Q :=
  (VW_b 2 (F := fun n => vrun n d 85 20 [(2, x0), (1, x1), (9, 0), (0, x3), (0, x4), (0, x5), (0, w32 (x6 + 1)), (0, x7)] [] w) (fun _ => rfl)).trans (Iff.rfl)
set_option maxRecDepth 100000 in
theorem b85_74 {d : Nat} {w : vW} {x0 x1 x3 x4 x5 x6 : Int} {v7 : vV} {Q : Int → vW → Prop} : VW d 85 74 [(2, x0), (1, x1), (9, 0), (0, x3), (0, x4), (0, x5), (0, x6), v7] [] w Q ↔ (vkd w x0 = 22) ∧ (((vct w x0 23) < 0 → VW d 85 85 [(2, x0), (1, x1), (9, 0), (0, x3), (0, x4), (0, x5), (0, x6), v7] [] w Q) ∧ (¬ ((vct w x0 23) < 0) → VW d 85 81 [(2, x0), (1, x1), (9, 0), (0, x3), (0, x4), (0, x5), (0, x6), v7] [] w Q)) :=
  (VW_b 3 (F := fun n => if vkd w x0 = 22 then (if (vct w x0 23) < 0 then vrun n d 85 85 [(2, x0), (1, x1), (9, 0), (0, x3), (0, x4), (0, x5), (0, x6), v7] [] w else vrun n d 85 81 [(2, x0), (1, x1), (9, 0), (0, x3), (0, x4), (0, x5), (0, x6), v7] [] w) else none) (fun _ => rfl)).trans (EX_if.trans (and_congr Iff.rfl (EX_br.trans (and_congr (imp_congr Iff.rfl Iff.rfl) (imp_congr Iff.rfl Iff.rfl)))))
set_option maxRecDepth 100000 in
theorem b85_81 {d : Nat} {w : vW} {x0 x1 x3 x4 x5 x6 : Int} {v7 : vV} {Q : Int → vW → Prop} : VW d 85 81 [(2, x0), (1, x1), (9, 0), (0, x3), (0, x4), (0, x5), (0, x6), v7] [] w Q ↔ VW d 85 86 [(2, x0), (1, x1), (9, 0), (0, x3), (0, x4), (0, x5), (0, x6), v7] [(0, 1)] w Q :=
  (VW_b 2 (F := fun n => vrun n d 85 86 [(2, x0), (1, x1), (9, 0), (0, x3), (0, x4), (0, x5), (0, x6), v7] [(0, 1)] w) (fun _ => rfl)).trans (Iff.rfl)
set_option maxRecDepth 100000 in
theorem b85_85 {d : Nat} {w : vW} {x0 x1 x3 x4 x5 x6 : Int} {v7 : vV} {Q : Int → vW → Prop} : VW d 85 85 [(2, x0), (1, x1), (9, 0), (0, x3), (0, x4), (0, x5), (0, x6), v7] [] w Q ↔ VW d 85 86 [(2, x0), (1, x1), (9, 0), (0, x3), (0, x4), (0, x5), (0, x6), v7] [(0, 0)] w Q :=
  (VW_b 1 (F := fun n => vrun n d 85 86 [(2, x0), (1, x1), (9, 0), (0, x3), (0, x4), (0, x5), (0, x6), v7] [(0, 0)] w) (fun _ => rfl)).trans (Iff.rfl)
set_option maxRecDepth 100000 in
theorem b85_86 {d : Nat} {w : vW} {x0 x1 x3 x4 x5 x6 y0 : Int} {v7 : vV} {Q : Int → vW → Prop} : VW d 85 86 [(2, x0), (1, x1), (9, 0), (0, x3), (0, x4), (0, x5), (0, x6), v7] [(0, y0)] w Q ↔ ((0 : Int) ≤ y0 ∧ y0 ≤ 1) ∧ Q y0 w :=
  (VW_b 1 (F := fun n => if (0 : Int) ≤ y0 ∧ y0 ≤ 1 then some (0, y0, w) else none) (fun _ => rfl)).trans (EX_if.trans (and_congr Iff.rfl (EX_ret0)))
set_option maxRecDepth 100000 in
theorem b85_87 {d : Nat} {w : vW} {x0 x1 x3 x4 x5 : Int} {Q : Int → vW → Prop} : VW d 85 87 [(2, x0), (1, x1), (9, 0), (0, x3), (0, x4), (0, x5), (9, 0), (9, 0)] [] w Q ↔ VW d 85 90 [(2, x0), (1, x1), (9, 0), (0, x3), (0, x4), (0, x5), (0, 0), (9, 0)] [] w Q :=
  (VW_b 2 (F := fun n => vrun n d 85 90 [(2, x0), (1, x1), (9, 0), (0, x3), (0, x4), (0, x5), (0, 0), (9, 0)] [] w) (fun _ => rfl)).trans (Iff.rfl)
set_option maxRecDepth 100000 in
theorem b85_90 {d : Nat} {w : vW} {x0 x1 x3 x4 x5 x6 : Int} {v7 : vV} {Q : Int → vW → Prop} : VW d 85 90 [(2, x0), (1, x1), (9, 0), (0, x3), (0, x4), (0, x5), (0, x6), v7] [] w Q ↔ ((x6 < x5 → VW d 85 97 [(2, x0), (1, x1), (9, 0), (0, x3), (0, x4), (0, x5), (0, x6), v7] [] w Q) ∧ (¬ (x6 < x5) → VW d 85 158 [(2, x0), (1, x1), (9, 0), (0, x3), (0, x4), (0, x5), (0, x6), v7] [] w Q)) :=
  (VW_b 3 (F := fun n => (if x6 < x5 then vrun n d 85 97 [(2, x0), (1, x1), (9, 0), (0, x3), (0, x4), (0, x5), (0, x6), v7] [] w else vrun n d 85 158 [(2, x0), (1, x1), (9, 0), (0, x3), (0, x4), (0, x5), (0, x6), v7] [] w)) (fun _ => rfl)).trans (EX_br.trans (and_congr (imp_congr Iff.rfl Iff.rfl) (imp_congr Iff.rfl Iff.rfl)))
set_option maxRecDepth 100000 in
theorem b85_97 {d : Nat} {w : vW} {x0 x1 x3 x4 x5 x6 : Int} {v7 : vV} {Q : Int → vW → Prop} : VW d 85 97 [(2, x0), (1, x1), (9, 0), (0, x3), (0, x4), (0, x5), (0, x6), v7] [] w Q ↔ (vkd w x0 = 22) ∧ (((vct w x0 23) < 0 → VW d 85 104 [(2, x0), (1, x1), (9, 0), (0, x3), (0, x4), (0, x5), (0, x6), v7] [] w Q) ∧ (¬ ((vct w x0 23) < 0) → VW d 85 158 [(2, x0), (1, x1), (9, 0), (0, x3), (0, x4), (0, x5), (0, x6), v7] [] w Q)) :=
  (VW_b 3 (F := fun n => if vkd w x0 = 22 then (if (vct w x0 23) < 0 then vrun n d 85 104 [(2, x0), (1, x1), (9, 0), (0, x3), (0, x4), (0, x5), (0, x6), v7] [] w else vrun n d 85 158 [(2, x0), (1, x1), (9, 0), (0, x3), (0, x4), (0, x5), (0, x6), v7] [] w) else none) (fun _ => rfl)).trans (EX_if.trans (and_congr Iff.rfl (EX_br.trans (and_congr (imp_congr Iff.rfl Iff.rfl) (imp_congr Iff.rfl Iff.rfl)))))
set_option maxRecDepth 100000 in
theorem b85_104 {d : Nat} {w : vW} {x0 x1 x3 x4 x5 x6 : Int} {v7 : vV} {Q : Int → vW → Prop} : VW d 85 104 [(2, x0), (1, x1), (9, 0), (0, x3), (0, x4), (0, x5), (0, x6), v7] [] w Q ↔ VW d 85 107 [(2, x0), (1, x1), (9, 0), (0, x3), (0, x4), (0, x5), (0, x6), (0, 0)] [] w Q :=
  (VW_b 2 (F := fun n => vrun n d 85 107 [(2, x0), (1, x1), (9, 0), (0, x3), (0, x4), (0, x5), (0, x6), (0, 0)] [] w) (fun _ => rfl)).trans (Iff.rfl)
set_option maxRecDepth 100000 in
theorem b85_107 {d : Nat} {w : vW} {x0 x1 x3 x4 x5 x6 x7 : Int} {Q : Int → vW → Prop} : VW d 85 107 [(2, x0), (1, x1), (9, 0), (0, x3), (0, x4), (0, x5), (0, x6), (0, x7)] [] w Q ↔ ((x7 < x4 → VW d 85 114 [(2, x0), (1, x1), (9, 0), (0, x3), (0, x4), (0, x5), (0, x6), (0, x7)] [] w Q) ∧ (¬ (x7 < x4) → VW d 85 152 [(2, x0), (1, x1), (9, 0), (0, x3), (0, x4), (0, x5), (0, x6), (0, x7)] [] w Q)) :=
  (VW_b 3 (F := fun n => (if x7 < x4 then vrun n d 85 114 [(2, x0), (1, x1), (9, 0), (0, x3), (0, x4), (0, x5), (0, x6), (0, x7)] [] w else vrun n d 85 152 [(2, x0), (1, x1), (9, 0), (0, x3), (0, x4), (0, x5), (0, x6), (0, x7)] [] w)) (fun _ => rfl)).trans (EX_br.trans (and_congr (imp_congr Iff.rfl Iff.rfl) (imp_congr Iff.rfl Iff.rfl)))
set_option maxRecDepth 100000 in
theorem b85_114 {d : Nat} {w : vW} {x0 x1 x3 x4 x5 x6 x7 : Int} {Q : Int → vW → Prop} : VW d 85 114 [(2, x0), (1, x1), (9, 0), (0, x3), (0, x4), (0, x5), (0, x6), (0, x7)] [] w Q ↔ (vkd w x0 = 22) ∧ (((vct w x0 23) < 0 → VW d 85 121 [(2, x0), (1, x1), (9, 0), (0, x3), (0, x4), (0, x5), (0, x6), (0, x7)] [] w Q) ∧ (¬ ((vct w x0 23) < 0) → VW d 85 152 [(2, x0), (1, x1), (9, 0), (0, x3), (0, x4), (0, x5), (0, x6), (0, x7)] [] w Q)) :=
  (VW_b 3 (F := fun n => if vkd w x0 = 22 then (if (vct w x0 23) < 0 then vrun n d 85 121 [(2, x0), (1, x1), (9, 0), (0, x3), (0, x4), (0, x5), (0, x6), (0, x7)] [] w else vrun n d 85 152 [(2, x0), (1, x1), (9, 0), (0, x3), (0, x4), (0, x5), (0, x6), (0, x7)] [] w) else none) (fun _ => rfl)).trans (EX_if.trans (and_congr Iff.rfl (EX_br.trans (and_congr (imp_congr Iff.rfl Iff.rfl) (imp_congr Iff.rfl Iff.rfl)))))
set_option maxRecDepth 100000 in
theorem b85_121 {d : Nat} {w : vW} {x0 x1 x3 x4 x5 x6 x7 : Int} {Q : Int → vW → Prop} : VW d 85 121 [(2, x0), (1, x1), (9, 0), (0, x3), (0, x4), (0, x5), (0, x6), (0, x7)] [] w Q ↔ ((x3 = 0 → VW d 85 131 [(2, x0), (1, x1), (9, 0), (0, x3), (0, x4), (0, x5), (0, x6), (0, x7)] [(0, x7), (0, x5), (1, x1), (2, x0)] w Q) ∧ (¬ (x3 = 0) → VW d 85 136 [(2, x0), (1, x1), (9, 0), (0, x3), (0, x4), (0, x5), (0, x6), (0, x7)] [(0, x7), (0, x5), (1, x1), (2, x0)] w Q)) :=
  (VW_b 6 (F := fun n => (if x3 = 0 then vrun n d 85 131 [(2, x0), (1, x1), (9, 0), (0, x3), (0, x4), (0, x5), (0, x6), (0, x7)] [(0, x7), (0, x5), (1, x1), (2, x0)] w else vrun n d 85 136 [(2, x0), (1, x1), (9, 0), (0, x3), (0, x4), (0, x5), (0, x6), (0, x7)] [(0, x7), (0, x5), (1, x1), (2, x0)] w)) (fun _ => rfl)).trans (EX_br.trans (and_congr (imp_congr Iff.rfl Iff.rfl) (imp_congr Iff.rfl Iff.rfl)))
set_option maxRecDepth 100000 in
theorem b85_131 {d : Nat} {w : vW} {x0 x1 x3 x4 x5 x6 x7 y0 y1 y2 y3 : Int} {Q : Int → vW → Prop} : VW d 85 131 [(2, x0), (1, x1), (9, 0), (0, x3), (0, x4), (0, x5), (0, x6), (0, x7)] [(0, y3), (0, y2), (1, y1), (2, y0)] w Q ↔ VW d 85 143 [(2, x0), (1, x1), (9, 0), (0, x3), (0, x4), (0, x5), (0, x6), (0, x7)] [(0, x6), (0, y3), (0, y2), (1, y1), (2, y0)] w Q :=
  (VW_b 2 (F := fun n => vrun n d 85 143 [(2, x0), (1, x1), (9, 0), (0, x3), (0, x4), (0, x5), (0, x6), (0, x7)] [(0, x6), (0, y3), (0, y2), (1, y1), (2, y0)] w) (fun _ => rfl)).trans (Iff.rfl)
set_option maxRecDepth 100000 in
theorem b85_136 {d : Nat} {w : vW} {x0 x1 x3 x4 x5 x6 x7 y0 y1 y2 y3 : Int} {Q : Int → vW → Prop} : VW d 85 136 [(2, x0), (1, x1), (9, 0), (0, x3), (0, x4), (0, x5), (0, x6), (0, x7)] [(0, y3), (0, y2), (1, y1), (2, y0)] w Q ↔ VW d 85 143 [(2, x0), (1, x1), (9, 0), (0, x3), (0, x4), (0, x5), (0, x6), (0, x7)] [(0, w32 ((w32 (x5 - 1)) - x6)), (0, y3), (0, y2), (1, y1), (2, y0)] w Q :=
  (VW_b 5 (F := fun n => vrun n d 85 143 [(2, x0), (1, x1), (9, 0), (0, x3), (0, x4), (0, x5), (0, x6), (0, x7)] [(0, w32 ((w32 (x5 - 1)) - x6)), (0, y3), (0, y2), (1, y1), (2, y0)] w) (fun _ => rfl)).trans (Iff.rfl)
set_option maxRecDepth 100000 in
theorem b85_143 {d : Nat} {w : vW} {x0 x1 x3 x4 x5 x6 x7 y0 y1 y2 y3 y4 : Int} {Q : Int → vW → Prop} : VW d 85 143 [(2, x0), (1, x1), (9, 0), (0, x3), (0, x4), (0, x5), (0, x6), (0, x7)] [(0, y4), (0, y3), (0, y2), (1, y1), (2, y0)] w Q ↔ (vkd w y0 = 22) ∧ VC d 86 [(2, y0), (1, y1), (0, y2), (0, y3), (0, y4)] w (fun _ w1 => VW d 85 146 [(2, x0), (1, x1), (9, 0), (0, x3), (0, x4), (0, x5), (0, x6), (0, x7)] [] w1 Q) :=
  (VW_b 1 (F := fun n => if vkd w y0 = 22 then vclr (vrun n) d 85 146 86 5 9 [(2, x0), (1, x1), (9, 0), (0, x3), (0, x4), (0, x5), (0, x6), (0, x7)] [(0, y4), (0, y3), (0, y2), (1, y1), (2, y0)] w else none) (fun _ => rfl)).trans (EX_if.trans (and_congr Iff.rfl (EX_call rfl)))
set_option maxRecDepth 100000 in
theorem b85_146 {d : Nat} {w : vW} {x0 x1 x3 x4 x5 x6 x7 : Int} {Q : Int → vW → Prop} : VW d 85 146 [(2, x0), (1, x1), (9, 0), (0, x3), (0, x4), (0, x5), (0, x6), (0, x7)] [] w Q ↔ VW d 85 107 [(2, x0), (1, x1), (9, 0), (0, x3), (0, x4), (0, x5), (0, x6), (0, w32 (x7 + 1))] [] w Q :=
  (VW_b 2 (F := fun n => vrun n d 85 107 [(2, x0), (1, x1), (9, 0), (0, x3), (0, x4), (0, x5), (0, x6), (0, w32 (x7 + 1))] [] w) (fun _ => rfl)).trans (Iff.rfl)
set_option maxRecDepth 100000 in
theorem b85_152 {d : Nat} {w : vW} {x0 x1 x3 x4 x5 x6 x7 : Int} {Q : Int → vW → Prop} : VW d 85 152 [(2, x0), (1, x1), (9, 0), (0, x3), (0, x4), (0, x5), (0, x6), (0, x7)] [] w Q ↔ VW d 85 90 [(2, x0), (1, x1), (9, 0), (0, x3), (0, x4), (0, x5), (0, w32 (x6 + 1)), (0, x7)] [] w Q :=
  (VW_b 2 (F := fun n => vrun n d 85 90 [(2, x0), (1, x1), (9, 0), (0, x3), (0, x4), (0, x5), (0, w32 (x6 + 1)), (0, x7)] [] w) (fun _ => rfl)).trans (Iff.rfl)
set_option maxRecDepth 100000 in
theorem b85_158 {d : Nat} {w : vW} {x0 x1 x3 x4 x5 x6 : Int} {v7 : vV} {Q : Int → vW → Prop} : VW d 85 158 [(2, x0), (1, x1), (9, 0), (0, x3), (0, x4), (0, x5), (0, x6), v7] [] w Q ↔ (vkd w x0 = 22) ∧ (((vct w x0 23) < 0 → VW d 85 169 [(2, x0), (1, x1), (9, 0), (0, x3), (0, x4), (0, x5), (0, x6), v7] [] w Q) ∧ (¬ ((vct w x0 23) < 0) → VW d 85 165 [(2, x0), (1, x1), (9, 0), (0, x3), (0, x4), (0, x5), (0, x6), v7] [] w Q)) :=
  (VW_b 3 (F := fun n => if vkd w x0 = 22 then (if (vct w x0 23) < 0 then vrun n d 85 169 [(2, x0), (1, x1), (9, 0), (0, x3), (0, x4), (0, x5), (0, x6), v7] [] w else vrun n d 85 165 [(2, x0), (1, x1), (9, 0), (0, x3), (0, x4), (0, x5), (0, x6), v7] [] w) else none) (fun _ => rfl)).trans (EX_if.trans (and_congr Iff.rfl (EX_br.trans (and_congr (imp_congr Iff.rfl Iff.rfl) (imp_congr Iff.rfl Iff.rfl)))))
set_option maxRecDepth 100000 in
theorem b85_165 {d : Nat} {w : vW} {x0 x1 x3 x4 x5 x6 : Int} {v7 : vV} {Q : Int → vW → Prop} : VW d 85 165 [(2, x0), (1, x1), (9, 0), (0, x3), (0, x4), (0, x5), (0, x6), v7] [] w Q ↔ VW d 85 170 [(2, x0), (1, x1), (9, 0), (0, x3), (0, x4), (0, x5), (0, x6), v7] [(0, 1)] w Q :=
  (VW_b 2 (F := fun n => vrun n d 85 170 [(2, x0), (1, x1), (9, 0), (0, x3), (0, x4), (0, x5), (0, x6), v7] [(0, 1)] w) (fun _ => rfl)).trans (Iff.rfl)
set_option maxRecDepth 100000 in
theorem b85_169 {d : Nat} {w : vW} {x0 x1 x3 x4 x5 x6 : Int} {v7 : vV} {Q : Int → vW → Prop} : VW d 85 169 [(2, x0), (1, x1), (9, 0), (0, x3), (0, x4), (0, x5), (0, x6), v7] [] w Q ↔ VW d 85 170 [(2, x0), (1, x1), (9, 0), (0, x3), (0, x4), (0, x5), (0, x6), v7] [(0, 0)] w Q :=
  (VW_b 1 (F := fun n => vrun n d 85 170 [(2, x0), (1, x1), (9, 0), (0, x3), (0, x4), (0, x5), (0, x6), v7] [(0, 0)] w) (fun _ => rfl)).trans (Iff.rfl)
set_option maxRecDepth 100000 in
theorem b85_170 {d : Nat} {w : vW} {x0 x1 x3 x4 x5 x6 y0 : Int} {v7 : vV} {Q : Int → vW → Prop} : VW d 85 170 [(2, x0), (1, x1), (9, 0), (0, x3), (0, x4), (0, x5), (0, x6), v7] [(0, y0)] w Q ↔ ((0 : Int) ≤ y0 ∧ y0 ≤ 1) ∧ Q y0 w :=
  (VW_b 1 (F := fun n => if (0 : Int) ≤ y0 ∧ y0 ≤ 1 then some (0, y0, w) else none) (fun _ => rfl)).trans (EX_if.trans (and_congr Iff.rfl (EX_ret0)))
/-! 86: StrikeWhatCancelsModel.keepsFound(JIII)V -/
set_option maxRecDepth 100000 in
theorem b86_0 {d : Nat} {w : vW} {x0 x1 x3 x4 x5 : Int} {Q : Int → vW → Prop} : VW d 86 0 [(2, x0), (1, x1), (9, 0), (0, x3), (0, x4), (0, x5)] [] w Q ↔ (vkd w x0 = 22) ∧ VC d 84 [(2, x0), (1, x1), (0, x3), (0, x4), (0, x5)] w (fun r w1 => VW d 86 10 [(2, x0), (1, x1), (9, 0), (0, x3), (0, x4), (0, x5)] [(0, r)] w1 Q) :=
  (VW_b 6 (F := fun n => if vkd w x0 = 22 then vclr (vrun n) d 86 10 84 5 0 [(2, x0), (1, x1), (9, 0), (0, x3), (0, x4), (0, x5)] [(0, x5), (0, x4), (0, x3), (1, x1), (2, x0)] w else none) (fun _ => rfl)).trans (EX_if.trans (and_congr Iff.rfl (EX_call rfl)))
set_option maxRecDepth 100000 in
theorem b86_10 {d : Nat} {w : vW} {x0 x1 x3 x4 x5 y0 : Int} {Q : Int → vW → Prop} : VW d 86 10 [(2, x0), (1, x1), (9, 0), (0, x3), (0, x4), (0, x5)] [(0, y0)] w Q ↔ ((y0 = 0 → VW d 86 25 [(2, x0), (1, x1), (9, 0), (0, x3), (0, x4), (0, x5)] [] w Q) ∧ (¬ (y0 = 0) → VW d 86 13 [(2, x0), (1, x1), (9, 0), (0, x3), (0, x4), (0, x5)] [] w Q)) :=
  (VW_b 1 (F := fun n => (if y0 = 0 then vrun n d 86 25 [(2, x0), (1, x1), (9, 0), (0, x3), (0, x4), (0, x5)] [] w else vrun n d 86 13 [(2, x0), (1, x1), (9, 0), (0, x3), (0, x4), (0, x5)] [] w)) (fun _ => rfl)).trans (EX_br.trans (and_congr (imp_congr Iff.rfl Iff.rfl) (imp_congr Iff.rfl Iff.rfl)))
set_option maxRecDepth 100000 in
theorem b86_13 {d : Nat} {w : vW} {x0 x1 x3 x4 x5 : Int} {Q : Int → vW → Prop} : VW d 86 13 [(2, x0), (1, x1), (9, 0), (0, x3), (0, x4), (0, x5)] [] w Q ↔ (vkd w x0 = 22) ∧ VW d 86 19 [(2, x0), (1, x1), (9, 0), (0, x3), (0, x4), (0, x5)] [] (vsv w x0 23 x4) Q :=
  (VW_b 3 (F := fun n => if vkd w x0 = 22 then vrun n d 86 19 [(2, x0), (1, x1), (9, 0), (0, x3), (0, x4), (0, x5)] [] (vsv w x0 23 x4) else none) (fun _ => rfl)).trans (EX_if.trans (and_congr Iff.rfl (Iff.rfl)))
set_option maxRecDepth 100000 in
theorem b86_19 {d : Nat} {w : vW} {x0 x1 x3 x4 x5 : Int} {Q : Int → vW → Prop} : VW d 86 19 [(2, x0), (1, x1), (9, 0), (0, x3), (0, x4), (0, x5)] [] w Q ↔ (vkd w x0 = 22) ∧ VW d 86 25 [(2, x0), (1, x1), (9, 0), (0, x3), (0, x4), (0, x5)] [] (vsv w x0 24 x5) Q :=
  (VW_b 3 (F := fun n => if vkd w x0 = 22 then vrun n d 86 25 [(2, x0), (1, x1), (9, 0), (0, x3), (0, x4), (0, x5)] [] (vsv w x0 24 x5) else none) (fun _ => rfl)).trans (EX_if.trans (and_congr Iff.rfl (Iff.rfl)))
set_option maxRecDepth 100000 in
theorem b86_25 {d : Nat} {w : vW} {x0 x1 x3 x4 x5 : Int} {Q : Int → vW → Prop} : VW d 86 25 [(2, x0), (1, x1), (9, 0), (0, x3), (0, x4), (0, x5)] [] w Q ↔ Q 0 w :=
  (VW_b 1 (F := fun n => some (0, 0, w)) (fun _ => rfl)).trans (EX_ret0)
/-! 87: StrikeWhatCancelsModel.countsStrikes(J)I -/
set_option maxRecDepth 100000 in
theorem b87_0 {d : Nat} {w : vW} {x0 x1 : Int} {Q : Int → vW → Prop} : VW d 87 0 [(2, x0), (1, x1), (9, 0), (9, 0), (9, 0), (9, 0), (9, 0)] [] w Q ↔ (vkd w x0 = 22) ∧ VC d 60 [(2, x0), (1, x1)] w (fun r w1 => VW d 87 5 [(2, x0), (1, x1), (9, 0), (9, 0), (9, 0), (9, 0), (9, 0)] [(0, r)] w1 Q) :=
  (VW_b 3 (F := fun n => if vkd w x0 = 22 then vclr (vrun n) d 87 5 60 2 0 [(2, x0), (1, x1), (9, 0), (9, 0), (9, 0), (9, 0), (9, 0)] [(1, x1), (2, x0)] w else none) (fun _ => rfl)).trans (EX_if.trans (and_congr Iff.rfl (EX_call rfl)))
set_option maxRecDepth 100000 in
theorem b87_5 {d : Nat} {w : vW} {x0 x1 y0 : Int} {Q : Int → vW → Prop} : VW d 87 5 [(2, x0), (1, x1), (9, 0), (9, 0), (9, 0), (9, 0), (9, 0)] [(0, y0)] w Q ↔ VW d 87 12 [(2, x0), (1, x1), (9, 0), (0, y0), (0, 0), (0, 0), (9, 0)] [] w Q :=
  (VW_b 5 (F := fun n => vrun n d 87 12 [(2, x0), (1, x1), (9, 0), (0, y0), (0, 0), (0, 0), (9, 0)] [] w) (fun _ => rfl)).trans (Iff.rfl)
set_option maxRecDepth 100000 in
theorem b87_12 {d : Nat} {w : vW} {x0 x1 x3 x4 x5 : Int} {v6 : vV} {Q : Int → vW → Prop} : VW d 87 12 [(2, x0), (1, x1), (9, 0), (0, x3), (0, x4), (0, x5), v6] [] w Q ↔ ((x5 < x3 → VW d 87 18 [(2, x0), (1, x1), (9, 0), (0, x3), (0, x4), (0, x5), v6] [] w Q) ∧ (¬ (x5 < x3) → VW d 87 60 [(2, x0), (1, x1), (9, 0), (0, x3), (0, x4), (0, x5), v6] [] w Q)) :=
  (VW_b 3 (F := fun n => (if x5 < x3 then vrun n d 87 18 [(2, x0), (1, x1), (9, 0), (0, x3), (0, x4), (0, x5), v6] [] w else vrun n d 87 60 [(2, x0), (1, x1), (9, 0), (0, x3), (0, x4), (0, x5), v6] [] w)) (fun _ => rfl)).trans (EX_br.trans (and_congr (imp_congr Iff.rfl Iff.rfl) (imp_congr Iff.rfl Iff.rfl)))
set_option maxRecDepth 100000 in
theorem b87_18 {d : Nat} {w : vW} {x0 x1 x3 x4 x5 : Int} {v6 : vV} {Q : Int → vW → Prop} : VW d 87 18 [(2, x0), (1, x1), (9, 0), (0, x3), (0, x4), (0, x5), v6] [] w Q ↔ VW d 87 21 [(2, x0), (1, x1), (9, 0), (0, x3), (0, x4), (0, x5), (0, 0)] [] w Q :=
  (VW_b 2 (F := fun n => vrun n d 87 21 [(2, x0), (1, x1), (9, 0), (0, x3), (0, x4), (0, x5), (0, 0)] [] w) (fun _ => rfl)).trans (Iff.rfl)
set_option maxRecDepth 100000 in
theorem b87_21 {d : Nat} {w : vW} {x0 x1 x3 x4 x5 x6 : Int} {Q : Int → vW → Prop} : VW d 87 21 [(2, x0), (1, x1), (9, 0), (0, x3), (0, x4), (0, x5), (0, x6)] [] w Q ↔ (vkd w x0 = 22) ∧ ((x6 < (vct w x0 4) → VW d 87 30 [(2, x0), (1, x1), (9, 0), (0, x3), (0, x4), (0, x5), (0, x6)] [] w Q) ∧ (¬ (x6 < (vct w x0 4)) → VW d 87 54 [(2, x0), (1, x1), (9, 0), (0, x3), (0, x4), (0, x5), (0, x6)] [] w Q)) :=
  (VW_b 4 (F := fun n => if vkd w x0 = 22 then (if x6 < (vct w x0 4) then vrun n d 87 30 [(2, x0), (1, x1), (9, 0), (0, x3), (0, x4), (0, x5), (0, x6)] [] w else vrun n d 87 54 [(2, x0), (1, x1), (9, 0), (0, x3), (0, x4), (0, x5), (0, x6)] [] w) else none) (fun _ => rfl)).trans (EX_if.trans (and_congr Iff.rfl (EX_br.trans (and_congr (imp_congr Iff.rfl Iff.rfl) (imp_congr Iff.rfl Iff.rfl)))))
set_option maxRecDepth 100000 in
theorem b87_30 {d : Nat} {w : vW} {x0 x1 x3 x4 x5 x6 : Int} {Q : Int → vW → Prop} : VW d 87 30 [(2, x0), (1, x1), (9, 0), (0, x3), (0, x4), (0, x5), (0, x6)] [] w Q ↔ (vkd w x0 = 22) ∧ VC d 84 [(2, x0), (1, x1), (0, x3), (0, x6), (0, x5)] w (fun r w1 => VW d 87 42 [(2, x0), (1, x1), (9, 0), (0, x3), (0, x4), (0, x5), (0, x6)] [(0, r), (0, x4)] w1 Q) :=
  (VW_b 7 (F := fun n => if vkd w x0 = 22 then vclr (vrun n) d 87 42 84 5 0 [(2, x0), (1, x1), (9, 0), (0, x3), (0, x4), (0, x5), (0, x6)] [(0, x5), (0, x6), (0, x3), (1, x1), (2, x0), (0, x4)] w else none) (fun _ => rfl)).trans (EX_if.trans (and_congr Iff.rfl (EX_call rfl)))
set_option maxRecDepth 100000 in
theorem b87_42 {d : Nat} {w : vW} {x0 x1 x3 x4 x5 x6 y0 y1 : Int} {Q : Int → vW → Prop} : VW d 87 42 [(2, x0), (1, x1), (9, 0), (0, x3), (0, x4), (0, x5), (0, x6)] [(0, y1), (0, y0)] w Q ↔ VC d 57 [(0, y1)] w (fun r w1 => VW d 87 45 [(2, x0), (1, x1), (9, 0), (0, x3), (0, x4), (0, x5), (0, x6)] [(0, r), (0, y0)] w1 Q) :=
  (VW_b 1 (F := fun n => vclr (vrun n) d 87 45 57 1 0 [(2, x0), (1, x1), (9, 0), (0, x3), (0, x4), (0, x5), (0, x6)] [(0, y1), (0, y0)] w) (fun _ => rfl)).trans (EX_call rfl)
set_option maxRecDepth 100000 in
theorem b87_45 {d : Nat} {w : vW} {x0 x1 x3 x4 x5 x6 y0 y1 : Int} {Q : Int → vW → Prop} : VW d 87 45 [(2, x0), (1, x1), (9, 0), (0, x3), (0, x4), (0, x5), (0, x6)] [(0, y1), (0, y0)] w Q ↔ VW d 87 21 [(2, x0), (1, x1), (9, 0), (0, x3), (0, w32 (y0 + y1)), (0, x5), (0, w32 (x6 + 1))] [] w Q :=
  (VW_b 4 (F := fun n => vrun n d 87 21 [(2, x0), (1, x1), (9, 0), (0, x3), (0, w32 (y0 + y1)), (0, x5), (0, w32 (x6 + 1))] [] w) (fun _ => rfl)).trans (Iff.rfl)
set_option maxRecDepth 100000 in
theorem b87_54 {d : Nat} {w : vW} {x0 x1 x3 x4 x5 x6 : Int} {Q : Int → vW → Prop} : VW d 87 54 [(2, x0), (1, x1), (9, 0), (0, x3), (0, x4), (0, x5), (0, x6)] [] w Q ↔ VW d 87 12 [(2, x0), (1, x1), (9, 0), (0, x3), (0, x4), (0, w32 (x5 + 1)), (0, x6)] [] w Q :=
  (VW_b 2 (F := fun n => vrun n d 87 12 [(2, x0), (1, x1), (9, 0), (0, x3), (0, x4), (0, w32 (x5 + 1)), (0, x6)] [] w) (fun _ => rfl)).trans (Iff.rfl)
set_option maxRecDepth 100000 in
theorem b87_60 {d : Nat} {w : vW} {x0 x1 x3 x4 x5 : Int} {v6 : vV} {Q : Int → vW → Prop} : VW d 87 60 [(2, x0), (1, x1), (9, 0), (0, x3), (0, x4), (0, x5), v6] [] w Q ↔ Q x4 w :=
  (VW_b 2 (F := fun n => some (0, x4, w)) (fun _ => rfl)).trans (EX_ret0)
