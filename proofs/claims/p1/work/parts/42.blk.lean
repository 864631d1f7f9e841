/-! 88: StrikeWhatCancelsModel.draws(I)I -/
set_option maxRecDepth 100000 in
theorem b88_0 {d : Nat} {w : vW} {x0 x1 : Int} {Q : Int → vW → Prop} : VW d 88 0 [(2, x0), (0, x1)] [] w Q ↔ (vkd w x0 = 22) ∧ (vkd w x0 = 22) ∧ VW d 88 15 [(2, x0), (0, x1)] [] (vsv w x0 17 (w32 ((w32 ((vct w x0 17) * 1103515245)) + 12345))) Q :=
  (VW_b 8 (F := fun n => if vkd w x0 = 22 then if vkd w x0 = 22 then vrun n d 88 15 [(2, x0), (0, x1)] [] (vsv w x0 17 (w32 ((w32 ((vct w x0 17) * 1103515245)) + 12345))) else none else none) (fun _ => rfl)).trans (EX_if.trans (and_congr Iff.rfl (EX_if.trans (and_congr Iff.rfl (Iff.rfl)))))
set_option maxRecDepth 100000 in
theorem b88_15 {d : Nat} {w : vW} {x0 x1 : Int} {Q : Int → vW → Prop} : VW d 88 15 [(2, x0), (0, x1)] [] w Q ↔ (vkd w x0 = 22) ∧ ¬ (x1 = 0) ∧ Q (Int.tmod (i_ushr (vct w x0 17) 16) x1) w :=
  (VW_b 7 (F := fun n => if vkd w x0 = 22 then if x1 = 0 then none else some (0, Int.tmod (i_ushr (vct w x0 17) 16) x1, w) else none) (fun _ => rfl)).trans (EX_if.trans (and_congr Iff.rfl (EX_ifn.trans (and_congr Iff.rfl (EX_ret0)))))
/-! 89: StrikeWhatCancelsModel.findsByDraw(J)Z -/
set_option maxRecDepth 100000 in
theorem b89_0 {d : Nat} {w : vW} {x0 x1 : Int} {Q : Int → vW → Prop} : VW d 89 0 [(2, x0), (1, x1), (9, 0), (9, 0), (9, 0), (9, 0), (9, 0), (9, 0)] [] w Q ↔ (vkd w x0 = 22) ∧ VC d 87 [(2, x0), (1, x1)] w (fun r w1 => VW d 89 5 [(2, x0), (1, x1), (9, 0), (9, 0), (9, 0), (9, 0), (9, 0), (9, 0)] [(0, r)] w1 Q) :=
  (VW_b 3 (F := fun n => if vkd w x0 = 22 then vclr (vrun n) d 89 5 87 2 0 [(2, x0), (1, x1), (9, 0), (9, 0), (9, 0), (9, 0), (9, 0), (9, 0)] [(1, x1), (2, x0)] w else none) (fun _ => rfl)).trans (EX_if.trans (and_congr Iff.rfl (EX_call rfl)))
set_option maxRecDepth 100000 in
theorem b89_5 {d : Nat} {w : vW} {x0 x1 y0 : Int} {Q : Int → vW → Prop} : VW d 89 5 [(2, x0), (1, x1), (9, 0), (9, 0), (9, 0), (9, 0), (9, 0), (9, 0)] [(0, y0)] w Q ↔ ((y0 = 0 → VW d 89 10 [(2, x0), (1, x1), (9, 0), (0, y0), (9, 0), (9, 0), (9, 0), (9, 0)] [] w Q) ∧ (¬ (y0 = 0) → VW d 89 12 [(2, x0), (1, x1), (9, 0), (0, y0), (9, 0), (9, 0), (9, 0), (9, 0)] [] w Q)) :=
  (VW_b 3 (F := fun n => (if y0 = 0 then vrun n d 89 10 [(2, x0), (1, x1), (9, 0), (0, y0), (9, 0), (9, 0), (9, 0), (9, 0)] [] w else vrun n d 89 12 [(2, x0), (1, x1), (9, 0), (0, y0), (9, 0), (9, 0), (9, 0), (9, 0)] [] w)) (fun _ => rfl)).trans (EX_br.trans (and_congr (imp_congr Iff.rfl Iff.rfl) (imp_congr Iff.rfl Iff.rfl)))
set_option maxRecDepth 100000 in
theorem b89_10 {d : Nat} {w : vW} {x0 x1 x3 : Int} {Q : Int → vW → Prop} : VW d 89 10 [(2, x0), (1, x1), (9, 0), (0, x3), (9, 0), (9, 0), (9, 0), (9, 0)] [] w Q ↔ Q 0 w :=
  (VW_b 2 (F := fun n => some (0, 0, w)) (fun _ => rfl)).trans (EX_ret0)
set_option maxRecDepth 100000 in
theorem b89_12 {d : Nat} {w : vW} {x0 x1 x3 : Int} {Q : Int → vW → Prop} : VW d 89 12 [(2, x0), (1, x1), (9, 0), (0, x3), (9, 0), (9, 0), (9, 0), (9, 0)] [] w Q ↔ (vkd w x0 = 22) ∧ VC d 88 [(2, x0), (0, x3)] w (fun r w1 => VW d 89 17 [(2, x0), (1, x1), (9, 0), (0, x3), (9, 0), (9, 0), (9, 0), (9, 0)] [(0, r)] w1 Q) :=
  (VW_b 3 (F := fun n => if vkd w x0 = 22 then vclr (vrun n) d 89 17 88 2 0 [(2, x0), (1, x1), (9, 0), (0, x3), (9, 0), (9, 0), (9, 0), (9, 0)] [(0, x3), (2, x0)] w else none) (fun _ => rfl)).trans (EX_if.trans (and_congr Iff.rfl (EX_call rfl)))
set_option maxRecDepth 100000 in
theorem b89_17 {d : Nat} {w : vW} {x0 x1 x3 y0 : Int} {Q : Int → vW → Prop} : VW d 89 17 [(2, x0), (1, x1), (9, 0), (0, x3), (9, 0), (9, 0), (9, 0), (9, 0)] [(0, y0)] w Q ↔ (vkd w x0 = 22) ∧ VC d 60 [(2, x0), (1, x1)] w (fun r w1 => VW d 89 24 [(2, x0), (1, x1), (9, 0), (0, x3), (0, y0), (9, 0), (9, 0), (9, 0)] [(0, r)] w1 Q) :=
  (VW_b 4 (F := fun n => if vkd w x0 = 22 then vclr (vrun n) d 89 24 60 2 0 [(2, x0), (1, x1), (9, 0), (0, x3), (0, y0), (9, 0), (9, 0), (9, 0)] [(1, x1), (2, x0)] w else none) (fun _ => rfl)).trans (EX_if.trans (and_congr Iff.rfl (EX_call rfl)))
set_option maxRecDepth 100000 in
theorem b89_24 {d : Nat} {w : vW} {x0 x1 x3 x4 y0 : Int} {Q : Int → vW → Prop} : VW d 89 24 [(2, x0), (1, x1), (9, 0), (0, x3), (0, x4), (9, 0), (9, 0), (9, 0)] [(0, y0)] w Q ↔ VW d 89 29 [(2, x0), (1, x1), (9, 0), (0, x3), (0, x4), (0, y0), (0, 0), (9, 0)] [] w Q :=
  (VW_b 3 (F := fun n => vrun n d 89 29 [(2, x0), (1, x1), (9, 0), (0, x3), (0, x4), (0, y0), (0, 0), (9, 0)] [] w) (fun _ => rfl)).trans (Iff.rfl)
set_option maxRecDepth 100000 in
theorem b89_29 {d : Nat} {w : vW} {x0 x1 x3 x4 x5 x6 : Int} {v7 : vV} {Q : Int → vW → Prop} : VW d 89 29 [(2, x0), (1, x1), (9, 0), (0, x3), (0, x4), (0, x5), (0, x6), v7] [] w Q ↔ ((x6 < x5 → VW d 89 36 [(2, x0), (1, x1), (9, 0), (0, x3), (0, x4), (0, x5), (0, x6), v7] [] w Q) ∧ (¬ (x6 < x5) → VW d 89 94 [(2, x0), (1, x1), (9, 0), (0, x3), (0, x4), (0, x5), (0, x6), v7] [] w Q)) :=
  (VW_b 3 (F := fun n => (if x6 < x5 then vrun n d 89 36 [(2, x0), (1, x1), (9, 0), (0, x3), (0, x4), (0, x5), (0, x6), v7] [] w else vrun n d 89 94 [(2, x0), (1, x1), (9, 0), (0, x3), (0, x4), (0, x5), (0, x6), v7] [] w)) (fun _ => rfl)).trans (EX_br.trans (and_congr (imp_congr Iff.rfl Iff.rfl) (imp_congr Iff.rfl Iff.rfl)))
set_option maxRecDepth 100000 in
theorem b89_36 {d : Nat} {w : vW} {x0 x1 x3 x4 x5 x6 : Int} {v7 : vV} {Q : Int → vW → Prop} : VW d 89 36 [(2, x0), (1, x1), (9, 0), (0, x3), (0, x4), (0, x5), (0, x6), v7] [] w Q ↔ VW d 89 39 [(2, x0), (1, x1), (9, 0), (0, x3), (0, x4), (0, x5), (0, x6), (0, 0)] [] w Q :=
  (VW_b 2 (F := fun n => vrun n d 89 39 [(2, x0), (1, x1), (9, 0), (0, x3), (0, x4), (0, x5), (0, x6), (0, 0)] [] w) (fun _ => rfl)).trans (Iff.rfl)
set_option maxRecDepth 100000 in
theorem b89_39 {d : Nat} {w : vW} {x0 x1 x3 x4 x5 x6 x7 : Int} {Q : Int → vW → Prop} : VW d 89 39 [(2, x0), (1, x1), (9, 0), (0, x3), (0, x4), (0, x5), (0, x6), (0, x7)] [] w Q ↔ (vkd w x0 = 22) ∧ ((x7 < (vct w x0 4) → VW d 89 48 [(2, x0), (1, x1), (9, 0), (0, x3), (0, x4), (0, x5), (0, x6), (0, x7)] [] w Q) ∧ (¬ (x7 < (vct w x0 4)) → VW d 89 88 [(2, x0), (1, x1), (9, 0), (0, x3), (0, x4), (0, x5), (0, x6), (0, x7)] [] w Q)) :=
  (VW_b 4 (F := fun n => if vkd w x0 = 22 then (if x7 < (vct w x0 4) then vrun n d 89 48 [(2, x0), (1, x1), (9, 0), (0, x3), (0, x4), (0, x5), (0, x6), (0, x7)] [] w else vrun n d 89 88 [(2, x0), (1, x1), (9, 0), (0, x3), (0, x4), (0, x5), (0, x6), (0, x7)] [] w) else none) (fun _ => rfl)).trans (EX_if.trans (and_congr Iff.rfl (EX_br.trans (and_congr (imp_congr Iff.rfl Iff.rfl) (imp_congr Iff.rfl Iff.rfl)))))
set_option maxRecDepth 100000 in
theorem b89_48 {d : Nat} {w : vW} {x0 x1 x3 x4 x5 x6 x7 : Int} {Q : Int → vW → Prop} : VW d 89 48 [(2, x0), (1, x1), (9, 0), (0, x3), (0, x4), (0, x5), (0, x6), (0, x7)] [] w Q ↔ (vkd w x0 = 22) ∧ VC d 84 [(2, x0), (1, x1), (0, x5), (0, x7), (0, x6)] w (fun r w1 => VW d 89 59 [(2, x0), (1, x1), (9, 0), (0, x3), (0, x4), (0, x5), (0, x6), (0, x7)] [(0, r)] w1 Q) :=
  (VW_b 6 (F := fun n => if vkd w x0 = 22 then vclr (vrun n) d 89 59 84 5 0 [(2, x0), (1, x1), (9, 0), (0, x3), (0, x4), (0, x5), (0, x6), (0, x7)] [(0, x6), (0, x7), (0, x5), (1, x1), (2, x0)] w else none) (fun _ => rfl)).trans (EX_if.trans (and_congr Iff.rfl (EX_call rfl)))
set_option maxRecDepth 100000 in
theorem b89_59 {d : Nat} {w : vW} {x0 x1 x3 x4 x5 x6 x7 y0 : Int} {Q : Int → vW → Prop} : VW d 89 59 [(2, x0), (1, x1), (9, 0), (0, x3), (0, x4), (0, x5), (0, x6), (0, x7)] [(0, y0)] w Q ↔ ((y0 = 0 → VW d 89 82 [(2, x0), (1, x1), (9, 0), (0, x3), (0, x4), (0, x5), (0, x6), (0, x7)] [] w Q) ∧ (¬ (y0 = 0) → VW d 89 62 [(2, x0), (1, x1), (9, 0), (0, x3), (0, x4), (0, x5), (0, x6), (0, x7)] [] w Q)) :=
  (VW_b 1 (F := fun n => (if y0 = 0 then vrun n d 89 82 [(2, x0), (1, x1), (9, 0), (0, x3), (0, x4), (0, x5), (0, x6), (0, x7)] [] w else vrun n d 89 62 [(2, x0), (1, x1), (9, 0), (0, x3), (0, x4), (0, x5), (0, x6), (0, x7)] [] w)) (fun _ => rfl)).trans (EX_br.trans (and_congr (imp_congr Iff.rfl Iff.rfl) (imp_congr Iff.rfl Iff.rfl)))
set_option maxRecDepth 100000 in
theorem b89_62 {d : Nat} {w : vW} {x0 x1 x3 x4 x5 x6 x7 : Int} {Q : Int → vW → Prop} : VW d 89 62 [(2, x0), (1, x1), (9, 0), (0, x3), (0, x4), (0, x5), (0, x6), (0, x7)] [] w Q ↔ ((x4 = 0 → VW d 89 67 [(2, x0), (1, x1), (9, 0), (0, x3), (0, x4), (0, x5), (0, x6), (0, x7)] [] w Q) ∧ (¬ (x4 = 0) → VW d 89 79 [(2, x0), (1, x1), (9, 0), (0, x3), (0, x4), (0, x5), (0, x6), (0, x7)] [] w Q)) :=
  (VW_b 2 (F := fun n => (if x4 = 0 then vrun n d 89 67 [(2, x0), (1, x1), (9, 0), (0, x3), (0, x4), (0, x5), (0, x6), (0, x7)] [] w else vrun n d 89 79 [(2, x0), (1, x1), (9, 0), (0, x3), (0, x4), (0, x5), (0, x6), (0, x7)] [] w)) (fun _ => rfl)).trans (EX_br.trans (and_congr (imp_congr Iff.rfl Iff.rfl) (imp_congr Iff.rfl Iff.rfl)))
set_option maxRecDepth 100000 in
theorem b89_67 {d : Nat} {w : vW} {x0 x1 x3 x4 x5 x6 x7 : Int} {Q : Int → vW → Prop} : VW d 89 67 [(2, x0), (1, x1), (9, 0), (0, x3), (0, x4), (0, x5), (0, x6), (0, x7)] [] w Q ↔ (vkd w x0 = 22) ∧ VW d 89 73 [(2, x0), (1, x1), (9, 0), (0, x3), (0, x4), (0, x5), (0, x6), (0, x7)] [] (vsv w x0 23 x7) Q :=
  (VW_b 3 (F := fun n => if vkd w x0 = 22 then vrun n d 89 73 [(2, x0), (1, x1), (9, 0), (0, x3), (0, x4), (0, x5), (0, x6), (0, x7)] [] (vsv w x0 23 x7) else none) (fun _ => rfl)).trans (EX_if.trans (and_congr Iff.rfl (Iff.rfl)))
set_option maxRecDepth 100000 in
theorem b89_73 {d : Nat} {w : vW} {x0 x1 x3 x4 x5 x6 x7 : Int} {Q : Int → vW → Prop} : VW d 89 73 [(2, x0), (1, x1), (9, 0), (0, x3), (0, x4), (0, x5), (0, x6), (0, x7)] [] w Q ↔ (vkd w x0 = 22) ∧ VW d 89 79 [(2, x0), (1, x1), (9, 0), (0, x3), (0, x4), (0, x5), (0, x6), (0, x7)] [] (vsv w x0 24 x6) Q :=
  (VW_b 3 (F := fun n => if vkd w x0 = 22 then vrun n d 89 79 [(2, x0), (1, x1), (9, 0), (0, x3), (0, x4), (0, x5), (0, x6), (0, x7)] [] (vsv w x0 24 x6) else none) (fun _ => rfl)).trans (EX_if.trans (and_congr Iff.rfl (Iff.rfl)))
set_option maxRecDepth 100000 in
theorem b89_79 {d : Nat} {w : vW} {x0 x1 x3 x4 x5 x6 x7 : Int} {Q : Int → vW → Prop} : VW d 89 79 [(2, x0), (1, x1), (9, 0), (0, x3), (0, x4), (0, x5), (0, x6), (0, x7)] [] w Q ↔ VW d 89 82 [(2, x0), (1, x1), (9, 0), (0, x3), (0, w32 (x4 + (-1))), (0, x5), (0, x6), (0, x7)] [] w Q :=
  (VW_b 1 (F := fun n => vrun n d 89 82 [(2, x0), (1, x1), (9, 0), (0, x3), (0, w32 (x4 + (-1))), (0, x5), (0, x6), (0, x7)] [] w) (fun _ => rfl)).trans (Iff.rfl)
set_option maxRecDepth 100000 in
theorem b89_82 {d : Nat} {w : vW} {x0 x1 x3 x4 x5 x6 x7 : Int} {Q : Int → vW → Prop} : VW d 89 82 [(2, x0), (1, x1), (9, 0), (0, x3), (0, x4), (0, x5), (0, x6), (0, x7)] [] w Q ↔ VW d 89 39 [(2, x0), (1, x1), (9, 0), (0, x3), (0, x4), (0, x5), (0, x6), (0, w32 (x7 + 1))] [] w Q :=
  (VW_b 2 (F := fun n => vrun n d 89 39 [(2, x0), (1, x1), (9, 0), (0, x3), (0, x4), (0, x5), (0, x6), (0, w32 (x7 + 1))] [] w) (fun _ => rfl)).trans (Iff.rfl)
set_option maxRecDepth 100000 in
theorem b89_88 {d : Nat} {w : vW} {x0 x1 x3 x4 x5 x6 x7 : Int} {Q : Int → vW → Prop} : VW d 89 88 [(2, x0), (1, x1), (9, 0), (0, x3), (0, x4), (0, x5), (0, x6), (0, x7)] [] w Q ↔ VW d 89 29 [(2, x0), (1, x1), (9, 0), (0, x3), (0, x4), (0, x5), (0, w32 (x6 + 1)), (0, x7)] [] w Q :=
  (VW_b 2 (F := fun n => vrun n d 89 29 [(2, x0), (1, x1), (9, 0), (0, x3), (0, x4), (0, x5), (0, w32 (x6 + 1)), (0, x7)] [] w) (fun _ => rfl)).trans (Iff.rfl)
set_option maxRecDepth 100000 in
theorem b89_94 {d : Nat} {w : vW} {x0 x1 x3 x4 x5 x6 : Int} {v7 : vV} {Q : Int → vW → Prop} : VW d 89 94 [(2, x0), (1, x1), (9, 0), (0, x3), (0, x4), (0, x5), (0, x6), v7] [] w Q ↔ Q 1 w :=
  (VW_b 2 (F := fun n => some (0, 1, w)) (fun _ => rfl)).trans (EX_ret0)
/-! 90: StrikeWhatCancelsModel.strikes(I)Z -/
set_option maxRecDepth 100000 in
theorem b90_0 {d : Nat} {w : vW} {x0 x1 : Int} {Q : Int → vW → Prop} : VW d 90 0 [(2, x0), (0, x1), (9, 0), (9, 0)] [] w Q ↔ ((x1 = 3 → VW d 90 5 [(2, x0), (0, x1), (9, 0), (9, 0)] [] w Q) ∧ (¬ (x1 = 3) → VW d 90 16 [(2, x0), (0, x1), (9, 0), (9, 0)] [] w Q)) :=
  (VW_b 3 (F := fun n => (if x1 = 3 then vrun n d 90 5 [(2, x0), (0, x1), (9, 0), (9, 0)] [] w else vrun n d 90 16 [(2, x0), (0, x1), (9, 0), (9, 0)] [] w)) (fun _ => rfl)).trans (EX_br.trans (and_congr (imp_congr Iff.rfl Iff.rfl) (imp_congr Iff.rfl Iff.rfl)))
set_option maxRecDepth 100000 in
theorem b90_5 {d : Nat} {w : vW} {x0 x1 : Int} {Q : Int → vW → Prop} : VW d 90 5 [(2, x0), (0, x1), (9, 0), (9, 0)] [] w Q ↔ (vkd w x0 = 22) ∧ (vkd w x0 = 22) ∧ VC d 89 [(2, x0), (1, vct w x0 14)] w (fun r w1 => VW d 90 13 [(2, x0), (0, x1), (9, 0), (9, 0)] [(0, r)] w1 Q) :=
  (VW_b 4 (F := fun n => if vkd w x0 = 22 then if vkd w x0 = 22 then vclr (vrun n) d 90 13 89 2 0 [(2, x0), (0, x1), (9, 0), (9, 0)] [(1, vct w x0 14), (2, x0)] w else none else none) (fun _ => rfl)).trans (EX_if.trans (and_congr Iff.rfl (EX_if.trans (and_congr Iff.rfl (EX_call rfl)))))
set_option maxRecDepth 100000 in
theorem b90_13 {d : Nat} {w : vW} {x0 x1 y0 : Int} {Q : Int → vW → Prop} : VW d 90 13 [(2, x0), (0, x1), (9, 0), (9, 0)] [(0, y0)] w Q ↔ VW d 90 29 [(2, x0), (0, x1), (9, 0), (9, 0)] [(0, y0)] w Q :=
  (VW_b 1 (F := fun n => vrun n d 90 29 [(2, x0), (0, x1), (9, 0), (9, 0)] [(0, y0)] w) (fun _ => rfl)).trans (Iff.rfl)
set_option maxRecDepth 100000 in
theorem b90_16 {d : Nat} {w : vW} {x0 x1 : Int} {Q : Int → vW → Prop} : VW d 90 16 [(2, x0), (0, x1), (9, 0), (9, 0)] [] w Q ↔ (vkd w x0 = 22) ∧ (vkd w x0 = 22) ∧ (vkd w x0 = 22) ∧ VC d 85 [(2, x0), (1, vct w x0 14), (0, x1), (0, vct w x0 4)] w (fun r w1 => VW d 90 29 [(2, x0), (0, x1), (9, 0), (9, 0)] [(0, r)] w1 Q) :=
  (VW_b 7 (F := fun n => if vkd w x0 = 22 then if vkd w x0 = 22 then if vkd w x0 = 22 then vclr (vrun n) d 90 29 85 4 0 [(2, x0), (0, x1), (9, 0), (9, 0)] [(0, vct w x0 4), (0, x1), (1, vct w x0 14), (2, x0)] w else none else none else none) (fun _ => rfl)).trans (EX_if.trans (and_congr Iff.rfl (EX_if.trans (and_congr Iff.rfl (EX_if.trans (and_congr Iff.rfl (EX_call rfl)))))))
set_option maxRecDepth 100000 in
theorem b90_29 {d : Nat} {w : vW} {x0 x1 y0 : Int} {Q : Int → vW → Prop} : VW d 90 29 [(2, x0), (0, x1), (9, 0), (9, 0)] [(0, y0)] w Q ↔ ((y0 = 0 → VW d 90 34 [(2, x0), (0, x1), (0, y0), (9, 0)] [] w Q) ∧ (¬ (y0 = 0) → VW d 90 36 [(2, x0), (0, x1), (0, y0), (9, 0)] [] w Q)) :=
  (VW_b 3 (F := fun n => (if y0 = 0 then vrun n d 90 34 [(2, x0), (0, x1), (0, y0), (9, 0)] [] w else vrun n d 90 36 [(2, x0), (0, x1), (0, y0), (9, 0)] [] w)) (fun _ => rfl)).trans (EX_br.trans (and_congr (imp_congr Iff.rfl Iff.rfl) (imp_congr Iff.rfl Iff.rfl)))
set_option maxRecDepth 100000 in
theorem b90_34 {d : Nat} {w : vW} {x0 x1 x2 : Int} {Q : Int → vW → Prop} : VW d 90 34 [(2, x0), (0, x1), (0, x2), (9, 0)] [] w Q ↔ Q 0 w :=
  (VW_b 2 (F := fun n => some (0, 0, w)) (fun _ => rfl)).trans (EX_ret0)
set_option maxRecDepth 100000 in
theorem b90_36 {d : Nat} {w : vW} {x0 x1 x2 : Int} {Q : Int → vW → Prop} : VW d 90 36 [(2, x0), (0, x1), (0, x2), (9, 0)] [] w Q ↔ (vkd w x0 = 22) ∧ (((vct w x0 15) = 64 → VW d 90 45 [(2, x0), (0, x1), (0, x2), (9, 0)] [] w Q) ∧ (¬ ((vct w x0 15) = 64) → VW d 90 83 [(2, x0), (0, x1), (0, x2), (9, 0)] [] w Q)) :=
  (VW_b 4 (F := fun n => if vkd w x0 = 22 then (if (vct w x0 15) = 64 then vrun n d 90 45 [(2, x0), (0, x1), (0, x2), (9, 0)] [] w else vrun n d 90 83 [(2, x0), (0, x1), (0, x2), (9, 0)] [] w) else none) (fun _ => rfl)).trans (EX_if.trans (and_congr Iff.rfl (EX_br.trans (and_congr (imp_congr Iff.rfl Iff.rfl) (imp_congr Iff.rfl Iff.rfl)))))
set_option maxRecDepth 100000 in
theorem b90_45 {d : Nat} {w : vW} {x0 x1 x2 : Int} {Q : Int → vW → Prop} : VW d 90 45 [(2, x0), (0, x1), (0, x2), (9, 0)] [] w Q ↔ VW d 90 47 [(2, x0), (0, x1), (0, x2), (0, 1)] [] w Q :=
  (VW_b 2 (F := fun n => vrun n d 90 47 [(2, x0), (0, x1), (0, x2), (0, 1)] [] w) (fun _ => rfl)).trans (Iff.rfl)
set_option maxRecDepth 100000 in
theorem b90_47 {d : Nat} {w : vW} {x0 x1 x2 x3 : Int} {Q : Int → vW → Prop} : VW d 90 47 [(2, x0), (0, x1), (0, x2), (0, x3)] [] w Q ↔ ((x3 < 64 → VW d 90 53 [(2, x0), (0, x1), (0, x2), (0, x3)] [] w Q) ∧ (¬ (x3 < 64) → VW d 90 73 [(2, x0), (0, x1), (0, x2), (0, x3)] [] w Q)) :=
  (VW_b 3 (F := fun n => (if x3 < 64 then vrun n d 90 53 [(2, x0), (0, x1), (0, x2), (0, x3)] [] w else vrun n d 90 73 [(2, x0), (0, x1), (0, x2), (0, x3)] [] w)) (fun _ => rfl)).trans (EX_br.trans (and_congr (imp_congr Iff.rfl Iff.rfl) (imp_congr Iff.rfl Iff.rfl)))
set_option maxRecDepth 100000 in
theorem b90_53 {d : Nat} {w : vW} {x0 x1 x2 x3 : Int} {Q : Int → vW → Prop} : VW d 90 53 [(2, x0), (0, x1), (0, x2), (0, x3)] [] w Q ↔ (vkd w x0 = 22) ∧ (vkd w x0 = 22) ∧ (vkd w (vct w x0 16) = 2 ∧ (0 : Int) ≤ x3 ∧ x3 < vln w (vct w x0 16)) ∧ (vkd w (vct w x0 16) = 2 ∧ (0 : Int) ≤ (w32 (x3 - 1)) ∧ (w32 (x3 - 1)) < vln w (vct w x0 16)) ∧ VW d 90 67 [(2, x0), (0, x1), (0, x2), (0, x3)] [] (vsv w (vct w x0 16) (w32 (x3 - 1)) (vct w (vct w x0 16) x3)) Q :=
  (VW_b 10 (F := fun n => if vkd w x0 = 22 then if vkd w x0 = 22 then if vkd w (vct w x0 16) = 2 ∧ (0 : Int) ≤ x3 ∧ x3 < vln w (vct w x0 16) then if vkd w (vct w x0 16) = 2 ∧ (0 : Int) ≤ (w32 (x3 - 1)) ∧ (w32 (x3 - 1)) < vln w (vct w x0 16) then vrun n d 90 67 [(2, x0), (0, x1), (0, x2), (0, x3)] [] (vsv w (vct w x0 16) (w32 (x3 - 1)) (vct w (vct w x0 16) x3)) else none else none else none else none) (fun _ => rfl)).trans (EX_if.trans (and_congr Iff.rfl (EX_if.trans (and_congr Iff.rfl (EX_if.trans (and_congr Iff.rfl (EX_if.trans (and_congr Iff.rfl (Iff.rfl)))))))))
set_option maxRecDepth 100000 in
theorem b90_67 {d : Nat} {w : vW} {x0 x1 x2 x3 : Int} {Q : Int → vW → Prop} : VW d 90 67 [(2, x0), (0, x1), (0, x2), (0, x3)] [] w Q ↔ VW d 90 47 [(2, x0), (0, x1), (0, x2), (0, w32 (x3 + 1))] [] w Q :=
  (VW_b 2 (F := fun n => vrun n d 90 47 [(2, x0), (0, x1), (0, x2), (0, w32 (x3 + 1))] [] w) (fun _ => rfl)).trans (Iff.rfl)
set_option maxRecDepth 100000 in
theorem b90_73 {d : Nat} {w : vW} {x0 x1 x2 x3 : Int} {Q : Int → vW → Prop} : VW d 90 73 [(2, x0), (0, x1), (0, x2), (0, x3)] [] w Q ↔ (vkd w x0 = 22) ∧ (vkd w x0 = 22) ∧ VW d 90 83 [(2, x0), (0, x1), (0, x2), (0, x3)] [] (vsv w x0 15 (w32 ((vct w x0 15) - 1))) Q :=
  (VW_b 6 (F := fun n => if vkd w x0 = 22 then if vkd w x0 = 22 then vrun n d 90 83 [(2, x0), (0, x1), (0, x2), (0, x3)] [] (vsv w x0 15 (w32 ((vct w x0 15) - 1))) else none else none) (fun _ => rfl)).trans (EX_if.trans (and_congr Iff.rfl (EX_if.trans (and_congr Iff.rfl (Iff.rfl)))))
set_option maxRecDepth 100000 in
theorem b90_83 {d : Nat} {w : vW} {x0 x1 x2 : Int} {v3 : vV} {Q : Int → vW → Prop} : VW d 90 83 [(2, x0), (0, x1), (0, x2), v3] [] w Q ↔ (vkd w x0 = 22) ∧ (vkd w x0 = 22) ∧ (vkd w x0 = 22) ∧ (vkd w (vct w x0 16) = 2 ∧ (0 : Int) ≤ (vct w x0 15) ∧ (vct w x0 15) < vln w (vct w x0 16)) ∧ VW d 90 96 [(2, x0), (0, x1), (0, x2), v3] [] (vsv w (vct w x0 16) (vct w x0 15) (vct w x0 14)) Q :=
  (VW_b 7 (F := fun n => if vkd w x0 = 22 then if vkd w x0 = 22 then if vkd w x0 = 22 then if vkd w (vct w x0 16) = 2 ∧ (0 : Int) ≤ (vct w x0 15) ∧ (vct w x0 15) < vln w (vct w x0 16) then vrun n d 90 96 [(2, x0), (0, x1), (0, x2), v3] [] (vsv w (vct w x0 16) (vct w x0 15) (vct w x0 14)) else none else none else none else none) (fun _ => rfl)).trans (EX_if.trans (and_congr Iff.rfl (EX_if.trans (and_congr Iff.rfl (EX_if.trans (and_congr Iff.rfl (EX_if.trans (and_congr Iff.rfl (Iff.rfl)))))))))
set_option maxRecDepth 100000 in
theorem b90_96 {d : Nat} {w : vW} {x0 x1 x2 : Int} {v3 : vV} {Q : Int → vW → Prop} : VW d 90 96 [(2, x0), (0, x1), (0, x2), v3] [] w Q ↔ (vkd w x0 = 22) ∧ (vkd w x0 = 22) ∧ VW d 90 106 [(2, x0), (0, x1), (0, x2), v3] [] (vsv w x0 15 (w32 ((vct w x0 15) + 1))) Q :=
  (VW_b 6 (F := fun n => if vkd w x0 = 22 then if vkd w x0 = 22 then vrun n d 90 106 [(2, x0), (0, x1), (0, x2), v3] [] (vsv w x0 15 (w32 ((vct w x0 15) + 1))) else none else none) (fun _ => rfl)).trans (EX_if.trans (and_congr Iff.rfl (EX_if.trans (and_congr Iff.rfl (Iff.rfl)))))
set_option maxRecDepth 100000 in
theorem b90_106 {d : Nat} {w : vW} {x0 x1 x2 : Int} {v3 : vV} {Q : Int → vW → Prop} : VW d 90 106 [(2, x0), (0, x1), (0, x2), v3] [] w Q ↔ (vkd w x0 = 22) ∧ (vkd w x0 = 22) ∧ (vkd w x0 = 22) ∧ (vkd w x0 = 22) ∧ VC d 83 [(2, x0), (1, vct w x0 14), (0, vct w x0 23), (0, vct w x0 24)] w (fun r w1 => VW d 90 123 [(2, x0), (0, x1), (0, x2), v3] [(1, r), (2, x0)] w1 Q) :=
  (VW_b 9 (F := fun n => if vkd w x0 = 22 then if vkd w x0 = 22 then if vkd w x0 = 22 then if vkd w x0 = 22 then vclr (vrun n) d 90 123 83 4 1 [(2, x0), (0, x1), (0, x2), v3] [(0, vct w x0 24), (0, vct w x0 23), (1, vct w x0 14), (2, x0), (2, x0)] w else none else none else none else none) (fun _ => rfl)).trans (EX_if.trans (and_congr Iff.rfl (EX_if.trans (and_congr Iff.rfl (EX_if.trans (and_congr Iff.rfl (EX_if.trans (and_congr Iff.rfl (EX_call rfl)))))))))
set_option maxRecDepth 100000 in
theorem b90_123 {d : Nat} {w : vW} {x0 x1 x2 y0 y1 : Int} {v3 : vV} {Q : Int → vW → Prop} : VW d 90 123 [(2, x0), (0, x1), (0, x2), v3] [(1, y1), (2, y0)] w Q ↔ (vkd w y0 = 22) ∧ VW d 90 126 [(2, x0), (0, x1), (0, x2), v3] [] (vsv w y0 14 y1) Q :=
  (VW_b 1 (F := fun n => if vkd w y0 = 22 then vrun n d 90 126 [(2, x0), (0, x1), (0, x2), v3] [] (vsv w y0 14 y1) else none) (fun _ => rfl)).trans (EX_if.trans (and_congr Iff.rfl (Iff.rfl)))
set_option maxRecDepth 100000 in
theorem b90_126 {d : Nat} {w : vW} {x0 x1 x2 : Int} {v3 : vV} {Q : Int → vW → Prop} : VW d 90 126 [(2, x0), (0, x1), (0, x2), v3] [] w Q ↔ Q 1 w :=
  (VW_b 2 (F := fun n => some (0, 1, w)) (fun _ => rfl)).trans (EX_ret0)
/-! 91: StrikeWhatCancelsModel.strike(I)I -/
set_option maxRecDepth 100000 in
theorem b91_0 {d : Nat} {w : vW} {x0 x1 : Int} {Q : Int → vW → Prop} : VW d 91 0 [(2, x0), (0, x1)] [] w Q ↔ (vkd w x0 = 22) ∧ VW d 91 5 [(2, x0), (0, x1)] [] (vsv w x0 0 0) Q :=
  (VW_b 3 (F := fun n => if vkd w x0 = 22 then vrun n d 91 5 [(2, x0), (0, x1)] [] (vsv w x0 0 0) else none) (fun _ => rfl)).trans (EX_if.trans (and_congr Iff.rfl (Iff.rfl)))
set_option maxRecDepth 100000 in
theorem b91_5 {d : Nat} {w : vW} {x0 x1 : Int} {Q : Int → vW → Prop} : VW d 91 5 [(2, x0), (0, x1)] [] w Q ↔ VC d 56 [(1, x1), (1, 0), (1, 3)] w (fun r w1 => VW d 91 14 [(2, x0), (0, x1)] [(0, r)] w1 Q) :=
  (VW_b 5 (F := fun n => vclr (vrun n) d 91 14 56 3 0 [(2, x0), (0, x1)] [(1, 3), (1, 0), (1, x1)] w) (fun _ => rfl)).trans (EX_call rfl)
set_option maxRecDepth 100000 in
theorem b91_14 {d : Nat} {w : vW} {x0 x1 y0 : Int} {Q : Int → vW → Prop} : VW d 91 14 [(2, x0), (0, x1)] [(0, y0)] w Q ↔ ((y0 = 0 → VW d 91 17 [(2, x0), (0, x1)] [] w Q) ∧ (¬ (y0 = 0) → VW d 91 19 [(2, x0), (0, x1)] [] w Q)) :=
  (VW_b 1 (F := fun n => (if y0 = 0 then vrun n d 91 17 [(2, x0), (0, x1)] [] w else vrun n d 91 19 [(2, x0), (0, x1)] [] w)) (fun _ => rfl)).trans (EX_br.trans (and_congr (imp_congr Iff.rfl Iff.rfl) (imp_congr Iff.rfl Iff.rfl)))
set_option maxRecDepth 100000 in
theorem b91_17 {d : Nat} {w : vW} {x0 x1 : Int} {Q : Int → vW → Prop} : VW d 91 17 [(2, x0), (0, x1)] [] w Q ↔ Q (-1) w :=
  (VW_b 2 (F := fun n => some (0, (-1), w)) (fun _ => rfl)).trans (EX_ret0)
set_option maxRecDepth 100000 in
theorem b91_19 {d : Nat} {w : vW} {x0 x1 : Int} {Q : Int → vW → Prop} : VW d 91 19 [(2, x0), (0, x1)] [] w Q ↔ (vkd w x0 = 22) ∧ VC d 90 [(2, x0), (0, x1)] w (fun r w1 => VW d 91 24 [(2, x0), (0, x1)] [(0, r)] w1 Q) :=
  (VW_b 3 (F := fun n => if vkd w x0 = 22 then vclr (vrun n) d 91 24 90 2 0 [(2, x0), (0, x1)] [(0, x1), (2, x0)] w else none) (fun _ => rfl)).trans (EX_if.trans (and_congr Iff.rfl (EX_call rfl)))
set_option maxRecDepth 100000 in
theorem b91_24 {d : Nat} {w : vW} {x0 x1 y0 : Int} {Q : Int → vW → Prop} : VW d 91 24 [(2, x0), (0, x1)] [(0, y0)] w Q ↔ ((y0 = 0 → VW d 91 27 [(2, x0), (0, x1)] [] w Q) ∧ (¬ (y0 = 0) → VW d 91 30 [(2, x0), (0, x1)] [] w Q)) :=
  (VW_b 1 (F := fun n => (if y0 = 0 then vrun n d 91 27 [(2, x0), (0, x1)] [] w else vrun n d 91 30 [(2, x0), (0, x1)] [] w)) (fun _ => rfl)).trans (EX_br.trans (and_congr (imp_congr Iff.rfl Iff.rfl) (imp_congr Iff.rfl Iff.rfl)))
set_option maxRecDepth 100000 in
theorem b91_27 {d : Nat} {w : vW} {x0 x1 : Int} {Q : Int → vW → Prop} : VW d 91 27 [(2, x0), (0, x1)] [] w Q ↔ Q (-2) w :=
  (VW_b 2 (F := fun n => some (0, (-2), w)) (fun _ => rfl)).trans (EX_ret0)
set_option maxRecDepth 100000 in
theorem b91_30 {d : Nat} {w : vW} {x0 x1 : Int} {Q : Int → vW → Prop} : VW d 91 30 [(2, x0), (0, x1)] [] w Q ↔ (vkd w x0 = 22) ∧ VW d 91 35 [(2, x0), (0, x1)] [] (vsv w x0 1 0) Q :=
  (VW_b 3 (F := fun n => if vkd w x0 = 22 then vrun n d 91 35 [(2, x0), (0, x1)] [] (vsv w x0 1 0) else none) (fun _ => rfl)).trans (EX_if.trans (and_congr Iff.rfl (Iff.rfl)))
set_option maxRecDepth 100000 in
theorem b91_35 {d : Nat} {w : vW} {x0 x1 : Int} {Q : Int → vW → Prop} : VW d 91 35 [(2, x0), (0, x1)] [] w Q ↔ (vkd w x0 = 22) ∧ (vkd w x0 = 22) ∧ VC d 58 [(2, x0), (1, (vct w x0 24))] w (fun _ w1 => VW d 91 44 [(2, x0), (0, x1)] [] w1 Q) :=
  (VW_b 5 (F := fun n => if vkd w x0 = 22 then if vkd w x0 = 22 then vclr (vrun n) d 91 44 58 2 9 [(2, x0), (0, x1)] [(1, (vct w x0 24)), (2, x0)] w else none else none) (fun _ => rfl)).trans (EX_if.trans (and_congr Iff.rfl (EX_if.trans (and_congr Iff.rfl (EX_call rfl)))))
set_option maxRecDepth 100000 in
theorem b91_44 {d : Nat} {w : vW} {x0 x1 : Int} {Q : Int → vW → Prop} : VW d 91 44 [(2, x0), (0, x1)] [] w Q ↔ (vkd w x0 = 22) ∧ (vkd w x0 = 22) ∧ VC d 58 [(2, x0), (1, vct w x0 14)] w (fun _ w1 => VW d 91 52 [(2, x0), (0, x1)] [] w1 Q) :=
  (VW_b 4 (F := fun n => if vkd w x0 = 22 then if vkd w x0 = 22 then vclr (vrun n) d 91 52 58 2 9 [(2, x0), (0, x1)] [(1, vct w x0 14), (2, x0)] w else none else none) (fun _ => rfl)).trans (EX_if.trans (and_congr Iff.rfl (EX_if.trans (and_congr Iff.rfl (EX_call rfl)))))
set_option maxRecDepth 100000 in
theorem b91_52 {d : Nat} {w : vW} {x0 x1 : Int} {Q : Int → vW → Prop} : VW d 91 52 [(2, x0), (0, x1)] [] w Q ↔ (vkd w x0 = 22) ∧ Q (vct w x0 23) w :=
  (VW_b 3 (F := fun n => if vkd w x0 = 22 then some (0, vct w x0 23, w) else none) (fun _ => rfl)).trans (EX_if.trans (and_congr Iff.rfl (EX_ret0)))
/-! 92: StrikeWhatCancelsModel.run(II)I -/
set_option maxRecDepth 100000 in
theorem b92_0 {d : Nat} {w : vW} {x0 x1 x2 : Int} {Q : Int → vW → Prop} : VW d 92 0 [(2, x0), (0, x1), (0, x2), (9, 0), (9, 0)] [] w Q ↔ (vkd w x0 = 22) ∧ VW d 92 5 [(2, x0), (0, x1), (0, x2), (9, 0), (9, 0)] [] (vsv w x0 0 0) Q :=
  (VW_b 3 (F := fun n => if vkd w x0 = 22 then vrun n d 92 5 [(2, x0), (0, x1), (0, x2), (9, 0), (9, 0)] [] (vsv w x0 0 0) else none) (fun _ => rfl)).trans (EX_if.trans (and_congr Iff.rfl (Iff.rfl)))
set_option maxRecDepth 100000 in
theorem b92_5 {d : Nat} {w : vW} {x0 x1 x2 : Int} {Q : Int → vW → Prop} : VW d 92 5 [(2, x0), (0, x1), (0, x2), (9, 0), (9, 0)] [] w Q ↔ VC d 56 [(1, x1), (1, 0), (1, 3)] w (fun r w1 => VW d 92 14 [(2, x0), (0, x1), (0, x2), (9, 0), (9, 0)] [(0, r)] w1 Q) :=
  (VW_b 5 (F := fun n => vclr (vrun n) d 92 14 56 3 0 [(2, x0), (0, x1), (0, x2), (9, 0), (9, 0)] [(1, 3), (1, 0), (1, x1)] w) (fun _ => rfl)).trans (EX_call rfl)
set_option maxRecDepth 100000 in
theorem b92_14 {d : Nat} {w : vW} {x0 x1 x2 y0 : Int} {Q : Int → vW → Prop} : VW d 92 14 [(2, x0), (0, x1), (0, x2), (9, 0), (9, 0)] [(0, y0)] w Q ↔ ((y0 = 0 → VW d 92 29 [(2, x0), (0, x1), (0, x2), (9, 0), (9, 0)] [] w Q) ∧ (¬ (y0 = 0) → VW d 92 17 [(2, x0), (0, x1), (0, x2), (9, 0), (9, 0)] [] w Q)) :=
  (VW_b 1 (F := fun n => (if y0 = 0 then vrun n d 92 29 [(2, x0), (0, x1), (0, x2), (9, 0), (9, 0)] [] w else vrun n d 92 17 [(2, x0), (0, x1), (0, x2), (9, 0), (9, 0)] [] w)) (fun _ => rfl)).trans (EX_br.trans (and_congr (imp_congr Iff.rfl Iff.rfl) (imp_congr Iff.rfl Iff.rfl)))
set_option maxRecDepth 100000 in
theorem b92_17 {d : Nat} {w : vW} {x0 x1 x2 : Int} {Q : Int → vW → Prop} : VW d 92 17 [(2, x0), (0, x1), (0, x2), (9, 0), (9, 0)] [] w Q ↔ VC d 56 [(1, x2), (1, 0), (1, 500)] w (fun r w1 => VW d 92 26 [(2, x0), (0, x1), (0, x2), (9, 0), (9, 0)] [(0, r)] w1 Q) :=
  (VW_b 5 (F := fun n => vclr (vrun n) d 92 26 56 3 0 [(2, x0), (0, x1), (0, x2), (9, 0), (9, 0)] [(1, 500), (1, 0), (1, x2)] w) (fun _ => rfl)).trans (EX_call rfl)
set_option maxRecDepth 100000 in
theorem b92_26 {d : Nat} {w : vW} {x0 x1 x2 y0 : Int} {Q : Int → vW → Prop} : VW d 92 26 [(2, x0), (0, x1), (0, x2), (9, 0), (9, 0)] [(0, y0)] w Q ↔ ((y0 = 0 → VW d 92 29 [(2, x0), (0, x1), (0, x2), (9, 0), (9, 0)] [] w Q) ∧ (¬ (y0 = 0) → VW d 92 31 [(2, x0), (0, x1), (0, x2), (9, 0), (9, 0)] [] w Q)) :=
  (VW_b 1 (F := fun n => (if y0 = 0 then vrun n d 92 29 [(2, x0), (0, x1), (0, x2), (9, 0), (9, 0)] [] w else vrun n d 92 31 [(2, x0), (0, x1), (0, x2), (9, 0), (9, 0)] [] w)) (fun _ => rfl)).trans (EX_br.trans (and_congr (imp_congr Iff.rfl Iff.rfl) (imp_congr Iff.rfl Iff.rfl)))
set_option maxRecDepth 100000 in
theorem b92_29 {d : Nat} {w : vW} {x0 x1 x2 : Int} {Q : Int → vW → Prop} : VW d 92 29 [(2, x0), (0, x1), (0, x2), (9, 0), (9, 0)] [] w Q ↔ Q (-1) w :=
  (VW_b 2 (F := fun n => some (0, (-1), w)) (fun _ => rfl)).trans (EX_ret0)
set_option maxRecDepth 100000 in
theorem b92_31 {d : Nat} {w : vW} {x0 x1 x2 : Int} {Q : Int → vW → Prop} : VW d 92 31 [(2, x0), (0, x1), (0, x2), (9, 0), (9, 0)] [] w Q ↔ VW d 92 33 [(2, x0), (0, x1), (0, x2), (0, 0), (9, 0)] [] w Q :=
  (VW_b 2 (F := fun n => vrun n d 92 33 [(2, x0), (0, x1), (0, x2), (0, 0), (9, 0)] [] w) (fun _ => rfl)).trans (Iff.rfl)
set_option maxRecDepth 100000 in
theorem b92_33 {d : Nat} {w : vW} {x0 x1 x2 x3 : Int} {Q : Int → vW → Prop} : VW d 92 33 [(2, x0), (0, x1), (0, x2), (0, x3), (9, 0)] [] w Q ↔ ((x3 < 12 → VW d 92 39 [(2, x0), (0, x1), (0, x2), (0, x3), (9, 0)] [] w Q) ∧ (¬ (x3 < 12) → VW d 92 52 [(2, x0), (0, x1), (0, x2), (0, x3), (9, 0)] [] w Q)) :=
  (VW_b 3 (F := fun n => (if x3 < 12 then vrun n d 92 39 [(2, x0), (0, x1), (0, x2), (0, x3), (9, 0)] [] w else vrun n d 92 52 [(2, x0), (0, x1), (0, x2), (0, x3), (9, 0)] [] w)) (fun _ => rfl)).trans (EX_br.trans (and_congr (imp_congr Iff.rfl Iff.rfl) (imp_congr Iff.rfl Iff.rfl)))
set_option maxRecDepth 100000 in
theorem b92_39 {d : Nat} {w : vW} {x0 x1 x2 x3 : Int} {Q : Int → vW → Prop} : VW d 92 39 [(2, x0), (0, x1), (0, x2), (0, x3), (9, 0)] [] w Q ↔ (vkd w x0 = 22) ∧ (vkd w (vct w x0 25) = 1 ∧ (0 : Int) ≤ x3 ∧ x3 < vln w (vct w x0 25)) ∧ VW d 92 46 [(2, x0), (0, x1), (0, x2), (0, x3), (9, 0)] [] (vsv w (vct w x0 25) x3 0) Q :=
  (VW_b 5 (F := fun n => if vkd w x0 = 22 then if vkd w (vct w x0 25) = 1 ∧ (0 : Int) ≤ x3 ∧ x3 < vln w (vct w x0 25) then vrun n d 92 46 [(2, x0), (0, x1), (0, x2), (0, x3), (9, 0)] [] (vsv w (vct w x0 25) x3 0) else none else none) (fun _ => rfl)).trans (EX_if.trans (and_congr Iff.rfl (EX_if.trans (and_congr Iff.rfl (Iff.rfl)))))
set_option maxRecDepth 100000 in
theorem b92_46 {d : Nat} {w : vW} {x0 x1 x2 x3 : Int} {Q : Int → vW → Prop} : VW d 92 46 [(2, x0), (0, x1), (0, x2), (0, x3), (9, 0)] [] w Q ↔ VW d 92 33 [(2, x0), (0, x1), (0, x2), (0, w32 (x3 + 1)), (9, 0)] [] w Q :=
  (VW_b 2 (F := fun n => vrun n d 92 33 [(2, x0), (0, x1), (0, x2), (0, w32 (x3 + 1)), (9, 0)] [] w) (fun _ => rfl)).trans (Iff.rfl)
set_option maxRecDepth 100000 in
theorem b92_52 {d : Nat} {w : vW} {x0 x1 x2 x3 : Int} {Q : Int → vW → Prop} : VW d 92 52 [(2, x0), (0, x1), (0, x2), (0, x3), (9, 0)] [] w Q ↔ VW d 92 54 [(2, x0), (0, x1), (0, x2), (0, 0), (9, 0)] [] w Q :=
  (VW_b 2 (F := fun n => vrun n d 92 54 [(2, x0), (0, x1), (0, x2), (0, 0), (9, 0)] [] w) (fun _ => rfl)).trans (Iff.rfl)
set_option maxRecDepth 100000 in
theorem b92_54 {d : Nat} {w : vW} {x0 x1 x2 x3 : Int} {Q : Int → vW → Prop} : VW d 92 54 [(2, x0), (0, x1), (0, x2), (0, x3), (9, 0)] [] w Q ↔ ((x3 < x2 → VW d 92 59 [(2, x0), (0, x1), (0, x2), (0, x3), (9, 0)] [] w Q) ∧ (¬ (x3 < x2) → VW d 92 86 [(2, x0), (0, x1), (0, x2), (0, x3), (9, 0)] [] w Q)) :=
  (VW_b 3 (F := fun n => (if x3 < x2 then vrun n d 92 59 [(2, x0), (0, x1), (0, x2), (0, x3), (9, 0)] [] w else vrun n d 92 86 [(2, x0), (0, x1), (0, x2), (0, x3), (9, 0)] [] w)) (fun _ => rfl)).trans (EX_br.trans (and_congr (imp_congr Iff.rfl Iff.rfl) (imp_congr Iff.rfl Iff.rfl)))
set_option maxRecDepth 100000 in
theorem b92_59 {d : Nat} {w : vW} {x0 x1 x2 x3 : Int} {Q : Int → vW → Prop} : VW d 92 59 [(2, x0), (0, x1), (0, x2), (0, x3), (9, 0)] [] w Q ↔ (vkd w x0 = 22) ∧ VC d 90 [(2, x0), (0, x1)] w (fun r w1 => VW d 92 64 [(2, x0), (0, x1), (0, x2), (0, x3), (9, 0)] [(0, r)] w1 Q) :=
  (VW_b 3 (F := fun n => if vkd w x0 = 22 then vclr (vrun n) d 92 64 90 2 0 [(2, x0), (0, x1), (0, x2), (0, x3), (9, 0)] [(0, x1), (2, x0)] w else none) (fun _ => rfl)).trans (EX_if.trans (and_congr Iff.rfl (EX_call rfl)))
set_option maxRecDepth 100000 in
theorem b92_64 {d : Nat} {w : vW} {x0 x1 x2 x3 y0 : Int} {Q : Int → vW → Prop} : VW d 92 64 [(2, x0), (0, x1), (0, x2), (0, x3), (9, 0)] [(0, y0)] w Q ↔ ((y0 = 0 → VW d 92 86 [(2, x0), (0, x1), (0, x2), (0, x3), (9, 0)] [] w Q) ∧ (¬ (y0 = 0) → VW d 92 67 [(2, x0), (0, x1), (0, x2), (0, x3), (9, 0)] [] w Q)) :=
  (VW_b 1 (F := fun n => (if y0 = 0 then vrun n d 92 86 [(2, x0), (0, x1), (0, x2), (0, x3), (9, 0)] [] w else vrun n d 92 67 [(2, x0), (0, x1), (0, x2), (0, x3), (9, 0)] [] w)) (fun _ => rfl)).trans (EX_br.trans (and_congr (imp_congr Iff.rfl Iff.rfl) (imp_congr Iff.rfl Iff.rfl)))
set_option maxRecDepth 100000 in
theorem b92_67 {d : Nat} {w : vW} {x0 x1 x2 x3 : Int} {Q : Int → vW → Prop} : VW d 92 67 [(2, x0), (0, x1), (0, x2), (0, x3), (9, 0)] [] w Q ↔ (vkd w x0 = 22) ∧ (vkd w x0 = 22) ∧ (vkd w (vct w x0 25) = 1 ∧ (0 : Int) ≤ (vct w x0 23) ∧ (vct w x0 23) < vln w (vct w x0 25)) ∧ (vkd w (vct w x0 25) = 1 ∧ (0 : Int) ≤ (vct w x0 23) ∧ (vct w x0 23) < vln w (vct w x0 25)) ∧ VW d 92 80 [(2, x0), (0, x1), (0, x2), (0, x3), (9, 0)] [] (vsv w (vct w x0 25) (vct w x0 23) (w32 ((vct w (vct w x0 25) (vct w x0 23)) + 1))) Q :=
  (VW_b 9 (F := fun n => if vkd w x0 = 22 then if vkd w x0 = 22 then if vkd w (vct w x0 25) = 1 ∧ (0 : Int) ≤ (vct w x0 23) ∧ (vct w x0 23) < vln w (vct w x0 25) then if vkd w (vct w x0 25) = 1 ∧ (0 : Int) ≤ (vct w x0 23) ∧ (vct w x0 23) < vln w (vct w x0 25) then vrun n d 92 80 [(2, x0), (0, x1), (0, x2), (0, x3), (9, 0)] [] (vsv w (vct w x0 25) (vct w x0 23) (w32 ((vct w (vct w x0 25) (vct w x0 23)) + 1))) else none else none else none else none) (fun _ => rfl)).trans (EX_if.trans (and_congr Iff.rfl (EX_if.trans (and_congr Iff.rfl (EX_if.trans (and_congr Iff.rfl (EX_if.trans (and_congr Iff.rfl (Iff.rfl)))))))))
set_option maxRecDepth 100000 in
theorem b92_80 {d : Nat} {w : vW} {x0 x1 x2 x3 : Int} {Q : Int → vW → Prop} : VW d 92 80 [(2, x0), (0, x1), (0, x2), (0, x3), (9, 0)] [] w Q ↔ VW d 92 54 [(2, x0), (0, x1), (0, x2), (0, w32 (x3 + 1)), (9, 0)] [] w Q :=
  (VW_b 2 (F := fun n => vrun n d 92 54 [(2, x0), (0, x1), (0, x2), (0, w32 (x3 + 1)), (9, 0)] [] w) (fun _ => rfl)).trans (Iff.rfl)
set_option maxRecDepth 100000 in
theorem b92_86 {d : Nat} {w : vW} {x0 x1 x2 x3 : Int} {Q : Int → vW → Prop} : VW d 92 86 [(2, x0), (0, x1), (0, x2), (0, x3), (9, 0)] [] w Q ↔ (vkd w x0 = 22) ∧ VW d 92 91 [(2, x0), (0, x1), (0, x2), (0, x3), (9, 0)] [] (vsv w x0 1 0) Q :=
  (VW_b 3 (F := fun n => if vkd w x0 = 22 then vrun n d 92 91 [(2, x0), (0, x1), (0, x2), (0, x3), (9, 0)] [] (vsv w x0 1 0) else none) (fun _ => rfl)).trans (EX_if.trans (and_congr Iff.rfl (Iff.rfl)))
set_option maxRecDepth 100000 in
theorem b92_91 {d : Nat} {w : vW} {x0 x1 x2 x3 : Int} {Q : Int → vW → Prop} : VW d 92 91 [(2, x0), (0, x1), (0, x2), (0, x3), (9, 0)] [] w Q ↔ (vkd w x0 = 22) ∧ (vkd w x0 = 22) ∧ VC d 58 [(2, x0), (1, vct w x0 14)] w (fun _ w1 => VW d 92 99 [(2, x0), (0, x1), (0, x2), (0, x3), (9, 0)] [] w1 Q) :=
  (VW_b 4 (F := fun n => if vkd w x0 = 22 then if vkd w x0 = 22 then vclr (vrun n) d 92 99 58 2 9 [(2, x0), (0, x1), (0, x2), (0, x3), (9, 0)] [(1, vct w x0 14), (2, x0)] w else none else none) (fun _ => rfl)).trans (EX_if.trans (and_congr Iff.rfl (EX_if.trans (and_congr Iff.rfl (EX_call rfl)))))
set_option maxRecDepth 100000 in
theorem b92_99 {d : Nat} {w : vW} {x0 x1 x2 x3 : Int} {Q : Int → vW → Prop} : VW d 92 99 [(2, x0), (0, x1), (0, x2), (0, x3), (9, 0)] [] w Q ↔ VW d 92 102 [(2, x0), (0, x1), (0, x2), (0, x3), (0, 0)] [] w Q :=
  (VW_b 2 (F := fun n => vrun n d 92 102 [(2, x0), (0, x1), (0, x2), (0, x3), (0, 0)] [] w) (fun _ => rfl)).trans (Iff.rfl)
set_option maxRecDepth 100000 in
theorem b92_102 {d : Nat} {w : vW} {x0 x1 x2 x3 x4 : Int} {Q : Int → vW → Prop} : VW d 92 102 [(2, x0), (0, x1), (0, x2), (0, x3), (0, x4)] [] w Q ↔ (vkd w x0 = 22) ∧ ((x4 < (vct w x0 4) → VW d 92 111 [(2, x0), (0, x1), (0, x2), (0, x3), (0, x4)] [] w Q) ∧ (¬ (x4 < (vct w x0 4)) → VW d 92 129 [(2, x0), (0, x1), (0, x2), (0, x3), (0, x4)] [] w Q)) :=
  (VW_b 4 (F := fun n => if vkd w x0 = 22 then (if x4 < (vct w x0 4) then vrun n d 92 111 [(2, x0), (0, x1), (0, x2), (0, x3), (0, x4)] [] w else vrun n d 92 129 [(2, x0), (0, x1), (0, x2), (0, x3), (0, x4)] [] w) else none) (fun _ => rfl)).trans (EX_if.trans (and_congr Iff.rfl (EX_br.trans (and_congr (imp_congr Iff.rfl Iff.rfl) (imp_congr Iff.rfl Iff.rfl)))))
set_option maxRecDepth 100000 in
theorem b92_111 {d : Nat} {w : vW} {x0 x1 x2 x3 x4 : Int} {Q : Int → vW → Prop} : VW d 92 111 [(2, x0), (0, x1), (0, x2), (0, x3), (0, x4)] [] w Q ↔ (vkd w x0 = 22) ∧ (vkd w (vct w x0 25) = 1 ∧ (0 : Int) ≤ x4 ∧ x4 < vln w (vct w x0 25)) ∧ (vkd w x0 = 22) ∧ VC d 58 [(2, x0), (1, (vct w (vct w x0 25) x4))] w (fun _ w1 => VW d 92 123 [(2, x0), (0, x1), (0, x2), (0, x3), (0, x4)] [] w1 Q) :=
  (VW_b 7 (F := fun n => if vkd w x0 = 22 then if vkd w (vct w x0 25) = 1 ∧ (0 : Int) ≤ x4 ∧ x4 < vln w (vct w x0 25) then if vkd w x0 = 22 then vclr (vrun n) d 92 123 58 2 9 [(2, x0), (0, x1), (0, x2), (0, x3), (0, x4)] [(1, (vct w (vct w x0 25) x4)), (2, x0)] w else none else none else none) (fun _ => rfl)).trans (EX_if.trans (and_congr Iff.rfl (EX_if.trans (and_congr Iff.rfl (EX_if.trans (and_congr Iff.rfl (EX_call rfl)))))))
set_option maxRecDepth 100000 in
theorem b92_123 {d : Nat} {w : vW} {x0 x1 x2 x3 x4 : Int} {Q : Int → vW → Prop} : VW d 92 123 [(2, x0), (0, x1), (0, x2), (0, x3), (0, x4)] [] w Q ↔ VW d 92 102 [(2, x0), (0, x1), (0, x2), (0, x3), (0, w32 (x4 + 1))] [] w Q :=
  (VW_b 2 (F := fun n => vrun n d 92 102 [(2, x0), (0, x1), (0, x2), (0, x3), (0, w32 (x4 + 1))] [] w) (fun _ => rfl)).trans (Iff.rfl)
set_option maxRecDepth 100000 in
theorem b92_129 {d : Nat} {w : vW} {x0 x1 x2 x3 x4 : Int} {Q : Int → vW → Prop} : VW d 92 129 [(2, x0), (0, x1), (0, x2), (0, x3), (0, x4)] [] w Q ↔ Q x3 w :=
  (VW_b 2 (F := fun n => some (0, x3, w)) (fun _ => rfl)).trans (EX_ret0)
/-! 93: StrikeWhatCancelsModel.undo()I -/
set_option maxRecDepth 100000 in
theorem b93_0 {d : Nat} {w : vW} {x0 : Int} {Q : Int → vW → Prop} : VW d 93 0 [(2, x0)] [] w Q ↔ (vkd w x0 = 22) ∧ VW d 93 5 [(2, x0)] [] (vsv w x0 0 0) Q :=
  (VW_b 3 (F := fun n => if vkd w x0 = 22 then vrun n d 93 5 [(2, x0)] [] (vsv w x0 0 0) else none) (fun _ => rfl)).trans (EX_if.trans (and_congr Iff.rfl (Iff.rfl)))
set_option maxRecDepth 100000 in
theorem b93_5 {d : Nat} {w : vW} {x0 : Int} {Q : Int → vW → Prop} : VW d 93 5 [(2, x0)] [] w Q ↔ (vkd w x0 = 22) ∧ (((vct w x0 15) = 0 → VW d 93 12 [(2, x0)] [] w Q) ∧ (¬ ((vct w x0 15) = 0) → VW d 93 14 [(2, x0)] [] w Q)) :=
  (VW_b 3 (F := fun n => if vkd w x0 = 22 then (if (vct w x0 15) = 0 then vrun n d 93 12 [(2, x0)] [] w else vrun n d 93 14 [(2, x0)] [] w) else none) (fun _ => rfl)).trans (EX_if.trans (and_congr Iff.rfl (EX_br.trans (and_congr (imp_congr Iff.rfl Iff.rfl) (imp_congr Iff.rfl Iff.rfl)))))
set_option maxRecDepth 100000 in
theorem b93_12 {d : Nat} {w : vW} {x0 : Int} {Q : Int → vW → Prop} : VW d 93 12 [(2, x0)] [] w Q ↔ Q (-1) w :=
  (VW_b 2 (F := fun n => some (0, (-1), w)) (fun _ => rfl)).trans (EX_ret0)
set_option maxRecDepth 100000 in
theorem b93_14 {d : Nat} {w : vW} {x0 : Int} {Q : Int → vW → Prop} : VW d 93 14 [(2, x0)] [] w Q ↔ (vkd w x0 = 22) ∧ (vkd w x0 = 22) ∧ VW d 93 24 [(2, x0)] [] (vsv w x0 15 (w32 ((vct w x0 15) - 1))) Q :=
  (VW_b 6 (F := fun n => if vkd w x0 = 22 then if vkd w x0 = 22 then vrun n d 93 24 [(2, x0)] [] (vsv w x0 15 (w32 ((vct w x0 15) - 1))) else none else none) (fun _ => rfl)).trans (EX_if.trans (and_congr Iff.rfl (EX_if.trans (and_congr Iff.rfl (Iff.rfl)))))
set_option maxRecDepth 100000 in
theorem b93_24 {d : Nat} {w : vW} {x0 : Int} {Q : Int → vW → Prop} : VW d 93 24 [(2, x0)] [] w Q ↔ (vkd w x0 = 22) ∧ (vkd w x0 = 22) ∧ (vkd w (vct w x0 16) = 2 ∧ (0 : Int) ≤ (vct w x0 15) ∧ (vct w x0 15) < vln w (vct w x0 16)) ∧ (vkd w x0 = 22) ∧ VW d 93 37 [(2, x0)] [] (vsv w x0 14 (vct w (vct w x0 16) (vct w x0 15))) Q :=
  (VW_b 7 (F := fun n => if vkd w x0 = 22 then if vkd w x0 = 22 then if vkd w (vct w x0 16) = 2 ∧ (0 : Int) ≤ (vct w x0 15) ∧ (vct w x0 15) < vln w (vct w x0 16) then if vkd w x0 = 22 then vrun n d 93 37 [(2, x0)] [] (vsv w x0 14 (vct w (vct w x0 16) (vct w x0 15))) else none else none else none else none) (fun _ => rfl)).trans (EX_if.trans (and_congr Iff.rfl (EX_if.trans (and_congr Iff.rfl (EX_if.trans (and_congr Iff.rfl (EX_if.trans (and_congr Iff.rfl (Iff.rfl)))))))))
set_option maxRecDepth 100000 in
theorem b93_37 {d : Nat} {w : vW} {x0 : Int} {Q : Int → vW → Prop} : VW d 93 37 [(2, x0)] [] w Q ↔ (vkd w x0 = 22) ∧ Q (vct w x0 15) w :=
  (VW_b 3 (F := fun n => if vkd w x0 = 22 then some (0, vct w x0 15, w) else none) (fun _ => rfl)).trans (EX_if.trans (and_congr Iff.rfl (EX_ret0)))
/-! 94: StrikeWhatCancelsModel.anew()J -/
set_option maxRecDepth 100000 in
theorem b94_0 {d : Nat} {w : vW} {x0 : Int} {Q : Int → vW → Prop} : VW d 94 0 [(2, x0)] [] w Q ↔ (vkd w x0 = 22) ∧ VW d 94 5 [(2, x0)] [] (vsv w x0 0 0) Q :=
  (VW_b 3 (F := fun n => if vkd w x0 = 22 then vrun n d 94 5 [(2, x0)] [] (vsv w x0 0 0) else none) (fun _ => rfl)).trans (EX_if.trans (and_congr Iff.rfl (Iff.rfl)))
set_option maxRecDepth 100000 in
theorem b94_5 {d : Nat} {w : vW} {x0 : Int} {Q : Int → vW → Prop} : VW d 94 5 [(2, x0)] [] w Q ↔ (vkd w x0 = 22) ∧ (vkd w x0 = 22) ∧ VC d 72 [(2, x0), (1, vct w x0 13)] w (fun _ w1 => VW d 94 13 [(2, x0)] [] w1 Q) :=
  (VW_b 4 (F := fun n => if vkd w x0 = 22 then if vkd w x0 = 22 then vclr (vrun n) d 94 13 72 2 9 [(2, x0)] [(1, vct w x0 13), (2, x0)] w else none else none) (fun _ => rfl)).trans (EX_if.trans (and_congr Iff.rfl (EX_if.trans (and_congr Iff.rfl (EX_call rfl)))))
set_option maxRecDepth 100000 in
theorem b94_13 {d : Nat} {w : vW} {x0 : Int} {Q : Int → vW → Prop} : VW d 94 13 [(2, x0)] [] w Q ↔ (vkd w x0 = 22) ∧ Q (vct w x0 13) w :=
  (VW_b 3 (F := fun n => if vkd w x0 = 22 then some (0, vct w x0 13, w) else none) (fun _ => rfl)).trans (EX_if.trans (and_congr Iff.rfl (EX_ret0)))
/-! 95: StrikeWhatCancelsModel.can()I -/
set_option maxRecDepth 100000 in
theorem b95_0 {d : Nat} {w : vW} {x0 : Int} {Q : Int → vW → Prop} : VW d 95 0 [(2, x0), (9, 0), (9, 0), (9, 0), (9, 0)] [] w Q ↔ (vkd w x0 = 22) ∧ VW d 95 5 [(2, x0), (9, 0), (9, 0), (9, 0), (9, 0)] [] (vsv w x0 0 0) Q :=
  (VW_b 3 (F := fun n => if vkd w x0 = 22 then vrun n d 95 5 [(2, x0), (9, 0), (9, 0), (9, 0), (9, 0)] [] (vsv w x0 0 0) else none) (fun _ => rfl)).trans (EX_if.trans (and_congr Iff.rfl (Iff.rfl)))
set_option maxRecDepth 100000 in
theorem b95_5 {d : Nat} {w : vW} {x0 : Int} {Q : Int → vW → Prop} : VW d 95 5 [(2, x0), (9, 0), (9, 0), (9, 0), (9, 0)] [] w Q ↔ (vkd w x0 = 22) ∧ (vkd w x0 = 22) ∧ VC d 60 [(2, x0), (1, vct w x0 14)] w (fun r w1 => VW d 95 13 [(2, x0), (9, 0), (9, 0), (9, 0), (9, 0)] [(0, r)] w1 Q) :=
  (VW_b 4 (F := fun n => if vkd w x0 = 22 then if vkd w x0 = 22 then vclr (vrun n) d 95 13 60 2 0 [(2, x0), (9, 0), (9, 0), (9, 0), (9, 0)] [(1, vct w x0 14), (2, x0)] w else none else none) (fun _ => rfl)).trans (EX_if.trans (and_congr Iff.rfl (EX_if.trans (and_congr Iff.rfl (EX_call rfl)))))
set_option maxRecDepth 100000 in
theorem b95_13 {d : Nat} {w : vW} {x0 y0 : Int} {Q : Int → vW → Prop} : VW d 95 13 [(2, x0), (9, 0), (9, 0), (9, 0), (9, 0)] [(0, y0)] w Q ↔ (vkd w x0 = 22) ∧ VW d 95 19 [(2, x0), (0, y0), (9, 0), (9, 0), (9, 0)] [] (vsv w x0 1 0) Q :=
  (VW_b 4 (F := fun n => if vkd w x0 = 22 then vrun n d 95 19 [(2, x0), (0, y0), (9, 0), (9, 0), (9, 0)] [] (vsv w x0 1 0) else none) (fun _ => rfl)).trans (EX_if.trans (and_congr Iff.rfl (Iff.rfl)))
set_option maxRecDepth 100000 in
theorem b95_19 {d : Nat} {w : vW} {x0 x1 : Int} {Q : Int → vW → Prop} : VW d 95 19 [(2, x0), (0, x1), (9, 0), (9, 0), (9, 0)] [] w Q ↔ VW d 95 21 [(2, x0), (0, x1), (0, 0), (9, 0), (9, 0)] [] w Q :=
  (VW_b 2 (F := fun n => vrun n d 95 21 [(2, x0), (0, x1), (0, 0), (9, 0), (9, 0)] [] w) (fun _ => rfl)).trans (Iff.rfl)
set_option maxRecDepth 100000 in
theorem b95_21 {d : Nat} {w : vW} {x0 x1 x2 : Int} {v3 v4 : vV} {Q : Int → vW → Prop} : VW d 95 21 [(2, x0), (0, x1), (0, x2), v3, v4] [] w Q ↔ (vkd w x0 = 22) ∧ ((x2 < (vct w x0 4) → VW d 95 29 [(2, x0), (0, x1), (0, x2), v3, v4] [] w Q) ∧ (¬ (x2 < (vct w x0 4)) → VW d 95 76 [(2, x0), (0, x1), (0, x2), v3, v4] [] w Q)) :=
  (VW_b 4 (F := fun n => if vkd w x0 = 22 then (if x2 < (vct w x0 4) then vrun n d 95 29 [(2, x0), (0, x1), (0, x2), v3, v4] [] w else vrun n d 95 76 [(2, x0), (0, x1), (0, x2), v3, v4] [] w) else none) (fun _ => rfl)).trans (EX_if.trans (and_congr Iff.rfl (EX_br.trans (and_congr (imp_congr Iff.rfl Iff.rfl) (imp_congr Iff.rfl Iff.rfl)))))
set_option maxRecDepth 100000 in
theorem b95_29 {d : Nat} {w : vW} {x0 x1 x2 : Int} {v3 v4 : vV} {Q : Int → vW → Prop} : VW d 95 29 [(2, x0), (0, x1), (0, x2), v3, v4] [] w Q ↔ VW d 95 34 [(2, x0), (0, x1), (0, x2), (0, 0), (0, 0)] [] w Q :=
  (VW_b 4 (F := fun n => vrun n d 95 34 [(2, x0), (0, x1), (0, x2), (0, 0), (0, 0)] [] w) (fun _ => rfl)).trans (Iff.rfl)
set_option maxRecDepth 100000 in
theorem b95_34 {d : Nat} {w : vW} {x0 x1 x2 x3 x4 : Int} {Q : Int → vW → Prop} : VW d 95 34 [(2, x0), (0, x1), (0, x2), (0, x3), (0, x4)] [] w Q ↔ ((x4 < x1 → VW d 95 40 [(2, x0), (0, x1), (0, x2), (0, x3), (0, x4)] [] w Q) ∧ (¬ (x4 < x1) → VW d 95 64 [(2, x0), (0, x1), (0, x2), (0, x3), (0, x4)] [] w Q)) :=
  (VW_b 3 (F := fun n => (if x4 < x1 then vrun n d 95 40 [(2, x0), (0, x1), (0, x2), (0, x3), (0, x4)] [] w else vrun n d 95 64 [(2, x0), (0, x1), (0, x2), (0, x3), (0, x4)] [] w)) (fun _ => rfl)).trans (EX_br.trans (and_congr (imp_congr Iff.rfl Iff.rfl) (imp_congr Iff.rfl Iff.rfl)))
set_option maxRecDepth 100000 in
theorem b95_40 {d : Nat} {w : vW} {x0 x1 x2 x3 x4 : Int} {Q : Int → vW → Prop} : VW d 95 40 [(2, x0), (0, x1), (0, x2), (0, x3), (0, x4)] [] w Q ↔ (vkd w x0 = 22) ∧ (vkd w x0 = 22) ∧ VC d 84 [(2, x0), (1, vct w x0 14), (0, x1), (0, x2), (0, x4)] w (fun r w1 => VW d 95 53 [(2, x0), (0, x1), (0, x2), (0, x3), (0, x4)] [(0, r), (0, x3)] w1 Q) :=
  (VW_b 8 (F := fun n => if vkd w x0 = 22 then if vkd w x0 = 22 then vclr (vrun n) d 95 53 84 5 0 [(2, x0), (0, x1), (0, x2), (0, x3), (0, x4)] [(0, x4), (0, x2), (0, x1), (1, vct w x0 14), (2, x0), (0, x3)] w else none else none) (fun _ => rfl)).trans (EX_if.trans (and_congr Iff.rfl (EX_if.trans (and_congr Iff.rfl (EX_call rfl)))))
set_option maxRecDepth 100000 in
theorem b95_53 {d : Nat} {w : vW} {x0 x1 x2 x3 x4 y0 y1 : Int} {Q : Int → vW → Prop} : VW d 95 53 [(2, x0), (0, x1), (0, x2), (0, x3), (0, x4)] [(0, y1), (0, y0)] w Q ↔ VC d 57 [(0, y1)] w (fun r w1 => VW d 95 56 [(2, x0), (0, x1), (0, x2), (0, x3), (0, x4)] [(0, r), (0, y0)] w1 Q) :=
  (VW_b 1 (F := fun n => vclr (vrun n) d 95 56 57 1 0 [(2, x0), (0, x1), (0, x2), (0, x3), (0, x4)] [(0, y1), (0, y0)] w) (fun _ => rfl)).trans (EX_call rfl)
set_option maxRecDepth 100000 in
theorem b95_56 {d : Nat} {w : vW} {x0 x1 x2 x3 x4 y0 y1 : Int} {Q : Int → vW → Prop} : VW d 95 56 [(2, x0), (0, x1), (0, x2), (0, x3), (0, x4)] [(0, y1), (0, y0)] w Q ↔ VW d 95 34 [(2, x0), (0, x1), (0, x2), (0, w32 (y0 + y1)), (0, w32 (x4 + 1))] [] w Q :=
  (VW_b 4 (F := fun n => vrun n d 95 34 [(2, x0), (0, x1), (0, x2), (0, w32 (y0 + y1)), (0, w32 (x4 + 1))] [] w) (fun _ => rfl)).trans (Iff.rfl)
set_option maxRecDepth 100000 in
theorem b95_64 {d : Nat} {w : vW} {x0 x1 x2 x3 x4 : Int} {Q : Int → vW → Prop} : VW d 95 64 [(2, x0), (0, x1), (0, x2), (0, x3), (0, x4)] [] w Q ↔ (vkd w x0 = 22) ∧ VC d 58 [(2, x0), (1, x3)] w (fun _ w1 => VW d 95 70 [(2, x0), (0, x1), (0, x2), (0, x3), (0, x4)] [] w1 Q) :=
  (VW_b 4 (F := fun n => if vkd w x0 = 22 then vclr (vrun n) d 95 70 58 2 9 [(2, x0), (0, x1), (0, x2), (0, x3), (0, x4)] [(1, x3), (2, x0)] w else none) (fun _ => rfl)).trans (EX_if.trans (and_congr Iff.rfl (EX_call rfl)))
set_option maxRecDepth 100000 in
theorem b95_70 {d : Nat} {w : vW} {x0 x1 x2 x3 x4 : Int} {Q : Int → vW → Prop} : VW d 95 70 [(2, x0), (0, x1), (0, x2), (0, x3), (0, x4)] [] w Q ↔ VW d 95 21 [(2, x0), (0, x1), (0, w32 (x2 + 1)), (0, x3), (0, x4)] [] w Q :=
  (VW_b 2 (F := fun n => vrun n d 95 21 [(2, x0), (0, x1), (0, w32 (x2 + 1)), (0, x3), (0, x4)] [] w) (fun _ => rfl)).trans (Iff.rfl)
set_option maxRecDepth 100000 in
theorem b95_76 {d : Nat} {w : vW} {x0 x1 x2 : Int} {v3 v4 : vV} {Q : Int → vW → Prop} : VW d 95 76 [(2, x0), (0, x1), (0, x2), v3, v4] [] w Q ↔ (vkd w x0 = 22) ∧ (vkd w x0 = 22) ∧ VC d 87 [(2, x0), (1, vct w x0 14)] w (fun r w1 => VW d 95 84 [(2, x0), (0, x1), (0, x2), v3, v4] [(0, r)] w1 Q) :=
  (VW_b 4 (F := fun n => if vkd w x0 = 22 then if vkd w x0 = 22 then vclr (vrun n) d 95 84 87 2 0 [(2, x0), (0, x1), (0, x2), v3, v4] [(1, vct w x0 14), (2, x0)] w else none else none) (fun _ => rfl)).trans (EX_if.trans (and_congr Iff.rfl (EX_if.trans (and_congr Iff.rfl (EX_call rfl)))))
set_option maxRecDepth 100000 in
theorem b95_84 {d : Nat} {w : vW} {x0 x1 x2 y0 : Int} {v3 v4 : vV} {Q : Int → vW → Prop} : VW d 95 84 [(2, x0), (0, x1), (0, x2), v3, v4] [(0, y0)] w Q ↔ Q y0 w :=
  (VW_b 1 (F := fun n => some (0, y0, w)) (fun _ => rfl)).trans (EX_ret0)
/-! 96: StrikeWhatCancelsModel.judge(III)I -/
set_option maxRecDepth 100000 in
theorem b96_0 {d : Nat} {w : vW} {x0 x1 x2 x3 : Int} {Q : Int → vW → Prop} : VW d 96 0 [(2, x0), (0, x1), (0, x2), (0, x3), (9, 0), (9, 0), (9, 0), (9, 0), (9, 0), (9, 0), (9, 0)] [] w Q ↔ (vkd w x0 = 22) ∧ VW d 96 5 [(2, x0), (0, x1), (0, x2), (0, x3), (9, 0), (9, 0), (9, 0), (9, 0), (9, 0), (9, 0), (9, 0)] [] (vsv w x0 0 0) Q :=
  (VW_b 3 (F := fun n => if vkd w x0 = 22 then vrun n d 96 5 [(2, x0), (0, x1), (0, x2), (0, x3), (9, 0), (9, 0), (9, 0), (9, 0), (9, 0), (9, 0), (9, 0)] [] (vsv w x0 0 0) else none) (fun _ => rfl)).trans (EX_if.trans (and_congr Iff.rfl (Iff.rfl)))
set_option maxRecDepth 100000 in
theorem b96_5 {d : Nat} {w : vW} {x0 x1 x2 x3 : Int} {Q : Int → vW → Prop} : VW d 96 5 [(2, x0), (0, x1), (0, x2), (0, x3), (9, 0), (9, 0), (9, 0), (9, 0), (9, 0), (9, 0), (9, 0)] [] w Q ↔ VC d 56 [(1, x1), (1, 0), (1, 7)] w (fun r w1 => VW d 96 14 [(2, x0), (0, x1), (0, x2), (0, x3), (9, 0), (9, 0), (9, 0), (9, 0), (9, 0), (9, 0), (9, 0)] [(0, r)] w1 Q) :=
  (VW_b 5 (F := fun n => vclr (vrun n) d 96 14 56 3 0 [(2, x0), (0, x1), (0, x2), (0, x3), (9, 0), (9, 0), (9, 0), (9, 0), (9, 0), (9, 0), (9, 0)] [(1, 7), (1, 0), (1, x1)] w) (fun _ => rfl)).trans (EX_call rfl)
set_option maxRecDepth 100000 in
theorem b96_14 {d : Nat} {w : vW} {x0 x1 x2 x3 y0 : Int} {Q : Int → vW → Prop} : VW d 96 14 [(2, x0), (0, x1), (0, x2), (0, x3), (9, 0), (9, 0), (9, 0), (9, 0), (9, 0), (9, 0), (9, 0)] [(0, y0)] w Q ↔ ((y0 = 0 → VW d 96 17 [(2, x0), (0, x1), (0, x2), (0, x3), (9, 0), (9, 0), (9, 0), (9, 0), (9, 0), (9, 0), (9, 0)] [] w Q) ∧ (¬ (y0 = 0) → VW d 96 19 [(2, x0), (0, x1), (0, x2), (0, x3), (9, 0), (9, 0), (9, 0), (9, 0), (9, 0), (9, 0), (9, 0)] [] w Q)) :=
  (VW_b 1 (F := fun n => (if y0 = 0 then vrun n d 96 17 [(2, x0), (0, x1), (0, x2), (0, x3), (9, 0), (9, 0), (9, 0), (9, 0), (9, 0), (9, 0), (9, 0)] [] w else vrun n d 96 19 [(2, x0), (0, x1), (0, x2), (0, x3), (9, 0), (9, 0), (9, 0), (9, 0), (9, 0), (9, 0), (9, 0)] [] w)) (fun _ => rfl)).trans (EX_br.trans (and_congr (imp_congr Iff.rfl Iff.rfl) (imp_congr Iff.rfl Iff.rfl)))
set_option maxRecDepth 100000 in
theorem b96_17 {d : Nat} {w : vW} {x0 x1 x2 x3 : Int} {Q : Int → vW → Prop} : VW d 96 17 [(2, x0), (0, x1), (0, x2), (0, x3), (9, 0), (9, 0), (9, 0), (9, 0), (9, 0), (9, 0), (9, 0)] [] w Q ↔ Q (-1) w :=
  (VW_b 2 (F := fun n => some (0, (-1), w)) (fun _ => rfl)).trans (EX_ret0)
set_option maxRecDepth 100000 in
theorem b96_19 {d : Nat} {w : vW} {x0 x1 x2 x3 : Int} {Q : Int → vW → Prop} : VW d 96 19 [(2, x0), (0, x1), (0, x2), (0, x3), (9, 0), (9, 0), (9, 0), (9, 0), (9, 0), (9, 0), (9, 0)] [] w Q ↔ (vkd w x0 = 22) ∧ VW d 96 32 [(2, x0), (0, x1), (0, x2), (0, x3), (1, vct w x0 13), (9, 0), (0, (-2)), (0, 0), (9, 0), (9, 0), (9, 0)] [] w Q :=
  (VW_b 7 (F := fun n => if vkd w x0 = 22 then vrun n d 96 32 [(2, x0), (0, x1), (0, x2), (0, x3), (1, vct w x0 13), (9, 0), (0, (-2)), (0, 0), (9, 0), (9, 0), (9, 0)] [] w else none) (fun _ => rfl)).trans (EX_if.trans (and_congr Iff.rfl (Iff.rfl)))
set_option maxRecDepth 100000 in
theorem b96_32 {d : Nat} {w : vW} {x0 x1 x2 x3 x4 x6 x7 : Int} {v8 v9 v10 : vV} {Q : Int → vW → Prop} : VW d 96 32 [(2, x0), (0, x1), (0, x2), (0, x3), (1, x4), (9, 0), (0, x6), (0, x7), v8, v9, v10] [] w Q ↔ ((x7 < x1 → VW d 96 38 [(2, x0), (0, x1), (0, x2), (0, x3), (1, x4), (9, 0), (0, x6), (0, x7), v8, v9, v10] [] w Q) ∧ (¬ (x7 < x1) → VW d 96 134 [(2, x0), (0, x1), (0, x2), (0, x3), (1, x4), (9, 0), (0, x6), (0, x7), v8, v9, v10] [] w Q)) :=
  (VW_b 3 (F := fun n => (if x7 < x1 then vrun n d 96 38 [(2, x0), (0, x1), (0, x2), (0, x3), (1, x4), (9, 0), (0, x6), (0, x7), v8, v9, v10] [] w else vrun n d 96 134 [(2, x0), (0, x1), (0, x2), (0, x3), (1, x4), (9, 0), (0, x6), (0, x7), v8, v9, v10] [] w)) (fun _ => rfl)).trans (EX_br.trans (and_congr (imp_congr Iff.rfl Iff.rfl) (imp_congr Iff.rfl Iff.rfl)))
set_option maxRecDepth 100000 in
theorem b96_38 {d : Nat} {w : vW} {x0 x1 x2 x3 x4 x6 x7 : Int} {v8 v9 v10 : vV} {Q : Int → vW → Prop} : VW d 96 38 [(2, x0), (0, x1), (0, x2), (0, x3), (1, x4), (9, 0), (0, x6), (0, x7), v8, v9, v10] [] w Q ↔ ((x6 < 0 → VW d 96 43 [(2, x0), (0, x1), (0, x2), (0, x3), (1, x4), (9, 0), (0, x6), (0, x7), v8, v9, v10] [] w Q) ∧ (¬ (x6 < 0) → VW d 96 134 [(2, x0), (0, x1), (0, x2), (0, x3), (1, x4), (9, 0), (0, x6), (0, x7), v8, v9, v10] [] w Q)) :=
  (VW_b 2 (F := fun n => (if x6 < 0 then vrun n d 96 43 [(2, x0), (0, x1), (0, x2), (0, x3), (1, x4), (9, 0), (0, x6), (0, x7), v8, v9, v10] [] w else vrun n d 96 134 [(2, x0), (0, x1), (0, x2), (0, x3), (1, x4), (9, 0), (0, x6), (0, x7), v8, v9, v10] [] w)) (fun _ => rfl)).trans (EX_br.trans (and_congr (imp_congr Iff.rfl Iff.rfl) (imp_congr Iff.rfl Iff.rfl)))
set_option maxRecDepth 100000 in
theorem b96_43 {d : Nat} {w : vW} {x0 x1 x2 x3 x4 x6 x7 : Int} {v8 v9 v10 : vV} {Q : Int → vW → Prop} : VW d 96 43 [(2, x0), (0, x1), (0, x2), (0, x3), (1, x4), (9, 0), (0, x6), (0, x7), v8, v9, v10] [] w Q ↔ ((x7 < 4 → VW d 96 49 [(2, x0), (0, x1), (0, x2), (0, x3), (1, x4), (9, 0), (0, x6), (0, x7), v8, v9, v10] [] w Q) ∧ (¬ (x7 < 4) → VW d 96 53 [(2, x0), (0, x1), (0, x2), (0, x3), (1, x4), (9, 0), (0, x6), (0, x7), v8, v9, v10] [] w Q)) :=
  (VW_b 3 (F := fun n => (if x7 < 4 then vrun n d 96 49 [(2, x0), (0, x1), (0, x2), (0, x3), (1, x4), (9, 0), (0, x6), (0, x7), v8, v9, v10] [] w else vrun n d 96 53 [(2, x0), (0, x1), (0, x2), (0, x3), (1, x4), (9, 0), (0, x6), (0, x7), v8, v9, v10] [] w)) (fun _ => rfl)).trans (EX_br.trans (and_congr (imp_congr Iff.rfl Iff.rfl) (imp_congr Iff.rfl Iff.rfl)))
set_option maxRecDepth 100000 in
theorem b96_49 {d : Nat} {w : vW} {x0 x1 x2 x3 x4 x6 x7 : Int} {v8 v9 v10 : vV} {Q : Int → vW → Prop} : VW d 96 49 [(2, x0), (0, x1), (0, x2), (0, x3), (1, x4), (9, 0), (0, x6), (0, x7), v8, v9, v10] [] w Q ↔ VW d 96 54 [(2, x0), (0, x1), (0, x2), (0, x3), (1, x4), (9, 0), (0, x6), (0, x7), v8, v9, v10] [(0, x2)] w Q :=
  (VW_b 2 (F := fun n => vrun n d 96 54 [(2, x0), (0, x1), (0, x2), (0, x3), (1, x4), (9, 0), (0, x6), (0, x7), v8, v9, v10] [(0, x2)] w) (fun _ => rfl)).trans (Iff.rfl)
set_option maxRecDepth 100000 in
theorem b96_53 {d : Nat} {w : vW} {x0 x1 x2 x3 x4 x6 x7 : Int} {v8 v9 v10 : vV} {Q : Int → vW → Prop} : VW d 96 53 [(2, x0), (0, x1), (0, x2), (0, x3), (1, x4), (9, 0), (0, x6), (0, x7), v8, v9, v10] [] w Q ↔ VW d 96 54 [(2, x0), (0, x1), (0, x2), (0, x3), (1, x4), (9, 0), (0, x6), (0, x7), v8, v9, v10] [(0, x3)] w Q :=
  (VW_b 1 (F := fun n => vrun n d 96 54 [(2, x0), (0, x1), (0, x2), (0, x3), (1, x4), (9, 0), (0, x6), (0, x7), v8, v9, v10] [(0, x3)] w) (fun _ => rfl)).trans (Iff.rfl)
set_option maxRecDepth 100000 in
theorem b96_54 {d : Nat} {w : vW} {x0 x1 x2 x3 x4 x6 x7 y0 : Int} {v8 v9 v10 : vV} {Q : Int → vW → Prop} : VW d 96 54 [(2, x0), (0, x1), (0, x2), (0, x3), (1, x4), (9, 0), (0, x6), (0, x7), v8, v9, v10] [(0, y0)] w Q ↔ VW d 96 68 [(2, x0), (0, x1), (0, x2), (0, x3), (1, x4), (9, 0), (0, x6), (0, x7), (0, i_and (i_shr y0 (w32 (8 * (Int.tmod x7 4)))) 255), v9, v10] [] w Q :=
  (VW_b 9 (F := fun n => vrun n d 96 68 [(2, x0), (0, x1), (0, x2), (0, x3), (1, x4), (9, 0), (0, x6), (0, x7), (0, i_and (i_shr y0 (w32 (8 * (Int.tmod x7 4)))) 255), v9, v10] [] w) (fun _ => rfl)).trans (Iff.rfl)
set_option maxRecDepth 100000 in
theorem b96_68 {d : Nat} {w : vW} {x0 x1 x2 x3 x4 x6 x7 x8 : Int} {v9 v10 : vV} {Q : Int → vW → Prop} : VW d 96 68 [(2, x0), (0, x1), (0, x2), (0, x3), (1, x4), (9, 0), (0, x6), (0, x7), (0, x8), v9, v10] [] w Q ↔ VW d 96 75 [(2, x0), (0, x1), (0, x2), (0, x3), (1, x4), (9, 0), (0, x6), (0, x7), (0, x8), (0, i_and x8 15), v10] [] w Q :=
  (VW_b 4 (F := fun n => vrun n d 96 75 [(2, x0), (0, x1), (0, x2), (0, x3), (1, x4), (9, 0), (0, x6), (0, x7), (0, x8), (0, i_and x8 15), v10] [] w) (fun _ => rfl)).trans (Iff.rfl)
set_option maxRecDepth 100000 in
theorem b96_75 {d : Nat} {w : vW} {x0 x1 x2 x3 x4 x6 x7 x8 x9 : Int} {v10 : vV} {Q : Int → vW → Prop} : VW d 96 75 [(2, x0), (0, x1), (0, x2), (0, x3), (1, x4), (9, 0), (0, x6), (0, x7), (0, x8), (0, x9), v10] [] w Q ↔ VW d 96 81 [(2, x0), (0, x1), (0, x2), (0, x3), (1, x4), (9, 0), (0, x6), (0, x7), (0, x8), (0, x9), (0, i_shr x8 4)] [] w Q :=
  (VW_b 4 (F := fun n => vrun n d 96 81 [(2, x0), (0, x1), (0, x2), (0, x3), (1, x4), (9, 0), (0, x6), (0, x7), (0, x8), (0, x9), (0, i_shr x8 4)] [] w) (fun _ => rfl)).trans (Iff.rfl)
set_option maxRecDepth 100000 in
theorem b96_81 {d : Nat} {w : vW} {x0 x1 x2 x3 x4 x6 x7 x8 x9 x10 : Int} {Q : Int → vW → Prop} : VW d 96 81 [(2, x0), (0, x1), (0, x2), (0, x3), (1, x4), (9, 0), (0, x6), (0, x7), (0, x8), (0, x9), (0, x10)] [] w Q ↔ (vkd w x0 = 22) ∧ ((x9 < (vct w x0 4) → VW d 96 90 [(2, x0), (0, x1), (0, x2), (0, x3), (1, x4), (9, 0), (0, x6), (0, x7), (0, x8), (0, x9), (0, x10)] [] w Q) ∧ (¬ (x9 < (vct w x0 4)) → VW d 96 124 [(2, x0), (0, x1), (0, x2), (0, x3), (1, x4), (9, 0), (0, x6), (0, x7), (0, x8), (0, x9), (0, x10)] [] w Q)) :=
  (VW_b 4 (F := fun n => if vkd w x0 = 22 then (if x9 < (vct w x0 4) then vrun n d 96 90 [(2, x0), (0, x1), (0, x2), (0, x3), (1, x4), (9, 0), (0, x6), (0, x7), (0, x8), (0, x9), (0, x10)] [] w else vrun n d 96 124 [(2, x0), (0, x1), (0, x2), (0, x3), (1, x4), (9, 0), (0, x6), (0, x7), (0, x8), (0, x9), (0, x10)] [] w) else none) (fun _ => rfl)).trans (EX_if.trans (and_congr Iff.rfl (EX_br.trans (and_congr (imp_congr Iff.rfl Iff.rfl) (imp_congr Iff.rfl Iff.rfl)))))
set_option maxRecDepth 100000 in
theorem b96_90 {d : Nat} {w : vW} {x0 x1 x2 x3 x4 x6 x7 x8 x9 x10 : Int} {Q : Int → vW → Prop} : VW d 96 90 [(2, x0), (0, x1), (0, x2), (0, x3), (1, x4), (9, 0), (0, x6), (0, x7), (0, x8), (0, x9), (0, x10)] [] w Q ↔ (vkd w x0 = 22) ∧ VC d 60 [(2, x0), (1, x4)] w (fun r w1 => VW d 96 99 [(2, x0), (0, x1), (0, x2), (0, x3), (1, x4), (9, 0), (0, x6), (0, x7), (0, x8), (0, x9), (0, x10)] [(0, r), (1, x4), (2, x0)] w1 Q) :=
  (VW_b 5 (F := fun n => if vkd w x0 = 22 then vclr (vrun n) d 96 99 60 2 0 [(2, x0), (0, x1), (0, x2), (0, x3), (1, x4), (9, 0), (0, x6), (0, x7), (0, x8), (0, x9), (0, x10)] [(1, x4), (2, x0), (1, x4), (2, x0)] w else none) (fun _ => rfl)).trans (EX_if.trans (and_congr Iff.rfl (EX_call rfl)))
set_option maxRecDepth 100000 in
theorem b96_99 {d : Nat} {w : vW} {x0 x1 x2 x3 x4 x6 x7 x8 x9 x10 y0 y1 y2 : Int} {Q : Int → vW → Prop} : VW d 96 99 [(2, x0), (0, x1), (0, x2), (0, x3), (1, x4), (9, 0), (0, x6), (0, x7), (0, x8), (0, x9), (0, x10)] [(0, y2), (1, y1), (2, y0)] w Q ↔ (vkd w y0 = 22) ∧ VC d 84 [(2, y0), (1, y1), (0, y2), (0, x9), (0, x10)] w (fun r w1 => VW d 96 106 [(2, x0), (0, x1), (0, x2), (0, x3), (1, x4), (9, 0), (0, x6), (0, x7), (0, x8), (0, x9), (0, x10)] [(0, r)] w1 Q) :=
  (VW_b 3 (F := fun n => if vkd w y0 = 22 then vclr (vrun n) d 96 106 84 5 0 [(2, x0), (0, x1), (0, x2), (0, x3), (1, x4), (9, 0), (0, x6), (0, x7), (0, x8), (0, x9), (0, x10)] [(0, x10), (0, x9), (0, y2), (1, y1), (2, y0)] w else none) (fun _ => rfl)).trans (EX_if.trans (and_congr Iff.rfl (EX_call rfl)))
set_option maxRecDepth 100000 in
theorem b96_106 {d : Nat} {w : vW} {x0 x1 x2 x3 x4 x6 x7 x8 x9 x10 y0 : Int} {Q : Int → vW → Prop} : VW d 96 106 [(2, x0), (0, x1), (0, x2), (0, x3), (1, x4), (9, 0), (0, x6), (0, x7), (0, x8), (0, x9), (0, x10)] [(0, y0)] w Q ↔ ((y0 = 0 → VW d 96 124 [(2, x0), (0, x1), (0, x2), (0, x3), (1, x4), (9, 0), (0, x6), (0, x7), (0, x8), (0, x9), (0, x10)] [] w Q) ∧ (¬ (y0 = 0) → VW d 96 109 [(2, x0), (0, x1), (0, x2), (0, x3), (1, x4), (9, 0), (0, x6), (0, x7), (0, x8), (0, x9), (0, x10)] [] w Q)) :=
  (VW_b 1 (F := fun n => (if y0 = 0 then vrun n d 96 124 [(2, x0), (0, x1), (0, x2), (0, x3), (1, x4), (9, 0), (0, x6), (0, x7), (0, x8), (0, x9), (0, x10)] [] w else vrun n d 96 109 [(2, x0), (0, x1), (0, x2), (0, x3), (1, x4), (9, 0), (0, x6), (0, x7), (0, x8), (0, x9), (0, x10)] [] w)) (fun _ => rfl)).trans (EX_br.trans (and_congr (imp_congr Iff.rfl Iff.rfl) (imp_congr Iff.rfl Iff.rfl)))
set_option maxRecDepth 100000 in
theorem b96_109 {d : Nat} {w : vW} {x0 x1 x2 x3 x4 x6 x7 x8 x9 x10 : Int} {Q : Int → vW → Prop} : VW d 96 109 [(2, x0), (0, x1), (0, x2), (0, x3), (1, x4), (9, 0), (0, x6), (0, x7), (0, x8), (0, x9), (0, x10)] [] w Q ↔ (vkd w x0 = 22) ∧ VC d 83 [(2, x0), (1, x4), (0, x9), (0, x10)] w (fun r w1 => VW d 96 119 [(2, x0), (0, x1), (0, x2), (0, x3), (1, x4), (9, 0), (0, x6), (0, x7), (0, x8), (0, x9), (0, x10)] [(1, r)] w1 Q) :=
  (VW_b 5 (F := fun n => if vkd w x0 = 22 then vclr (vrun n) d 96 119 83 4 1 [(2, x0), (0, x1), (0, x2), (0, x3), (1, x4), (9, 0), (0, x6), (0, x7), (0, x8), (0, x9), (0, x10)] [(0, x10), (0, x9), (1, x4), (2, x0)] w else none) (fun _ => rfl)).trans (EX_if.trans (and_congr Iff.rfl (EX_call rfl)))
set_option maxRecDepth 100000 in
theorem b96_119 {d : Nat} {w : vW} {x0 x1 x2 x3 x4 x6 x7 x8 x9 x10 y0 : Int} {Q : Int → vW → Prop} : VW d 96 119 [(2, x0), (0, x1), (0, x2), (0, x3), (1, x4), (9, 0), (0, x6), (0, x7), (0, x8), (0, x9), (0, x10)] [(1, y0)] w Q ↔ VW d 96 128 [(2, x0), (0, x1), (0, x2), (0, x3), (1, y0), (9, 0), (0, x6), (0, x7), (0, x8), (0, x9), (0, x10)] [] w Q :=
  (VW_b 2 (F := fun n => vrun n d 96 128 [(2, x0), (0, x1), (0, x2), (0, x3), (1, y0), (9, 0), (0, x6), (0, x7), (0, x8), (0, x9), (0, x10)] [] w) (fun _ => rfl)).trans (Iff.rfl)
set_option maxRecDepth 100000 in
theorem b96_124 {d : Nat} {w : vW} {x0 x1 x2 x3 x4 x6 x7 x8 x9 x10 : Int} {Q : Int → vW → Prop} : VW d 96 124 [(2, x0), (0, x1), (0, x2), (0, x3), (1, x4), (9, 0), (0, x6), (0, x7), (0, x8), (0, x9), (0, x10)] [] w Q ↔ VW d 96 128 [(2, x0), (0, x1), (0, x2), (0, x3), (1, x4), (9, 0), (0, x7), (0, x7), (0, x8), (0, x9), (0, x10)] [] w Q :=
  (VW_b 2 (F := fun n => vrun n d 96 128 [(2, x0), (0, x1), (0, x2), (0, x3), (1, x4), (9, 0), (0, x7), (0, x7), (0, x8), (0, x9), (0, x10)] [] w) (fun _ => rfl)).trans (Iff.rfl)
set_option maxRecDepth 100000 in
theorem b96_128 {d : Nat} {w : vW} {x0 x1 x2 x3 x4 x6 x7 x8 x9 x10 : Int} {Q : Int → vW → Prop} : VW d 96 128 [(2, x0), (0, x1), (0, x2), (0, x3), (1, x4), (9, 0), (0, x6), (0, x7), (0, x8), (0, x9), (0, x10)] [] w Q ↔ VW d 96 32 [(2, x0), (0, x1), (0, x2), (0, x3), (1, x4), (9, 0), (0, x6), (0, w32 (x7 + 1)), (0, x8), (0, x9), (0, x10)] [] w Q :=
  (VW_b 2 (F := fun n => vrun n d 96 32 [(2, x0), (0, x1), (0, x2), (0, x3), (1, x4), (9, 0), (0, x6), (0, w32 (x7 + 1)), (0, x8), (0, x9), (0, x10)] [] w) (fun _ => rfl)).trans (Iff.rfl)
set_option maxRecDepth 100000 in
theorem b96_134 {d : Nat} {w : vW} {x0 x1 x2 x3 x4 x6 x7 : Int} {v8 v9 v10 : vV} {Q : Int → vW → Prop} : VW d 96 134 [(2, x0), (0, x1), (0, x2), (0, x3), (1, x4), (9, 0), (0, x6), (0, x7), v8, v9, v10] [] w Q ↔ (vkd w x0 = 22) ∧ VW d 96 139 [(2, x0), (0, x1), (0, x2), (0, x3), (1, x4), (9, 0), (0, x6), (0, x7), v8, v9, v10] [] (vsv w x0 1 0) Q :=
  (VW_b 3 (F := fun n => if vkd w x0 = 22 then vrun n d 96 139 [(2, x0), (0, x1), (0, x2), (0, x3), (1, x4), (9, 0), (0, x6), (0, x7), v8, v9, v10] [] (vsv w x0 1 0) else none) (fun _ => rfl)).trans (EX_if.trans (and_congr Iff.rfl (Iff.rfl)))
set_option maxRecDepth 100000 in
theorem b96_139 {d : Nat} {w : vW} {x0 x1 x2 x3 x4 x6 x7 : Int} {v8 v9 v10 : vV} {Q : Int → vW → Prop} : VW d 96 139 [(2, x0), (0, x1), (0, x2), (0, x3), (1, x4), (9, 0), (0, x6), (0, x7), v8, v9, v10] [] w Q ↔ (vkd w x0 = 22) ∧ VC d 58 [(2, x0), (1, x4)] w (fun _ w1 => VW d 96 145 [(2, x0), (0, x1), (0, x2), (0, x3), (1, x4), (9, 0), (0, x6), (0, x7), v8, v9, v10] [] w1 Q) :=
  (VW_b 3 (F := fun n => if vkd w x0 = 22 then vclr (vrun n) d 96 145 58 2 9 [(2, x0), (0, x1), (0, x2), (0, x3), (1, x4), (9, 0), (0, x6), (0, x7), v8, v9, v10] [(1, x4), (2, x0)] w else none) (fun _ => rfl)).trans (EX_if.trans (and_congr Iff.rfl (EX_call rfl)))
set_option maxRecDepth 100000 in
theorem b96_145 {d : Nat} {w : vW} {x0 x1 x2 x3 x4 x6 x7 : Int} {v8 v9 v10 : vV} {Q : Int → vW → Prop} : VW d 96 145 [(2, x0), (0, x1), (0, x2), (0, x3), (1, x4), (9, 0), (0, x6), (0, x7), v8, v9, v10] [] w Q ↔ Q x6 w :=
  (VW_b 2 (F := fun n => some (0, x6, w)) (fun _ => rfl)).trans (EX_ret0)
/-! 97: StrikeWhatCancelsModel.clears()V -/
set_option maxRecDepth 100000 in
theorem b97_0 {d : Nat} {w : vW} {x0 : Int} {Q : Int → vW → Prop} : VW d 97 0 [(2, x0), (9, 0)] [] w Q ↔ VW d 97 2 [(2, x0), (0, 0)] [] w Q :=
  (VW_b 2 (F := fun n => vrun n d 97 2 [(2, x0), (0, 0)] [] w) (fun _ => rfl)).trans (Iff.rfl)
set_option maxRecDepth 100000 in
theorem b97_2 {d : Nat} {w : vW} {x0 x1 : Int} {Q : Int → vW → Prop} : VW d 97 2 [(2, x0), (0, x1)] [] w Q ↔ ((x1 < 8192 → VW d 97 9 [(2, x0), (0, x1)] [] w Q) ∧ (¬ (x1 < 8192) → VW d 97 22 [(2, x0), (0, x1)] [] w Q)) :=
  (VW_b 3 (F := fun n => (if x1 < 8192 then vrun n d 97 9 [(2, x0), (0, x1)] [] w else vrun n d 97 22 [(2, x0), (0, x1)] [] w)) (fun _ => rfl)).trans (EX_br.trans (and_congr (imp_congr Iff.rfl Iff.rfl) (imp_congr Iff.rfl Iff.rfl)))
set_option maxRecDepth 100000 in
theorem b97_9 {d : Nat} {w : vW} {x0 x1 : Int} {Q : Int → vW → Prop} : VW d 97 9 [(2, x0), (0, x1)] [] w Q ↔ (vkd w x0 = 22) ∧ (vkd w (vct w x0 26) = 1 ∧ (0 : Int) ≤ x1 ∧ x1 < vln w (vct w x0 26)) ∧ VW d 97 16 [(2, x0), (0, x1)] [] (vsv w (vct w x0 26) x1 (-1)) Q :=
  (VW_b 5 (F := fun n => if vkd w x0 = 22 then if vkd w (vct w x0 26) = 1 ∧ (0 : Int) ≤ x1 ∧ x1 < vln w (vct w x0 26) then vrun n d 97 16 [(2, x0), (0, x1)] [] (vsv w (vct w x0 26) x1 (-1)) else none else none) (fun _ => rfl)).trans (EX_if.trans (and_congr Iff.rfl (EX_if.trans (and_congr Iff.rfl (Iff.rfl)))))
set_option maxRecDepth 100000 in
theorem b97_16 {d : Nat} {w : vW} {x0 x1 : Int} {Q : Int → vW → Prop} : VW d 97 16 [(2, x0), (0, x1)] [] w Q ↔ VW d 97 2 [(2, x0), (0, w32 (x1 + 1))] [] w Q :=
  (VW_b 2 (F := fun n => vrun n d 97 2 [(2, x0), (0, w32 (x1 + 1))] [] w) (fun _ => rfl)).trans (Iff.rfl)
set_option maxRecDepth 100000 in
theorem b97_22 {d : Nat} {w : vW} {x0 x1 : Int} {Q : Int → vW → Prop} : VW d 97 22 [(2, x0), (0, x1)] [] w Q ↔ (vkd w x0 = 22) ∧ VW d 97 27 [(2, x0), (0, x1)] [] (vsv w x0 28 0) Q :=
  (VW_b 3 (F := fun n => if vkd w x0 = 22 then vrun n d 97 27 [(2, x0), (0, x1)] [] (vsv w x0 28 0) else none) (fun _ => rfl)).trans (EX_if.trans (and_congr Iff.rfl (Iff.rfl)))
set_option maxRecDepth 100000 in
theorem b97_27 {d : Nat} {w : vW} {x0 x1 : Int} {Q : Int → vW → Prop} : VW d 97 27 [(2, x0), (0, x1)] [] w Q ↔ Q 0 w :=
  (VW_b 1 (F := fun n => some (0, 0, w)) (fun _ => rfl)).trans (EX_ret0)
/-! 98: StrikeWhatCancelsModel.indexOf(J)I -/
set_option maxRecDepth 100000 in
theorem b98_0 {d : Nat} {w : vW} {x0 x1 : Int} {Q : Int → vW → Prop} : VW d 98 0 [(2, x0), (1, x1), (9, 0), (9, 0)] [] w Q ↔ (vkd w x0 = 22) ∧ VC d 99 [(2, x0), (1, x1)] w (fun r w1 => VW d 98 5 [(2, x0), (1, x1), (9, 0), (9, 0)] [(0, r)] w1 Q) :=
  (VW_b 3 (F := fun n => if vkd w x0 = 22 then vclr (vrun n) d 98 5 99 2 0 [(2, x0), (1, x1), (9, 0), (9, 0)] [(1, x1), (2, x0)] w else none) (fun _ => rfl)).trans (EX_if.trans (and_congr Iff.rfl (EX_call rfl)))
set_option maxRecDepth 100000 in
theorem b98_5 {d : Nat} {w : vW} {x0 x1 y0 : Int} {Q : Int → vW → Prop} : VW d 98 5 [(2, x0), (1, x1), (9, 0), (9, 0)] [(0, y0)] w Q ↔ (vkd w x0 = 22) ∧ (vkd w (vct w x0 26) = 1 ∧ (0 : Int) ≤ y0 ∧ y0 < vln w (vct w x0 26)) ∧ Q (vct w (vct w x0 26) y0) w :=
  (VW_b 6 (F := fun n => if vkd w x0 = 22 then if vkd w (vct w x0 26) = 1 ∧ (0 : Int) ≤ y0 ∧ y0 < vln w (vct w x0 26) then some (0, vct w (vct w x0 26) y0, w) else none else none) (fun _ => rfl)).trans (EX_if.trans (and_congr Iff.rfl (EX_if.trans (and_congr Iff.rfl (EX_ret0)))))
/-! 99: StrikeWhatCancelsModel.slotOf(J)I -/
set_option maxRecDepth 100000 in
theorem b99_0 {d : Nat} {w : vW} {x0 x1 : Int} {Q : Int → vW → Prop} : VW d 99 0 [(2, x0), (1, x1), (9, 0), (9, 0)] [] w Q ↔ VW d 99 11 [(2, x0), (1, x1), (9, 0), (0, w32 (Int.tmod (w64 (x1 * 31)) 8192))] [] w Q :=
  (VW_b 7 (F := fun n => vrun n d 99 11 [(2, x0), (1, x1), (9, 0), (0, w32 (Int.tmod (w64 (x1 * 31)) 8192))] [] w) (fun _ => rfl)).trans (Iff.rfl)
set_option maxRecDepth 100000 in
theorem b99_11 {d : Nat} {w : vW} {x0 x1 x3 : Int} {Q : Int → vW → Prop} : VW d 99 11 [(2, x0), (1, x1), (9, 0), (0, x3)] [] w Q ↔ (vkd w x0 = 22) ∧ (vkd w (vct w x0 26) = 1 ∧ (0 : Int) ≤ x3 ∧ x3 < vln w (vct w x0 26)) ∧ (((vct w (vct w x0 26) x3) < 0 → VW d 99 47 [(2, x0), (1, x1), (9, 0), (0, x3)] [] w Q) ∧ (¬ ((vct w (vct w x0 26) x3) < 0) → VW d 99 20 [(2, x0), (1, x1), (9, 0), (0, x3)] [] w Q)) :=
  (VW_b 5 (F := fun n => if vkd w x0 = 22 then if vkd w (vct w x0 26) = 1 ∧ (0 : Int) ≤ x3 ∧ x3 < vln w (vct w x0 26) then (if (vct w (vct w x0 26) x3) < 0 then vrun n d 99 47 [(2, x0), (1, x1), (9, 0), (0, x3)] [] w else vrun n d 99 20 [(2, x0), (1, x1), (9, 0), (0, x3)] [] w) else none else none) (fun _ => rfl)).trans (EX_if.trans (and_congr Iff.rfl (EX_if.trans (and_congr Iff.rfl (EX_br.trans (and_congr (imp_congr Iff.rfl Iff.rfl) (imp_congr Iff.rfl Iff.rfl)))))))
set_option maxRecDepth 100000 in
theorem b99_20 {d : Nat} {w : vW} {x0 x1 x3 : Int} {Q : Int → vW → Prop} : VW d 99 20 [(2, x0), (1, x1), (9, 0), (0, x3)] [] w Q ↔ (vkd w x0 = 22) ∧ (vkd w x0 = 22) ∧ (vkd w (vct w x0 26) = 1 ∧ (0 : Int) ≤ x3 ∧ x3 < vln w (vct w x0 26)) ∧ (vkd w (vct w x0 27) = 2 ∧ (0 : Int) ≤ (vct w (vct w x0 26) x3) ∧ (vct w (vct w x0 26) x3) < vln w (vct w x0 27)) ∧ (((vlc (vct w (vct w x0 27) (vct w (vct w x0 26) x3)) x1) = 0 → VW d 99 47 [(2, x0), (1, x1), (9, 0), (0, x3)] [] w Q) ∧ (¬ ((vlc (vct w (vct w x0 27) (vct w (vct w x0 26) x3)) x1) = 0) → VW d 99 36 [(2, x0), (1, x1), (9, 0), (0, x3)] [] w Q)) :=
  (VW_b 10 (F := fun n => if vkd w x0 = 22 then if vkd w x0 = 22 then if vkd w (vct w x0 26) = 1 ∧ (0 : Int) ≤ x3 ∧ x3 < vln w (vct w x0 26) then if vkd w (vct w x0 27) = 2 ∧ (0 : Int) ≤ (vct w (vct w x0 26) x3) ∧ (vct w (vct w x0 26) x3) < vln w (vct w x0 27) then (if (vlc (vct w (vct w x0 27) (vct w (vct w x0 26) x3)) x1) = 0 then vrun n d 99 47 [(2, x0), (1, x1), (9, 0), (0, x3)] [] w else vrun n d 99 36 [(2, x0), (1, x1), (9, 0), (0, x3)] [] w) else none else none else none else none) (fun _ => rfl)).trans (EX_if.trans (and_congr Iff.rfl (EX_if.trans (and_congr Iff.rfl (EX_if.trans (and_congr Iff.rfl (EX_if.trans (and_congr Iff.rfl (EX_br.trans (and_congr (imp_congr Iff.rfl Iff.rfl) (imp_congr Iff.rfl Iff.rfl)))))))))))
set_option maxRecDepth 100000 in
theorem b99_36 {d : Nat} {w : vW} {x0 x1 x3 : Int} {Q : Int → vW → Prop} : VW d 99 36 [(2, x0), (1, x1), (9, 0), (0, x3)] [] w Q ↔ VW d 99 11 [(2, x0), (1, x1), (9, 0), (0, Int.tmod (w32 (x3 + 1)) 8192)] [] w Q :=
  (VW_b 7 (F := fun n => vrun n d 99 11 [(2, x0), (1, x1), (9, 0), (0, Int.tmod (w32 (x3 + 1)) 8192)] [] w) (fun _ => rfl)).trans (Iff.rfl)
set_option maxRecDepth 100000 in
theorem b99_47 {d : Nat} {w : vW} {x0 x1 x3 : Int} {Q : Int → vW → Prop} : VW d 99 47 [(2, x0), (1, x1), (9, 0), (0, x3)] [] w Q ↔ Q x3 w :=
  (VW_b 2 (F := fun n => some (0, x3, w)) (fun _ => rfl)).trans (EX_ret0)
/-! 100: StrikeWhatCancelsModel.overflows(J)Z -/
set_option maxRecDepth 100000 in
theorem b100_0 {d : Nat} {w : vW} {x0 x1 : Int} {Q : Int → vW → Prop} : VW d 100 0 [(2, x0), (1, x1), (9, 0), (9, 0)] [] w Q ↔ (vkd w x0 = 22) ∧ VC d 99 [(2, x0), (1, x1)] w (fun r w1 => VW d 100 5 [(2, x0), (1, x1), (9, 0), (9, 0)] [(0, r)] w1 Q) :=
  (VW_b 3 (F := fun n => if vkd w x0 = 22 then vclr (vrun n) d 100 5 99 2 0 [(2, x0), (1, x1), (9, 0), (9, 0)] [(1, x1), (2, x0)] w else none) (fun _ => rfl)).trans (EX_if.trans (and_congr Iff.rfl (EX_call rfl)))
set_option maxRecDepth 100000 in
theorem b100_5 {d : Nat} {w : vW} {x0 x1 y0 : Int} {Q : Int → vW → Prop} : VW d 100 5 [(2, x0), (1, x1), (9, 0), (9, 0)] [(0, y0)] w Q ↔ (vkd w x0 = 22) ∧ (vkd w (vct w x0 26) = 1 ∧ (0 : Int) ≤ y0 ∧ y0 < vln w (vct w x0 26)) ∧ (((vct w (vct w x0 26) y0) < 0 → VW d 100 17 [(2, x0), (1, x1), (9, 0), (0, y0)] [] w Q) ∧ (¬ ((vct w (vct w x0 26) y0) < 0) → VW d 100 15 [(2, x0), (1, x1), (9, 0), (0, y0)] [] w Q)) :=
  (VW_b 6 (F := fun n => if vkd w x0 = 22 then if vkd w (vct w x0 26) = 1 ∧ (0 : Int) ≤ y0 ∧ y0 < vln w (vct w x0 26) then (if (vct w (vct w x0 26) y0) < 0 then vrun n d 100 17 [(2, x0), (1, x1), (9, 0), (0, y0)] [] w else vrun n d 100 15 [(2, x0), (1, x1), (9, 0), (0, y0)] [] w) else none else none) (fun _ => rfl)).trans (EX_if.trans (and_congr Iff.rfl (EX_if.trans (and_congr Iff.rfl (EX_br.trans (and_congr (imp_congr Iff.rfl Iff.rfl) (imp_congr Iff.rfl Iff.rfl)))))))
set_option maxRecDepth 100000 in
theorem b100_15 {d : Nat} {w : vW} {x0 x1 x3 : Int} {Q : Int → vW → Prop} : VW d 100 15 [(2, x0), (1, x1), (9, 0), (0, x3)] [] w Q ↔ Q 0 w :=
  (VW_b 2 (F := fun n => some (0, 0, w)) (fun _ => rfl)).trans (EX_ret0)
set_option maxRecDepth 100000 in
theorem b100_17 {d : Nat} {w : vW} {x0 x1 x3 : Int} {Q : Int → vW → Prop} : VW d 100 17 [(2, x0), (1, x1), (9, 0), (0, x3)] [] w Q ↔ (vkd w x0 = 22) ∧ (((vct w x0 28) = 3000 → VW d 100 27 [(2, x0), (1, x1), (9, 0), (0, x3)] [] w Q) ∧ (¬ ((vct w x0 28) = 3000) → VW d 100 29 [(2, x0), (1, x1), (9, 0), (0, x3)] [] w Q)) :=
  (VW_b 4 (F := fun n => if vkd w x0 = 22 then (if (vct w x0 28) = 3000 then vrun n d 100 27 [(2, x0), (1, x1), (9, 0), (0, x3)] [] w else vrun n d 100 29 [(2, x0), (1, x1), (9, 0), (0, x3)] [] w) else none) (fun _ => rfl)).trans (EX_if.trans (and_congr Iff.rfl (EX_br.trans (and_congr (imp_congr Iff.rfl Iff.rfl) (imp_congr Iff.rfl Iff.rfl)))))
set_option maxRecDepth 100000 in
theorem b100_27 {d : Nat} {w : vW} {x0 x1 x3 : Int} {Q : Int → vW → Prop} : VW d 100 27 [(2, x0), (1, x1), (9, 0), (0, x3)] [] w Q ↔ Q 1 w :=
  (VW_b 2 (F := fun n => some (0, 1, w)) (fun _ => rfl)).trans (EX_ret0)
set_option maxRecDepth 100000 in
theorem b100_29 {d : Nat} {w : vW} {x0 x1 x3 : Int} {Q : Int → vW → Prop} : VW d 100 29 [(2, x0), (1, x1), (9, 0), (0, x3)] [] w Q ↔ (vkd w x0 = 22) ∧ (vkd w x0 = 22) ∧ (vkd w (vct w x0 27) = 2 ∧ (0 : Int) ≤ (vct w x0 28) ∧ (vct w x0 28) < vln w (vct w x0 27)) ∧ VW d 100 39 [(2, x0), (1, x1), (9, 0), (0, x3)] [] (vsv w (vct w x0 27) (vct w x0 28) x1) Q :=
  (VW_b 6 (F := fun n => if vkd w x0 = 22 then if vkd w x0 = 22 then if vkd w (vct w x0 27) = 2 ∧ (0 : Int) ≤ (vct w x0 28) ∧ (vct w x0 28) < vln w (vct w x0 27) then vrun n d 100 39 [(2, x0), (1, x1), (9, 0), (0, x3)] [] (vsv w (vct w x0 27) (vct w x0 28) x1) else none else none else none) (fun _ => rfl)).trans (EX_if.trans (and_congr Iff.rfl (EX_if.trans (and_congr Iff.rfl (EX_if.trans (and_congr Iff.rfl (Iff.rfl)))))))
set_option maxRecDepth 100000 in
theorem b100_39 {d : Nat} {w : vW} {x0 x1 x3 : Int} {Q : Int → vW → Prop} : VW d 100 39 [(2, x0), (1, x1), (9, 0), (0, x3)] [] w Q ↔ (vkd w x0 = 22) ∧ (vkd w x0 = 22) ∧ (vkd w (vct w x0 26) = 1 ∧ (0 : Int) ≤ x3 ∧ x3 < vln w (vct w x0 26)) ∧ VW d 100 49 [(2, x0), (1, x1), (9, 0), (0, x3)] [] (vsv w (vct w x0 26) x3 (vct w x0 28)) Q :=
  (VW_b 6 (F := fun n => if vkd w x0 = 22 then if vkd w x0 = 22 then if vkd w (vct w x0 26) = 1 ∧ (0 : Int) ≤ x3 ∧ x3 < vln w (vct w x0 26) then vrun n d 100 49 [(2, x0), (1, x1), (9, 0), (0, x3)] [] (vsv w (vct w x0 26) x3 (vct w x0 28)) else none else none else none) (fun _ => rfl)).trans (EX_if.trans (and_congr Iff.rfl (EX_if.trans (and_congr Iff.rfl (EX_if.trans (and_congr Iff.rfl (Iff.rfl)))))))
set_option maxRecDepth 100000 in
theorem b100_49 {d : Nat} {w : vW} {x0 x1 x3 : Int} {Q : Int → vW → Prop} : VW d 100 49 [(2, x0), (1, x1), (9, 0), (0, x3)] [] w Q ↔ (vkd w x0 = 22) ∧ (vkd w x0 = 22) ∧ VW d 100 59 [(2, x0), (1, x1), (9, 0), (0, x3)] [] (vsv w x0 28 (w32 ((vct w x0 28) + 1))) Q :=
  (VW_b 6 (F := fun n => if vkd w x0 = 22 then if vkd w x0 = 22 then vrun n d 100 59 [(2, x0), (1, x1), (9, 0), (0, x3)] [] (vsv w x0 28 (w32 ((vct w x0 28) + 1))) else none else none) (fun _ => rfl)).trans (EX_if.trans (and_congr Iff.rfl (EX_if.trans (and_congr Iff.rfl (Iff.rfl)))))
set_option maxRecDepth 100000 in
theorem b100_59 {d : Nat} {w : vW} {x0 x1 x3 : Int} {Q : Int → vW → Prop} : VW d 100 59 [(2, x0), (1, x1), (9, 0), (0, x3)] [] w Q ↔ Q 0 w :=
  (VW_b 2 (F := fun n => some (0, 0, w)) (fun _ => rfl)).trans (EX_ret0)
/-! 101: StrikeWhatCancelsModel.isRule(I)Z -/
set_option maxRecDepth 100000 in
theorem b101_0 {d : Nat} {w : vW} {x0 x1 : Int} {Q : Int → vW → Prop} : VW d 101 0 [(2, x0), (0, x1)] [] w Q ↔ (vkd w x0 = 22) ∧ ((x1 = (vct w x0 29) → VW d 101 12 [(2, x0), (0, x1)] [] w Q) ∧ (¬ (x1 = (vct w x0 29)) → VW d 101 8 [(2, x0), (0, x1)] [] w Q)) :=
  (VW_b 4 (F := fun n => if vkd w x0 = 22 then (if x1 = (vct w x0 29) then vrun n d 101 12 [(2, x0), (0, x1)] [] w else vrun n d 101 8 [(2, x0), (0, x1)] [] w) else none) (fun _ => rfl)).trans (EX_if.trans (and_congr Iff.rfl (EX_br.trans (and_congr (imp_congr Iff.rfl Iff.rfl) (imp_congr Iff.rfl Iff.rfl)))))
set_option maxRecDepth 100000 in
theorem b101_8 {d : Nat} {w : vW} {x0 x1 : Int} {Q : Int → vW → Prop} : VW d 101 8 [(2, x0), (0, x1)] [] w Q ↔ VW d 101 13 [(2, x0), (0, x1)] [(0, 1)] w Q :=
  (VW_b 2 (F := fun n => vrun n d 101 13 [(2, x0), (0, x1)] [(0, 1)] w) (fun _ => rfl)).trans (Iff.rfl)
set_option maxRecDepth 100000 in
theorem b101_12 {d : Nat} {w : vW} {x0 x1 : Int} {Q : Int → vW → Prop} : VW d 101 12 [(2, x0), (0, x1)] [] w Q ↔ VW d 101 13 [(2, x0), (0, x1)] [(0, 0)] w Q :=
  (VW_b 1 (F := fun n => vrun n d 101 13 [(2, x0), (0, x1)] [(0, 0)] w) (fun _ => rfl)).trans (Iff.rfl)
set_option maxRecDepth 100000 in
theorem b101_13 {d : Nat} {w : vW} {x0 x1 y0 : Int} {Q : Int → vW → Prop} : VW d 101 13 [(2, x0), (0, x1)] [(0, y0)] w Q ↔ ((0 : Int) ≤ y0 ∧ y0 ≤ 1) ∧ Q y0 w :=
  (VW_b 1 (F := fun n => if (0 : Int) ≤ y0 ∧ y0 ≤ 1 then some (0, y0, w) else none) (fun _ => rfl)).trans (EX_if.trans (and_congr Iff.rfl (EX_ret0)))
/-! 102: StrikeWhatCancelsModel.explores(J)Z -/
set_option maxRecDepth 100000 in
theorem b102_0 {d : Nat} {w : vW} {x0 x1 : Int} {Q : Int → vW → Prop} : VW d 102 0 [(2, x0), (1, x1), (9, 0), (9, 0), (9, 0), (9, 0), (9, 0)] [] w Q ↔ (vkd w x0 = 22) ∧ VC d 97 [(2, x0)] w (fun _ w1 => VW d 102 4 [(2, x0), (1, x1), (9, 0), (9, 0), (9, 0), (9, 0), (9, 0)] [] w1 Q) :=
  (VW_b 2 (F := fun n => if vkd w x0 = 22 then vclr (vrun n) d 102 4 97 1 9 [(2, x0), (1, x1), (9, 0), (9, 0), (9, 0), (9, 0), (9, 0)] [(2, x0)] w else none) (fun _ => rfl)).trans (EX_if.trans (and_congr Iff.rfl (EX_call rfl)))
set_option maxRecDepth 100000 in
theorem b102_4 {d : Nat} {w : vW} {x0 x1 : Int} {Q : Int → vW → Prop} : VW d 102 4 [(2, x0), (1, x1), (9, 0), (9, 0), (9, 0), (9, 0), (9, 0)] [] w Q ↔ (vkd w x0 = 22) ∧ VC d 100 [(2, x0), (1, x1)] w (fun r w1 => VW d 102 9 [(2, x0), (1, x1), (9, 0), (9, 0), (9, 0), (9, 0), (9, 0)] [(0, r)] w1 Q) :=
  (VW_b 3 (F := fun n => if vkd w x0 = 22 then vclr (vrun n) d 102 9 100 2 0 [(2, x0), (1, x1), (9, 0), (9, 0), (9, 0), (9, 0), (9, 0)] [(1, x1), (2, x0)] w else none) (fun _ => rfl)).trans (EX_if.trans (and_congr Iff.rfl (EX_call rfl)))
set_option maxRecDepth 100000 in
theorem b102_9 {d : Nat} {w : vW} {x0 x1 y0 : Int} {Q : Int → vW → Prop} : VW d 102 9 [(2, x0), (1, x1), (9, 0), (9, 0), (9, 0), (9, 0), (9, 0)] [(0, y0)] w Q ↔ VW d 102 12 [(2, x0), (1, x1), (9, 0), (0, 0), (9, 0), (9, 0), (9, 0)] [] w Q :=
  (VW_b 3 (F := fun n => vrun n d 102 12 [(2, x0), (1, x1), (9, 0), (0, 0), (9, 0), (9, 0), (9, 0)] [] w) (fun _ => rfl)).trans (Iff.rfl)
set_option maxRecDepth 100000 in
theorem b102_12 {d : Nat} {w : vW} {x0 x1 x3 : Int} {v4 v5 v6 : vV} {Q : Int → vW → Prop} : VW d 102 12 [(2, x0), (1, x1), (9, 0), (0, x3), v4, v5, v6] [] w Q ↔ (vkd w x0 = 22) ∧ ((x3 < (vct w x0 28) → VW d 102 20 [(2, x0), (1, x1), (9, 0), (0, x3), v4, v5, v6] [] w Q) ∧ (¬ (x3 < (vct w x0 28)) → VW d 102 123 [(2, x0), (1, x1), (9, 0), (0, x3), v4, v5, v6] [] w Q)) :=
  (VW_b 4 (F := fun n => if vkd w x0 = 22 then (if x3 < (vct w x0 28) then vrun n d 102 20 [(2, x0), (1, x1), (9, 0), (0, x3), v4, v5, v6] [] w else vrun n d 102 123 [(2, x0), (1, x1), (9, 0), (0, x3), v4, v5, v6] [] w) else none) (fun _ => rfl)).trans (EX_if.trans (and_congr Iff.rfl (EX_br.trans (and_congr (imp_congr Iff.rfl Iff.rfl) (imp_congr Iff.rfl Iff.rfl)))))
set_option maxRecDepth 100000 in
theorem b102_20 {d : Nat} {w : vW} {x0 x1 x3 : Int} {v4 v5 v6 : vV} {Q : Int → vW → Prop} : VW d 102 20 [(2, x0), (1, x1), (9, 0), (0, x3), v4, v5, v6] [] w Q ↔ (vkd w x0 = 22) ∧ (vkd w (vct w x0 27) = 2 ∧ (0 : Int) ≤ x3 ∧ x3 < vln w (vct w x0 27)) ∧ (vkd w x0 = 22) ∧ VC d 60 [(2, x0), (1, vct w (vct w x0 27) x3)] w (fun r w1 => VW d 102 30 [(2, x0), (1, x1), (9, 0), (0, x3), v4, v5, v6] [(0, r)] w1 Q) :=
  (VW_b 6 (F := fun n => if vkd w x0 = 22 then if vkd w (vct w x0 27) = 2 ∧ (0 : Int) ≤ x3 ∧ x3 < vln w (vct w x0 27) then if vkd w x0 = 22 then vclr (vrun n) d 102 30 60 2 0 [(2, x0), (1, x1), (9, 0), (0, x3), v4, v5, v6] [(1, vct w (vct w x0 27) x3), (2, x0)] w else none else none else none) (fun _ => rfl)).trans (EX_if.trans (and_congr Iff.rfl (EX_if.trans (and_congr Iff.rfl (EX_if.trans (and_congr Iff.rfl (EX_call rfl)))))))
set_option maxRecDepth 100000 in
theorem b102_30 {d : Nat} {w : vW} {x0 x1 x3 y0 : Int} {v4 v5 v6 : vV} {Q : Int → vW → Prop} : VW d 102 30 [(2, x0), (1, x1), (9, 0), (0, x3), v4, v5, v6] [(0, y0)] w Q ↔ VW d 102 35 [(2, x0), (1, x1), (9, 0), (0, x3), (0, y0), (0, 0), v6] [] w Q :=
  (VW_b 3 (F := fun n => vrun n d 102 35 [(2, x0), (1, x1), (9, 0), (0, x3), (0, y0), (0, 0), v6] [] w) (fun _ => rfl)).trans (Iff.rfl)
set_option maxRecDepth 100000 in
theorem b102_35 {d : Nat} {w : vW} {x0 x1 x3 x4 x5 : Int} {v6 : vV} {Q : Int → vW → Prop} : VW d 102 35 [(2, x0), (1, x1), (9, 0), (0, x3), (0, x4), (0, x5), v6] [] w Q ↔ ((x5 < x4 → VW d 102 42 [(2, x0), (1, x1), (9, 0), (0, x3), (0, x4), (0, x5), v6] [] w Q) ∧ (¬ (x5 < x4) → VW d 102 117 [(2, x0), (1, x1), (9, 0), (0, x3), (0, x4), (0, x5), v6] [] w Q)) :=
  (VW_b 3 (F := fun n => (if x5 < x4 then vrun n d 102 42 [(2, x0), (1, x1), (9, 0), (0, x3), (0, x4), (0, x5), v6] [] w else vrun n d 102 117 [(2, x0), (1, x1), (9, 0), (0, x3), (0, x4), (0, x5), v6] [] w)) (fun _ => rfl)).trans (EX_br.trans (and_congr (imp_congr Iff.rfl Iff.rfl) (imp_congr Iff.rfl Iff.rfl)))
set_option maxRecDepth 100000 in
theorem b102_42 {d : Nat} {w : vW} {x0 x1 x3 x4 x5 : Int} {v6 : vV} {Q : Int → vW → Prop} : VW d 102 42 [(2, x0), (1, x1), (9, 0), (0, x3), (0, x4), (0, x5), v6] [] w Q ↔ VW d 102 45 [(2, x0), (1, x1), (9, 0), (0, x3), (0, x4), (0, x5), (0, 0)] [] w Q :=
  (VW_b 2 (F := fun n => vrun n d 102 45 [(2, x0), (1, x1), (9, 0), (0, x3), (0, x4), (0, x5), (0, 0)] [] w) (fun _ => rfl)).trans (Iff.rfl)
set_option maxRecDepth 100000 in
theorem b102_45 {d : Nat} {w : vW} {x0 x1 x3 x4 x5 x6 : Int} {Q : Int → vW → Prop} : VW d 102 45 [(2, x0), (1, x1), (9, 0), (0, x3), (0, x4), (0, x5), (0, x6)] [] w Q ↔ (vkd w x0 = 22) ∧ ((x6 < (vct w x0 4) → VW d 102 54 [(2, x0), (1, x1), (9, 0), (0, x3), (0, x4), (0, x5), (0, x6)] [] w Q) ∧ (¬ (x6 < (vct w x0 4)) → VW d 102 111 [(2, x0), (1, x1), (9, 0), (0, x3), (0, x4), (0, x5), (0, x6)] [] w Q)) :=
  (VW_b 4 (F := fun n => if vkd w x0 = 22 then (if x6 < (vct w x0 4) then vrun n d 102 54 [(2, x0), (1, x1), (9, 0), (0, x3), (0, x4), (0, x5), (0, x6)] [] w else vrun n d 102 111 [(2, x0), (1, x1), (9, 0), (0, x3), (0, x4), (0, x5), (0, x6)] [] w) else none) (fun _ => rfl)).trans (EX_if.trans (and_congr Iff.rfl (EX_br.trans (and_congr (imp_congr Iff.rfl Iff.rfl) (imp_congr Iff.rfl Iff.rfl)))))
set_option maxRecDepth 100000 in
theorem b102_54 {d : Nat} {w : vW} {x0 x1 x3 x4 x5 x6 : Int} {Q : Int → vW → Prop} : VW d 102 54 [(2, x0), (1, x1), (9, 0), (0, x3), (0, x4), (0, x5), (0, x6)] [] w Q ↔ (vkd w x0 = 22) ∧ VC d 101 [(2, x0), (0, x6)] w (fun r w1 => VW d 102 60 [(2, x0), (1, x1), (9, 0), (0, x3), (0, x4), (0, x5), (0, x6)] [(0, r)] w1 Q) :=
  (VW_b 3 (F := fun n => if vkd w x0 = 22 then vclr (vrun n) d 102 60 101 2 0 [(2, x0), (1, x1), (9, 0), (0, x3), (0, x4), (0, x5), (0, x6)] [(0, x6), (2, x0)] w else none) (fun _ => rfl)).trans (EX_if.trans (and_congr Iff.rfl (EX_call rfl)))
set_option maxRecDepth 100000 in
theorem b102_60 {d : Nat} {w : vW} {x0 x1 x3 x4 x5 x6 y0 : Int} {Q : Int → vW → Prop} : VW d 102 60 [(2, x0), (1, x1), (9, 0), (0, x3), (0, x4), (0, x5), (0, x6)] [(0, y0)] w Q ↔ ((y0 = 0 → VW d 102 105 [(2, x0), (1, x1), (9, 0), (0, x3), (0, x4), (0, x5), (0, x6)] [] w Q) ∧ (¬ (y0 = 0) → VW d 102 63 [(2, x0), (1, x1), (9, 0), (0, x3), (0, x4), (0, x5), (0, x6)] [] w Q)) :=
  (VW_b 1 (F := fun n => (if y0 = 0 then vrun n d 102 105 [(2, x0), (1, x1), (9, 0), (0, x3), (0, x4), (0, x5), (0, x6)] [] w else vrun n d 102 63 [(2, x0), (1, x1), (9, 0), (0, x3), (0, x4), (0, x5), (0, x6)] [] w)) (fun _ => rfl)).trans (EX_br.trans (and_congr (imp_congr Iff.rfl Iff.rfl) (imp_congr Iff.rfl Iff.rfl)))
set_option maxRecDepth 100000 in
theorem b102_63 {d : Nat} {w : vW} {x0 x1 x3 x4 x5 x6 : Int} {Q : Int → vW → Prop} : VW d 102 63 [(2, x0), (1, x1), (9, 0), (0, x3), (0, x4), (0, x5), (0, x6)] [] w Q ↔ (vkd w x0 = 22) ∧ (vkd w (vct w x0 27) = 2 ∧ (0 : Int) ≤ x3 ∧ x3 < vln w (vct w x0 27)) ∧ (vkd w x0 = 22) ∧ VC d 84 [(2, x0), (1, vct w (vct w x0 27) x3), (0, x4), (0, x6), (0, x5)] w (fun r w1 => VW d 102 79 [(2, x0), (1, x1), (9, 0), (0, x3), (0, x4), (0, x5), (0, x6)] [(0, r)] w1 Q) :=
  (VW_b 9 (F := fun n => if vkd w x0 = 22 then if vkd w (vct w x0 27) = 2 ∧ (0 : Int) ≤ x3 ∧ x3 < vln w (vct w x0 27) then if vkd w x0 = 22 then vclr (vrun n) d 102 79 84 5 0 [(2, x0), (1, x1), (9, 0), (0, x3), (0, x4), (0, x5), (0, x6)] [(0, x5), (0, x6), (0, x4), (1, vct w (vct w x0 27) x3), (2, x0)] w else none else none else none) (fun _ => rfl)).trans (EX_if.trans (and_congr Iff.rfl (EX_if.trans (and_congr Iff.rfl (EX_if.trans (and_congr Iff.rfl (EX_call rfl)))))))
set_option maxRecDepth 100000 in
theorem b102_79 {d : Nat} {w : vW} {x0 x1 x3 x4 x5 x6 y0 : Int} {Q : Int → vW → Prop} : VW d 102 79 [(2, x0), (1, x1), (9, 0), (0, x3), (0, x4), (0, x5), (0, x6)] [(0, y0)] w Q ↔ ((y0 = 0 → VW d 102 105 [(2, x0), (1, x1), (9, 0), (0, x3), (0, x4), (0, x5), (0, x6)] [] w Q) ∧ (¬ (y0 = 0) → VW d 102 82 [(2, x0), (1, x1), (9, 0), (0, x3), (0, x4), (0, x5), (0, x6)] [] w Q)) :=
  (VW_b 1 (F := fun n => (if y0 = 0 then vrun n d 102 105 [(2, x0), (1, x1), (9, 0), (0, x3), (0, x4), (0, x5), (0, x6)] [] w else vrun n d 102 82 [(2, x0), (1, x1), (9, 0), (0, x3), (0, x4), (0, x5), (0, x6)] [] w)) (fun _ => rfl)).trans (EX_br.trans (and_congr (imp_congr Iff.rfl Iff.rfl) (imp_congr Iff.rfl Iff.rfl)))
set_option maxRecDepth 100000 in
theorem b102_82 {d : Nat} {w : vW} {x0 x1 x3 x4 x5 x6 : Int} {Q : Int → vW → Prop} : VW d 102 82 [(2, x0), (1, x1), (9, 0), (0, x3), (0, x4), (0, x5), (0, x6)] [] w Q ↔ (vkd w x0 = 22) ∧ (vkd w (vct w x0 27) = 2 ∧ (0 : Int) ≤ x3 ∧ x3 < vln w (vct w x0 27)) ∧ (vkd w x0 = 22) ∧ VC d 83 [(2, x0), (1, vct w (vct w x0 27) x3), (0, x6), (0, x5)] w (fun r w1 => VW d 102 97 [(2, x0), (1, x1), (9, 0), (0, x3), (0, x4), (0, x5), (0, x6)] [(1, r), (2, x0)] w1 Q) :=
  (VW_b 9 (F := fun n => if vkd w x0 = 22 then if vkd w (vct w x0 27) = 2 ∧ (0 : Int) ≤ x3 ∧ x3 < vln w (vct w x0 27) then if vkd w x0 = 22 then vclr (vrun n) d 102 97 83 4 1 [(2, x0), (1, x1), (9, 0), (0, x3), (0, x4), (0, x5), (0, x6)] [(0, x5), (0, x6), (1, vct w (vct w x0 27) x3), (2, x0), (2, x0)] w else none else none else none) (fun _ => rfl)).trans (EX_if.trans (and_congr Iff.rfl (EX_if.trans (and_congr Iff.rfl (EX_if.trans (and_congr Iff.rfl (EX_call rfl)))))))
set_option maxRecDepth 100000 in
theorem b102_97 {d : Nat} {w : vW} {x0 x1 x3 x4 x5 x6 y0 y1 : Int} {Q : Int → vW → Prop} : VW d 102 97 [(2, x0), (1, x1), (9, 0), (0, x3), (0, x4), (0, x5), (0, x6)] [(1, y1), (2, y0)] w Q ↔ (vkd w y0 = 22) ∧ VC d 100 [(2, y0), (1, y1)] w (fun r w1 => VW d 102 100 [(2, x0), (1, x1), (9, 0), (0, x3), (0, x4), (0, x5), (0, x6)] [(0, r)] w1 Q) :=
  (VW_b 1 (F := fun n => if vkd w y0 = 22 then vclr (vrun n) d 102 100 100 2 0 [(2, x0), (1, x1), (9, 0), (0, x3), (0, x4), (0, x5), (0, x6)] [(1, y1), (2, y0)] w else none) (fun _ => rfl)).trans (EX_if.trans (and_congr Iff.rfl (EX_call rfl)))
set_option maxRecDepth 100000 in
theorem b102_100 {d : Nat} {w : vW} {x0 x1 x3 x4 x5 x6 y0 : Int} {Q : Int → vW → Prop} : VW d 102 100 [(2, x0), (1, x1), (9, 0), (0, x3), (0, x4), (0, x5), (0, x6)] [(0, y0)] w Q ↔ ((y0 = 0 → VW d 102 105 [(2, x0), (1, x1), (9, 0), (0, x3), (0, x4), (0, x5), (0, x6)] [] w Q) ∧ (¬ (y0 = 0) → VW d 102 103 [(2, x0), (1, x1), (9, 0), (0, x3), (0, x4), (0, x5), (0, x6)] [] w Q)) :=
  (VW_b 1 (F := fun n => (if y0 = 0 then vrun n d 102 105 [(2, x0), (1, x1), (9, 0), (0, x3), (0, x4), (0, x5), (0, x6)] [] w else vrun n d 102 103 [(2, x0), (1, x1), (9, 0), (0, x3), (0, x4), (0, x5), (0, x6)] [] w)) (fun _ => rfl)).trans (EX_br.trans (and_congr (imp_congr Iff.rfl Iff.rfl) (imp_congr Iff.rfl Iff.rfl)))
set_option maxRecDepth 100000 in
theorem b102_103 {d : Nat} {w : vW} {x0 x1 x3 x4 x5 x6 : Int} {Q : Int → vW → Prop} : VW d 102 103 [(2, x0), (1, x1), (9, 0), (0, x3), (0, x4), (0, x5), (0, x6)] [] w Q ↔ Q 0 w :=
  (VW_b 2 (F := fun n => some (0, 0, w)) (fun _ => rfl)).trans (EX_ret0)
set_option maxRecDepth 100000 in
theorem b102_105 {d : Nat} {w : vW} {x0 x1 x3 x4 x5 x6 : Int} {Q : Int → vW → Prop} : VW d 102 105 [(2, x0), (1, x1), (9, 0), (0, x3), (0, x4), (0, x5), (0, x6)] [] w Q ↔ VW d 102 45 [(2, x0), (1, x1), (9, 0), (0, x3), (0, x4), (0, x5), (0, w32 (x6 + 1))] [] w Q :=
  (VW_b 2 (F := fun n => vrun n d 102 45 [(2, x0), (1, x1), (9, 0), (0, x3), (0, x4), (0, x5), (0, w32 (x6 + 1))] [] w) (fun _ => rfl)).trans (Iff.rfl)
set_option maxRecDepth 100000 in
theorem b102_111 {d : Nat} {w : vW} {x0 x1 x3 x4 x5 x6 : Int} {Q : Int → vW → Prop} : VW d 102 111 [(2, x0), (1, x1), (9, 0), (0, x3), (0, x4), (0, x5), (0, x6)] [] w Q ↔ VW d 102 35 [(2, x0), (1, x1), (9, 0), (0, x3), (0, x4), (0, w32 (x5 + 1)), (0, x6)] [] w Q :=
  (VW_b 2 (F := fun n => vrun n d 102 35 [(2, x0), (1, x1), (9, 0), (0, x3), (0, x4), (0, w32 (x5 + 1)), (0, x6)] [] w) (fun _ => rfl)).trans (Iff.rfl)
set_option maxRecDepth 100000 in
theorem b102_117 {d : Nat} {w : vW} {x0 x1 x3 x4 x5 : Int} {v6 : vV} {Q : Int → vW → Prop} : VW d 102 117 [(2, x0), (1, x1), (9, 0), (0, x3), (0, x4), (0, x5), v6] [] w Q ↔ VW d 102 12 [(2, x0), (1, x1), (9, 0), (0, w32 (x3 + 1)), (0, x4), (0, x5), v6] [] w Q :=
  (VW_b 2 (F := fun n => vrun n d 102 12 [(2, x0), (1, x1), (9, 0), (0, w32 (x3 + 1)), (0, x4), (0, x5), v6] [] w) (fun _ => rfl)).trans (Iff.rfl)
set_option maxRecDepth 100000 in
theorem b102_123 {d : Nat} {w : vW} {x0 x1 x3 : Int} {v4 v5 v6 : vV} {Q : Int → vW → Prop} : VW d 102 123 [(2, x0), (1, x1), (9, 0), (0, x3), v4, v5, v6] [] w Q ↔ Q 1 w :=
  (VW_b 2 (F := fun n => some (0, 1, w)) (fun _ => rfl)).trans (EX_ret0)
/-! 103: StrikeWhatCancelsModel.ranks(II)V -/
set_option maxRecDepth 100000 in
theorem b103_0 {d : Nat} {w : vW} {x0 x1 x2 : Int} {Q : Int → vW → Prop} : VW d 103 0 [(2, x0), (0, x1), (0, x2), (9, 0), (9, 0), (9, 0), (9, 0), (9, 0)] [] w Q ↔ (((w32 (x2 - x1)) < 2 → VW d 103 7 [(2, x0), (0, x1), (0, x2), (9, 0), (9, 0), (9, 0), (9, 0), (9, 0)] [] w Q) ∧ (¬ ((w32 (x2 - x1)) < 2) → VW d 103 8 [(2, x0), (0, x1), (0, x2), (9, 0), (9, 0), (9, 0), (9, 0), (9, 0)] [] w Q)) :=
  (VW_b 5 (F := fun n => (if (w32 (x2 - x1)) < 2 then vrun n d 103 7 [(2, x0), (0, x1), (0, x2), (9, 0), (9, 0), (9, 0), (9, 0), (9, 0)] [] w else vrun n d 103 8 [(2, x0), (0, x1), (0, x2), (9, 0), (9, 0), (9, 0), (9, 0), (9, 0)] [] w)) (fun _ => rfl)).trans (EX_br.trans (and_congr (imp_congr Iff.rfl Iff.rfl) (imp_congr Iff.rfl Iff.rfl)))
set_option maxRecDepth 100000 in
theorem b103_7 {d : Nat} {w : vW} {x0 x1 x2 : Int} {Q : Int → vW → Prop} : VW d 103 7 [(2, x0), (0, x1), (0, x2), (9, 0), (9, 0), (9, 0), (9, 0), (9, 0)] [] w Q ↔ Q 0 w :=
  (VW_b 1 (F := fun n => some (0, 0, w)) (fun _ => rfl)).trans (EX_ret0)
set_option maxRecDepth 100000 in
theorem b103_8 {d : Nat} {w : vW} {x0 x1 x2 : Int} {Q : Int → vW → Prop} : VW d 103 8 [(2, x0), (0, x1), (0, x2), (9, 0), (9, 0), (9, 0), (9, 0), (9, 0)] [] w Q ↔ (vkd w x0 = 22) ∧ VC d 103 [(2, x0), (0, x1), (0, w32 (Int.tdiv (w32 (x1 + x2)) 2))] w (fun _ w1 => VW d 103 20 [(2, x0), (0, x1), (0, x2), (0, w32 (Int.tdiv (w32 (x1 + x2)) 2)), (9, 0), (9, 0), (9, 0), (9, 0)] [] w1 Q) :=
  (VW_b 10 (F := fun n => if vkd w x0 = 22 then vclr (vrun n) d 103 20 103 3 9 [(2, x0), (0, x1), (0, x2), (0, w32 (Int.tdiv (w32 (x1 + x2)) 2)), (9, 0), (9, 0), (9, 0), (9, 0)] [(0, w32 (Int.tdiv (w32 (x1 + x2)) 2)), (0, x1), (2, x0)] w else none) (fun _ => rfl)).trans (EX_if.trans (and_congr Iff.rfl (EX_call rfl)))
set_option maxRecDepth 100000 in
theorem b103_20 {d : Nat} {w : vW} {x0 x1 x2 x3 : Int} {Q : Int → vW → Prop} : VW d 103 20 [(2, x0), (0, x1), (0, x2), (0, x3), (9, 0), (9, 0), (9, 0), (9, 0)] [] w Q ↔ (vkd w x0 = 22) ∧ VC d 103 [(2, x0), (0, x3), (0, x2)] w (fun _ w1 => VW d 103 26 [(2, x0), (0, x1), (0, x2), (0, x3), (9, 0), (9, 0), (9, 0), (9, 0)] [] w1 Q) :=
  (VW_b 4 (F := fun n => if vkd w x0 = 22 then vclr (vrun n) d 103 26 103 3 9 [(2, x0), (0, x1), (0, x2), (0, x3), (9, 0), (9, 0), (9, 0), (9, 0)] [(0, x2), (0, x3), (2, x0)] w else none) (fun _ => rfl)).trans (EX_if.trans (and_congr Iff.rfl (EX_call rfl)))
set_option maxRecDepth 100000 in
theorem b103_26 {d : Nat} {w : vW} {x0 x1 x2 x3 : Int} {Q : Int → vW → Prop} : VW d 103 26 [(2, x0), (0, x1), (0, x2), (0, x3), (9, 0), (9, 0), (9, 0), (9, 0)] [] w Q ↔ VW d 103 35 [(2, x0), (0, x1), (0, x2), (0, x3), (0, x1), (0, x3), (0, x1), (9, 0)] [] w Q :=
  (VW_b 6 (F := fun n => vrun n d 103 35 [(2, x0), (0, x1), (0, x2), (0, x3), (0, x1), (0, x3), (0, x1), (9, 0)] [] w) (fun _ => rfl)).trans (Iff.rfl)
set_option maxRecDepth 100000 in
theorem b103_35 {d : Nat} {w : vW} {x0 x1 x2 x3 x4 x5 x6 : Int} {v7 : vV} {Q : Int → vW → Prop} : VW d 103 35 [(2, x0), (0, x1), (0, x2), (0, x3), (0, x4), (0, x5), (0, x6), v7] [] w Q ↔ ((x6 < x2 → VW d 103 41 [(2, x0), (0, x1), (0, x2), (0, x3), (0, x4), (0, x5), (0, x6), v7] [] w Q) ∧ (¬ (x6 < x2) → VW d 103 151 [(2, x0), (0, x1), (0, x2), (0, x3), (0, x4), (0, x5), (0, x6), v7] [] w Q)) :=
  (VW_b 3 (F := fun n => (if x6 < x2 then vrun n d 103 41 [(2, x0), (0, x1), (0, x2), (0, x3), (0, x4), (0, x5), (0, x6), v7] [] w else vrun n d 103 151 [(2, x0), (0, x1), (0, x2), (0, x3), (0, x4), (0, x5), (0, x6), v7] [] w)) (fun _ => rfl)).trans (EX_br.trans (and_congr (imp_congr Iff.rfl Iff.rfl) (imp_congr Iff.rfl Iff.rfl)))
set_option maxRecDepth 100000 in
theorem b103_41 {d : Nat} {w : vW} {x0 x1 x2 x3 x4 x5 x6 : Int} {v7 : vV} {Q : Int → vW → Prop} : VW d 103 41 [(2, x0), (0, x1), (0, x2), (0, x3), (0, x4), (0, x5), (0, x6), v7] [] w Q ↔ ((x5 = x2 → VW d 103 81 [(2, x0), (0, x1), (0, x2), (0, x3), (0, x4), (0, x5), (0, x6), v7] [] w Q) ∧ (¬ (x5 = x2) → VW d 103 47 [(2, x0), (0, x1), (0, x2), (0, x3), (0, x4), (0, x5), (0, x6), v7] [] w Q)) :=
  (VW_b 3 (F := fun n => (if x5 = x2 then vrun n d 103 81 [(2, x0), (0, x1), (0, x2), (0, x3), (0, x4), (0, x5), (0, x6), v7] [] w else vrun n d 103 47 [(2, x0), (0, x1), (0, x2), (0, x3), (0, x4), (0, x5), (0, x6), v7] [] w)) (fun _ => rfl)).trans (EX_br.trans (and_congr (imp_congr Iff.rfl Iff.rfl) (imp_congr Iff.rfl Iff.rfl)))
set_option maxRecDepth 100000 in
theorem b103_47 {d : Nat} {w : vW} {x0 x1 x2 x3 x4 x5 x6 : Int} {v7 : vV} {Q : Int → vW → Prop} : VW d 103 47 [(2, x0), (0, x1), (0, x2), (0, x3), (0, x4), (0, x5), (0, x6), v7] [] w Q ↔ ((x4 < x3 → VW d 103 53 [(2, x0), (0, x1), (0, x2), (0, x3), (0, x4), (0, x5), (0, x6), v7] [] w Q) ∧ (¬ (x4 < x3) → VW d 103 85 [(2, x0), (0, x1), (0, x2), (0, x3), (0, x4), (0, x5), (0, x6), v7] [] w Q)) :=
  (VW_b 3 (F := fun n => (if x4 < x3 then vrun n d 103 53 [(2, x0), (0, x1), (0, x2), (0, x3), (0, x4), (0, x5), (0, x6), v7] [] w else vrun n d 103 85 [(2, x0), (0, x1), (0, x2), (0, x3), (0, x4), (0, x5), (0, x6), v7] [] w)) (fun _ => rfl)).trans (EX_br.trans (and_congr (imp_congr Iff.rfl Iff.rfl) (imp_congr Iff.rfl Iff.rfl)))
set_option maxRecDepth 100000 in
theorem b103_53 {d : Nat} {w : vW} {x0 x1 x2 x3 x4 x5 x6 : Int} {v7 : vV} {Q : Int → vW → Prop} : VW d 103 53 [(2, x0), (0, x1), (0, x2), (0, x3), (0, x4), (0, x5), (0, x6), v7] [] w Q ↔ (vkd w x0 = 22) ∧ (vkd w x0 = 22) ∧ (vkd w (vct w x0 30) = 1 ∧ (0 : Int) ≤ x4 ∧ x4 < vln w (vct w x0 30)) ∧ (vkd w (vct w x0 27) = 2 ∧ (0 : Int) ≤ (vct w (vct w x0 30) x4) ∧ (vct w (vct w x0 30) x4) < vln w (vct w x0 27)) ∧ (vkd w x0 = 22) ∧ (vkd w x0 = 22) ∧ (vkd w (vct w x0 30) = 1 ∧ (0 : Int) ≤ x5 ∧ x5 < vln w (vct w x0 30)) ∧ (vkd w (vct w x0 27) = 2 ∧ (0 : Int) ≤ (vct w (vct w x0 30) x5) ∧ (vct w (vct w x0 30) x5) < vln w (vct w x0 27)) ∧ ((0 < (vlc (vct w (vct w x0 27) (vct w (vct w x0 30) x4)) (vct w (vct w x0 27) (vct w (vct w x0 30) x5))) → VW d 103 85 [(2, x0), (0, x1), (0, x2), (0, x3), (0, x4), (0, x5), (0, x6), v7] [] w Q) ∧ (¬ (0 < (vlc (vct w (vct w x0 27) (vct w (vct w x0 30) x4)) (vct w (vct w x0 27) (vct w (vct w x0 30) x5)))) → VW d 103 81 [(2, x0), (0, x1), (0, x2), (0, x3), (0, x4), (0, x5), (0, x6), v7] [] w Q)) :=
  (VW_b 16 (F := fun n => if vkd w x0 = 22 then if vkd w x0 = 22 then if vkd w (vct w x0 30) = 1 ∧ (0 : Int) ≤ x4 ∧ x4 < vln w (vct w x0 30) then if vkd w (vct w x0 27) = 2 ∧ (0 : Int) ≤ (vct w (vct w x0 30) x4) ∧ (vct w (vct w x0 30) x4) < vln w (vct w x0 27) then if vkd w x0 = 22 then if vkd w x0 = 22 then if vkd w (vct w x0 30) = 1 ∧ (0 : Int) ≤ x5 ∧ x5 < vln w (vct w x0 30) then if vkd w (vct w x0 27) = 2 ∧ (0 : Int) ≤ (vct w (vct w x0 30) x5) ∧ (vct w (vct w x0 30) x5) < vln w (vct w x0 27) then (if 0 < (vlc (vct w (vct w x0 27) (vct w (vct w x0 30) x4)) (vct w (vct w x0 27) (vct w (vct w x0 30) x5))) then vrun n d 103 85 [(2, x0), (0, x1), (0, x2), (0, x3), (0, x4), (0, x5), (0, x6), v7] [] w else vrun n d 103 81 [(2, x0), (0, x1), (0, x2), (0, x3), (0, x4), (0, x5), (0, x6), v7] [] w) else none else none else none else none else none else none else none else none) (fun _ => rfl)).trans (EX_if.trans (and_congr Iff.rfl (EX_if.trans (and_congr Iff.rfl (EX_if.trans (and_congr Iff.rfl (EX_if.trans (and_congr Iff.rfl (EX_if.trans (and_congr Iff.rfl (EX_if.trans (and_congr Iff.rfl (EX_if.trans (and_congr Iff.rfl (EX_if.trans (and_congr Iff.rfl (EX_br.trans (and_congr (imp_congr Iff.rfl Iff.rfl) (imp_congr Iff.rfl Iff.rfl)))))))))))))))))))
set_option maxRecDepth 100000 in
theorem b103_81 {d : Nat} {w : vW} {x0 x1 x2 x3 x4 x5 x6 : Int} {v7 : vV} {Q : Int → vW → Prop} : VW d 103 81 [(2, x0), (0, x1), (0, x2), (0, x3), (0, x4), (0, x5), (0, x6), v7] [] w Q ↔ VW d 103 86 [(2, x0), (0, x1), (0, x2), (0, x3), (0, x4), (0, x5), (0, x6), v7] [(0, 1)] w Q :=
  (VW_b 2 (F := fun n => vrun n d 103 86 [(2, x0), (0, x1), (0, x2), (0, x3), (0, x4), (0, x5), (0, x6), v7] [(0, 1)] w) (fun _ => rfl)).trans (Iff.rfl)
set_option maxRecDepth 100000 in
theorem b103_85 {d : Nat} {w : vW} {x0 x1 x2 x3 x4 x5 x6 : Int} {v7 : vV} {Q : Int → vW → Prop} : VW d 103 85 [(2, x0), (0, x1), (0, x2), (0, x3), (0, x4), (0, x5), (0, x6), v7] [] w Q ↔ VW d 103 86 [(2, x0), (0, x1), (0, x2), (0, x3), (0, x4), (0, x5), (0, x6), v7] [(0, 0)] w Q :=
  (VW_b 1 (F := fun n => vrun n d 103 86 [(2, x0), (0, x1), (0, x2), (0, x3), (0, x4), (0, x5), (0, x6), v7] [(0, 0)] w) (fun _ => rfl)).trans (Iff.rfl)
set_option maxRecDepth 100000 in
theorem b103_86 {d : Nat} {w : vW} {x0 x1 x2 x3 x4 x5 x6 y0 : Int} {v7 : vV} {Q : Int → vW → Prop} : VW d 103 86 [(2, x0), (0, x1), (0, x2), (0, x3), (0, x4), (0, x5), (0, x6), v7] [(0, y0)] w Q ↔ (vkd w x0 = 22) ∧ ((y0 = 0 → VW d 103 109 [(2, x0), (0, x1), (0, x2), (0, x3), (0, x4), (0, x5), (0, x6), (0, y0)] [(0, x6), (2, vct w x0 31)] w Q) ∧ (¬ (y0 = 0) → VW d 103 99 [(2, x0), (0, x1), (0, x2), (0, x3), (0, x4), (0, x5), (0, x6), (0, y0)] [(0, x6), (2, vct w x0 31)] w Q)) :=
  (VW_b 6 (F := fun n => if vkd w x0 = 22 then (if y0 = 0 then vrun n d 103 109 [(2, x0), (0, x1), (0, x2), (0, x3), (0, x4), (0, x5), (0, x6), (0, y0)] [(0, x6), (2, vct w x0 31)] w else vrun n d 103 99 [(2, x0), (0, x1), (0, x2), (0, x3), (0, x4), (0, x5), (0, x6), (0, y0)] [(0, x6), (2, vct w x0 31)] w) else none) (fun _ => rfl)).trans (EX_if.trans (and_congr Iff.rfl (EX_br.trans (and_congr (imp_congr Iff.rfl Iff.rfl) (imp_congr Iff.rfl Iff.rfl)))))
set_option maxRecDepth 100000 in
theorem b103_99 {d : Nat} {w : vW} {x0 x1 x2 x3 x4 x5 x6 x7 y0 y1 : Int} {Q : Int → vW → Prop} : VW d 103 99 [(2, x0), (0, x1), (0, x2), (0, x3), (0, x4), (0, x5), (0, x6), (0, x7)] [(0, y1), (2, y0)] w Q ↔ (vkd w x0 = 22) ∧ (vkd w (vct w x0 30) = 1 ∧ (0 : Int) ≤ x4 ∧ x4 < vln w (vct w x0 30)) ∧ VW d 103 116 [(2, x0), (0, x1), (0, x2), (0, x3), (0, x4), (0, x5), (0, x6), (0, x7)] [(0, vct w (vct w x0 30) x4), (0, y1), (2, y0)] w Q :=
  (VW_b 5 (F := fun n => if vkd w x0 = 22 then if vkd w (vct w x0 30) = 1 ∧ (0 : Int) ≤ x4 ∧ x4 < vln w (vct w x0 30) then vrun n d 103 116 [(2, x0), (0, x1), (0, x2), (0, x3), (0, x4), (0, x5), (0, x6), (0, x7)] [(0, vct w (vct w x0 30) x4), (0, y1), (2, y0)] w else none else none) (fun _ => rfl)).trans (EX_if.trans (and_congr Iff.rfl (EX_if.trans (and_congr Iff.rfl (Iff.rfl)))))
set_option maxRecDepth 100000 in
theorem b103_109 {d : Nat} {w : vW} {x0 x1 x2 x3 x4 x5 x6 x7 y0 y1 : Int} {Q : Int → vW → Prop} : VW d 103 109 [(2, x0), (0, x1), (0, x2), (0, x3), (0, x4), (0, x5), (0, x6), (0, x7)] [(0, y1), (2, y0)] w Q ↔ (vkd w x0 = 22) ∧ (vkd w (vct w x0 30) = 1 ∧ (0 : Int) ≤ x5 ∧ x5 < vln w (vct w x0 30)) ∧ VW d 103 116 [(2, x0), (0, x1), (0, x2), (0, x3), (0, x4), (0, x5), (0, x6), (0, x7)] [(0, vct w (vct w x0 30) x5), (0, y1), (2, y0)] w Q :=
  (VW_b 4 (F := fun n => if vkd w x0 = 22 then if vkd w (vct w x0 30) = 1 ∧ (0 : Int) ≤ x5 ∧ x5 < vln w (vct w x0 30) then vrun n d 103 116 [(2, x0), (0, x1), (0, x2), (0, x3), (0, x4), (0, x5), (0, x6), (0, x7)] [(0, vct w (vct w x0 30) x5), (0, y1), (2, y0)] w else none else none) (fun _ => rfl)).trans (EX_if.trans (and_congr Iff.rfl (EX_if.trans (and_congr Iff.rfl (Iff.rfl)))))
set_option maxRecDepth 100000 in
theorem b103_116 {d : Nat} {w : vW} {x0 x1 x2 x3 x4 x5 x6 x7 y0 y1 y2 : Int} {Q : Int → vW → Prop} : VW d 103 116 [(2, x0), (0, x1), (0, x2), (0, x3), (0, x4), (0, x5), (0, x6), (0, x7)] [(0, y2), (0, y1), (2, y0)] w Q ↔ (vkd w y0 = 1 ∧ (0 : Int) ≤ y1 ∧ y1 < vln w y0) ∧ VW d 103 117 [(2, x0), (0, x1), (0, x2), (0, x3), (0, x4), (0, x5), (0, x6), (0, x7)] [] (vsv w y0 y1 y2) Q :=
  (VW_b 1 (F := fun n => if vkd w y0 = 1 ∧ (0 : Int) ≤ y1 ∧ y1 < vln w y0 then vrun n d 103 117 [(2, x0), (0, x1), (0, x2), (0, x3), (0, x4), (0, x5), (0, x6), (0, x7)] [] (vsv w y0 y1 y2) else none) (fun _ => rfl)).trans (EX_if.trans (and_congr Iff.rfl (Iff.rfl)))
set_option maxRecDepth 100000 in
theorem b103_117 {d : Nat} {w : vW} {x0 x1 x2 x3 x4 x5 x6 x7 : Int} {Q : Int → vW → Prop} : VW d 103 117 [(2, x0), (0, x1), (0, x2), (0, x3), (0, x4), (0, x5), (0, x6), (0, x7)] [] w Q ↔ VC d 57 [(0, x7)] w (fun r w1 => VW d 103 124 [(2, x0), (0, x1), (0, x2), (0, x3), (0, x4), (0, x5), (0, x6), (0, x7)] [(0, r), (0, x4)] w1 Q) :=
  (VW_b 3 (F := fun n => vclr (vrun n) d 103 124 57 1 0 [(2, x0), (0, x1), (0, x2), (0, x3), (0, x4), (0, x5), (0, x6), (0, x7)] [(0, x7), (0, x4)] w) (fun _ => rfl)).trans (EX_call rfl)
set_option maxRecDepth 100000 in
theorem b103_124 {d : Nat} {w : vW} {x0 x1 x2 x3 x4 x5 x6 x7 y0 y1 : Int} {Q : Int → vW → Prop} : VW d 103 124 [(2, x0), (0, x1), (0, x2), (0, x3), (0, x4), (0, x5), (0, x6), (0, x7)] [(0, y1), (0, y0)] w Q ↔ ((x7 = 0 → VW d 103 134 [(2, x0), (0, x1), (0, x2), (0, x3), (0, w32 (y0 + y1)), (0, x5), (0, x6), (0, x7)] [(0, x5)] w Q) ∧ (¬ (x7 = 0) → VW d 103 138 [(2, x0), (0, x1), (0, x2), (0, x3), (0, w32 (y0 + y1)), (0, x5), (0, x6), (0, x7)] [(0, x5)] w Q)) :=
  (VW_b 5 (F := fun n => (if x7 = 0 then vrun n d 103 134 [(2, x0), (0, x1), (0, x2), (0, x3), (0, w32 (y0 + y1)), (0, x5), (0, x6), (0, x7)] [(0, x5)] w else vrun n d 103 138 [(2, x0), (0, x1), (0, x2), (0, x3), (0, w32 (y0 + y1)), (0, x5), (0, x6), (0, x7)] [(0, x5)] w)) (fun _ => rfl)).trans (EX_br.trans (and_congr (imp_congr Iff.rfl Iff.rfl) (imp_congr Iff.rfl Iff.rfl)))
set_option maxRecDepth 100000 in
theorem b103_134 {d : Nat} {w : vW} {x0 x1 x2 x3 x4 x5 x6 x7 y0 : Int} {Q : Int → vW → Prop} : VW d 103 134 [(2, x0), (0, x1), (0, x2), (0, x3), (0, x4), (0, x5), (0, x6), (0, x7)] [(0, y0)] w Q ↔ VW d 103 139 [(2, x0), (0, x1), (0, x2), (0, x3), (0, x4), (0, x5), (0, x6), (0, x7)] [(0, 1), (0, y0)] w Q :=
  (VW_b 2 (F := fun n => vrun n d 103 139 [(2, x0), (0, x1), (0, x2), (0, x3), (0, x4), (0, x5), (0, x6), (0, x7)] [(0, 1), (0, y0)] w) (fun _ => rfl)).trans (Iff.rfl)
set_option maxRecDepth 100000 in
theorem b103_138 {d : Nat} {w : vW} {x0 x1 x2 x3 x4 x5 x6 x7 y0 : Int} {Q : Int → vW → Prop} : VW d 103 138 [(2, x0), (0, x1), (0, x2), (0, x3), (0, x4), (0, x5), (0, x6), (0, x7)] [(0, y0)] w Q ↔ VW d 103 139 [(2, x0), (0, x1), (0, x2), (0, x3), (0, x4), (0, x5), (0, x6), (0, x7)] [(0, 0), (0, y0)] w Q :=
  (VW_b 1 (F := fun n => vrun n d 103 139 [(2, x0), (0, x1), (0, x2), (0, x3), (0, x4), (0, x5), (0, x6), (0, x7)] [(0, 0), (0, y0)] w) (fun _ => rfl)).trans (Iff.rfl)
set_option maxRecDepth 100000 in
theorem b103_139 {d : Nat} {w : vW} {x0 x1 x2 x3 x4 x5 x6 x7 y0 y1 : Int} {Q : Int → vW → Prop} : VW d 103 139 [(2, x0), (0, x1), (0, x2), (0, x3), (0, x4), (0, x5), (0, x6), (0, x7)] [(0, y1), (0, y0)] w Q ↔ VC d 57 [(0, y1)] w (fun r w1 => VW d 103 142 [(2, x0), (0, x1), (0, x2), (0, x3), (0, x4), (0, x5), (0, x6), (0, x7)] [(0, r), (0, y0)] w1 Q) :=
  (VW_b 1 (F := fun n => vclr (vrun n) d 103 142 57 1 0 [(2, x0), (0, x1), (0, x2), (0, x3), (0, x4), (0, x5), (0, x6), (0, x7)] [(0, y1), (0, y0)] w) (fun _ => rfl)).trans (EX_call rfl)
set_option maxRecDepth 100000 in
theorem b103_142 {d : Nat} {w : vW} {x0 x1 x2 x3 x4 x5 x6 x7 y0 y1 : Int} {Q : Int → vW → Prop} : VW d 103 142 [(2, x0), (0, x1), (0, x2), (0, x3), (0, x4), (0, x5), (0, x6), (0, x7)] [(0, y1), (0, y0)] w Q ↔ VW d 103 35 [(2, x0), (0, x1), (0, x2), (0, x3), (0, x4), (0, w32 (y0 + y1)), (0, w32 (x6 + 1)), (0, x7)] [] w Q :=
  (VW_b 4 (F := fun n => vrun n d 103 35 [(2, x0), (0, x1), (0, x2), (0, x3), (0, x4), (0, w32 (y0 + y1)), (0, w32 (x6 + 1)), (0, x7)] [] w) (fun _ => rfl)).trans (Iff.rfl)
set_option maxRecDepth 100000 in
theorem b103_151 {d : Nat} {w : vW} {x0 x1 x2 x3 x4 x5 x6 : Int} {v7 : vV} {Q : Int → vW → Prop} : VW d 103 151 [(2, x0), (0, x1), (0, x2), (0, x3), (0, x4), (0, x5), (0, x6), v7] [] w Q ↔ VW d 103 154 [(2, x0), (0, x1), (0, x2), (0, x3), (0, x4), (0, x5), (0, x1), v7] [] w Q :=
  (VW_b 2 (F := fun n => vrun n d 103 154 [(2, x0), (0, x1), (0, x2), (0, x3), (0, x4), (0, x5), (0, x1), v7] [] w) (fun _ => rfl)).trans (Iff.rfl)
set_option maxRecDepth 100000 in
theorem b103_154 {d : Nat} {w : vW} {x0 x1 x2 x3 x4 x5 x6 : Int} {v7 : vV} {Q : Int → vW → Prop} : VW d 103 154 [(2, x0), (0, x1), (0, x2), (0, x3), (0, x4), (0, x5), (0, x6), v7] [] w Q ↔ ((x6 < x2 → VW d 103 160 [(2, x0), (0, x1), (0, x2), (0, x3), (0, x4), (0, x5), (0, x6), v7] [] w Q) ∧ (¬ (x6 < x2) → VW d 103 180 [(2, x0), (0, x1), (0, x2), (0, x3), (0, x4), (0, x5), (0, x6), v7] [] w Q)) :=
  (VW_b 3 (F := fun n => (if x6 < x2 then vrun n d 103 160 [(2, x0), (0, x1), (0, x2), (0, x3), (0, x4), (0, x5), (0, x6), v7] [] w else vrun n d 103 180 [(2, x0), (0, x1), (0, x2), (0, x3), (0, x4), (0, x5), (0, x6), v7] [] w)) (fun _ => rfl)).trans (EX_br.trans (and_congr (imp_congr Iff.rfl Iff.rfl) (imp_congr Iff.rfl Iff.rfl)))
set_option maxRecDepth 100000 in
theorem b103_160 {d : Nat} {w : vW} {x0 x1 x2 x3 x4 x5 x6 : Int} {v7 : vV} {Q : Int → vW → Prop} : VW d 103 160 [(2, x0), (0, x1), (0, x2), (0, x3), (0, x4), (0, x5), (0, x6), v7] [] w Q ↔ (vkd w x0 = 22) ∧ (vkd w x0 = 22) ∧ (vkd w (vct w x0 31) = 1 ∧ (0 : Int) ≤ x6 ∧ x6 < vln w (vct w x0 31)) ∧ (vkd w (vct w x0 30) = 1 ∧ (0 : Int) ≤ x6 ∧ x6 < vln w (vct w x0 30)) ∧ VW d 103 174 [(2, x0), (0, x1), (0, x2), (0, x3), (0, x4), (0, x5), (0, x6), v7] [] (vsv w (vct w x0 30) x6 (vct w (vct w x0 31) x6)) Q :=
  (VW_b 8 (F := fun n => if vkd w x0 = 22 then if vkd w x0 = 22 then if vkd w (vct w x0 31) = 1 ∧ (0 : Int) ≤ x6 ∧ x6 < vln w (vct w x0 31) then if vkd w (vct w x0 30) = 1 ∧ (0 : Int) ≤ x6 ∧ x6 < vln w (vct w x0 30) then vrun n d 103 174 [(2, x0), (0, x1), (0, x2), (0, x3), (0, x4), (0, x5), (0, x6), v7] [] (vsv w (vct w x0 30) x6 (vct w (vct w x0 31) x6)) else none else none else none else none) (fun _ => rfl)).trans (EX_if.trans (and_congr Iff.rfl (EX_if.trans (and_congr Iff.rfl (EX_if.trans (and_congr Iff.rfl (EX_if.trans (and_congr Iff.rfl (Iff.rfl)))))))))
set_option maxRecDepth 100000 in
theorem b103_174 {d : Nat} {w : vW} {x0 x1 x2 x3 x4 x5 x6 : Int} {v7 : vV} {Q : Int → vW → Prop} : VW d 103 174 [(2, x0), (0, x1), (0, x2), (0, x3), (0, x4), (0, x5), (0, x6), v7] [] w Q ↔ VW d 103 154 [(2, x0), (0, x1), (0, x2), (0, x3), (0, x4), (0, x5), (0, w32 (x6 + 1)), v7] [] w Q :=
  (VW_b 2 (F := fun n => vrun n d 103 154 [(2, x0), (0, x1), (0, x2), (0, x3), (0, x4), (0, x5), (0, w32 (x6 + 1)), v7] [] w) (fun _ => rfl)).trans (Iff.rfl)
set_option maxRecDepth 100000 in
theorem b103_180 {d : Nat} {w : vW} {x0 x1 x2 x3 x4 x5 x6 : Int} {v7 : vV} {Q : Int → vW → Prop} : VW d 103 180 [(2, x0), (0, x1), (0, x2), (0, x3), (0, x4), (0, x5), (0, x6), v7] [] w Q ↔ Q 0 w :=
  (VW_b 1 (F := fun n => some (0, 0, w)) (fun _ => rfl)).trans (EX_ret0)
/-! 104: StrikeWhatCancelsModel.puts()V -/
set_option maxRecDepth 100000 in
theorem b104_0 {d : Nat} {w : vW} {x0 : Int} {Q : Int → vW → Prop} : VW d 104 0 [(2, x0), (9, 0)] [] w Q ↔ VW d 104 2 [(2, x0), (0, 0)] [] w Q :=
  (VW_b 2 (F := fun n => vrun n d 104 2 [(2, x0), (0, 0)] [] w) (fun _ => rfl)).trans (Iff.rfl)
set_option maxRecDepth 100000 in
theorem b104_2 {d : Nat} {w : vW} {x0 x1 : Int} {Q : Int → vW → Prop} : VW d 104 2 [(2, x0), (0, x1)] [] w Q ↔ (vkd w x0 = 22) ∧ ((x1 < (vct w x0 28) → VW d 104 10 [(2, x0), (0, x1)] [] w Q) ∧ (¬ (x1 < (vct w x0 28)) → VW d 104 23 [(2, x0), (0, x1)] [] w Q)) :=
  (VW_b 4 (F := fun n => if vkd w x0 = 22 then (if x1 < (vct w x0 28) then vrun n d 104 10 [(2, x0), (0, x1)] [] w else vrun n d 104 23 [(2, x0), (0, x1)] [] w) else none) (fun _ => rfl)).trans (EX_if.trans (and_congr Iff.rfl (EX_br.trans (and_congr (imp_congr Iff.rfl Iff.rfl) (imp_congr Iff.rfl Iff.rfl)))))
set_option maxRecDepth 100000 in
theorem b104_10 {d : Nat} {w : vW} {x0 x1 : Int} {Q : Int → vW → Prop} : VW d 104 10 [(2, x0), (0, x1)] [] w Q ↔ (vkd w x0 = 22) ∧ (vkd w (vct w x0 30) = 1 ∧ (0 : Int) ≤ x1 ∧ x1 < vln w (vct w x0 30)) ∧ VW d 104 17 [(2, x0), (0, x1)] [] (vsv w (vct w x0 30) x1 x1) Q :=
  (VW_b 5 (F := fun n => if vkd w x0 = 22 then if vkd w (vct w x0 30) = 1 ∧ (0 : Int) ≤ x1 ∧ x1 < vln w (vct w x0 30) then vrun n d 104 17 [(2, x0), (0, x1)] [] (vsv w (vct w x0 30) x1 x1) else none else none) (fun _ => rfl)).trans (EX_if.trans (and_congr Iff.rfl (EX_if.trans (and_congr Iff.rfl (Iff.rfl)))))
set_option maxRecDepth 100000 in
theorem b104_17 {d : Nat} {w : vW} {x0 x1 : Int} {Q : Int → vW → Prop} : VW d 104 17 [(2, x0), (0, x1)] [] w Q ↔ VW d 104 2 [(2, x0), (0, w32 (x1 + 1))] [] w Q :=
  (VW_b 2 (F := fun n => vrun n d 104 2 [(2, x0), (0, w32 (x1 + 1))] [] w) (fun _ => rfl)).trans (Iff.rfl)
set_option maxRecDepth 100000 in
theorem b104_23 {d : Nat} {w : vW} {x0 x1 : Int} {Q : Int → vW → Prop} : VW d 104 23 [(2, x0), (0, x1)] [] w Q ↔ (vkd w x0 = 22) ∧ (vkd w x0 = 22) ∧ VC d 103 [(2, x0), (0, 0), (0, vct w x0 28)] w (fun _ w1 => VW d 104 32 [(2, x0), (0, x1)] [] w1 Q) :=
  (VW_b 5 (F := fun n => if vkd w x0 = 22 then if vkd w x0 = 22 then vclr (vrun n) d 104 32 103 3 9 [(2, x0), (0, x1)] [(0, vct w x0 28), (0, 0), (2, x0)] w else none else none) (fun _ => rfl)).trans (EX_if.trans (and_congr Iff.rfl (EX_if.trans (and_congr Iff.rfl (EX_call rfl)))))
set_option maxRecDepth 100000 in
theorem b104_32 {d : Nat} {w : vW} {x0 x1 : Int} {Q : Int → vW → Prop} : VW d 104 32 [(2, x0), (0, x1)] [] w Q ↔ Q 0 w :=
  (VW_b 1 (F := fun n => some (0, 0, w)) (fun _ => rfl)).trans (EX_ret0)
/-! 105: StrikeWhatCancelsModel.tellsRoads(J)V -/
set_option maxRecDepth 100000 in
theorem b105_0 {d : Nat} {w : vW} {x0 x1 : Int} {Q : Int → vW → Prop} : VW d 105 0 [(2, x0), (1, x1), (9, 0), (9, 0), (9, 0), (9, 0), (9, 0), (9, 0), (9, 0), (9, 0), (9, 0), (9, 0)] [] w Q ↔ (vkd w x0 = 22) ∧ VC d 104 [(2, x0)] w (fun _ w1 => VW d 105 4 [(2, x0), (1, x1), (9, 0), (9, 0), (9, 0), (9, 0), (9, 0), (9, 0), (9, 0), (9, 0), (9, 0), (9, 0)] [] w1 Q) :=
  (VW_b 2 (F := fun n => if vkd w x0 = 22 then vclr (vrun n) d 105 4 104 1 9 [(2, x0), (1, x1), (9, 0), (9, 0), (9, 0), (9, 0), (9, 0), (9, 0), (9, 0), (9, 0), (9, 0), (9, 0)] [(2, x0)] w else none) (fun _ => rfl)).trans (EX_if.trans (and_congr Iff.rfl (EX_call rfl)))
set_option maxRecDepth 100000 in
theorem b105_4 {d : Nat} {w : vW} {x0 x1 : Int} {Q : Int → vW → Prop} : VW d 105 4 [(2, x0), (1, x1), (9, 0), (9, 0), (9, 0), (9, 0), (9, 0), (9, 0), (9, 0), (9, 0), (9, 0), (9, 0)] [] w Q ↔ VW d 105 6 [(2, x0), (1, x1), (9, 0), (0, 0), (9, 0), (9, 0), (9, 0), (9, 0), (9, 0), (9, 0), (9, 0), (9, 0)] [] w Q :=
  (VW_b 2 (F := fun n => vrun n d 105 6 [(2, x0), (1, x1), (9, 0), (0, 0), (9, 0), (9, 0), (9, 0), (9, 0), (9, 0), (9, 0), (9, 0), (9, 0)] [] w) (fun _ => rfl)).trans (Iff.rfl)
set_option maxRecDepth 100000 in
theorem b105_6 {d : Nat} {w : vW} {x0 x1 x3 : Int} {v4 v5 v6 v7 v8 v9 v10 v11 : vV} {Q : Int → vW → Prop} : VW d 105 6 [(2, x0), (1, x1), (9, 0), (0, x3), v4, v5, v6, v7, v8, v9, v10, v11] [] w Q ↔ (vkd w x0 = 22) ∧ ((x3 < (vct w x0 28) → VW d 105 14 [(2, x0), (1, x1), (9, 0), (0, x3), v4, v5, v6, v7, v8, v9, v10, v11] [] w Q) ∧ (¬ (x3 < (vct w x0 28)) → VW d 105 257 [(2, x0), (1, x1), (9, 0), (0, x3), v4, v5, v6, v7, v8, v9, v10, v11] [] w Q)) :=
  (VW_b 4 (F := fun n => if vkd w x0 = 22 then (if x3 < (vct w x0 28) then vrun n d 105 14 [(2, x0), (1, x1), (9, 0), (0, x3), v4, v5, v6, v7, v8, v9, v10, v11] [] w else vrun n d 105 257 [(2, x0), (1, x1), (9, 0), (0, x3), v4, v5, v6, v7, v8, v9, v10, v11] [] w) else none) (fun _ => rfl)).trans (EX_if.trans (and_congr Iff.rfl (EX_br.trans (and_congr (imp_congr Iff.rfl Iff.rfl) (imp_congr Iff.rfl Iff.rfl)))))
set_option maxRecDepth 100000 in
theorem b105_14 {d : Nat} {w : vW} {x0 x1 x3 : Int} {v4 v5 v6 v7 v8 v9 v10 v11 : vV} {Q : Int → vW → Prop} : VW d 105 14 [(2, x0), (1, x1), (9, 0), (0, x3), v4, v5, v6, v7, v8, v9, v10, v11] [] w Q ↔ (vkd w x0 = 22) ∧ (vkd w (vct w x0 30) = 1 ∧ (0 : Int) ≤ x3 ∧ x3 < vln w (vct w x0 30)) ∧ (vkd w x0 = 22) ∧ (vkd w (vct w x0 27) = 2 ∧ (0 : Int) ≤ (vct w (vct w x0 30) x3) ∧ (vct w (vct w x0 30) x3) < vln w (vct w x0 27)) ∧ (vkd w x0 = 22) ∧ VC d 60 [(2, x0), (1, vct w (vct w x0 27) (vct w (vct w x0 30) x3))] w (fun r w1 => VW d 105 37 [(2, x0), (1, x1), (9, 0), (0, x3), (0, vct w (vct w x0 30) x3), (1, vct w (vct w x0 27) (vct w (vct w x0 30) x3)), (9, 0), v7, v8, v9, v10, v11] [(0, r)] w1 Q) :=
  (VW_b 13 (F := fun n => if vkd w x0 = 22 then if vkd w (vct w x0 30) = 1 ∧ (0 : Int) ≤ x3 ∧ x3 < vln w (vct w x0 30) then if vkd w x0 = 22 then if vkd w (vct w x0 27) = 2 ∧ (0 : Int) ≤ (vct w (vct w x0 30) x3) ∧ (vct w (vct w x0 30) x3) < vln w (vct w x0 27) then if vkd w x0 = 22 then vclr (vrun n) d 105 37 60 2 0 [(2, x0), (1, x1), (9, 0), (0, x3), (0, vct w (vct w x0 30) x3), (1, vct w (vct w x0 27) (vct w (vct w x0 30) x3)), (9, 0), v7, v8, v9, v10, v11] [(1, vct w (vct w x0 27) (vct w (vct w x0 30) x3)), (2, x0)] w else none else none else none else none else none) (fun _ => rfl)).trans (EX_if.trans (and_congr Iff.rfl (EX_if.trans (and_congr Iff.rfl (EX_if.trans (and_congr Iff.rfl (EX_if.trans (and_congr Iff.rfl (EX_if.trans (and_congr Iff.rfl (EX_call rfl)))))))))))
set_option maxRecDepth 100000 in
theorem b105_37 {d : Nat} {w : vW} {x0 x1 x3 x4 x5 y0 : Int} {v7 v8 v9 v10 v11 : vV} {Q : Int → vW → Prop} : VW d 105 37 [(2, x0), (1, x1), (9, 0), (0, x3), (0, x4), (1, x5), (9, 0), v7, v8, v9, v10, v11] [(0, y0)] w Q ↔ (vkd w x0 = 22) ∧ (vkd w (vct w x0 32) = 1 ∧ (0 : Int) ≤ x4 ∧ x4 < vln w (vct w x0 32)) ∧ VW d 105 52 [(2, x0), (1, x1), (9, 0), (0, x3), (0, x4), (1, x5), (9, 0), (0, y0), (0, 1), v9, v10, v11] [] (vsv w (vct w x0 32) x4 1000000) Q :=
  (VW_b 8 (F := fun n => if vkd w x0 = 22 then if vkd w (vct w x0 32) = 1 ∧ (0 : Int) ≤ x4 ∧ x4 < vln w (vct w x0 32) then vrun n d 105 52 [(2, x0), (1, x1), (9, 0), (0, x3), (0, x4), (1, x5), (9, 0), (0, y0), (0, 1), v9, v10, v11] [] (vsv w (vct w x0 32) x4 1000000) else none else none) (fun _ => rfl)).trans (EX_if.trans (and_congr Iff.rfl (EX_if.trans (and_congr Iff.rfl (Iff.rfl)))))
set_option maxRecDepth 100000 in
theorem b105_52 {d : Nat} {w : vW} {x0 x1 x3 x4 x5 x7 x8 : Int} {v9 v10 v11 : vV} {Q : Int → vW → Prop} : VW d 105 52 [(2, x0), (1, x1), (9, 0), (0, x3), (0, x4), (1, x5), (9, 0), (0, x7), (0, x8), v9, v10, v11] [] w Q ↔ (vkd w x0 = 22) ∧ (vkd w (vct w x0 33) = 1 ∧ (0 : Int) ≤ x4 ∧ x4 < vln w (vct w x0 33)) ∧ VW d 105 60 [(2, x0), (1, x1), (9, 0), (0, x3), (0, x4), (1, x5), (9, 0), (0, x7), (0, x8), v9, v10, v11] [] (vsv w (vct w x0 33) x4 0) Q :=
  (VW_b 5 (F := fun n => if vkd w x0 = 22 then if vkd w (vct w x0 33) = 1 ∧ (0 : Int) ≤ x4 ∧ x4 < vln w (vct w x0 33) then vrun n d 105 60 [(2, x0), (1, x1), (9, 0), (0, x3), (0, x4), (1, x5), (9, 0), (0, x7), (0, x8), v9, v10, v11] [] (vsv w (vct w x0 33) x4 0) else none else none) (fun _ => rfl)).trans (EX_if.trans (and_congr Iff.rfl (EX_if.trans (and_congr Iff.rfl (Iff.rfl)))))
set_option maxRecDepth 100000 in
theorem b105_60 {d : Nat} {w : vW} {x0 x1 x3 x4 x5 x7 x8 : Int} {v9 v10 v11 : vV} {Q : Int → vW → Prop} : VW d 105 60 [(2, x0), (1, x1), (9, 0), (0, x3), (0, x4), (1, x5), (9, 0), (0, x7), (0, x8), v9, v10, v11] [] w Q ↔ (vkd w x0 = 22) ∧ (vkd w (vct w x0 34) = 2 ∧ (0 : Int) ≤ x4 ∧ x4 < vln w (vct w x0 34)) ∧ VW d 105 68 [(2, x0), (1, x1), (9, 0), (0, x3), (0, x4), (1, x5), (9, 0), (0, x7), (0, x8), v9, v10, v11] [] (vsv w (vct w x0 34) x4 0) Q :=
  (VW_b 5 (F := fun n => if vkd w x0 = 22 then if vkd w (vct w x0 34) = 2 ∧ (0 : Int) ≤ x4 ∧ x4 < vln w (vct w x0 34) then vrun n d 105 68 [(2, x0), (1, x1), (9, 0), (0, x3), (0, x4), (1, x5), (9, 0), (0, x7), (0, x8), v9, v10, v11] [] (vsv w (vct w x0 34) x4 0) else none else none) (fun _ => rfl)).trans (EX_if.trans (and_congr Iff.rfl (EX_if.trans (and_congr Iff.rfl (Iff.rfl)))))
set_option maxRecDepth 100000 in
theorem b105_68 {d : Nat} {w : vW} {x0 x1 x3 x4 x5 x7 x8 : Int} {v9 v10 v11 : vV} {Q : Int → vW → Prop} : VW d 105 68 [(2, x0), (1, x1), (9, 0), (0, x3), (0, x4), (1, x5), (9, 0), (0, x7), (0, x8), v9, v10, v11] [] w Q ↔ VW d 105 71 [(2, x0), (1, x1), (9, 0), (0, x3), (0, x4), (1, x5), (9, 0), (0, x7), (0, x8), (0, 0), v10, v11] [] w Q :=
  (VW_b 2 (F := fun n => vrun n d 105 71 [(2, x0), (1, x1), (9, 0), (0, x3), (0, x4), (1, x5), (9, 0), (0, x7), (0, x8), (0, 0), v10, v11] [] w) (fun _ => rfl)).trans (Iff.rfl)
set_option maxRecDepth 100000 in
theorem b105_71 {d : Nat} {w : vW} {x0 x1 x3 x4 x5 x7 x8 x9 : Int} {v10 v11 : vV} {Q : Int → vW → Prop} : VW d 105 71 [(2, x0), (1, x1), (9, 0), (0, x3), (0, x4), (1, x5), (9, 0), (0, x7), (0, x8), (0, x9), v10, v11] [] w Q ↔ ((x9 < x7 → VW d 105 78 [(2, x0), (1, x1), (9, 0), (0, x3), (0, x4), (1, x5), (9, 0), (0, x7), (0, x8), (0, x9), v10, v11] [] w Q) ∧ (¬ (x9 < x7) → VW d 105 205 [(2, x0), (1, x1), (9, 0), (0, x3), (0, x4), (1, x5), (9, 0), (0, x7), (0, x8), (0, x9), v10, v11] [] w Q)) :=
  (VW_b 3 (F := fun n => (if x9 < x7 then vrun n d 105 78 [(2, x0), (1, x1), (9, 0), (0, x3), (0, x4), (1, x5), (9, 0), (0, x7), (0, x8), (0, x9), v10, v11] [] w else vrun n d 105 205 [(2, x0), (1, x1), (9, 0), (0, x3), (0, x4), (1, x5), (9, 0), (0, x7), (0, x8), (0, x9), v10, v11] [] w)) (fun _ => rfl)).trans (EX_br.trans (and_congr (imp_congr Iff.rfl Iff.rfl) (imp_congr Iff.rfl Iff.rfl)))
set_option maxRecDepth 100000 in
theorem b105_78 {d : Nat} {w : vW} {x0 x1 x3 x4 x5 x7 x8 x9 : Int} {v10 v11 : vV} {Q : Int → vW → Prop} : VW d 105 78 [(2, x0), (1, x1), (9, 0), (0, x3), (0, x4), (1, x5), (9, 0), (0, x7), (0, x8), (0, x9), v10, v11] [] w Q ↔ VW d 105 81 [(2, x0), (1, x1), (9, 0), (0, x3), (0, x4), (1, x5), (9, 0), (0, x7), (0, x8), (0, x9), (0, 0), v11] [] w Q :=
  (VW_b 2 (F := fun n => vrun n d 105 81 [(2, x0), (1, x1), (9, 0), (0, x3), (0, x4), (1, x5), (9, 0), (0, x7), (0, x8), (0, x9), (0, 0), v11] [] w) (fun _ => rfl)).trans (Iff.rfl)
set_option maxRecDepth 100000 in
theorem b105_81 {d : Nat} {w : vW} {x0 x1 x3 x4 x5 x7 x8 x9 x10 : Int} {v11 : vV} {Q : Int → vW → Prop} : VW d 105 81 [(2, x0), (1, x1), (9, 0), (0, x3), (0, x4), (1, x5), (9, 0), (0, x7), (0, x8), (0, x9), (0, x10), v11] [] w Q ↔ (vkd w x0 = 22) ∧ ((x10 < (vct w x0 4) → VW d 105 90 [(2, x0), (1, x1), (9, 0), (0, x3), (0, x4), (1, x5), (9, 0), (0, x7), (0, x8), (0, x9), (0, x10), v11] [] w Q) ∧ (¬ (x10 < (vct w x0 4)) → VW d 105 199 [(2, x0), (1, x1), (9, 0), (0, x3), (0, x4), (1, x5), (9, 0), (0, x7), (0, x8), (0, x9), (0, x10), v11] [] w Q)) :=
  (VW_b 4 (F := fun n => if vkd w x0 = 22 then (if x10 < (vct w x0 4) then vrun n d 105 90 [(2, x0), (1, x1), (9, 0), (0, x3), (0, x4), (1, x5), (9, 0), (0, x7), (0, x8), (0, x9), (0, x10), v11] [] w else vrun n d 105 199 [(2, x0), (1, x1), (9, 0), (0, x3), (0, x4), (1, x5), (9, 0), (0, x7), (0, x8), (0, x9), (0, x10), v11] [] w) else none) (fun _ => rfl)).trans (EX_if.trans (and_congr Iff.rfl (EX_br.trans (and_congr (imp_congr Iff.rfl Iff.rfl) (imp_congr Iff.rfl Iff.rfl)))))
set_option maxRecDepth 100000 in
theorem b105_90 {d : Nat} {w : vW} {x0 x1 x3 x4 x5 x7 x8 x9 x10 : Int} {v11 : vV} {Q : Int → vW → Prop} : VW d 105 90 [(2, x0), (1, x1), (9, 0), (0, x3), (0, x4), (1, x5), (9, 0), (0, x7), (0, x8), (0, x9), (0, x10), v11] [] w Q ↔ (vkd w x0 = 22) ∧ VC d 84 [(2, x0), (1, x5), (0, x7), (0, x10), (0, x9)] w (fun r w1 => VW d 105 102 [(2, x0), (1, x1), (9, 0), (0, x3), (0, x4), (1, x5), (9, 0), (0, x7), (0, x8), (0, x9), (0, x10), v11] [(0, r)] w1 Q) :=
  (VW_b 6 (F := fun n => if vkd w x0 = 22 then vclr (vrun n) d 105 102 84 5 0 [(2, x0), (1, x1), (9, 0), (0, x3), (0, x4), (1, x5), (9, 0), (0, x7), (0, x8), (0, x9), (0, x10), v11] [(0, x9), (0, x10), (0, x7), (1, x5), (2, x0)] w else none) (fun _ => rfl)).trans (EX_if.trans (and_congr Iff.rfl (EX_call rfl)))
set_option maxRecDepth 100000 in
theorem b105_102 {d : Nat} {w : vW} {x0 x1 x3 x4 x5 x7 x8 x9 x10 y0 : Int} {v11 : vV} {Q : Int → vW → Prop} : VW d 105 102 [(2, x0), (1, x1), (9, 0), (0, x3), (0, x4), (1, x5), (9, 0), (0, x7), (0, x8), (0, x9), (0, x10), v11] [(0, y0)] w Q ↔ ((y0 = 0 → VW d 105 193 [(2, x0), (1, x1), (9, 0), (0, x3), (0, x4), (1, x5), (9, 0), (0, x7), (0, x8), (0, x9), (0, x10), v11] [] w Q) ∧ (¬ (y0 = 0) → VW d 105 105 [(2, x0), (1, x1), (9, 0), (0, x3), (0, x4), (1, x5), (9, 0), (0, x7), (0, x8), (0, x9), (0, x10), v11] [] w Q)) :=
  (VW_b 1 (F := fun n => (if y0 = 0 then vrun n d 105 193 [(2, x0), (1, x1), (9, 0), (0, x3), (0, x4), (1, x5), (9, 0), (0, x7), (0, x8), (0, x9), (0, x10), v11] [] w else vrun n d 105 105 [(2, x0), (1, x1), (9, 0), (0, x3), (0, x4), (1, x5), (9, 0), (0, x7), (0, x8), (0, x9), (0, x10), v11] [] w)) (fun _ => rfl)).trans (EX_br.trans (and_congr (imp_congr Iff.rfl Iff.rfl) (imp_congr Iff.rfl Iff.rfl)))
set_option maxRecDepth 100000 in
theorem b105_105 {d : Nat} {w : vW} {x0 x1 x3 x4 x5 x7 x8 x9 x10 : Int} {v11 : vV} {Q : Int → vW → Prop} : VW d 105 105 [(2, x0), (1, x1), (9, 0), (0, x3), (0, x4), (1, x5), (9, 0), (0, x7), (0, x8), (0, x9), (0, x10), v11] [] w Q ↔ (vkd w x0 = 22) ∧ VC d 83 [(2, x0), (1, x5), (0, x10), (0, x9)] w (fun r w1 => VW d 105 116 [(2, x0), (1, x1), (9, 0), (0, x3), (0, x4), (1, x5), (9, 0), (0, x7), (0, x8), (0, x9), (0, x10), v11] [(1, r), (2, x0)] w1 Q) :=
  (VW_b 6 (F := fun n => if vkd w x0 = 22 then vclr (vrun n) d 105 116 83 4 1 [(2, x0), (1, x1), (9, 0), (0, x3), (0, x4), (1, x5), (9, 0), (0, x7), (0, x8), (0, x9), (0, x10), v11] [(0, x9), (0, x10), (1, x5), (2, x0), (2, x0)] w else none) (fun _ => rfl)).trans (EX_if.trans (and_congr Iff.rfl (EX_call rfl)))
set_option maxRecDepth 100000 in
theorem b105_116 {d : Nat} {w : vW} {x0 x1 x3 x4 x5 x7 x8 x9 x10 y0 y1 : Int} {v11 : vV} {Q : Int → vW → Prop} : VW d 105 116 [(2, x0), (1, x1), (9, 0), (0, x3), (0, x4), (1, x5), (9, 0), (0, x7), (0, x8), (0, x9), (0, x10), v11] [(1, y1), (2, y0)] w Q ↔ (vkd w y0 = 22) ∧ VC d 98 [(2, y0), (1, y1)] w (fun r w1 => VW d 105 119 [(2, x0), (1, x1), (9, 0), (0, x3), (0, x4), (1, x5), (9, 0), (0, x7), (0, x8), (0, x9), (0, x10), v11] [(0, r)] w1 Q) :=
  (VW_b 1 (F := fun n => if vkd w y0 = 22 then vclr (vrun n) d 105 119 98 2 0 [(2, x0), (1, x1), (9, 0), (0, x3), (0, x4), (1, x5), (9, 0), (0, x7), (0, x8), (0, x9), (0, x10), v11] [(1, y1), (2, y0)] w else none) (fun _ => rfl)).trans (EX_if.trans (and_congr Iff.rfl (EX_call rfl)))
set_option maxRecDepth 100000 in
theorem b105_119 {d : Nat} {w : vW} {x0 x1 x3 x4 x5 x7 x8 x9 x10 y0 : Int} {v11 : vV} {Q : Int → vW → Prop} : VW d 105 119 [(2, x0), (1, x1), (9, 0), (0, x3), (0, x4), (1, x5), (9, 0), (0, x7), (0, x8), (0, x9), (0, x10), v11] [(0, y0)] w Q ↔ (vkd w x0 = 22) ∧ (vkd w x0 = 22) ∧ (vkd w (vct w x0 32) = 1 ∧ (0 : Int) ≤ x4 ∧ x4 < vln w (vct w x0 32)) ∧ (vkd w x0 = 22) ∧ (vkd w (vct w x0 32) = 1 ∧ (0 : Int) ≤ y0 ∧ y0 < vln w (vct w x0 32)) ∧ (vkd w (vct w x0 32) = 1 ∧ (0 : Int) ≤ x4 ∧ x4 < vln w (vct w x0 32)) ∧ VW d 105 150 [(2, x0), (1, x1), (9, 0), (0, x3), (0, x4), (1, x5), (9, 0), (0, x7), (0, 0), (0, x9), (0, x10), (0, y0)] [] (vsv w (vct w x0 32) x4 (min (vct w (vct w x0 32) x4) (w32 (1 + (vct w (vct w x0 32) y0))))) Q :=
  (VW_b 18 (F := fun n => if vkd w x0 = 22 then if vkd w x0 = 22 then if vkd w (vct w x0 32) = 1 ∧ (0 : Int) ≤ x4 ∧ x4 < vln w (vct w x0 32) then if vkd w x0 = 22 then if vkd w (vct w x0 32) = 1 ∧ (0 : Int) ≤ y0 ∧ y0 < vln w (vct w x0 32) then if vkd w (vct w x0 32) = 1 ∧ (0 : Int) ≤ x4 ∧ x4 < vln w (vct w x0 32) then vrun n d 105 150 [(2, x0), (1, x1), (9, 0), (0, x3), (0, x4), (1, x5), (9, 0), (0, x7), (0, 0), (0, x9), (0, x10), (0, y0)] [] (vsv w (vct w x0 32) x4 (min (vct w (vct w x0 32) x4) (w32 (1 + (vct w (vct w x0 32) y0))))) else none else none else none else none else none else none) (fun _ => rfl)).trans (EX_if.trans (and_congr Iff.rfl (EX_if.trans (and_congr Iff.rfl (EX_if.trans (and_congr Iff.rfl (EX_if.trans (and_congr Iff.rfl (EX_if.trans (and_congr Iff.rfl (EX_if.trans (and_congr Iff.rfl (Iff.rfl)))))))))))))
set_option maxRecDepth 100000 in
theorem b105_150 {d : Nat} {w : vW} {x0 x1 x3 x4 x5 x7 x8 x9 x10 x11 : Int} {Q : Int → vW → Prop} : VW d 105 150 [(2, x0), (1, x1), (9, 0), (0, x3), (0, x4), (1, x5), (9, 0), (0, x7), (0, x8), (0, x9), (0, x10), (0, x11)] [] w Q ↔ (vkd w x0 = 22) ∧ (vkd w x0 = 22) ∧ (vkd w (vct w x0 33) = 1 ∧ (0 : Int) ≤ x4 ∧ x4 < vln w (vct w x0 33)) ∧ (vkd w x0 = 22) ∧ (vkd w (vct w x0 33) = 1 ∧ (0 : Int) ≤ x11 ∧ x11 < vln w (vct w x0 33)) ∧ (vkd w (vct w x0 33) = 1 ∧ (0 : Int) ≤ x4 ∧ x4 < vln w (vct w x0 33)) ∧ VW d 105 176 [(2, x0), (1, x1), (9, 0), (0, x3), (0, x4), (1, x5), (9, 0), (0, x7), (0, x8), (0, x9), (0, x10), (0, x11)] [] (vsv w (vct w x0 33) x4 (max (vct w (vct w x0 33) x4) (w32 (1 + (vct w (vct w x0 33) x11))))) Q :=
  (VW_b 15 (F := fun n => if vkd w x0 = 22 then if vkd w x0 = 22 then if vkd w (vct w x0 33) = 1 ∧ (0 : Int) ≤ x4 ∧ x4 < vln w (vct w x0 33) then if vkd w x0 = 22 then if vkd w (vct w x0 33) = 1 ∧ (0 : Int) ≤ x11 ∧ x11 < vln w (vct w x0 33) then if vkd w (vct w x0 33) = 1 ∧ (0 : Int) ≤ x4 ∧ x4 < vln w (vct w x0 33) then vrun n d 105 176 [(2, x0), (1, x1), (9, 0), (0, x3), (0, x4), (1, x5), (9, 0), (0, x7), (0, x8), (0, x9), (0, x10), (0, x11)] [] (vsv w (vct w x0 33) x4 (max (vct w (vct w x0 33) x4) (w32 (1 + (vct w (vct w x0 33) x11))))) else none else none else none else none else none else none) (fun _ => rfl)).trans (EX_if.trans (and_congr Iff.rfl (EX_if.trans (and_congr Iff.rfl (EX_if.trans (and_congr Iff.rfl (EX_if.trans (and_congr Iff.rfl (EX_if.trans (and_congr Iff.rfl (EX_if.trans (and_congr Iff.rfl (Iff.rfl)))))))))))))
set_option maxRecDepth 100000 in
theorem b105_176 {d : Nat} {w : vW} {x0 x1 x3 x4 x5 x7 x8 x9 x10 x11 : Int} {Q : Int → vW → Prop} : VW d 105 176 [(2, x0), (1, x1), (9, 0), (0, x3), (0, x4), (1, x5), (9, 0), (0, x7), (0, x8), (0, x9), (0, x10), (0, x11)] [] w Q ↔ (vkd w x0 = 22) ∧ (vkd w (vct w x0 34) = 2 ∧ (0 : Int) ≤ x4 ∧ x4 < vln w (vct w x0 34)) ∧ (vkd w x0 = 22) ∧ (vkd w (vct w x0 34) = 2 ∧ (0 : Int) ≤ x11 ∧ x11 < vln w (vct w x0 34)) ∧ (vkd w (vct w x0 34) = 2 ∧ (0 : Int) ≤ x4 ∧ x4 < vln w (vct w x0 34)) ∧ VW d 105 193 [(2, x0), (1, x1), (9, 0), (0, x3), (0, x4), (1, x5), (9, 0), (0, x7), (0, x8), (0, x9), (0, x10), (0, x11)] [] (vsv w (vct w x0 34) x4 (w64 ((vct w (vct w x0 34) x4) + (vct w (vct w x0 34) x11)))) Q :=
  (VW_b 11 (F := fun n => if vkd w x0 = 22 then if vkd w (vct w x0 34) = 2 ∧ (0 : Int) ≤ x4 ∧ x4 < vln w (vct w x0 34) then if vkd w x0 = 22 then if vkd w (vct w x0 34) = 2 ∧ (0 : Int) ≤ x11 ∧ x11 < vln w (vct w x0 34) then if vkd w (vct w x0 34) = 2 ∧ (0 : Int) ≤ x4 ∧ x4 < vln w (vct w x0 34) then vrun n d 105 193 [(2, x0), (1, x1), (9, 0), (0, x3), (0, x4), (1, x5), (9, 0), (0, x7), (0, x8), (0, x9), (0, x10), (0, x11)] [] (vsv w (vct w x0 34) x4 (w64 ((vct w (vct w x0 34) x4) + (vct w (vct w x0 34) x11)))) else none else none else none else none else none) (fun _ => rfl)).trans (EX_if.trans (and_congr Iff.rfl (EX_if.trans (and_congr Iff.rfl (EX_if.trans (and_congr Iff.rfl (EX_if.trans (and_congr Iff.rfl (EX_if.trans (and_congr Iff.rfl (Iff.rfl)))))))))))
set_option maxRecDepth 100000 in
theorem b105_193 {d : Nat} {w : vW} {x0 x1 x3 x4 x5 x7 x8 x9 x10 : Int} {v11 : vV} {Q : Int → vW → Prop} : VW d 105 193 [(2, x0), (1, x1), (9, 0), (0, x3), (0, x4), (1, x5), (9, 0), (0, x7), (0, x8), (0, x9), (0, x10), v11] [] w Q ↔ VW d 105 81 [(2, x0), (1, x1), (9, 0), (0, x3), (0, x4), (1, x5), (9, 0), (0, x7), (0, x8), (0, x9), (0, w32 (x10 + 1)), v11] [] w Q :=
  (VW_b 2 (F := fun n => vrun n d 105 81 [(2, x0), (1, x1), (9, 0), (0, x3), (0, x4), (1, x5), (9, 0), (0, x7), (0, x8), (0, x9), (0, w32 (x10 + 1)), v11] [] w) (fun _ => rfl)).trans (Iff.rfl)
set_option maxRecDepth 100000 in
theorem b105_199 {d : Nat} {w : vW} {x0 x1 x3 x4 x5 x7 x8 x9 x10 : Int} {v11 : vV} {Q : Int → vW → Prop} : VW d 105 199 [(2, x0), (1, x1), (9, 0), (0, x3), (0, x4), (1, x5), (9, 0), (0, x7), (0, x8), (0, x9), (0, x10), v11] [] w Q ↔ VW d 105 71 [(2, x0), (1, x1), (9, 0), (0, x3), (0, x4), (1, x5), (9, 0), (0, x7), (0, x8), (0, w32 (x9 + 1)), (0, x10), v11] [] w Q :=
  (VW_b 2 (F := fun n => vrun n d 105 71 [(2, x0), (1, x1), (9, 0), (0, x3), (0, x4), (1, x5), (9, 0), (0, x7), (0, x8), (0, w32 (x9 + 1)), (0, x10), v11] [] w) (fun _ => rfl)).trans (Iff.rfl)
set_option maxRecDepth 100000 in
theorem b105_205 {d : Nat} {w : vW} {x0 x1 x3 x4 x5 x7 x8 x9 : Int} {v10 v11 : vV} {Q : Int → vW → Prop} : VW d 105 205 [(2, x0), (1, x1), (9, 0), (0, x3), (0, x4), (1, x5), (9, 0), (0, x7), (0, x8), (0, x9), v10, v11] [] w Q ↔ (((vlc x1 0) < 0 → VW d 105 211 [(2, x0), (1, x1), (9, 0), (0, x3), (0, x4), (1, x5), (9, 0), (0, x7), (0, x8), (0, x9), v10, v11] [] w Q) ∧ (¬ ((vlc x1 0) < 0) → VW d 105 216 [(2, x0), (1, x1), (9, 0), (0, x3), (0, x4), (1, x5), (9, 0), (0, x7), (0, x8), (0, x9), v10, v11] [] w Q)) :=
  (VW_b 4 (F := fun n => (if (vlc x1 0) < 0 then vrun n d 105 211 [(2, x0), (1, x1), (9, 0), (0, x3), (0, x4), (1, x5), (9, 0), (0, x7), (0, x8), (0, x9), v10, v11] [] w else vrun n d 105 216 [(2, x0), (1, x1), (9, 0), (0, x3), (0, x4), (1, x5), (9, 0), (0, x7), (0, x8), (0, x9), v10, v11] [] w)) (fun _ => rfl)).trans (EX_br.trans (and_congr (imp_congr Iff.rfl Iff.rfl) (imp_congr Iff.rfl Iff.rfl)))
set_option maxRecDepth 100000 in
theorem b105_211 {d : Nat} {w : vW} {x0 x1 x3 x4 x5 x7 x8 x9 : Int} {v10 v11 : vV} {Q : Int → vW → Prop} : VW d 105 211 [(2, x0), (1, x1), (9, 0), (0, x3), (0, x4), (1, x5), (9, 0), (0, x7), (0, x8), (0, x9), v10, v11] [] w Q ↔ VW d 105 228 [(2, x0), (1, x1), (9, 0), (0, x3), (0, x4), (1, x5), (9, 0), (0, x7), (0, x8), (0, x9), v10, v11] [(0, x8)] w Q :=
  (VW_b 2 (F := fun n => vrun n d 105 228 [(2, x0), (1, x1), (9, 0), (0, x3), (0, x4), (1, x5), (9, 0), (0, x7), (0, x8), (0, x9), v10, v11] [(0, x8)] w) (fun _ => rfl)).trans (Iff.rfl)
set_option maxRecDepth 100000 in
theorem b105_216 {d : Nat} {w : vW} {x0 x1 x3 x4 x5 x7 x8 x9 : Int} {v10 v11 : vV} {Q : Int → vW → Prop} : VW d 105 216 [(2, x0), (1, x1), (9, 0), (0, x3), (0, x4), (1, x5), (9, 0), (0, x7), (0, x8), (0, x9), v10, v11] [] w Q ↔ (((vlc x5 x1) = 0 → VW d 105 223 [(2, x0), (1, x1), (9, 0), (0, x3), (0, x4), (1, x5), (9, 0), (0, x7), (0, x8), (0, x9), v10, v11] [] w Q) ∧ (¬ ((vlc x5 x1) = 0) → VW d 105 227 [(2, x0), (1, x1), (9, 0), (0, x3), (0, x4), (1, x5), (9, 0), (0, x7), (0, x8), (0, x9), v10, v11] [] w Q)) :=
  (VW_b 4 (F := fun n => (if (vlc x5 x1) = 0 then vrun n d 105 223 [(2, x0), (1, x1), (9, 0), (0, x3), (0, x4), (1, x5), (9, 0), (0, x7), (0, x8), (0, x9), v10, v11] [] w else vrun n d 105 227 [(2, x0), (1, x1), (9, 0), (0, x3), (0, x4), (1, x5), (9, 0), (0, x7), (0, x8), (0, x9), v10, v11] [] w)) (fun _ => rfl)).trans (EX_br.trans (and_congr (imp_congr Iff.rfl Iff.rfl) (imp_congr Iff.rfl Iff.rfl)))
set_option maxRecDepth 100000 in
theorem b105_223 {d : Nat} {w : vW} {x0 x1 x3 x4 x5 x7 x8 x9 : Int} {v10 v11 : vV} {Q : Int → vW → Prop} : VW d 105 223 [(2, x0), (1, x1), (9, 0), (0, x3), (0, x4), (1, x5), (9, 0), (0, x7), (0, x8), (0, x9), v10, v11] [] w Q ↔ VW d 105 228 [(2, x0), (1, x1), (9, 0), (0, x3), (0, x4), (1, x5), (9, 0), (0, x7), (0, x8), (0, x9), v10, v11] [(0, 1)] w Q :=
  (VW_b 2 (F := fun n => vrun n d 105 228 [(2, x0), (1, x1), (9, 0), (0, x3), (0, x4), (1, x5), (9, 0), (0, x7), (0, x8), (0, x9), v10, v11] [(0, 1)] w) (fun _ => rfl)).trans (Iff.rfl)
set_option maxRecDepth 100000 in
theorem b105_227 {d : Nat} {w : vW} {x0 x1 x3 x4 x5 x7 x8 x9 : Int} {v10 v11 : vV} {Q : Int → vW → Prop} : VW d 105 227 [(2, x0), (1, x1), (9, 0), (0, x3), (0, x4), (1, x5), (9, 0), (0, x7), (0, x8), (0, x9), v10, v11] [] w Q ↔ VW d 105 228 [(2, x0), (1, x1), (9, 0), (0, x3), (0, x4), (1, x5), (9, 0), (0, x7), (0, x8), (0, x9), v10, v11] [(0, 0)] w Q :=
  (VW_b 1 (F := fun n => vrun n d 105 228 [(2, x0), (1, x1), (9, 0), (0, x3), (0, x4), (1, x5), (9, 0), (0, x7), (0, x8), (0, x9), v10, v11] [(0, 0)] w) (fun _ => rfl)).trans (Iff.rfl)
set_option maxRecDepth 100000 in
theorem b105_228 {d : Nat} {w : vW} {x0 x1 x3 x4 x5 x7 x8 x9 y0 : Int} {v10 v11 : vV} {Q : Int → vW → Prop} : VW d 105 228 [(2, x0), (1, x1), (9, 0), (0, x3), (0, x4), (1, x5), (9, 0), (0, x7), (0, x8), (0, x9), v10, v11] [(0, y0)] w Q ↔ ((y0 = 0 → VW d 105 251 [(2, x0), (1, x1), (9, 0), (0, x3), (0, x4), (1, x5), (9, 0), (0, x7), (0, x8), (0, y0), v10, v11] [] w Q) ∧ (¬ (y0 = 0) → VW d 105 235 [(2, x0), (1, x1), (9, 0), (0, x3), (0, x4), (1, x5), (9, 0), (0, x7), (0, x8), (0, y0), v10, v11] [] w Q)) :=
  (VW_b 3 (F := fun n => (if y0 = 0 then vrun n d 105 251 [(2, x0), (1, x1), (9, 0), (0, x3), (0, x4), (1, x5), (9, 0), (0, x7), (0, x8), (0, y0), v10, v11] [] w else vrun n d 105 235 [(2, x0), (1, x1), (9, 0), (0, x3), (0, x4), (1, x5), (9, 0), (0, x7), (0, x8), (0, y0), v10, v11] [] w)) (fun _ => rfl)).trans (EX_br.trans (and_congr (imp_congr Iff.rfl Iff.rfl) (imp_congr Iff.rfl Iff.rfl)))
set_option maxRecDepth 100000 in
theorem b105_235 {d : Nat} {w : vW} {x0 x1 x3 x4 x5 x7 x8 x9 : Int} {v10 v11 : vV} {Q : Int → vW → Prop} : VW d 105 235 [(2, x0), (1, x1), (9, 0), (0, x3), (0, x4), (1, x5), (9, 0), (0, x7), (0, x8), (0, x9), v10, v11] [] w Q ↔ (vkd w x0 = 22) ∧ (vkd w (vct w x0 32) = 1 ∧ (0 : Int) ≤ x4 ∧ x4 < vln w (vct w x0 32)) ∧ VW d 105 243 [(2, x0), (1, x1), (9, 0), (0, x3), (0, x4), (1, x5), (9, 0), (0, x7), (0, x8), (0, x9), v10, v11] [] (vsv w (vct w x0 32) x4 0) Q :=
  (VW_b 5 (F := fun n => if vkd w x0 = 22 then if vkd w (vct w x0 32) = 1 ∧ (0 : Int) ≤ x4 ∧ x4 < vln w (vct w x0 32) then vrun n d 105 243 [(2, x0), (1, x1), (9, 0), (0, x3), (0, x4), (1, x5), (9, 0), (0, x7), (0, x8), (0, x9), v10, v11] [] (vsv w (vct w x0 32) x4 0) else none else none) (fun _ => rfl)).trans (EX_if.trans (and_congr Iff.rfl (EX_if.trans (and_congr Iff.rfl (Iff.rfl)))))
set_option maxRecDepth 100000 in
theorem b105_243 {d : Nat} {w : vW} {x0 x1 x3 x4 x5 x7 x8 x9 : Int} {v10 v11 : vV} {Q : Int → vW → Prop} : VW d 105 243 [(2, x0), (1, x1), (9, 0), (0, x3), (0, x4), (1, x5), (9, 0), (0, x7), (0, x8), (0, x9), v10, v11] [] w Q ↔ (vkd w x0 = 22) ∧ (vkd w (vct w x0 34) = 2 ∧ (0 : Int) ≤ x4 ∧ x4 < vln w (vct w x0 34)) ∧ VW d 105 251 [(2, x0), (1, x1), (9, 0), (0, x3), (0, x4), (1, x5), (9, 0), (0, x7), (0, x8), (0, x9), v10, v11] [] (vsv w (vct w x0 34) x4 1) Q :=
  (VW_b 5 (F := fun n => if vkd w x0 = 22 then if vkd w (vct w x0 34) = 2 ∧ (0 : Int) ≤ x4 ∧ x4 < vln w (vct w x0 34) then vrun n d 105 251 [(2, x0), (1, x1), (9, 0), (0, x3), (0, x4), (1, x5), (9, 0), (0, x7), (0, x8), (0, x9), v10, v11] [] (vsv w (vct w x0 34) x4 1) else none else none) (fun _ => rfl)).trans (EX_if.trans (and_congr Iff.rfl (EX_if.trans (and_congr Iff.rfl (Iff.rfl)))))
set_option maxRecDepth 100000 in
theorem b105_251 {d : Nat} {w : vW} {x0 x1 x3 x4 x5 x7 x8 x9 : Int} {v10 v11 : vV} {Q : Int → vW → Prop} : VW d 105 251 [(2, x0), (1, x1), (9, 0), (0, x3), (0, x4), (1, x5), (9, 0), (0, x7), (0, x8), (0, x9), v10, v11] [] w Q ↔ VW d 105 6 [(2, x0), (1, x1), (9, 0), (0, w32 (x3 + 1)), (0, x4), (1, x5), (9, 0), (0, x7), (0, x8), (0, x9), v10, v11] [] w Q :=
  (VW_b 2 (F := fun n => vrun n d 105 6 [(2, x0), (1, x1), (9, 0), (0, w32 (x3 + 1)), (0, x4), (1, x5), (9, 0), (0, x7), (0, x8), (0, x9), v10, v11] [] w) (fun _ => rfl)).trans (Iff.rfl)
set_option maxRecDepth 100000 in
theorem b105_257 {d : Nat} {w : vW} {x0 x1 x3 : Int} {v4 v5 v6 v7 v8 v9 v10 v11 : vV} {Q : Int → vW → Prop} : VW d 105 257 [(2, x0), (1, x1), (9, 0), (0, x3), v4, v5, v6, v7, v8, v9, v10, v11] [] w Q ↔ Q 0 w :=
  (VW_b 1 (F := fun n => some (0, 0, w)) (fun _ => rfl)).trans (EX_ret0)
/-! 106: StrikeWhatCancelsModel.isDone(J)Z -/
set_option maxRecDepth 100000 in
theorem b106_0 {d : Nat} {w : vW} {x0 x1 : Int} {Q : Int → vW → Prop} : VW d 106 0 [(2, x0), (1, x1), (9, 0)] [] w Q ↔ (vkd w x0 = 22) ∧ VC d 87 [(2, x0), (1, x1)] w (fun r w1 => VW d 106 5 [(2, x0), (1, x1), (9, 0)] [(0, r)] w1 Q) :=
  (VW_b 3 (F := fun n => if vkd w x0 = 22 then vclr (vrun n) d 106 5 87 2 0 [(2, x0), (1, x1), (9, 0)] [(1, x1), (2, x0)] w else none) (fun _ => rfl)).trans (EX_if.trans (and_congr Iff.rfl (EX_call rfl)))
set_option maxRecDepth 100000 in
theorem b106_5 {d : Nat} {w : vW} {x0 x1 y0 : Int} {Q : Int → vW → Prop} : VW d 106 5 [(2, x0), (1, x1), (9, 0)] [(0, y0)] w Q ↔ ((y0 = 0 → VW d 106 8 [(2, x0), (1, x1), (9, 0)] [] w Q) ∧ (¬ (y0 = 0) → VW d 106 12 [(2, x0), (1, x1), (9, 0)] [] w Q)) :=
  (VW_b 1 (F := fun n => (if y0 = 0 then vrun n d 106 8 [(2, x0), (1, x1), (9, 0)] [] w else vrun n d 106 12 [(2, x0), (1, x1), (9, 0)] [] w)) (fun _ => rfl)).trans (EX_br.trans (and_congr (imp_congr Iff.rfl Iff.rfl) (imp_congr Iff.rfl Iff.rfl)))
set_option maxRecDepth 100000 in
theorem b106_8 {d : Nat} {w : vW} {x0 x1 : Int} {Q : Int → vW → Prop} : VW d 106 8 [(2, x0), (1, x1), (9, 0)] [] w Q ↔ VW d 106 13 [(2, x0), (1, x1), (9, 0)] [(0, 1)] w Q :=
  (VW_b 2 (F := fun n => vrun n d 106 13 [(2, x0), (1, x1), (9, 0)] [(0, 1)] w) (fun _ => rfl)).trans (Iff.rfl)
set_option maxRecDepth 100000 in
theorem b106_12 {d : Nat} {w : vW} {x0 x1 : Int} {Q : Int → vW → Prop} : VW d 106 12 [(2, x0), (1, x1), (9, 0)] [] w Q ↔ VW d 106 13 [(2, x0), (1, x1), (9, 0)] [(0, 0)] w Q :=
  (VW_b 1 (F := fun n => vrun n d 106 13 [(2, x0), (1, x1), (9, 0)] [(0, 0)] w) (fun _ => rfl)).trans (Iff.rfl)
set_option maxRecDepth 100000 in
theorem b106_13 {d : Nat} {w : vW} {x0 x1 y0 : Int} {Q : Int → vW → Prop} : VW d 106 13 [(2, x0), (1, x1), (9, 0)] [(0, y0)] w Q ↔ ((0 : Int) ≤ y0 ∧ y0 ≤ 1) ∧ Q y0 w :=
  (VW_b 1 (F := fun n => if (0 : Int) ≤ y0 ∧ y0 ≤ 1 then some (0, y0, w) else none) (fun _ => rfl)).trans (EX_if.trans (and_congr Iff.rfl (EX_ret0)))
/-! 107: StrikeWhatCancelsModel.net()I -/
set_option maxRecDepth 100000 in
theorem b107_0 {d : Nat} {w : vW} {x0 : Int} {Q : Int → vW → Prop} : VW d 107 0 [(2, x0), (9, 0), (9, 0)] [] w Q ↔ (vkd w x0 = 22) ∧ VW d 107 5 [(2, x0), (9, 0), (9, 0)] [] (vsv w x0 0 0) Q :=
  (VW_b 3 (F := fun n => if vkd w x0 = 22 then vrun n d 107 5 [(2, x0), (9, 0), (9, 0)] [] (vsv w x0 0 0) else none) (fun _ => rfl)).trans (EX_if.trans (and_congr Iff.rfl (Iff.rfl)))
set_option maxRecDepth 100000 in
theorem b107_5 {d : Nat} {w : vW} {x0 : Int} {Q : Int → vW → Prop} : VW d 107 5 [(2, x0), (9, 0), (9, 0)] [] w Q ↔ (vkd w x0 = 22) ∧ (vkd w x0 = 22) ∧ VC d 102 [(2, x0), (1, vct w x0 14)] w (fun r w1 => VW d 107 13 [(2, x0), (9, 0), (9, 0)] [(0, r)] w1 Q) :=
  (VW_b 4 (F := fun n => if vkd w x0 = 22 then if vkd w x0 = 22 then vclr (vrun n) d 107 13 102 2 0 [(2, x0), (9, 0), (9, 0)] [(1, vct w x0 14), (2, x0)] w else none else none) (fun _ => rfl)).trans (EX_if.trans (and_congr Iff.rfl (EX_if.trans (and_congr Iff.rfl (EX_call rfl)))))
set_option maxRecDepth 100000 in
theorem b107_13 {d : Nat} {w : vW} {x0 y0 : Int} {Q : Int → vW → Prop} : VW d 107 13 [(2, x0), (9, 0), (9, 0)] [(0, y0)] w Q ↔ ((y0 = 0 → VW d 107 16 [(2, x0), (9, 0), (9, 0)] [] w Q) ∧ (¬ (y0 = 0) → VW d 107 19 [(2, x0), (9, 0), (9, 0)] [] w Q)) :=
  (VW_b 1 (F := fun n => (if y0 = 0 then vrun n d 107 16 [(2, x0), (9, 0), (9, 0)] [] w else vrun n d 107 19 [(2, x0), (9, 0), (9, 0)] [] w)) (fun _ => rfl)).trans (EX_br.trans (and_congr (imp_congr Iff.rfl Iff.rfl) (imp_congr Iff.rfl Iff.rfl)))
set_option maxRecDepth 100000 in
theorem b107_16 {d : Nat} {w : vW} {x0 : Int} {Q : Int → vW → Prop} : VW d 107 16 [(2, x0), (9, 0), (9, 0)] [] w Q ↔ Q (-3) w :=
  (VW_b 2 (F := fun n => some (0, (-3), w)) (fun _ => rfl)).trans (EX_ret0)
set_option maxRecDepth 100000 in
theorem b107_19 {d : Nat} {w : vW} {x0 : Int} {Q : Int → vW → Prop} : VW d 107 19 [(2, x0), (9, 0), (9, 0)] [] w Q ↔ (vkd w x0 = 22) ∧ VC d 105 [(2, x0), (1, (-1))] w (fun _ w1 => VW d 107 26 [(2, x0), (9, 0), (9, 0)] [] w1 Q) :=
  (VW_b 3 (F := fun n => if vkd w x0 = 22 then vclr (vrun n) d 107 26 105 2 9 [(2, x0), (9, 0), (9, 0)] [(1, (-1)), (2, x0)] w else none) (fun _ => rfl)).trans (EX_if.trans (and_congr Iff.rfl (EX_call rfl)))
set_option maxRecDepth 100000 in
theorem b107_26 {d : Nat} {w : vW} {x0 : Int} {Q : Int → vW → Prop} : VW d 107 26 [(2, x0), (9, 0), (9, 0)] [] w Q ↔ VW d 107 30 [(2, x0), (0, 0), (0, 0)] [] w Q :=
  (VW_b 4 (F := fun n => vrun n d 107 30 [(2, x0), (0, 0), (0, 0)] [] w) (fun _ => rfl)).trans (Iff.rfl)
set_option maxRecDepth 100000 in
theorem b107_30 {d : Nat} {w : vW} {x0 x1 x2 : Int} {Q : Int → vW → Prop} : VW d 107 30 [(2, x0), (0, x1), (0, x2)] [] w Q ↔ (vkd w x0 = 22) ∧ ((x2 < (vct w x0 28) → VW d 107 38 [(2, x0), (0, x1), (0, x2)] [] w Q) ∧ (¬ (x2 < (vct w x0 28)) → VW d 107 60 [(2, x0), (0, x1), (0, x2)] [] w Q)) :=
  (VW_b 4 (F := fun n => if vkd w x0 = 22 then (if x2 < (vct w x0 28) then vrun n d 107 38 [(2, x0), (0, x1), (0, x2)] [] w else vrun n d 107 60 [(2, x0), (0, x1), (0, x2)] [] w) else none) (fun _ => rfl)).trans (EX_if.trans (and_congr Iff.rfl (EX_br.trans (and_congr (imp_congr Iff.rfl Iff.rfl) (imp_congr Iff.rfl Iff.rfl)))))
set_option maxRecDepth 100000 in
theorem b107_38 {d : Nat} {w : vW} {x0 x1 x2 : Int} {Q : Int → vW → Prop} : VW d 107 38 [(2, x0), (0, x1), (0, x2)] [] w Q ↔ (vkd w x0 = 22) ∧ (vkd w (vct w x0 27) = 2 ∧ (0 : Int) ≤ x2 ∧ x2 < vln w (vct w x0 27)) ∧ (vkd w x0 = 22) ∧ VC d 106 [(2, x0), (1, vct w (vct w x0 27) x2)] w (fun r w1 => VW d 107 49 [(2, x0), (0, x1), (0, x2)] [(0, r), (0, x1)] w1 Q) :=
  (VW_b 7 (F := fun n => if vkd w x0 = 22 then if vkd w (vct w x0 27) = 2 ∧ (0 : Int) ≤ x2 ∧ x2 < vln w (vct w x0 27) then if vkd w x0 = 22 then vclr (vrun n) d 107 49 106 2 0 [(2, x0), (0, x1), (0, x2)] [(1, vct w (vct w x0 27) x2), (2, x0), (0, x1)] w else none else none else none) (fun _ => rfl)).trans (EX_if.trans (and_congr Iff.rfl (EX_if.trans (and_congr Iff.rfl (EX_if.trans (and_congr Iff.rfl (EX_call rfl)))))))
set_option maxRecDepth 100000 in
theorem b107_49 {d : Nat} {w : vW} {x0 x1 x2 y0 y1 : Int} {Q : Int → vW → Prop} : VW d 107 49 [(2, x0), (0, x1), (0, x2)] [(0, y1), (0, y0)] w Q ↔ VC d 57 [(0, y1)] w (fun r w1 => VW d 107 52 [(2, x0), (0, x1), (0, x2)] [(0, r), (0, y0)] w1 Q) :=
  (VW_b 1 (F := fun n => vclr (vrun n) d 107 52 57 1 0 [(2, x0), (0, x1), (0, x2)] [(0, y1), (0, y0)] w) (fun _ => rfl)).trans (EX_call rfl)
set_option maxRecDepth 100000 in
theorem b107_52 {d : Nat} {w : vW} {x0 x1 x2 y0 y1 : Int} {Q : Int → vW → Prop} : VW d 107 52 [(2, x0), (0, x1), (0, x2)] [(0, y1), (0, y0)] w Q ↔ VW d 107 30 [(2, x0), (0, w32 (y0 + y1)), (0, w32 (x2 + 1))] [] w Q :=
  (VW_b 4 (F := fun n => vrun n d 107 30 [(2, x0), (0, w32 (y0 + y1)), (0, w32 (x2 + 1))] [] w) (fun _ => rfl)).trans (Iff.rfl)
set_option maxRecDepth 100000 in
theorem b107_60 {d : Nat} {w : vW} {x0 x1 x2 : Int} {Q : Int → vW → Prop} : VW d 107 60 [(2, x0), (0, x1), (0, x2)] [] w Q ↔ (vkd w x0 = 22) ∧ VW d 107 65 [(2, x0), (0, x1), (0, x2)] [] (vsv w x0 1 0) Q :=
  (VW_b 3 (F := fun n => if vkd w x0 = 22 then vrun n d 107 65 [(2, x0), (0, x1), (0, x2)] [] (vsv w x0 1 0) else none) (fun _ => rfl)).trans (EX_if.trans (and_congr Iff.rfl (Iff.rfl)))
set_option maxRecDepth 100000 in
theorem b107_65 {d : Nat} {w : vW} {x0 x1 x2 : Int} {Q : Int → vW → Prop} : VW d 107 65 [(2, x0), (0, x1), (0, x2)] [] w Q ↔ (vkd w x0 = 22) ∧ VC d 58 [(2, x0), (1, x1)] w (fun _ w1 => VW d 107 71 [(2, x0), (0, x1), (0, x2)] [] w1 Q) :=
  (VW_b 4 (F := fun n => if vkd w x0 = 22 then vclr (vrun n) d 107 71 58 2 9 [(2, x0), (0, x1), (0, x2)] [(1, x1), (2, x0)] w else none) (fun _ => rfl)).trans (EX_if.trans (and_congr Iff.rfl (EX_call rfl)))
set_option maxRecDepth 100000 in
theorem b107_71 {d : Nat} {w : vW} {x0 x1 x2 : Int} {Q : Int → vW → Prop} : VW d 107 71 [(2, x0), (0, x1), (0, x2)] [] w Q ↔ (vkd w x0 = 22) ∧ (vkd w (vct w x0 33) = 1 ∧ (0 : Int) ≤ 0 ∧ 0 < vln w (vct w x0 33)) ∧ (vkd w x0 = 22) ∧ VC d 58 [(2, x0), (1, (vct w (vct w x0 33) 0))] w (fun _ w1 => VW d 107 82 [(2, x0), (0, x1), (0, x2)] [] w1 Q) :=
  (VW_b 7 (F := fun n => if vkd w x0 = 22 then if vkd w (vct w x0 33) = 1 ∧ (0 : Int) ≤ 0 ∧ 0 < vln w (vct w x0 33) then if vkd w x0 = 22 then vclr (vrun n) d 107 82 58 2 9 [(2, x0), (0, x1), (0, x2)] [(1, (vct w (vct w x0 33) 0)), (2, x0)] w else none else none else none) (fun _ => rfl)).trans (EX_if.trans (and_congr Iff.rfl (EX_if.trans (and_congr Iff.rfl (EX_if.trans (and_congr Iff.rfl (EX_call rfl)))))))
set_option maxRecDepth 100000 in
theorem b107_82 {d : Nat} {w : vW} {x0 x1 x2 : Int} {Q : Int → vW → Prop} : VW d 107 82 [(2, x0), (0, x1), (0, x2)] [] w Q ↔ (vkd w x0 = 22) ∧ (vkd w (vct w x0 32) = 1 ∧ (0 : Int) ≤ 0 ∧ 0 < vln w (vct w x0 32)) ∧ (vkd w x0 = 22) ∧ VC d 58 [(2, x0), (1, (vct w (vct w x0 32) 0))] w (fun _ w1 => VW d 107 93 [(2, x0), (0, x1), (0, x2)] [] w1 Q) :=
  (VW_b 7 (F := fun n => if vkd w x0 = 22 then if vkd w (vct w x0 32) = 1 ∧ (0 : Int) ≤ 0 ∧ 0 < vln w (vct w x0 32) then if vkd w x0 = 22 then vclr (vrun n) d 107 93 58 2 9 [(2, x0), (0, x1), (0, x2)] [(1, (vct w (vct w x0 32) 0)), (2, x0)] w else none else none else none) (fun _ => rfl)).trans (EX_if.trans (and_congr Iff.rfl (EX_if.trans (and_congr Iff.rfl (EX_if.trans (and_congr Iff.rfl (EX_call rfl)))))))
set_option maxRecDepth 100000 in
theorem b107_93 {d : Nat} {w : vW} {x0 x1 x2 : Int} {Q : Int → vW → Prop} : VW d 107 93 [(2, x0), (0, x1), (0, x2)] [] w Q ↔ (vkd w x0 = 22) ∧ Q (vct w x0 28) w :=
  (VW_b 3 (F := fun n => if vkd w x0 = 22 then some (0, vct w x0 28, w) else none) (fun _ => rfl)).trans (EX_if.trans (and_congr Iff.rfl (EX_ret0)))
/-! 108: StrikeWhatCancelsModel.done(I)J -/
set_option maxRecDepth 100000 in
theorem b108_0 {d : Nat} {w : vW} {x0 x1 : Int} {Q : Int → vW → Prop} : VW d 108 0 [(2, x0), (0, x1), (9, 0), (9, 0)] [] w Q ↔ (vkd w x0 = 22) ∧ VW d 108 5 [(2, x0), (0, x1), (9, 0), (9, 0)] [] (vsv w x0 0 0) Q :=
  (VW_b 3 (F := fun n => if vkd w x0 = 22 then vrun n d 108 5 [(2, x0), (0, x1), (9, 0), (9, 0)] [] (vsv w x0 0 0) else none) (fun _ => rfl)).trans (EX_if.trans (and_congr Iff.rfl (Iff.rfl)))
set_option maxRecDepth 100000 in
theorem b108_5 {d : Nat} {w : vW} {x0 x1 : Int} {Q : Int → vW → Prop} : VW d 108 5 [(2, x0), (0, x1), (9, 0), (9, 0)] [] w Q ↔ ((x1 < 0 → VW d 108 9 [(2, x0), (0, x1), (9, 0), (9, 0)] [] w Q) ∧ (¬ (x1 < 0) → VW d 108 13 [(2, x0), (0, x1), (9, 0), (9, 0)] [] w Q)) :=
  (VW_b 2 (F := fun n => (if x1 < 0 then vrun n d 108 9 [(2, x0), (0, x1), (9, 0), (9, 0)] [] w else vrun n d 108 13 [(2, x0), (0, x1), (9, 0), (9, 0)] [] w)) (fun _ => rfl)).trans (EX_br.trans (and_congr (imp_congr Iff.rfl Iff.rfl) (imp_congr Iff.rfl Iff.rfl)))
set_option maxRecDepth 100000 in
theorem b108_9 {d : Nat} {w : vW} {x0 x1 : Int} {Q : Int → vW → Prop} : VW d 108 9 [(2, x0), (0, x1), (9, 0), (9, 0)] [] w Q ↔ Q (-1) w :=
  (VW_b 2 (F := fun n => some (0, (-1), w)) (fun _ => rfl)).trans (EX_ret0)
set_option maxRecDepth 100000 in
theorem b108_13 {d : Nat} {w : vW} {x0 x1 : Int} {Q : Int → vW → Prop} : VW d 108 13 [(2, x0), (0, x1), (9, 0), (9, 0)] [] w Q ↔ (vkd w x0 = 22) ∧ (vkd w x0 = 22) ∧ VC d 102 [(2, x0), (1, vct w x0 14)] w (fun r w1 => VW d 108 21 [(2, x0), (0, x1), (9, 0), (9, 0)] [(0, r)] w1 Q) :=
  (VW_b 4 (F := fun n => if vkd w x0 = 22 then if vkd w x0 = 22 then vclr (vrun n) d 108 21 102 2 0 [(2, x0), (0, x1), (9, 0), (9, 0)] [(1, vct w x0 14), (2, x0)] w else none else none) (fun _ => rfl)).trans (EX_if.trans (and_congr Iff.rfl (EX_if.trans (and_congr Iff.rfl (EX_call rfl)))))
set_option maxRecDepth 100000 in
theorem b108_21 {d : Nat} {w : vW} {x0 x1 y0 : Int} {Q : Int → vW → Prop} : VW d 108 21 [(2, x0), (0, x1), (9, 0), (9, 0)] [(0, y0)] w Q ↔ ((y0 = 0 → VW d 108 24 [(2, x0), (0, x1), (9, 0), (9, 0)] [] w Q) ∧ (¬ (y0 = 0) → VW d 108 28 [(2, x0), (0, x1), (9, 0), (9, 0)] [] w Q)) :=
  (VW_b 1 (F := fun n => (if y0 = 0 then vrun n d 108 24 [(2, x0), (0, x1), (9, 0), (9, 0)] [] w else vrun n d 108 28 [(2, x0), (0, x1), (9, 0), (9, 0)] [] w)) (fun _ => rfl)).trans (EX_br.trans (and_congr (imp_congr Iff.rfl Iff.rfl) (imp_congr Iff.rfl Iff.rfl)))
set_option maxRecDepth 100000 in
theorem b108_24 {d : Nat} {w : vW} {x0 x1 : Int} {Q : Int → vW → Prop} : VW d 108 24 [(2, x0), (0, x1), (9, 0), (9, 0)] [] w Q ↔ Q (-3) w :=
  (VW_b 2 (F := fun n => some (0, (-3), w)) (fun _ => rfl)).trans (EX_ret0)
set_option maxRecDepth 100000 in
theorem b108_28 {d : Nat} {w : vW} {x0 x1 : Int} {Q : Int → vW → Prop} : VW d 108 28 [(2, x0), (0, x1), (9, 0), (9, 0)] [] w Q ↔ (vkd w x0 = 22) ∧ VC d 104 [(2, x0)] w (fun _ w1 => VW d 108 32 [(2, x0), (0, x1), (9, 0), (9, 0)] [] w1 Q) :=
  (VW_b 2 (F := fun n => if vkd w x0 = 22 then vclr (vrun n) d 108 32 104 1 9 [(2, x0), (0, x1), (9, 0), (9, 0)] [(2, x0)] w else none) (fun _ => rfl)).trans (EX_if.trans (and_congr Iff.rfl (EX_call rfl)))
set_option maxRecDepth 100000 in
theorem b108_32 {d : Nat} {w : vW} {x0 x1 : Int} {Q : Int → vW → Prop} : VW d 108 32 [(2, x0), (0, x1), (9, 0), (9, 0)] [] w Q ↔ VW d 108 36 [(2, x0), (0, x1), (0, x1), (0, 0)] [] w Q :=
  (VW_b 4 (F := fun n => vrun n d 108 36 [(2, x0), (0, x1), (0, x1), (0, 0)] [] w) (fun _ => rfl)).trans (Iff.rfl)
set_option maxRecDepth 100000 in
theorem b108_36 {d : Nat} {w : vW} {x0 x1 x2 x3 : Int} {Q : Int → vW → Prop} : VW d 108 36 [(2, x0), (0, x1), (0, x2), (0, x3)] [] w Q ↔ (vkd w x0 = 22) ∧ ((x3 < (vct w x0 28) → VW d 108 44 [(2, x0), (0, x1), (0, x2), (0, x3)] [] w Q) ∧ (¬ (x3 < (vct w x0 28)) → VW d 108 87 [(2, x0), (0, x1), (0, x2), (0, x3)] [] w Q)) :=
  (VW_b 4 (F := fun n => if vkd w x0 = 22 then (if x3 < (vct w x0 28) then vrun n d 108 44 [(2, x0), (0, x1), (0, x2), (0, x3)] [] w else vrun n d 108 87 [(2, x0), (0, x1), (0, x2), (0, x3)] [] w) else none) (fun _ => rfl)).trans (EX_if.trans (and_congr Iff.rfl (EX_br.trans (and_congr (imp_congr Iff.rfl Iff.rfl) (imp_congr Iff.rfl Iff.rfl)))))
set_option maxRecDepth 100000 in
theorem b108_44 {d : Nat} {w : vW} {x0 x1 x2 x3 : Int} {Q : Int → vW → Prop} : VW d 108 44 [(2, x0), (0, x1), (0, x2), (0, x3)] [] w Q ↔ (vkd w x0 = 22) ∧ (vkd w x0 = 22) ∧ (vkd w (vct w x0 30) = 1 ∧ (0 : Int) ≤ x3 ∧ x3 < vln w (vct w x0 30)) ∧ (vkd w (vct w x0 27) = 2 ∧ (0 : Int) ≤ (vct w (vct w x0 30) x3) ∧ (vct w (vct w x0 30) x3) < vln w (vct w x0 27)) ∧ (vkd w x0 = 22) ∧ VC d 106 [(2, x0), (1, vct w (vct w x0 27) (vct w (vct w x0 30) x3))] w (fun r w1 => VW d 108 59 [(2, x0), (0, x1), (0, x2), (0, x3)] [(0, r)] w1 Q) :=
  (VW_b 9 (F := fun n => if vkd w x0 = 22 then if vkd w x0 = 22 then if vkd w (vct w x0 30) = 1 ∧ (0 : Int) ≤ x3 ∧ x3 < vln w (vct w x0 30) then if vkd w (vct w x0 27) = 2 ∧ (0 : Int) ≤ (vct w (vct w x0 30) x3) ∧ (vct w (vct w x0 30) x3) < vln w (vct w x0 27) then if vkd w x0 = 22 then vclr (vrun n) d 108 59 106 2 0 [(2, x0), (0, x1), (0, x2), (0, x3)] [(1, vct w (vct w x0 27) (vct w (vct w x0 30) x3)), (2, x0)] w else none else none else none else none else none) (fun _ => rfl)).trans (EX_if.trans (and_congr Iff.rfl (EX_if.trans (and_congr Iff.rfl (EX_if.trans (and_congr Iff.rfl (EX_if.trans (and_congr Iff.rfl (EX_if.trans (and_congr Iff.rfl (EX_call rfl)))))))))))
set_option maxRecDepth 100000 in
theorem b108_59 {d : Nat} {w : vW} {x0 x1 x2 x3 y0 : Int} {Q : Int → vW → Prop} : VW d 108 59 [(2, x0), (0, x1), (0, x2), (0, x3)] [(0, y0)] w Q ↔ ((y0 = 0 → VW d 108 81 [(2, x0), (0, x1), (0, x2), (0, x3)] [] w Q) ∧ (¬ (y0 = 0) → VW d 108 62 [(2, x0), (0, x1), (0, x2), (0, x3)] [] w Q)) :=
  (VW_b 1 (F := fun n => (if y0 = 0 then vrun n d 108 81 [(2, x0), (0, x1), (0, x2), (0, x3)] [] w else vrun n d 108 62 [(2, x0), (0, x1), (0, x2), (0, x3)] [] w)) (fun _ => rfl)).trans (EX_br.trans (and_congr (imp_congr Iff.rfl Iff.rfl) (imp_congr Iff.rfl Iff.rfl)))
set_option maxRecDepth 100000 in
theorem b108_62 {d : Nat} {w : vW} {x0 x1 x2 x3 : Int} {Q : Int → vW → Prop} : VW d 108 62 [(2, x0), (0, x1), (0, x2), (0, x3)] [] w Q ↔ ((x2 = 0 → VW d 108 66 [(2, x0), (0, x1), (0, x2), (0, x3)] [] w Q) ∧ (¬ (x2 = 0) → VW d 108 78 [(2, x0), (0, x1), (0, x2), (0, x3)] [] w Q)) :=
  (VW_b 2 (F := fun n => (if x2 = 0 then vrun n d 108 66 [(2, x0), (0, x1), (0, x2), (0, x3)] [] w else vrun n d 108 78 [(2, x0), (0, x1), (0, x2), (0, x3)] [] w)) (fun _ => rfl)).trans (EX_br.trans (and_congr (imp_congr Iff.rfl Iff.rfl) (imp_congr Iff.rfl Iff.rfl)))
set_option maxRecDepth 100000 in
theorem b108_66 {d : Nat} {w : vW} {x0 x1 x2 x3 : Int} {Q : Int → vW → Prop} : VW d 108 66 [(2, x0), (0, x1), (0, x2), (0, x3)] [] w Q ↔ (vkd w x0 = 22) ∧ (vkd w x0 = 22) ∧ (vkd w (vct w x0 30) = 1 ∧ (0 : Int) ≤ x3 ∧ x3 < vln w (vct w x0 30)) ∧ (vkd w (vct w x0 27) = 2 ∧ (0 : Int) ≤ (vct w (vct w x0 30) x3) ∧ (vct w (vct w x0 30) x3) < vln w (vct w x0 27)) ∧ Q (vct w (vct w x0 27) (vct w (vct w x0 30) x3)) w :=
  (VW_b 8 (F := fun n => if vkd w x0 = 22 then if vkd w x0 = 22 then if vkd w (vct w x0 30) = 1 ∧ (0 : Int) ≤ x3 ∧ x3 < vln w (vct w x0 30) then if vkd w (vct w x0 27) = 2 ∧ (0 : Int) ≤ (vct w (vct w x0 30) x3) ∧ (vct w (vct w x0 30) x3) < vln w (vct w x0 27) then some (0, vct w (vct w x0 27) (vct w (vct w x0 30) x3), w) else none else none else none else none) (fun _ => rfl)).trans (EX_if.trans (and_congr Iff.rfl (EX_if.trans (and_congr Iff.rfl (EX_if.trans (and_congr Iff.rfl (EX_if.trans (and_congr Iff.rfl (EX_ret0)))))))))
set_option maxRecDepth 100000 in
theorem b108_78 {d : Nat} {w : vW} {x0 x1 x2 x3 : Int} {Q : Int → vW → Prop} : VW d 108 78 [(2, x0), (0, x1), (0, x2), (0, x3)] [] w Q ↔ VW d 108 81 [(2, x0), (0, x1), (0, w32 (x2 + (-1))), (0, x3)] [] w Q :=
  (VW_b 1 (F := fun n => vrun n d 108 81 [(2, x0), (0, x1), (0, w32 (x2 + (-1))), (0, x3)] [] w) (fun _ => rfl)).trans (Iff.rfl)
set_option maxRecDepth 100000 in
theorem b108_81 {d : Nat} {w : vW} {x0 x1 x2 x3 : Int} {Q : Int → vW → Prop} : VW d 108 81 [(2, x0), (0, x1), (0, x2), (0, x3)] [] w Q ↔ VW d 108 36 [(2, x0), (0, x1), (0, x2), (0, w32 (x3 + 1))] [] w Q :=
  (VW_b 2 (F := fun n => vrun n d 108 36 [(2, x0), (0, x1), (0, x2), (0, w32 (x3 + 1))] [] w) (fun _ => rfl)).trans (Iff.rfl)
set_option maxRecDepth 100000 in
theorem b108_87 {d : Nat} {w : vW} {x0 x1 x2 x3 : Int} {Q : Int → vW → Prop} : VW d 108 87 [(2, x0), (0, x1), (0, x2), (0, x3)] [] w Q ↔ Q (-2) w :=
  (VW_b 2 (F := fun n => some (0, (-2), w)) (fun _ => rfl)).trans (EX_ret0)
/-! 109: StrikeWhatCancelsModel.way(J)I -/
set_option maxRecDepth 100000 in
theorem b109_0 {d : Nat} {w : vW} {x0 x1 : Int} {Q : Int → vW → Prop} : VW d 109 0 [(2, x0), (1, x1), (9, 0), (9, 0), (9, 0), (9, 0), (9, 0)] [] w Q ↔ (vkd w x0 = 22) ∧ VW d 109 5 [(2, x0), (1, x1), (9, 0), (9, 0), (9, 0), (9, 0), (9, 0)] [] (vsv w x0 0 0) Q :=
  (VW_b 3 (F := fun n => if vkd w x0 = 22 then vrun n d 109 5 [(2, x0), (1, x1), (9, 0), (9, 0), (9, 0), (9, 0), (9, 0)] [] (vsv w x0 0 0) else none) (fun _ => rfl)).trans (EX_if.trans (and_congr Iff.rfl (Iff.rfl)))
set_option maxRecDepth 100000 in
theorem b109_5 {d : Nat} {w : vW} {x0 x1 : Int} {Q : Int → vW → Prop} : VW d 109 5 [(2, x0), (1, x1), (9, 0), (9, 0), (9, 0), (9, 0), (9, 0)] [] w Q ↔ (vkd w x0 = 22) ∧ VC d 61 [(2, x0), (1, x1)] w (fun r w1 => VW d 109 10 [(2, x0), (1, x1), (9, 0), (9, 0), (9, 0), (9, 0), (9, 0)] [(0, r)] w1 Q) :=
  (VW_b 3 (F := fun n => if vkd w x0 = 22 then vclr (vrun n) d 109 10 61 2 0 [(2, x0), (1, x1), (9, 0), (9, 0), (9, 0), (9, 0), (9, 0)] [(1, x1), (2, x0)] w else none) (fun _ => rfl)).trans (EX_if.trans (and_congr Iff.rfl (EX_call rfl)))
set_option maxRecDepth 100000 in
theorem b109_10 {d : Nat} {w : vW} {x0 x1 y0 : Int} {Q : Int → vW → Prop} : VW d 109 10 [(2, x0), (1, x1), (9, 0), (9, 0), (9, 0), (9, 0), (9, 0)] [(0, y0)] w Q ↔ ((y0 = 0 → VW d 109 13 [(2, x0), (1, x1), (9, 0), (9, 0), (9, 0), (9, 0), (9, 0)] [] w Q) ∧ (¬ (y0 = 0) → VW d 109 15 [(2, x0), (1, x1), (9, 0), (9, 0), (9, 0), (9, 0), (9, 0)] [] w Q)) :=
  (VW_b 1 (F := fun n => (if y0 = 0 then vrun n d 109 13 [(2, x0), (1, x1), (9, 0), (9, 0), (9, 0), (9, 0), (9, 0)] [] w else vrun n d 109 15 [(2, x0), (1, x1), (9, 0), (9, 0), (9, 0), (9, 0), (9, 0)] [] w)) (fun _ => rfl)).trans (EX_br.trans (and_congr (imp_congr Iff.rfl Iff.rfl) (imp_congr Iff.rfl Iff.rfl)))
set_option maxRecDepth 100000 in
theorem b109_13 {d : Nat} {w : vW} {x0 x1 : Int} {Q : Int → vW → Prop} : VW d 109 13 [(2, x0), (1, x1), (9, 0), (9, 0), (9, 0), (9, 0), (9, 0)] [] w Q ↔ Q (-1) w :=
  (VW_b 2 (F := fun n => some (0, (-1), w)) (fun _ => rfl)).trans (EX_ret0)
set_option maxRecDepth 100000 in
theorem b109_15 {d : Nat} {w : vW} {x0 x1 : Int} {Q : Int → vW → Prop} : VW d 109 15 [(2, x0), (1, x1), (9, 0), (9, 0), (9, 0), (9, 0), (9, 0)] [] w Q ↔ (vkd w x0 = 22) ∧ (vkd w x0 = 22) ∧ VC d 102 [(2, x0), (1, vct w x0 14)] w (fun r w1 => VW d 109 23 [(2, x0), (1, x1), (9, 0), (9, 0), (9, 0), (9, 0), (9, 0)] [(0, r)] w1 Q) :=
  (VW_b 4 (F := fun n => if vkd w x0 = 22 then if vkd w x0 = 22 then vclr (vrun n) d 109 23 102 2 0 [(2, x0), (1, x1), (9, 0), (9, 0), (9, 0), (9, 0), (9, 0)] [(1, vct w x0 14), (2, x0)] w else none else none) (fun _ => rfl)).trans (EX_if.trans (and_congr Iff.rfl (EX_if.trans (and_congr Iff.rfl (EX_call rfl)))))
set_option maxRecDepth 100000 in
theorem b109_23 {d : Nat} {w : vW} {x0 x1 y0 : Int} {Q : Int → vW → Prop} : VW d 109 23 [(2, x0), (1, x1), (9, 0), (9, 0), (9, 0), (9, 0), (9, 0)] [(0, y0)] w Q ↔ ((y0 = 0 → VW d 109 26 [(2, x0), (1, x1), (9, 0), (9, 0), (9, 0), (9, 0), (9, 0)] [] w Q) ∧ (¬ (y0 = 0) → VW d 109 29 [(2, x0), (1, x1), (9, 0), (9, 0), (9, 0), (9, 0), (9, 0)] [] w Q)) :=
  (VW_b 1 (F := fun n => (if y0 = 0 then vrun n d 109 26 [(2, x0), (1, x1), (9, 0), (9, 0), (9, 0), (9, 0), (9, 0)] [] w else vrun n d 109 29 [(2, x0), (1, x1), (9, 0), (9, 0), (9, 0), (9, 0), (9, 0)] [] w)) (fun _ => rfl)).trans (EX_br.trans (and_congr (imp_congr Iff.rfl Iff.rfl) (imp_congr Iff.rfl Iff.rfl)))
set_option maxRecDepth 100000 in
theorem b109_26 {d : Nat} {w : vW} {x0 x1 : Int} {Q : Int → vW → Prop} : VW d 109 26 [(2, x0), (1, x1), (9, 0), (9, 0), (9, 0), (9, 0), (9, 0)] [] w Q ↔ Q (-3) w :=
  (VW_b 2 (F := fun n => some (0, (-3), w)) (fun _ => rfl)).trans (EX_ret0)
set_option maxRecDepth 100000 in
theorem b109_29 {d : Nat} {w : vW} {x0 x1 : Int} {Q : Int → vW → Prop} : VW d 109 29 [(2, x0), (1, x1), (9, 0), (9, 0), (9, 0), (9, 0), (9, 0)] [] w Q ↔ (vkd w x0 = 22) ∧ VC d 98 [(2, x0), (1, x1)] w (fun r w1 => VW d 109 34 [(2, x0), (1, x1), (9, 0), (9, 0), (9, 0), (9, 0), (9, 0)] [(0, r)] w1 Q) :=
  (VW_b 3 (F := fun n => if vkd w x0 = 22 then vclr (vrun n) d 109 34 98 2 0 [(2, x0), (1, x1), (9, 0), (9, 0), (9, 0), (9, 0), (9, 0)] [(1, x1), (2, x0)] w else none) (fun _ => rfl)).trans (EX_if.trans (and_congr Iff.rfl (EX_call rfl)))
set_option maxRecDepth 100000 in
theorem b109_34 {d : Nat} {w : vW} {x0 x1 y0 : Int} {Q : Int → vW → Prop} : VW d 109 34 [(2, x0), (1, x1), (9, 0), (9, 0), (9, 0), (9, 0), (9, 0)] [(0, y0)] w Q ↔ ((y0 < 0 → VW d 109 37 [(2, x0), (1, x1), (9, 0), (9, 0), (9, 0), (9, 0), (9, 0)] [] w Q) ∧ (¬ (y0 < 0) → VW d 109 40 [(2, x0), (1, x1), (9, 0), (9, 0), (9, 0), (9, 0), (9, 0)] [] w Q)) :=
  (VW_b 1 (F := fun n => (if y0 < 0 then vrun n d 109 37 [(2, x0), (1, x1), (9, 0), (9, 0), (9, 0), (9, 0), (9, 0)] [] w else vrun n d 109 40 [(2, x0), (1, x1), (9, 0), (9, 0), (9, 0), (9, 0), (9, 0)] [] w)) (fun _ => rfl)).trans (EX_br.trans (and_congr (imp_congr Iff.rfl Iff.rfl) (imp_congr Iff.rfl Iff.rfl)))
set_option maxRecDepth 100000 in
theorem b109_37 {d : Nat} {w : vW} {x0 x1 : Int} {Q : Int → vW → Prop} : VW d 109 37 [(2, x0), (1, x1), (9, 0), (9, 0), (9, 0), (9, 0), (9, 0)] [] w Q ↔ Q (-2) w :=
  (VW_b 2 (F := fun n => some (0, (-2), w)) (fun _ => rfl)).trans (EX_ret0)
set_option maxRecDepth 100000 in
theorem b109_40 {d : Nat} {w : vW} {x0 x1 : Int} {Q : Int → vW → Prop} : VW d 109 40 [(2, x0), (1, x1), (9, 0), (9, 0), (9, 0), (9, 0), (9, 0)] [] w Q ↔ (vkd w x0 = 22) ∧ VC d 105 [(2, x0), (1, x1)] w (fun _ w1 => VW d 109 45 [(2, x0), (1, x1), (9, 0), (9, 0), (9, 0), (9, 0), (9, 0)] [] w1 Q) :=
  (VW_b 3 (F := fun n => if vkd w x0 = 22 then vclr (vrun n) d 109 45 105 2 9 [(2, x0), (1, x1), (9, 0), (9, 0), (9, 0), (9, 0), (9, 0)] [(1, x1), (2, x0)] w else none) (fun _ => rfl)).trans (EX_if.trans (and_congr Iff.rfl (EX_call rfl)))
set_option maxRecDepth 100000 in
theorem b109_45 {d : Nat} {w : vW} {x0 x1 : Int} {Q : Int → vW → Prop} : VW d 109 45 [(2, x0), (1, x1), (9, 0), (9, 0), (9, 0), (9, 0), (9, 0)] [] w Q ↔ (vkd w x0 = 22) ∧ VW d 109 50 [(2, x0), (1, x1), (9, 0), (9, 0), (9, 0), (9, 0), (9, 0)] [] (vsv w x0 1 0) Q :=
  (VW_b 3 (F := fun n => if vkd w x0 = 22 then vrun n d 109 50 [(2, x0), (1, x1), (9, 0), (9, 0), (9, 0), (9, 0), (9, 0)] [] (vsv w x0 1 0) else none) (fun _ => rfl)).trans (EX_if.trans (and_congr Iff.rfl (Iff.rfl)))
set_option maxRecDepth 100000 in
theorem b109_50 {d : Nat} {w : vW} {x0 x1 : Int} {Q : Int → vW → Prop} : VW d 109 50 [(2, x0), (1, x1), (9, 0), (9, 0), (9, 0), (9, 0), (9, 0)] [] w Q ↔ (vkd w x0 = 22) ∧ (vkd w x0 = 22) ∧ (vkd w (vct w x0 32) = 1 ∧ (0 : Int) ≤ 0 ∧ 0 < vln w (vct w x0 32)) ∧ VW d 109 66 [(2, x0), (1, x1), (9, 0), (1, vct w x0 14), (9, 0), (0, vct w (vct w x0 32) 0), (0, 0)] [] w Q :=
  (VW_b 10 (F := fun n => if vkd w x0 = 22 then if vkd w x0 = 22 then if vkd w (vct w x0 32) = 1 ∧ (0 : Int) ≤ 0 ∧ 0 < vln w (vct w x0 32) then vrun n d 109 66 [(2, x0), (1, x1), (9, 0), (1, vct w x0 14), (9, 0), (0, vct w (vct w x0 32) 0), (0, 0)] [] w else none else none else none) (fun _ => rfl)).trans (EX_if.trans (and_congr Iff.rfl (EX_if.trans (and_congr Iff.rfl (EX_if.trans (and_congr Iff.rfl (Iff.rfl)))))))
set_option maxRecDepth 100000 in
theorem b109_66 {d : Nat} {w : vW} {x0 x1 x3 x5 x6 : Int} {Q : Int → vW → Prop} : VW d 109 66 [(2, x0), (1, x1), (9, 0), (1, x3), (9, 0), (0, x5), (0, x6)] [] w Q ↔ ((x6 < x5 → VW d 109 73 [(2, x0), (1, x1), (9, 0), (1, x3), (9, 0), (0, x5), (0, x6)] [] w Q) ∧ (¬ (x6 < x5) → VW d 109 128 [(2, x0), (1, x1), (9, 0), (1, x3), (9, 0), (0, x5), (0, x6)] [] w Q)) :=
  (VW_b 3 (F := fun n => (if x6 < x5 then vrun n d 109 73 [(2, x0), (1, x1), (9, 0), (1, x3), (9, 0), (0, x5), (0, x6)] [] w else vrun n d 109 128 [(2, x0), (1, x1), (9, 0), (1, x3), (9, 0), (0, x5), (0, x6)] [] w)) (fun _ => rfl)).trans (EX_br.trans (and_congr (imp_congr Iff.rfl Iff.rfl) (imp_congr Iff.rfl Iff.rfl)))
set_option maxRecDepth 100000 in
theorem b109_73 {d : Nat} {w : vW} {x0 x1 x3 x5 x6 : Int} {Q : Int → vW → Prop} : VW d 109 73 [(2, x0), (1, x1), (9, 0), (1, x3), (9, 0), (0, x5), (0, x6)] [] w Q ↔ ((x6 < 8 → VW d 109 80 [(2, x0), (1, x1), (9, 0), (1, x3), (9, 0), (0, x5), (0, x6)] [] w Q) ∧ (¬ (x6 < 8) → VW d 109 128 [(2, x0), (1, x1), (9, 0), (1, x3), (9, 0), (0, x5), (0, x6)] [] w Q)) :=
  (VW_b 3 (F := fun n => (if x6 < 8 then vrun n d 109 80 [(2, x0), (1, x1), (9, 0), (1, x3), (9, 0), (0, x5), (0, x6)] [] w else vrun n d 109 128 [(2, x0), (1, x1), (9, 0), (1, x3), (9, 0), (0, x5), (0, x6)] [] w)) (fun _ => rfl)).trans (EX_br.trans (and_congr (imp_congr Iff.rfl Iff.rfl) (imp_congr Iff.rfl Iff.rfl)))
set_option maxRecDepth 100000 in
theorem b109_80 {d : Nat} {w : vW} {x0 x1 x3 x5 x6 : Int} {Q : Int → vW → Prop} : VW d 109 80 [(2, x0), (1, x1), (9, 0), (1, x3), (9, 0), (0, x5), (0, x6)] [] w Q ↔ (vkd w x0 = 22) ∧ VC d 110 [(2, x0), (1, x3), (0, w32 (x5 - x6))] w (fun _ w1 => VW d 109 90 [(2, x0), (1, x1), (9, 0), (1, x3), (9, 0), (0, x5), (0, x6)] [] w1 Q) :=
  (VW_b 6 (F := fun n => if vkd w x0 = 22 then vclr (vrun n) d 109 90 110 3 9 [(2, x0), (1, x1), (9, 0), (1, x3), (9, 0), (0, x5), (0, x6)] [(0, w32 (x5 - x6)), (1, x3), (2, x0)] w else none) (fun _ => rfl)).trans (EX_if.trans (and_congr Iff.rfl (EX_call rfl)))
set_option maxRecDepth 100000 in
theorem b109_90 {d : Nat} {w : vW} {x0 x1 x3 x5 x6 : Int} {Q : Int → vW → Prop} : VW d 109 90 [(2, x0), (1, x1), (9, 0), (1, x3), (9, 0), (0, x5), (0, x6)] [] w Q ↔ (vkd w x0 = 22) ∧ (vkd w x0 = 22) ∧ VC d 58 [(2, x0), (1, (vct w x0 23))] w (fun _ w1 => VW d 109 99 [(2, x0), (1, x1), (9, 0), (1, x3), (9, 0), (0, x5), (0, x6)] [] w1 Q) :=
  (VW_b 5 (F := fun n => if vkd w x0 = 22 then if vkd w x0 = 22 then vclr (vrun n) d 109 99 58 2 9 [(2, x0), (1, x1), (9, 0), (1, x3), (9, 0), (0, x5), (0, x6)] [(1, (vct w x0 23)), (2, x0)] w else none else none) (fun _ => rfl)).trans (EX_if.trans (and_congr Iff.rfl (EX_if.trans (and_congr Iff.rfl (EX_call rfl)))))
set_option maxRecDepth 100000 in
theorem b109_99 {d : Nat} {w : vW} {x0 x1 x3 x5 x6 : Int} {Q : Int → vW → Prop} : VW d 109 99 [(2, x0), (1, x1), (9, 0), (1, x3), (9, 0), (0, x5), (0, x6)] [] w Q ↔ (vkd w x0 = 22) ∧ (vkd w x0 = 22) ∧ VC d 58 [(2, x0), (1, (vct w x0 24))] w (fun _ w1 => VW d 109 108 [(2, x0), (1, x1), (9, 0), (1, x3), (9, 0), (0, x5), (0, x6)] [] w1 Q) :=
  (VW_b 5 (F := fun n => if vkd w x0 = 22 then if vkd w x0 = 22 then vclr (vrun n) d 109 108 58 2 9 [(2, x0), (1, x1), (9, 0), (1, x3), (9, 0), (0, x5), (0, x6)] [(1, (vct w x0 24)), (2, x0)] w else none else none) (fun _ => rfl)).trans (EX_if.trans (and_congr Iff.rfl (EX_if.trans (and_congr Iff.rfl (EX_call rfl)))))
set_option maxRecDepth 100000 in
theorem b109_108 {d : Nat} {w : vW} {x0 x1 x3 x5 x6 : Int} {Q : Int → vW → Prop} : VW d 109 108 [(2, x0), (1, x1), (9, 0), (1, x3), (9, 0), (0, x5), (0, x6)] [] w Q ↔ (vkd w x0 = 22) ∧ (vkd w x0 = 22) ∧ (vkd w x0 = 22) ∧ VC d 83 [(2, x0), (1, x3), (0, vct w x0 23), (0, vct w x0 24)] w (fun r w1 => VW d 109 121 [(2, x0), (1, x1), (9, 0), (1, x3), (9, 0), (0, x5), (0, x6)] [(1, r)] w1 Q) :=
  (VW_b 7 (F := fun n => if vkd w x0 = 22 then if vkd w x0 = 22 then if vkd w x0 = 22 then vclr (vrun n) d 109 121 83 4 1 [(2, x0), (1, x1), (9, 0), (1, x3), (9, 0), (0, x5), (0, x6)] [(0, vct w x0 24), (0, vct w x0 23), (1, x3), (2, x0)] w else none else none else none) (fun _ => rfl)).trans (EX_if.trans (and_congr Iff.rfl (EX_if.trans (and_congr Iff.rfl (EX_if.trans (and_congr Iff.rfl (EX_call rfl)))))))
set_option maxRecDepth 100000 in
theorem b109_121 {d : Nat} {w : vW} {x0 x1 x3 x5 x6 y0 : Int} {Q : Int → vW → Prop} : VW d 109 121 [(2, x0), (1, x1), (9, 0), (1, x3), (9, 0), (0, x5), (0, x6)] [(1, y0)] w Q ↔ VW d 109 66 [(2, x0), (1, x1), (9, 0), (1, y0), (9, 0), (0, x5), (0, w32 (x6 + 1))] [] w Q :=
  (VW_b 3 (F := fun n => vrun n d 109 66 [(2, x0), (1, x1), (9, 0), (1, y0), (9, 0), (0, x5), (0, w32 (x6 + 1))] [] w) (fun _ => rfl)).trans (Iff.rfl)
set_option maxRecDepth 100000 in
theorem b109_128 {d : Nat} {w : vW} {x0 x1 x3 x5 x6 : Int} {Q : Int → vW → Prop} : VW d 109 128 [(2, x0), (1, x1), (9, 0), (1, x3), (9, 0), (0, x5), (0, x6)] [] w Q ↔ Q x5 w :=
  (VW_b 2 (F := fun n => some (0, x5, w)) (fun _ => rfl)).trans (EX_ret0)
/-! 110: StrikeWhatCancelsModel.goesOn(JI)V -/
set_option maxRecDepth 100000 in
theorem b110_0 {d : Nat} {w : vW} {x0 x1 x3 : Int} {Q : Int → vW → Prop} : VW d 110 0 [(2, x0), (1, x1), (9, 0), (0, x3), (9, 0), (9, 0), (9, 0)] [] w Q ↔ (vkd w x0 = 22) ∧ VC d 60 [(2, x0), (1, x1)] w (fun r w1 => VW d 110 5 [(2, x0), (1, x1), (9, 0), (0, x3), (9, 0), (9, 0), (9, 0)] [(0, r)] w1 Q) :=
  (VW_b 3 (F := fun n => if vkd w x0 = 22 then vclr (vrun n) d 110 5 60 2 0 [(2, x0), (1, x1), (9, 0), (0, x3), (9, 0), (9, 0), (9, 0)] [(1, x1), (2, x0)] w else none) (fun _ => rfl)).trans (EX_if.trans (and_congr Iff.rfl (EX_call rfl)))
set_option maxRecDepth 100000 in
theorem b110_5 {d : Nat} {w : vW} {x0 x1 x3 y0 : Int} {Q : Int → vW → Prop} : VW d 110 5 [(2, x0), (1, x1), (9, 0), (0, x3), (9, 0), (9, 0), (9, 0)] [(0, y0)] w Q ↔ (vkd w x0 = 22) ∧ VW d 110 12 [(2, x0), (1, x1), (9, 0), (0, x3), (0, y0), (9, 0), (9, 0)] [] (vsv w x0 23 (-1)) Q :=
  (VW_b 4 (F := fun n => if vkd w x0 = 22 then vrun n d 110 12 [(2, x0), (1, x1), (9, 0), (0, x3), (0, y0), (9, 0), (9, 0)] [] (vsv w x0 23 (-1)) else none) (fun _ => rfl)).trans (EX_if.trans (and_congr Iff.rfl (Iff.rfl)))
set_option maxRecDepth 100000 in
theorem b110_12 {d : Nat} {w : vW} {x0 x1 x3 x4 : Int} {Q : Int → vW → Prop} : VW d 110 12 [(2, x0), (1, x1), (9, 0), (0, x3), (0, x4), (9, 0), (9, 0)] [] w Q ↔ VW d 110 15 [(2, x0), (1, x1), (9, 0), (0, x3), (0, x4), (0, 0), (9, 0)] [] w Q :=
  (VW_b 2 (F := fun n => vrun n d 110 15 [(2, x0), (1, x1), (9, 0), (0, x3), (0, x4), (0, 0), (9, 0)] [] w) (fun _ => rfl)).trans (Iff.rfl)
set_option maxRecDepth 100000 in
theorem b110_15 {d : Nat} {w : vW} {x0 x1 x3 x4 x5 : Int} {v6 : vV} {Q : Int → vW → Prop} : VW d 110 15 [(2, x0), (1, x1), (9, 0), (0, x3), (0, x4), (0, x5), v6] [] w Q ↔ (vkd w x0 = 22) ∧ ((x5 < (vct w x0 4) → VW d 110 24 [(2, x0), (1, x1), (9, 0), (0, x3), (0, x4), (0, x5), v6] [] w Q) ∧ (¬ (x5 < (vct w x0 4)) → VW d 110 110 [(2, x0), (1, x1), (9, 0), (0, x3), (0, x4), (0, x5), v6] [] w Q)) :=
  (VW_b 4 (F := fun n => if vkd w x0 = 22 then (if x5 < (vct w x0 4) then vrun n d 110 24 [(2, x0), (1, x1), (9, 0), (0, x3), (0, x4), (0, x5), v6] [] w else vrun n d 110 110 [(2, x0), (1, x1), (9, 0), (0, x3), (0, x4), (0, x5), v6] [] w) else none) (fun _ => rfl)).trans (EX_if.trans (and_congr Iff.rfl (EX_br.trans (and_congr (imp_congr Iff.rfl Iff.rfl) (imp_congr Iff.rfl Iff.rfl)))))
set_option maxRecDepth 100000 in
theorem b110_24 {d : Nat} {w : vW} {x0 x1 x3 x4 x5 : Int} {v6 : vV} {Q : Int → vW → Prop} : VW d 110 24 [(2, x0), (1, x1), (9, 0), (0, x3), (0, x4), (0, x5), v6] [] w Q ↔ (vkd w x0 = 22) ∧ (((vct w x0 23) < 0 → VW d 110 31 [(2, x0), (1, x1), (9, 0), (0, x3), (0, x4), (0, x5), v6] [] w Q) ∧ (¬ ((vct w x0 23) < 0) → VW d 110 110 [(2, x0), (1, x1), (9, 0), (0, x3), (0, x4), (0, x5), v6] [] w Q)) :=
  (VW_b 3 (F := fun n => if vkd w x0 = 22 then (if (vct w x0 23) < 0 then vrun n d 110 31 [(2, x0), (1, x1), (9, 0), (0, x3), (0, x4), (0, x5), v6] [] w else vrun n d 110 110 [(2, x0), (1, x1), (9, 0), (0, x3), (0, x4), (0, x5), v6] [] w) else none) (fun _ => rfl)).trans (EX_if.trans (and_congr Iff.rfl (EX_br.trans (and_congr (imp_congr Iff.rfl Iff.rfl) (imp_congr Iff.rfl Iff.rfl)))))
set_option maxRecDepth 100000 in
theorem b110_31 {d : Nat} {w : vW} {x0 x1 x3 x4 x5 : Int} {v6 : vV} {Q : Int → vW → Prop} : VW d 110 31 [(2, x0), (1, x1), (9, 0), (0, x3), (0, x4), (0, x5), v6] [] w Q ↔ VW d 110 34 [(2, x0), (1, x1), (9, 0), (0, x3), (0, x4), (0, x5), (0, 0)] [] w Q :=
  (VW_b 2 (F := fun n => vrun n d 110 34 [(2, x0), (1, x1), (9, 0), (0, x3), (0, x4), (0, x5), (0, 0)] [] w) (fun _ => rfl)).trans (Iff.rfl)
set_option maxRecDepth 100000 in
theorem b110_34 {d : Nat} {w : vW} {x0 x1 x3 x4 x5 x6 : Int} {Q : Int → vW → Prop} : VW d 110 34 [(2, x0), (1, x1), (9, 0), (0, x3), (0, x4), (0, x5), (0, x6)] [] w Q ↔ ((x6 < x4 → VW d 110 41 [(2, x0), (1, x1), (9, 0), (0, x3), (0, x4), (0, x5), (0, x6)] [] w Q) ∧ (¬ (x6 < x4) → VW d 110 104 [(2, x0), (1, x1), (9, 0), (0, x3), (0, x4), (0, x5), (0, x6)] [] w Q)) :=
  (VW_b 3 (F := fun n => (if x6 < x4 then vrun n d 110 41 [(2, x0), (1, x1), (9, 0), (0, x3), (0, x4), (0, x5), (0, x6)] [] w else vrun n d 110 104 [(2, x0), (1, x1), (9, 0), (0, x3), (0, x4), (0, x5), (0, x6)] [] w)) (fun _ => rfl)).trans (EX_br.trans (and_congr (imp_congr Iff.rfl Iff.rfl) (imp_congr Iff.rfl Iff.rfl)))
set_option maxRecDepth 100000 in
theorem b110_41 {d : Nat} {w : vW} {x0 x1 x3 x4 x5 x6 : Int} {Q : Int → vW → Prop} : VW d 110 41 [(2, x0), (1, x1), (9, 0), (0, x3), (0, x4), (0, x5), (0, x6)] [] w Q ↔ (vkd w x0 = 22) ∧ (((vct w x0 23) < 0 → VW d 110 48 [(2, x0), (1, x1), (9, 0), (0, x3), (0, x4), (0, x5), (0, x6)] [] w Q) ∧ (¬ ((vct w x0 23) < 0) → VW d 110 104 [(2, x0), (1, x1), (9, 0), (0, x3), (0, x4), (0, x5), (0, x6)] [] w Q)) :=
  (VW_b 3 (F := fun n => if vkd w x0 = 22 then (if (vct w x0 23) < 0 then vrun n d 110 48 [(2, x0), (1, x1), (9, 0), (0, x3), (0, x4), (0, x5), (0, x6)] [] w else vrun n d 110 104 [(2, x0), (1, x1), (9, 0), (0, x3), (0, x4), (0, x5), (0, x6)] [] w) else none) (fun _ => rfl)).trans (EX_if.trans (and_congr Iff.rfl (EX_br.trans (and_congr (imp_congr Iff.rfl Iff.rfl) (imp_congr Iff.rfl Iff.rfl)))))
set_option maxRecDepth 100000 in
theorem b110_48 {d : Nat} {w : vW} {x0 x1 x3 x4 x5 x6 : Int} {Q : Int → vW → Prop} : VW d 110 48 [(2, x0), (1, x1), (9, 0), (0, x3), (0, x4), (0, x5), (0, x6)] [] w Q ↔ (vkd w x0 = 22) ∧ VC d 84 [(2, x0), (1, x1), (0, x4), (0, x5), (0, x6)] w (fun r w1 => VW d 110 59 [(2, x0), (1, x1), (9, 0), (0, x3), (0, x4), (0, x5), (0, x6)] [(0, r)] w1 Q) :=
  (VW_b 6 (F := fun n => if vkd w x0 = 22 then vclr (vrun n) d 110 59 84 5 0 [(2, x0), (1, x1), (9, 0), (0, x3), (0, x4), (0, x5), (0, x6)] [(0, x6), (0, x5), (0, x4), (1, x1), (2, x0)] w else none) (fun _ => rfl)).trans (EX_if.trans (and_congr Iff.rfl (EX_call rfl)))
set_option maxRecDepth 100000 in
theorem b110_59 {d : Nat} {w : vW} {x0 x1 x3 x4 x5 x6 y0 : Int} {Q : Int → vW → Prop} : VW d 110 59 [(2, x0), (1, x1), (9, 0), (0, x3), (0, x4), (0, x5), (0, x6)] [(0, y0)] w Q ↔ ((y0 = 0 → VW d 110 98 [(2, x0), (1, x1), (9, 0), (0, x3), (0, x4), (0, x5), (0, x6)] [] w Q) ∧ (¬ (y0 = 0) → VW d 110 62 [(2, x0), (1, x1), (9, 0), (0, x3), (0, x4), (0, x5), (0, x6)] [] w Q)) :=
  (VW_b 1 (F := fun n => (if y0 = 0 then vrun n d 110 98 [(2, x0), (1, x1), (9, 0), (0, x3), (0, x4), (0, x5), (0, x6)] [] w else vrun n d 110 62 [(2, x0), (1, x1), (9, 0), (0, x3), (0, x4), (0, x5), (0, x6)] [] w)) (fun _ => rfl)).trans (EX_br.trans (and_congr (imp_congr Iff.rfl Iff.rfl) (imp_congr Iff.rfl Iff.rfl)))
set_option maxRecDepth 100000 in
theorem b110_62 {d : Nat} {w : vW} {x0 x1 x3 x4 x5 x6 : Int} {Q : Int → vW → Prop} : VW d 110 62 [(2, x0), (1, x1), (9, 0), (0, x3), (0, x4), (0, x5), (0, x6)] [] w Q ↔ (vkd w x0 = 22) ∧ (vkd w x0 = 22) ∧ VC d 83 [(2, x0), (1, x1), (0, x5), (0, x6)] w (fun r w1 => VW d 110 76 [(2, x0), (1, x1), (9, 0), (0, x3), (0, x4), (0, x5), (0, x6)] [(1, r), (2, x0), (2, vct w x0 32)] w1 Q) :=
  (VW_b 8 (F := fun n => if vkd w x0 = 22 then if vkd w x0 = 22 then vclr (vrun n) d 110 76 83 4 1 [(2, x0), (1, x1), (9, 0), (0, x3), (0, x4), (0, x5), (0, x6)] [(0, x6), (0, x5), (1, x1), (2, x0), (2, x0), (2, vct w x0 32)] w else none else none) (fun _ => rfl)).trans (EX_if.trans (and_congr Iff.rfl (EX_if.trans (and_congr Iff.rfl (EX_call rfl)))))
set_option maxRecDepth 100000 in
theorem b110_76 {d : Nat} {w : vW} {x0 x1 x3 x4 x5 x6 y0 y1 y2 : Int} {Q : Int → vW → Prop} : VW d 110 76 [(2, x0), (1, x1), (9, 0), (0, x3), (0, x4), (0, x5), (0, x6)] [(1, y2), (2, y1), (2, y0)] w Q ↔ (vkd w y1 = 22) ∧ VC d 98 [(2, y1), (1, y2)] w (fun r w1 => VW d 110 79 [(2, x0), (1, x1), (9, 0), (0, x3), (0, x4), (0, x5), (0, x6)] [(0, r), (2, y0)] w1 Q) :=
  (VW_b 1 (F := fun n => if vkd w y1 = 22 then vclr (vrun n) d 110 79 98 2 0 [(2, x0), (1, x1), (9, 0), (0, x3), (0, x4), (0, x5), (0, x6)] [(1, y2), (2, y1), (2, y0)] w else none) (fun _ => rfl)).trans (EX_if.trans (and_congr Iff.rfl (EX_call rfl)))
set_option maxRecDepth 100000 in
theorem b110_79 {d : Nat} {w : vW} {x0 x1 x3 x4 x5 x6 y0 y1 : Int} {Q : Int → vW → Prop} : VW d 110 79 [(2, x0), (1, x1), (9, 0), (0, x3), (0, x4), (0, x5), (0, x6)] [(0, y1), (2, y0)] w Q ↔ (vkd w y0 = 1 ∧ (0 : Int) ≤ y1 ∧ y1 < vln w y0) ∧ (((vct w y0 y1) = (w32 (x3 - 1)) → VW d 110 86 [(2, x0), (1, x1), (9, 0), (0, x3), (0, x4), (0, x5), (0, x6)] [] w Q) ∧ (¬ ((vct w y0 y1) = (w32 (x3 - 1))) → VW d 110 98 [(2, x0), (1, x1), (9, 0), (0, x3), (0, x4), (0, x5), (0, x6)] [] w Q)) :=
  (VW_b 5 (F := fun n => if vkd w y0 = 1 ∧ (0 : Int) ≤ y1 ∧ y1 < vln w y0 then (if (vct w y0 y1) = (w32 (x3 - 1)) then vrun n d 110 86 [(2, x0), (1, x1), (9, 0), (0, x3), (0, x4), (0, x5), (0, x6)] [] w else vrun n d 110 98 [(2, x0), (1, x1), (9, 0), (0, x3), (0, x4), (0, x5), (0, x6)] [] w) else none) (fun _ => rfl)).trans (EX_if.trans (and_congr Iff.rfl (EX_br.trans (and_congr (imp_congr Iff.rfl Iff.rfl) (imp_congr Iff.rfl Iff.rfl)))))
set_option maxRecDepth 100000 in
theorem b110_86 {d : Nat} {w : vW} {x0 x1 x3 x4 x5 x6 : Int} {Q : Int → vW → Prop} : VW d 110 86 [(2, x0), (1, x1), (9, 0), (0, x3), (0, x4), (0, x5), (0, x6)] [] w Q ↔ (vkd w x0 = 22) ∧ VW d 110 92 [(2, x0), (1, x1), (9, 0), (0, x3), (0, x4), (0, x5), (0, x6)] [] (vsv w x0 23 x5) Q :=
  (VW_b 3 (F := fun n => if vkd w x0 = 22 then vrun n d 110 92 [(2, x0), (1, x1), (9, 0), (0, x3), (0, x4), (0, x5), (0, x6)] [] (vsv w x0 23 x5) else none) (fun _ => rfl)).trans (EX_if.trans (and_congr Iff.rfl (Iff.rfl)))
set_option maxRecDepth 100000 in
theorem b110_92 {d : Nat} {w : vW} {x0 x1 x3 x4 x5 x6 : Int} {Q : Int → vW → Prop} : VW d 110 92 [(2, x0), (1, x1), (9, 0), (0, x3), (0, x4), (0, x5), (0, x6)] [] w Q ↔ (vkd w x0 = 22) ∧ VW d 110 98 [(2, x0), (1, x1), (9, 0), (0, x3), (0, x4), (0, x5), (0, x6)] [] (vsv w x0 24 x6) Q :=
  (VW_b 3 (F := fun n => if vkd w x0 = 22 then vrun n d 110 98 [(2, x0), (1, x1), (9, 0), (0, x3), (0, x4), (0, x5), (0, x6)] [] (vsv w x0 24 x6) else none) (fun _ => rfl)).trans (EX_if.trans (and_congr Iff.rfl (Iff.rfl)))
set_option maxRecDepth 100000 in
theorem b110_98 {d : Nat} {w : vW} {x0 x1 x3 x4 x5 x6 : Int} {Q : Int → vW → Prop} : VW d 110 98 [(2, x0), (1, x1), (9, 0), (0, x3), (0, x4), (0, x5), (0, x6)] [] w Q ↔ VW d 110 34 [(2, x0), (1, x1), (9, 0), (0, x3), (0, x4), (0, x5), (0, w32 (x6 + 1))] [] w Q :=
  (VW_b 2 (F := fun n => vrun n d 110 34 [(2, x0), (1, x1), (9, 0), (0, x3), (0, x4), (0, x5), (0, w32 (x6 + 1))] [] w) (fun _ => rfl)).trans (Iff.rfl)
set_option maxRecDepth 100000 in
theorem b110_104 {d : Nat} {w : vW} {x0 x1 x3 x4 x5 x6 : Int} {Q : Int → vW → Prop} : VW d 110 104 [(2, x0), (1, x1), (9, 0), (0, x3), (0, x4), (0, x5), (0, x6)] [] w Q ↔ VW d 110 15 [(2, x0), (1, x1), (9, 0), (0, x3), (0, x4), (0, w32 (x5 + 1)), (0, x6)] [] w Q :=
  (VW_b 2 (F := fun n => vrun n d 110 15 [(2, x0), (1, x1), (9, 0), (0, x3), (0, x4), (0, w32 (x5 + 1)), (0, x6)] [] w) (fun _ => rfl)).trans (Iff.rfl)
set_option maxRecDepth 100000 in
theorem b110_110 {d : Nat} {w : vW} {x0 x1 x3 x4 x5 : Int} {v6 : vV} {Q : Int → vW → Prop} : VW d 110 110 [(2, x0), (1, x1), (9, 0), (0, x3), (0, x4), (0, x5), v6] [] w Q ↔ Q 0 w :=
  (VW_b 1 (F := fun n => some (0, 0, w)) (fun _ => rfl)).trans (EX_ret0)
/-! 111: StrikeWhatCancelsModel.ways(J)J -/
set_option maxRecDepth 100000 in
theorem b111_0 {d : Nat} {w : vW} {x0 x1 : Int} {Q : Int → vW → Prop} : VW d 111 0 [(2, x0), (1, x1), (9, 0), (9, 0), (9, 0)] [] w Q ↔ (vkd w x0 = 22) ∧ VW d 111 5 [(2, x0), (1, x1), (9, 0), (9, 0), (9, 0)] [] (vsv w x0 0 0) Q :=
  (VW_b 3 (F := fun n => if vkd w x0 = 22 then vrun n d 111 5 [(2, x0), (1, x1), (9, 0), (9, 0), (9, 0)] [] (vsv w x0 0 0) else none) (fun _ => rfl)).trans (EX_if.trans (and_congr Iff.rfl (Iff.rfl)))
set_option maxRecDepth 100000 in
theorem b111_5 {d : Nat} {w : vW} {x0 x1 : Int} {Q : Int → vW → Prop} : VW d 111 5 [(2, x0), (1, x1), (9, 0), (9, 0), (9, 0)] [] w Q ↔ (vkd w x0 = 22) ∧ VC d 61 [(2, x0), (1, x1)] w (fun r w1 => VW d 111 10 [(2, x0), (1, x1), (9, 0), (9, 0), (9, 0)] [(0, r)] w1 Q) :=
  (VW_b 3 (F := fun n => if vkd w x0 = 22 then vclr (vrun n) d 111 10 61 2 0 [(2, x0), (1, x1), (9, 0), (9, 0), (9, 0)] [(1, x1), (2, x0)] w else none) (fun _ => rfl)).trans (EX_if.trans (and_congr Iff.rfl (EX_call rfl)))
set_option maxRecDepth 100000 in
theorem b111_10 {d : Nat} {w : vW} {x0 x1 y0 : Int} {Q : Int → vW → Prop} : VW d 111 10 [(2, x0), (1, x1), (9, 0), (9, 0), (9, 0)] [(0, y0)] w Q ↔ ((y0 = 0 → VW d 111 13 [(2, x0), (1, x1), (9, 0), (9, 0), (9, 0)] [] w Q) ∧ (¬ (y0 = 0) → VW d 111 17 [(2, x0), (1, x1), (9, 0), (9, 0), (9, 0)] [] w Q)) :=
  (VW_b 1 (F := fun n => (if y0 = 0 then vrun n d 111 13 [(2, x0), (1, x1), (9, 0), (9, 0), (9, 0)] [] w else vrun n d 111 17 [(2, x0), (1, x1), (9, 0), (9, 0), (9, 0)] [] w)) (fun _ => rfl)).trans (EX_br.trans (and_congr (imp_congr Iff.rfl Iff.rfl) (imp_congr Iff.rfl Iff.rfl)))
set_option maxRecDepth 100000 in
theorem b111_13 {d : Nat} {w : vW} {x0 x1 : Int} {Q : Int → vW → Prop} : VW d 111 13 [(2, x0), (1, x1), (9, 0), (9, 0), (9, 0)] [] w Q ↔ Q (-1) w :=
  (VW_b 2 (F := fun n => some (0, (-1), w)) (fun _ => rfl)).trans (EX_ret0)
set_option maxRecDepth 100000 in
theorem b111_17 {d : Nat} {w : vW} {x0 x1 : Int} {Q : Int → vW → Prop} : VW d 111 17 [(2, x0), (1, x1), (9, 0), (9, 0), (9, 0)] [] w Q ↔ (vkd w x0 = 22) ∧ (vkd w x0 = 22) ∧ VC d 102 [(2, x0), (1, vct w x0 14)] w (fun r w1 => VW d 111 25 [(2, x0), (1, x1), (9, 0), (9, 0), (9, 0)] [(0, r)] w1 Q) :=
  (VW_b 4 (F := fun n => if vkd w x0 = 22 then if vkd w x0 = 22 then vclr (vrun n) d 111 25 102 2 0 [(2, x0), (1, x1), (9, 0), (9, 0), (9, 0)] [(1, vct w x0 14), (2, x0)] w else none else none) (fun _ => rfl)).trans (EX_if.trans (and_congr Iff.rfl (EX_if.trans (and_congr Iff.rfl (EX_call rfl)))))
set_option maxRecDepth 100000 in
theorem b111_25 {d : Nat} {w : vW} {x0 x1 y0 : Int} {Q : Int → vW → Prop} : VW d 111 25 [(2, x0), (1, x1), (9, 0), (9, 0), (9, 0)] [(0, y0)] w Q ↔ ((y0 = 0 → VW d 111 28 [(2, x0), (1, x1), (9, 0), (9, 0), (9, 0)] [] w Q) ∧ (¬ (y0 = 0) → VW d 111 32 [(2, x0), (1, x1), (9, 0), (9, 0), (9, 0)] [] w Q)) :=
  (VW_b 1 (F := fun n => (if y0 = 0 then vrun n d 111 28 [(2, x0), (1, x1), (9, 0), (9, 0), (9, 0)] [] w else vrun n d 111 32 [(2, x0), (1, x1), (9, 0), (9, 0), (9, 0)] [] w)) (fun _ => rfl)).trans (EX_br.trans (and_congr (imp_congr Iff.rfl Iff.rfl) (imp_congr Iff.rfl Iff.rfl)))
set_option maxRecDepth 100000 in
theorem b111_28 {d : Nat} {w : vW} {x0 x1 : Int} {Q : Int → vW → Prop} : VW d 111 28 [(2, x0), (1, x1), (9, 0), (9, 0), (9, 0)] [] w Q ↔ Q (-3) w :=
  (VW_b 2 (F := fun n => some (0, (-3), w)) (fun _ => rfl)).trans (EX_ret0)
set_option maxRecDepth 100000 in
theorem b111_32 {d : Nat} {w : vW} {x0 x1 : Int} {Q : Int → vW → Prop} : VW d 111 32 [(2, x0), (1, x1), (9, 0), (9, 0), (9, 0)] [] w Q ↔ (vkd w x0 = 22) ∧ VC d 98 [(2, x0), (1, x1)] w (fun r w1 => VW d 111 37 [(2, x0), (1, x1), (9, 0), (9, 0), (9, 0)] [(0, r)] w1 Q) :=
  (VW_b 3 (F := fun n => if vkd w x0 = 22 then vclr (vrun n) d 111 37 98 2 0 [(2, x0), (1, x1), (9, 0), (9, 0), (9, 0)] [(1, x1), (2, x0)] w else none) (fun _ => rfl)).trans (EX_if.trans (and_congr Iff.rfl (EX_call rfl)))
set_option maxRecDepth 100000 in
theorem b111_37 {d : Nat} {w : vW} {x0 x1 y0 : Int} {Q : Int → vW → Prop} : VW d 111 37 [(2, x0), (1, x1), (9, 0), (9, 0), (9, 0)] [(0, y0)] w Q ↔ ((y0 < 0 → VW d 111 40 [(2, x0), (1, x1), (9, 0), (9, 0), (9, 0)] [] w Q) ∧ (¬ (y0 < 0) → VW d 111 44 [(2, x0), (1, x1), (9, 0), (9, 0), (9, 0)] [] w Q)) :=
  (VW_b 1 (F := fun n => (if y0 < 0 then vrun n d 111 40 [(2, x0), (1, x1), (9, 0), (9, 0), (9, 0)] [] w else vrun n d 111 44 [(2, x0), (1, x1), (9, 0), (9, 0), (9, 0)] [] w)) (fun _ => rfl)).trans (EX_br.trans (and_congr (imp_congr Iff.rfl Iff.rfl) (imp_congr Iff.rfl Iff.rfl)))
set_option maxRecDepth 100000 in
theorem b111_40 {d : Nat} {w : vW} {x0 x1 : Int} {Q : Int → vW → Prop} : VW d 111 40 [(2, x0), (1, x1), (9, 0), (9, 0), (9, 0)] [] w Q ↔ Q (-2) w :=
  (VW_b 2 (F := fun n => some (0, (-2), w)) (fun _ => rfl)).trans (EX_ret0)
set_option maxRecDepth 100000 in
theorem b111_44 {d : Nat} {w : vW} {x0 x1 : Int} {Q : Int → vW → Prop} : VW d 111 44 [(2, x0), (1, x1), (9, 0), (9, 0), (9, 0)] [] w Q ↔ (vkd w x0 = 22) ∧ VC d 105 [(2, x0), (1, (-1))] w (fun _ w1 => VW d 111 51 [(2, x0), (1, x1), (9, 0), (9, 0), (9, 0)] [] w1 Q) :=
  (VW_b 3 (F := fun n => if vkd w x0 = 22 then vclr (vrun n) d 111 51 105 2 9 [(2, x0), (1, x1), (9, 0), (9, 0), (9, 0)] [(1, (-1)), (2, x0)] w else none) (fun _ => rfl)).trans (EX_if.trans (and_congr Iff.rfl (EX_call rfl)))
set_option maxRecDepth 100000 in
theorem b111_51 {d : Nat} {w : vW} {x0 x1 : Int} {Q : Int → vW → Prop} : VW d 111 51 [(2, x0), (1, x1), (9, 0), (9, 0), (9, 0)] [] w Q ↔ (vkd w x0 = 22) ∧ (vkd w (vct w x0 34) = 2 ∧ (0 : Int) ≤ 0 ∧ 0 < vln w (vct w x0 34)) ∧ (vkd w x0 = 22) ∧ VC d 105 [(2, x0), (1, x1)] w (fun _ w1 => VW d 111 63 [(2, x0), (1, x1), (9, 0), (1, vct w (vct w x0 34) 0), (9, 0)] [] w1 Q) :=
  (VW_b 8 (F := fun n => if vkd w x0 = 22 then if vkd w (vct w x0 34) = 2 ∧ (0 : Int) ≤ 0 ∧ 0 < vln w (vct w x0 34) then if vkd w x0 = 22 then vclr (vrun n) d 111 63 105 2 9 [(2, x0), (1, x1), (9, 0), (1, vct w (vct w x0 34) 0), (9, 0)] [(1, x1), (2, x0)] w else none else none else none) (fun _ => rfl)).trans (EX_if.trans (and_congr Iff.rfl (EX_if.trans (and_congr Iff.rfl (EX_if.trans (and_congr Iff.rfl (EX_call rfl)))))))
set_option maxRecDepth 100000 in
theorem b111_63 {d : Nat} {w : vW} {x0 x1 x3 : Int} {Q : Int → vW → Prop} : VW d 111 63 [(2, x0), (1, x1), (9, 0), (1, x3), (9, 0)] [] w Q ↔ (vkd w x0 = 22) ∧ VW d 111 68 [(2, x0), (1, x1), (9, 0), (1, x3), (9, 0)] [] (vsv w x0 1 0) Q :=
  (VW_b 3 (F := fun n => if vkd w x0 = 22 then vrun n d 111 68 [(2, x0), (1, x1), (9, 0), (1, x3), (9, 0)] [] (vsv w x0 1 0) else none) (fun _ => rfl)).trans (EX_if.trans (and_congr Iff.rfl (Iff.rfl)))
set_option maxRecDepth 100000 in
theorem b111_68 {d : Nat} {w : vW} {x0 x1 x3 : Int} {Q : Int → vW → Prop} : VW d 111 68 [(2, x0), (1, x1), (9, 0), (1, x3), (9, 0)] [] w Q ↔ (vkd w x0 = 22) ∧ VC d 58 [(2, x0), (1, x3)] w (fun _ w1 => VW d 111 73 [(2, x0), (1, x1), (9, 0), (1, x3), (9, 0)] [] w1 Q) :=
  (VW_b 3 (F := fun n => if vkd w x0 = 22 then vclr (vrun n) d 111 73 58 2 9 [(2, x0), (1, x1), (9, 0), (1, x3), (9, 0)] [(1, x3), (2, x0)] w else none) (fun _ => rfl)).trans (EX_if.trans (and_congr Iff.rfl (EX_call rfl)))
set_option maxRecDepth 100000 in
theorem b111_73 {d : Nat} {w : vW} {x0 x1 x3 : Int} {Q : Int → vW → Prop} : VW d 111 73 [(2, x0), (1, x1), (9, 0), (1, x3), (9, 0)] [] w Q ↔ (vkd w x0 = 22) ∧ (vkd w (vct w x0 34) = 2 ∧ (0 : Int) ≤ 0 ∧ 0 < vln w (vct w x0 34)) ∧ Q (vct w (vct w x0 34) 0) w :=
  (VW_b 5 (F := fun n => if vkd w x0 = 22 then if vkd w (vct w x0 34) = 2 ∧ (0 : Int) ≤ 0 ∧ 0 < vln w (vct w x0 34) then some (0, vct w (vct w x0 34) 0, w) else none else none) (fun _ => rfl)).trans (EX_if.trans (and_congr Iff.rfl (EX_if.trans (and_congr Iff.rfl (EX_ret0)))))
/-! 112: StrikeWhatCancelsModel.leaves(JII)J -/
set_option maxRecDepth 100000 in
theorem b112_0 {d : Nat} {w : vW} {x0 x1 x3 x4 : Int} {Q : Int → vW → Prop} : VW d 112 0 [(2, x0), (1, x1), (9, 0), (0, x3), (0, x4), (9, 0), (9, 0)] [] w Q ↔ (vkd w x0 = 22) ∧ VW d 112 8 [(2, x0), (1, x1), (9, 0), (0, x3), (0, x4), (1, x1), (9, 0)] [] (vsv w x0 35 0) Q :=
  (VW_b 5 (F := fun n => if vkd w x0 = 22 then vrun n d 112 8 [(2, x0), (1, x1), (9, 0), (0, x3), (0, x4), (1, x1), (9, 0)] [] (vsv w x0 35 0) else none) (fun _ => rfl)).trans (EX_if.trans (and_congr Iff.rfl (Iff.rfl)))
set_option maxRecDepth 100000 in
theorem b112_8 {d : Nat} {w : vW} {x0 x1 x3 x4 x5 : Int} {Q : Int → vW → Prop} : VW d 112 8 [(2, x0), (1, x1), (9, 0), (0, x3), (0, x4), (1, x5), (9, 0)] [] w Q ↔ (vkd w x0 = 22) ∧ VC d 85 [(2, x0), (1, x5), (0, x3), (0, x4)] w (fun r w1 => VW d 112 17 [(2, x0), (1, x1), (9, 0), (0, x3), (0, x4), (1, x5), (9, 0)] [(0, r)] w1 Q) :=
  (VW_b 5 (F := fun n => if vkd w x0 = 22 then vclr (vrun n) d 112 17 85 4 0 [(2, x0), (1, x1), (9, 0), (0, x3), (0, x4), (1, x5), (9, 0)] [(0, x4), (0, x3), (1, x5), (2, x0)] w else none) (fun _ => rfl)).trans (EX_if.trans (and_congr Iff.rfl (EX_call rfl)))
set_option maxRecDepth 100000 in
theorem b112_17 {d : Nat} {w : vW} {x0 x1 x3 x4 x5 y0 : Int} {Q : Int → vW → Prop} : VW d 112 17 [(2, x0), (1, x1), (9, 0), (0, x3), (0, x4), (1, x5), (9, 0)] [(0, y0)] w Q ↔ ((y0 = 0 → VW d 112 49 [(2, x0), (1, x1), (9, 0), (0, x3), (0, x4), (1, x5), (9, 0)] [] w Q) ∧ (¬ (y0 = 0) → VW d 112 20 [(2, x0), (1, x1), (9, 0), (0, x3), (0, x4), (1, x5), (9, 0)] [] w Q)) :=
  (VW_b 1 (F := fun n => (if y0 = 0 then vrun n d 112 49 [(2, x0), (1, x1), (9, 0), (0, x3), (0, x4), (1, x5), (9, 0)] [] w else vrun n d 112 20 [(2, x0), (1, x1), (9, 0), (0, x3), (0, x4), (1, x5), (9, 0)] [] w)) (fun _ => rfl)).trans (EX_br.trans (and_congr (imp_congr Iff.rfl Iff.rfl) (imp_congr Iff.rfl Iff.rfl)))
set_option maxRecDepth 100000 in
theorem b112_20 {d : Nat} {w : vW} {x0 x1 x3 x4 x5 : Int} {Q : Int → vW → Prop} : VW d 112 20 [(2, x0), (1, x1), (9, 0), (0, x3), (0, x4), (1, x5), (9, 0)] [] w Q ↔ (vkd w x0 = 22) ∧ (vkd w x0 = 22) ∧ (vkd w x0 = 22) ∧ VC d 83 [(2, x0), (1, x5), (0, vct w x0 23), (0, vct w x0 24)] w (fun r w1 => VW d 112 34 [(2, x0), (1, x1), (9, 0), (0, x3), (0, x4), (1, x5), (9, 0)] [(1, r)] w1 Q) :=
  (VW_b 7 (F := fun n => if vkd w x0 = 22 then if vkd w x0 = 22 then if vkd w x0 = 22 then vclr (vrun n) d 112 34 83 4 1 [(2, x0), (1, x1), (9, 0), (0, x3), (0, x4), (1, x5), (9, 0)] [(0, vct w x0 24), (0, vct w x0 23), (1, x5), (2, x0)] w else none else none else none) (fun _ => rfl)).trans (EX_if.trans (and_congr Iff.rfl (EX_if.trans (and_congr Iff.rfl (EX_if.trans (and_congr Iff.rfl (EX_call rfl)))))))
set_option maxRecDepth 100000 in
theorem b112_34 {d : Nat} {w : vW} {x0 x1 x3 x4 x5 y0 : Int} {Q : Int → vW → Prop} : VW d 112 34 [(2, x0), (1, x1), (9, 0), (0, x3), (0, x4), (1, x5), (9, 0)] [(1, y0)] w Q ↔ (vkd w x0 = 22) ∧ (vkd w x0 = 22) ∧ VW d 112 46 [(2, x0), (1, x1), (9, 0), (0, x3), (0, x4), (1, y0), (9, 0)] [] (vsv w x0 35 (w32 ((vct w x0 35) + 1))) Q :=
  (VW_b 7 (F := fun n => if vkd w x0 = 22 then if vkd w x0 = 22 then vrun n d 112 46 [(2, x0), (1, x1), (9, 0), (0, x3), (0, x4), (1, y0), (9, 0)] [] (vsv w x0 35 (w32 ((vct w x0 35) + 1))) else none else none) (fun _ => rfl)).trans (EX_if.trans (and_congr Iff.rfl (EX_if.trans (and_congr Iff.rfl (Iff.rfl)))))
set_option maxRecDepth 100000 in
theorem b112_46 {d : Nat} {w : vW} {x0 x1 x3 x4 x5 : Int} {Q : Int → vW → Prop} : VW d 112 46 [(2, x0), (1, x1), (9, 0), (0, x3), (0, x4), (1, x5), (9, 0)] [] w Q ↔ VW d 112 8 [(2, x0), (1, x1), (9, 0), (0, x3), (0, x4), (1, x5), (9, 0)] [] w Q :=
  (VW_b 1 (F := fun n => vrun n d 112 8 [(2, x0), (1, x1), (9, 0), (0, x3), (0, x4), (1, x5), (9, 0)] [] w) (fun _ => rfl)).trans (Iff.rfl)
set_option maxRecDepth 100000 in
theorem b112_49 {d : Nat} {w : vW} {x0 x1 x3 x4 x5 : Int} {Q : Int → vW → Prop} : VW d 112 49 [(2, x0), (1, x1), (9, 0), (0, x3), (0, x4), (1, x5), (9, 0)] [] w Q ↔ Q x5 w :=
  (VW_b 2 (F := fun n => some (0, x5, w)) (fun _ => rfl)).trans (EX_ret0)
/-! 113: StrikeWhatCancelsModel.clerks()I -/
set_option maxRecDepth 100000 in
theorem b113_0 {d : Nat} {w : vW} {x0 : Int} {Q : Int → vW → Prop} : VW d 113 0 [(2, x0), (9, 0), (9, 0), (9, 0), (9, 0)] [] w Q ↔ (vkd w x0 = 22) ∧ VW d 113 5 [(2, x0), (9, 0), (9, 0), (9, 0), (9, 0)] [] (vsv w x0 0 0) Q :=
  (VW_b 3 (F := fun n => if vkd w x0 = 22 then vrun n d 113 5 [(2, x0), (9, 0), (9, 0), (9, 0), (9, 0)] [] (vsv w x0 0 0) else none) (fun _ => rfl)).trans (EX_if.trans (and_congr Iff.rfl (Iff.rfl)))
set_option maxRecDepth 100000 in
theorem b113_5 {d : Nat} {w : vW} {x0 : Int} {Q : Int → vW → Prop} : VW d 113 5 [(2, x0), (9, 0), (9, 0), (9, 0), (9, 0)] [] w Q ↔ VW d 113 9 [(2, x0), (0, 0), (0, 0), (9, 0), (9, 0)] [] w Q :=
  (VW_b 4 (F := fun n => vrun n d 113 9 [(2, x0), (0, 0), (0, 0), (9, 0), (9, 0)] [] w) (fun _ => rfl)).trans (Iff.rfl)
set_option maxRecDepth 100000 in
theorem b113_9 {d : Nat} {w : vW} {x0 x1 x2 : Int} {v3 v4 : vV} {Q : Int → vW → Prop} : VW d 113 9 [(2, x0), (0, x1), (0, x2), v3, v4] [] w Q ↔ ((x2 < 3 → VW d 113 14 [(2, x0), (0, x1), (0, x2), v3, v4] [] w Q) ∧ (¬ (x2 < 3) → VW d 113 100 [(2, x0), (0, x1), (0, x2), v3, v4] [] w Q)) :=
  (VW_b 3 (F := fun n => (if x2 < 3 then vrun n d 113 14 [(2, x0), (0, x1), (0, x2), v3, v4] [] w else vrun n d 113 100 [(2, x0), (0, x1), (0, x2), v3, v4] [] w)) (fun _ => rfl)).trans (EX_br.trans (and_congr (imp_congr Iff.rfl Iff.rfl) (imp_congr Iff.rfl Iff.rfl)))
set_option maxRecDepth 100000 in
theorem b113_14 {d : Nat} {w : vW} {x0 x1 x2 : Int} {v3 v4 : vV} {Q : Int → vW → Prop} : VW d 113 14 [(2, x0), (0, x1), (0, x2), v3, v4] [] w Q ↔ (vkd w x0 = 22) ∧ (vkd w x0 = 22) ∧ (vkd w x0 = 22) ∧ (vkd w x0 = 22) ∧ VC d 112 [(2, x0), (1, vct w x0 14), (0, x2), (0, vct w x0 4)] w (fun r w1 => VW d 113 32 [(2, x0), (0, x1), (0, x2), v3, v4] [(1, r), (0, x2), (2, vct w x0 36)] w1 Q) :=
  (VW_b 10 (F := fun n => if vkd w x0 = 22 then if vkd w x0 = 22 then if vkd w x0 = 22 then if vkd w x0 = 22 then vclr (vrun n) d 113 32 112 4 1 [(2, x0), (0, x1), (0, x2), v3, v4] [(0, vct w x0 4), (0, x2), (1, vct w x0 14), (2, x0), (0, x2), (2, vct w x0 36)] w else none else none else none else none) (fun _ => rfl)).trans (EX_if.trans (and_congr Iff.rfl (EX_if.trans (and_congr Iff.rfl (EX_if.trans (and_congr Iff.rfl (EX_if.trans (and_congr Iff.rfl (EX_call rfl)))))))))
set_option maxRecDepth 100000 in
theorem b113_32 {d : Nat} {w : vW} {x0 x1 x2 y0 y1 y2 : Int} {v3 v4 : vV} {Q : Int → vW → Prop} : VW d 113 32 [(2, x0), (0, x1), (0, x2), v3, v4] [(1, y2), (0, y1), (2, y0)] w Q ↔ (vkd w y0 = 2 ∧ (0 : Int) ≤ y1 ∧ y1 < vln w y0) ∧ VW d 113 33 [(2, x0), (0, x1), (0, x2), v3, v4] [] (vsv w y0 y1 y2) Q :=
  (VW_b 1 (F := fun n => if vkd w y0 = 2 ∧ (0 : Int) ≤ y1 ∧ y1 < vln w y0 then vrun n d 113 33 [(2, x0), (0, x1), (0, x2), v3, v4] [] (vsv w y0 y1 y2) else none) (fun _ => rfl)).trans (EX_if.trans (and_congr Iff.rfl (Iff.rfl)))
set_option maxRecDepth 100000 in
theorem b113_33 {d : Nat} {w : vW} {x0 x1 x2 : Int} {v3 v4 : vV} {Q : Int → vW → Prop} : VW d 113 33 [(2, x0), (0, x1), (0, x2), v3, v4] [] w Q ↔ (vkd w x0 = 22) ∧ (vkd w x0 = 22) ∧ (vkd w (vct w x0 37) = 1 ∧ (0 : Int) ≤ x2 ∧ x2 < vln w (vct w x0 37)) ∧ VW d 113 43 [(2, x0), (0, x1), (0, x2), v3, v4] [] (vsv w (vct w x0 37) x2 (vct w x0 35)) Q :=
  (VW_b 6 (F := fun n => if vkd w x0 = 22 then if vkd w x0 = 22 then if vkd w (vct w x0 37) = 1 ∧ (0 : Int) ≤ x2 ∧ x2 < vln w (vct w x0 37) then vrun n d 113 43 [(2, x0), (0, x1), (0, x2), v3, v4] [] (vsv w (vct w x0 37) x2 (vct w x0 35)) else none else none else none) (fun _ => rfl)).trans (EX_if.trans (and_congr Iff.rfl (EX_if.trans (and_congr Iff.rfl (EX_if.trans (and_congr Iff.rfl (Iff.rfl)))))))
set_option maxRecDepth 100000 in
theorem b113_43 {d : Nat} {w : vW} {x0 x1 x2 : Int} {v3 v4 : vV} {Q : Int → vW → Prop} : VW d 113 43 [(2, x0), (0, x1), (0, x2), v3, v4] [] w Q ↔ VW d 113 48 [(2, x0), (0, x1), (0, x2), (0, 1), (0, 0)] [] w Q :=
  (VW_b 4 (F := fun n => vrun n d 113 48 [(2, x0), (0, x1), (0, x2), (0, 1), (0, 0)] [] w) (fun _ => rfl)).trans (Iff.rfl)
set_option maxRecDepth 100000 in
theorem b113_48 {d : Nat} {w : vW} {x0 x1 x2 x3 x4 : Int} {Q : Int → vW → Prop} : VW d 113 48 [(2, x0), (0, x1), (0, x2), (0, x3), (0, x4)] [] w Q ↔ ((x4 < x2 → VW d 113 54 [(2, x0), (0, x1), (0, x2), (0, x3), (0, x4)] [] w Q) ∧ (¬ (x4 < x2) → VW d 113 87 [(2, x0), (0, x1), (0, x2), (0, x3), (0, x4)] [] w Q)) :=
  (VW_b 3 (F := fun n => (if x4 < x2 then vrun n d 113 54 [(2, x0), (0, x1), (0, x2), (0, x3), (0, x4)] [] w else vrun n d 113 87 [(2, x0), (0, x1), (0, x2), (0, x3), (0, x4)] [] w)) (fun _ => rfl)).trans (EX_br.trans (and_congr (imp_congr Iff.rfl Iff.rfl) (imp_congr Iff.rfl Iff.rfl)))
set_option maxRecDepth 100000 in
theorem b113_54 {d : Nat} {w : vW} {x0 x1 x2 x3 x4 : Int} {Q : Int → vW → Prop} : VW d 113 54 [(2, x0), (0, x1), (0, x2), (0, x3), (0, x4)] [] w Q ↔ ((x3 = 0 → VW d 113 79 [(2, x0), (0, x1), (0, x2), (0, x3), (0, x4)] [] w Q) ∧ (¬ (x3 = 0) → VW d 113 58 [(2, x0), (0, x1), (0, x2), (0, x3), (0, x4)] [] w Q)) :=
  (VW_b 2 (F := fun n => (if x3 = 0 then vrun n d 113 79 [(2, x0), (0, x1), (0, x2), (0, x3), (0, x4)] [] w else vrun n d 113 58 [(2, x0), (0, x1), (0, x2), (0, x3), (0, x4)] [] w)) (fun _ => rfl)).trans (EX_br.trans (and_congr (imp_congr Iff.rfl Iff.rfl) (imp_congr Iff.rfl Iff.rfl)))
set_option maxRecDepth 100000 in
theorem b113_58 {d : Nat} {w : vW} {x0 x1 x2 x3 x4 : Int} {Q : Int → vW → Prop} : VW d 113 58 [(2, x0), (0, x1), (0, x2), (0, x3), (0, x4)] [] w Q ↔ (vkd w x0 = 22) ∧ (vkd w (vct w x0 36) = 2 ∧ (0 : Int) ≤ x4 ∧ x4 < vln w (vct w x0 36)) ∧ (vkd w x0 = 22) ∧ (vkd w (vct w x0 36) = 2 ∧ (0 : Int) ≤ x2 ∧ x2 < vln w (vct w x0 36)) ∧ (((vlc (vct w (vct w x0 36) x4) (vct w (vct w x0 36) x2)) = 0 → VW d 113 79 [(2, x0), (0, x1), (0, x2), (0, x3), (0, x4)] [] w Q) ∧ (¬ ((vlc (vct w (vct w x0 36) x4) (vct w (vct w x0 36) x2)) = 0) → VW d 113 75 [(2, x0), (0, x1), (0, x2), (0, x3), (0, x4)] [] w Q)) :=
  (VW_b 10 (F := fun n => if vkd w x0 = 22 then if vkd w (vct w x0 36) = 2 ∧ (0 : Int) ≤ x4 ∧ x4 < vln w (vct w x0 36) then if vkd w x0 = 22 then if vkd w (vct w x0 36) = 2 ∧ (0 : Int) ≤ x2 ∧ x2 < vln w (vct w x0 36) then (if (vlc (vct w (vct w x0 36) x4) (vct w (vct w x0 36) x2)) = 0 then vrun n d 113 79 [(2, x0), (0, x1), (0, x2), (0, x3), (0, x4)] [] w else vrun n d 113 75 [(2, x0), (0, x1), (0, x2), (0, x3), (0, x4)] [] w) else none else none else none else none) (fun _ => rfl)).trans (EX_if.trans (and_congr Iff.rfl (EX_if.trans (and_congr Iff.rfl (EX_if.trans (and_congr Iff.rfl (EX_if.trans (and_congr Iff.rfl (EX_br.trans (and_congr (imp_congr Iff.rfl Iff.rfl) (imp_congr Iff.rfl Iff.rfl)))))))))))
set_option maxRecDepth 100000 in
theorem b113_75 {d : Nat} {w : vW} {x0 x1 x2 x3 x4 : Int} {Q : Int → vW → Prop} : VW d 113 75 [(2, x0), (0, x1), (0, x2), (0, x3), (0, x4)] [] w Q ↔ VW d 113 80 [(2, x0), (0, x1), (0, x2), (0, x3), (0, x4)] [(0, 1)] w Q :=
  (VW_b 2 (F := fun n => vrun n d 113 80 [(2, x0), (0, x1), (0, x2), (0, x3), (0, x4)] [(0, 1)] w) (fun _ => rfl)).trans (Iff.rfl)
set_option maxRecDepth 100000 in
theorem b113_79 {d : Nat} {w : vW} {x0 x1 x2 x3 x4 : Int} {Q : Int → vW → Prop} : VW d 113 79 [(2, x0), (0, x1), (0, x2), (0, x3), (0, x4)] [] w Q ↔ VW d 113 80 [(2, x0), (0, x1), (0, x2), (0, x3), (0, x4)] [(0, 0)] w Q :=
  (VW_b 1 (F := fun n => vrun n d 113 80 [(2, x0), (0, x1), (0, x2), (0, x3), (0, x4)] [(0, 0)] w) (fun _ => rfl)).trans (Iff.rfl)
set_option maxRecDepth 100000 in
theorem b113_80 {d : Nat} {w : vW} {x0 x1 x2 x3 x4 y0 : Int} {Q : Int → vW → Prop} : VW d 113 80 [(2, x0), (0, x1), (0, x2), (0, x3), (0, x4)] [(0, y0)] w Q ↔ VW d 113 48 [(2, x0), (0, x1), (0, x2), (0, y0), (0, w32 (x4 + 1))] [] w Q :=
  (VW_b 3 (F := fun n => vrun n d 113 48 [(2, x0), (0, x1), (0, x2), (0, y0), (0, w32 (x4 + 1))] [] w) (fun _ => rfl)).trans (Iff.rfl)
set_option maxRecDepth 100000 in
theorem b113_87 {d : Nat} {w : vW} {x0 x1 x2 x3 x4 : Int} {Q : Int → vW → Prop} : VW d 113 87 [(2, x0), (0, x1), (0, x2), (0, x3), (0, x4)] [] w Q ↔ VC d 57 [(0, x3)] w (fun r w1 => VW d 113 92 [(2, x0), (0, x1), (0, x2), (0, x3), (0, x4)] [(0, r), (0, x1)] w1 Q) :=
  (VW_b 3 (F := fun n => vclr (vrun n) d 113 92 57 1 0 [(2, x0), (0, x1), (0, x2), (0, x3), (0, x4)] [(0, x3), (0, x1)] w) (fun _ => rfl)).trans (EX_call rfl)
set_option maxRecDepth 100000 in
theorem b113_92 {d : Nat} {w : vW} {x0 x1 x2 x3 x4 y0 y1 : Int} {Q : Int → vW → Prop} : VW d 113 92 [(2, x0), (0, x1), (0, x2), (0, x3), (0, x4)] [(0, y1), (0, y0)] w Q ↔ VW d 113 9 [(2, x0), (0, w32 (y0 + y1)), (0, w32 (x2 + 1)), (0, x3), (0, x4)] [] w Q :=
  (VW_b 4 (F := fun n => vrun n d 113 9 [(2, x0), (0, w32 (y0 + y1)), (0, w32 (x2 + 1)), (0, x3), (0, x4)] [] w) (fun _ => rfl)).trans (Iff.rfl)
set_option maxRecDepth 100000 in
theorem b113_100 {d : Nat} {w : vW} {x0 x1 x2 : Int} {v3 v4 : vV} {Q : Int → vW → Prop} : VW d 113 100 [(2, x0), (0, x1), (0, x2), v3, v4] [] w Q ↔ (vkd w x0 = 22) ∧ VW d 113 105 [(2, x0), (0, x1), (0, x2), v3, v4] [] (vsv w x0 1 0) Q :=
  (VW_b 3 (F := fun n => if vkd w x0 = 22 then vrun n d 113 105 [(2, x0), (0, x1), (0, x2), v3, v4] [] (vsv w x0 1 0) else none) (fun _ => rfl)).trans (EX_if.trans (and_congr Iff.rfl (Iff.rfl)))
set_option maxRecDepth 100000 in
theorem b113_105 {d : Nat} {w : vW} {x0 x1 x2 : Int} {v3 v4 : vV} {Q : Int → vW → Prop} : VW d 113 105 [(2, x0), (0, x1), (0, x2), v3, v4] [] w Q ↔ VW d 113 107 [(2, x0), (0, x1), (0, 0), v3, v4] [] w Q :=
  (VW_b 2 (F := fun n => vrun n d 113 107 [(2, x0), (0, x1), (0, 0), v3, v4] [] w) (fun _ => rfl)).trans (Iff.rfl)
set_option maxRecDepth 100000 in
theorem b113_107 {d : Nat} {w : vW} {x0 x1 x2 : Int} {v3 v4 : vV} {Q : Int → vW → Prop} : VW d 113 107 [(2, x0), (0, x1), (0, x2), v3, v4] [] w Q ↔ ((x2 < 3 → VW d 113 112 [(2, x0), (0, x1), (0, x2), v3, v4] [] w Q) ∧ (¬ (x2 < 3) → VW d 113 128 [(2, x0), (0, x1), (0, x2), v3, v4] [] w Q)) :=
  (VW_b 3 (F := fun n => (if x2 < 3 then vrun n d 113 112 [(2, x0), (0, x1), (0, x2), v3, v4] [] w else vrun n d 113 128 [(2, x0), (0, x1), (0, x2), v3, v4] [] w)) (fun _ => rfl)).trans (EX_br.trans (and_congr (imp_congr Iff.rfl Iff.rfl) (imp_congr Iff.rfl Iff.rfl)))
set_option maxRecDepth 100000 in
theorem b113_112 {d : Nat} {w : vW} {x0 x1 x2 : Int} {v3 v4 : vV} {Q : Int → vW → Prop} : VW d 113 112 [(2, x0), (0, x1), (0, x2), v3, v4] [] w Q ↔ (vkd w x0 = 22) ∧ (vkd w (vct w x0 36) = 2 ∧ (0 : Int) ≤ x2 ∧ x2 < vln w (vct w x0 36)) ∧ (vkd w x0 = 22) ∧ VC d 58 [(2, x0), (1, vct w (vct w x0 36) x2)] w (fun _ w1 => VW d 113 122 [(2, x0), (0, x1), (0, x2), v3, v4] [] w1 Q) :=
  (VW_b 6 (F := fun n => if vkd w x0 = 22 then if vkd w (vct w x0 36) = 2 ∧ (0 : Int) ≤ x2 ∧ x2 < vln w (vct w x0 36) then if vkd w x0 = 22 then vclr (vrun n) d 113 122 58 2 9 [(2, x0), (0, x1), (0, x2), v3, v4] [(1, vct w (vct w x0 36) x2), (2, x0)] w else none else none else none) (fun _ => rfl)).trans (EX_if.trans (and_congr Iff.rfl (EX_if.trans (and_congr Iff.rfl (EX_if.trans (and_congr Iff.rfl (EX_call rfl)))))))
set_option maxRecDepth 100000 in
theorem b113_122 {d : Nat} {w : vW} {x0 x1 x2 : Int} {v3 v4 : vV} {Q : Int → vW → Prop} : VW d 113 122 [(2, x0), (0, x1), (0, x2), v3, v4] [] w Q ↔ VW d 113 107 [(2, x0), (0, x1), (0, w32 (x2 + 1)), v3, v4] [] w Q :=
  (VW_b 2 (F := fun n => vrun n d 113 107 [(2, x0), (0, x1), (0, w32 (x2 + 1)), v3, v4] [] w) (fun _ => rfl)).trans (Iff.rfl)
set_option maxRecDepth 100000 in
theorem b113_128 {d : Nat} {w : vW} {x0 x1 x2 : Int} {v3 v4 : vV} {Q : Int → vW → Prop} : VW d 113 128 [(2, x0), (0, x1), (0, x2), v3, v4] [] w Q ↔ VW d 113 130 [(2, x0), (0, x1), (0, 0), v3, v4] [] w Q :=
  (VW_b 2 (F := fun n => vrun n d 113 130 [(2, x0), (0, x1), (0, 0), v3, v4] [] w) (fun _ => rfl)).trans (Iff.rfl)
set_option maxRecDepth 100000 in
theorem b113_130 {d : Nat} {w : vW} {x0 x1 x2 : Int} {v3 v4 : vV} {Q : Int → vW → Prop} : VW d 113 130 [(2, x0), (0, x1), (0, x2), v3, v4] [] w Q ↔ ((x2 < 3 → VW d 113 135 [(2, x0), (0, x1), (0, x2), v3, v4] [] w Q) ∧ (¬ (x2 < 3) → VW d 113 152 [(2, x0), (0, x1), (0, x2), v3, v4] [] w Q)) :=
  (VW_b 3 (F := fun n => (if x2 < 3 then vrun n d 113 135 [(2, x0), (0, x1), (0, x2), v3, v4] [] w else vrun n d 113 152 [(2, x0), (0, x1), (0, x2), v3, v4] [] w)) (fun _ => rfl)).trans (EX_br.trans (and_congr (imp_congr Iff.rfl Iff.rfl) (imp_congr Iff.rfl Iff.rfl)))
set_option maxRecDepth 100000 in
theorem b113_135 {d : Nat} {w : vW} {x0 x1 x2 : Int} {v3 v4 : vV} {Q : Int → vW → Prop} : VW d 113 135 [(2, x0), (0, x1), (0, x2), v3, v4] [] w Q ↔ (vkd w x0 = 22) ∧ (vkd w (vct w x0 37) = 1 ∧ (0 : Int) ≤ x2 ∧ x2 < vln w (vct w x0 37)) ∧ (vkd w x0 = 22) ∧ VC d 58 [(2, x0), (1, (vct w (vct w x0 37) x2))] w (fun _ w1 => VW d 113 146 [(2, x0), (0, x1), (0, x2), v3, v4] [] w1 Q) :=
  (VW_b 7 (F := fun n => if vkd w x0 = 22 then if vkd w (vct w x0 37) = 1 ∧ (0 : Int) ≤ x2 ∧ x2 < vln w (vct w x0 37) then if vkd w x0 = 22 then vclr (vrun n) d 113 146 58 2 9 [(2, x0), (0, x1), (0, x2), v3, v4] [(1, (vct w (vct w x0 37) x2)), (2, x0)] w else none else none else none) (fun _ => rfl)).trans (EX_if.trans (and_congr Iff.rfl (EX_if.trans (and_congr Iff.rfl (EX_if.trans (and_congr Iff.rfl (EX_call rfl)))))))
set_option maxRecDepth 100000 in
theorem b113_146 {d : Nat} {w : vW} {x0 x1 x2 : Int} {v3 v4 : vV} {Q : Int → vW → Prop} : VW d 113 146 [(2, x0), (0, x1), (0, x2), v3, v4] [] w Q ↔ VW d 113 130 [(2, x0), (0, x1), (0, w32 (x2 + 1)), v3, v4] [] w Q :=
  (VW_b 2 (F := fun n => vrun n d 113 130 [(2, x0), (0, x1), (0, w32 (x2 + 1)), v3, v4] [] w) (fun _ => rfl)).trans (Iff.rfl)
set_option maxRecDepth 100000 in
theorem b113_152 {d : Nat} {w : vW} {x0 x1 x2 : Int} {v3 v4 : vV} {Q : Int → vW → Prop} : VW d 113 152 [(2, x0), (0, x1), (0, x2), v3, v4] [] w Q ↔ Q x1 w :=
  (VW_b 2 (F := fun n => some (0, x1, w)) (fun _ => rfl)).trans (EX_ret0)
/-! 114: StrikeWhatCancelsModel.meets(JJ)I -/
set_option maxRecDepth 100000 in
theorem b114_0 {d : Nat} {w : vW} {x0 x1 x3 : Int} {Q : Int → vW → Prop} : VW d 114 0 [(2, x0), (1, x1), (9, 0), (1, x3), (9, 0), (9, 0), (9, 0)] [] w Q ↔ (vkd w x0 = 22) ∧ VC d 102 [(2, x0), (1, x1)] w (fun r w1 => VW d 114 5 [(2, x0), (1, x1), (9, 0), (1, x3), (9, 0), (9, 0), (9, 0)] [(0, r)] w1 Q) :=
  (VW_b 3 (F := fun n => if vkd w x0 = 22 then vclr (vrun n) d 114 5 102 2 0 [(2, x0), (1, x1), (9, 0), (1, x3), (9, 0), (9, 0), (9, 0)] [(1, x1), (2, x0)] w else none) (fun _ => rfl)).trans (EX_if.trans (and_congr Iff.rfl (EX_call rfl)))
set_option maxRecDepth 100000 in
theorem b114_5 {d : Nat} {w : vW} {x0 x1 x3 y0 : Int} {Q : Int → vW → Prop} : VW d 114 5 [(2, x0), (1, x1), (9, 0), (1, x3), (9, 0), (9, 0), (9, 0)] [(0, y0)] w Q ↔ ((y0 = 0 → VW d 114 8 [(2, x0), (1, x1), (9, 0), (1, x3), (9, 0), (9, 0), (9, 0)] [] w Q) ∧ (¬ (y0 = 0) → VW d 114 11 [(2, x0), (1, x1), (9, 0), (1, x3), (9, 0), (9, 0), (9, 0)] [] w Q)) :=
  (VW_b 1 (F := fun n => (if y0 = 0 then vrun n d 114 8 [(2, x0), (1, x1), (9, 0), (1, x3), (9, 0), (9, 0), (9, 0)] [] w else vrun n d 114 11 [(2, x0), (1, x1), (9, 0), (1, x3), (9, 0), (9, 0), (9, 0)] [] w)) (fun _ => rfl)).trans (EX_br.trans (and_congr (imp_congr Iff.rfl Iff.rfl) (imp_congr Iff.rfl Iff.rfl)))
set_option maxRecDepth 100000 in
theorem b114_8 {d : Nat} {w : vW} {x0 x1 x3 : Int} {Q : Int → vW → Prop} : VW d 114 8 [(2, x0), (1, x1), (9, 0), (1, x3), (9, 0), (9, 0), (9, 0)] [] w Q ↔ Q (-3) w :=
  (VW_b 2 (F := fun n => some (0, (-3), w)) (fun _ => rfl)).trans (EX_ret0)
set_option maxRecDepth 100000 in
theorem b114_11 {d : Nat} {w : vW} {x0 x1 x3 : Int} {Q : Int → vW → Prop} : VW d 114 11 [(2, x0), (1, x1), (9, 0), (1, x3), (9, 0), (9, 0), (9, 0)] [] w Q ↔ (vkd w x0 = 22) ∧ VW d 114 20 [(2, x0), (1, x1), (9, 0), (1, x3), (9, 0), (0, vct w x0 28), (0, 0)] [] w Q :=
  (VW_b 5 (F := fun n => if vkd w x0 = 22 then vrun n d 114 20 [(2, x0), (1, x1), (9, 0), (1, x3), (9, 0), (0, vct w x0 28), (0, 0)] [] w else none) (fun _ => rfl)).trans (EX_if.trans (and_congr Iff.rfl (Iff.rfl)))
set_option maxRecDepth 100000 in
theorem b114_20 {d : Nat} {w : vW} {x0 x1 x3 x5 x6 : Int} {Q : Int → vW → Prop} : VW d 114 20 [(2, x0), (1, x1), (9, 0), (1, x3), (9, 0), (0, x5), (0, x6)] [] w Q ↔ ((x6 < x5 → VW d 114 27 [(2, x0), (1, x1), (9, 0), (1, x3), (9, 0), (0, x5), (0, x6)] [] w Q) ∧ (¬ (x6 < x5) → VW d 114 47 [(2, x0), (1, x1), (9, 0), (1, x3), (9, 0), (0, x5), (0, x6)] [] w Q)) :=
  (VW_b 3 (F := fun n => (if x6 < x5 then vrun n d 114 27 [(2, x0), (1, x1), (9, 0), (1, x3), (9, 0), (0, x5), (0, x6)] [] w else vrun n d 114 47 [(2, x0), (1, x1), (9, 0), (1, x3), (9, 0), (0, x5), (0, x6)] [] w)) (fun _ => rfl)).trans (EX_br.trans (and_congr (imp_congr Iff.rfl Iff.rfl) (imp_congr Iff.rfl Iff.rfl)))
set_option maxRecDepth 100000 in
theorem b114_27 {d : Nat} {w : vW} {x0 x1 x3 x5 x6 : Int} {Q : Int → vW → Prop} : VW d 114 27 [(2, x0), (1, x1), (9, 0), (1, x3), (9, 0), (0, x5), (0, x6)] [] w Q ↔ (vkd w x0 = 22) ∧ (vkd w x0 = 22) ∧ (vkd w (vct w x0 27) = 2 ∧ (0 : Int) ≤ x6 ∧ x6 < vln w (vct w x0 27)) ∧ (vkd w (vct w x0 38) = 2 ∧ (0 : Int) ≤ x6 ∧ x6 < vln w (vct w x0 38)) ∧ VW d 114 41 [(2, x0), (1, x1), (9, 0), (1, x3), (9, 0), (0, x5), (0, x6)] [] (vsv w (vct w x0 38) x6 (vct w (vct w x0 27) x6)) Q :=
  (VW_b 8 (F := fun n => if vkd w x0 = 22 then if vkd w x0 = 22 then if vkd w (vct w x0 27) = 2 ∧ (0 : Int) ≤ x6 ∧ x6 < vln w (vct w x0 27) then if vkd w (vct w x0 38) = 2 ∧ (0 : Int) ≤ x6 ∧ x6 < vln w (vct w x0 38) then vrun n d 114 41 [(2, x0), (1, x1), (9, 0), (1, x3), (9, 0), (0, x5), (0, x6)] [] (vsv w (vct w x0 38) x6 (vct w (vct w x0 27) x6)) else none else none else none else none) (fun _ => rfl)).trans (EX_if.trans (and_congr Iff.rfl (EX_if.trans (and_congr Iff.rfl (EX_if.trans (and_congr Iff.rfl (EX_if.trans (and_congr Iff.rfl (Iff.rfl)))))))))
set_option maxRecDepth 100000 in
theorem b114_41 {d : Nat} {w : vW} {x0 x1 x3 x5 x6 : Int} {Q : Int → vW → Prop} : VW d 114 41 [(2, x0), (1, x1), (9, 0), (1, x3), (9, 0), (0, x5), (0, x6)] [] w Q ↔ VW d 114 20 [(2, x0), (1, x1), (9, 0), (1, x3), (9, 0), (0, x5), (0, w32 (x6 + 1))] [] w Q :=
  (VW_b 2 (F := fun n => vrun n d 114 20 [(2, x0), (1, x1), (9, 0), (1, x3), (9, 0), (0, x5), (0, w32 (x6 + 1))] [] w) (fun _ => rfl)).trans (Iff.rfl)
set_option maxRecDepth 100000 in
theorem b114_47 {d : Nat} {w : vW} {x0 x1 x3 x5 x6 : Int} {Q : Int → vW → Prop} : VW d 114 47 [(2, x0), (1, x1), (9, 0), (1, x3), (9, 0), (0, x5), (0, x6)] [] w Q ↔ (vkd w x0 = 22) ∧ VC d 102 [(2, x0), (1, x3)] w (fun r w1 => VW d 114 52 [(2, x0), (1, x1), (9, 0), (1, x3), (9, 0), (0, x5), (0, x6)] [(0, r)] w1 Q) :=
  (VW_b 3 (F := fun n => if vkd w x0 = 22 then vclr (vrun n) d 114 52 102 2 0 [(2, x0), (1, x1), (9, 0), (1, x3), (9, 0), (0, x5), (0, x6)] [(1, x3), (2, x0)] w else none) (fun _ => rfl)).trans (EX_if.trans (and_congr Iff.rfl (EX_call rfl)))
set_option maxRecDepth 100000 in
theorem b114_52 {d : Nat} {w : vW} {x0 x1 x3 x5 x6 y0 : Int} {Q : Int → vW → Prop} : VW d 114 52 [(2, x0), (1, x1), (9, 0), (1, x3), (9, 0), (0, x5), (0, x6)] [(0, y0)] w Q ↔ ((y0 = 0 → VW d 114 55 [(2, x0), (1, x1), (9, 0), (1, x3), (9, 0), (0, x5), (0, x6)] [] w Q) ∧ (¬ (y0 = 0) → VW d 114 58 [(2, x0), (1, x1), (9, 0), (1, x3), (9, 0), (0, x5), (0, x6)] [] w Q)) :=
  (VW_b 1 (F := fun n => (if y0 = 0 then vrun n d 114 55 [(2, x0), (1, x1), (9, 0), (1, x3), (9, 0), (0, x5), (0, x6)] [] w else vrun n d 114 58 [(2, x0), (1, x1), (9, 0), (1, x3), (9, 0), (0, x5), (0, x6)] [] w)) (fun _ => rfl)).trans (EX_br.trans (and_congr (imp_congr Iff.rfl Iff.rfl) (imp_congr Iff.rfl Iff.rfl)))
set_option maxRecDepth 100000 in
theorem b114_55 {d : Nat} {w : vW} {x0 x1 x3 x5 x6 : Int} {Q : Int → vW → Prop} : VW d 114 55 [(2, x0), (1, x1), (9, 0), (1, x3), (9, 0), (0, x5), (0, x6)] [] w Q ↔ Q (-3) w :=
  (VW_b 2 (F := fun n => some (0, (-3), w)) (fun _ => rfl)).trans (EX_ret0)
set_option maxRecDepth 100000 in
theorem b114_58 {d : Nat} {w : vW} {x0 x1 x3 x5 x6 : Int} {Q : Int → vW → Prop} : VW d 114 58 [(2, x0), (1, x1), (9, 0), (1, x3), (9, 0), (0, x5), (0, x6)] [] w Q ↔ (vkd w x0 = 22) ∧ VW d 114 65 [(2, x0), (1, x1), (9, 0), (1, x3), (9, 0), (0, x5), (0, x6)] [] (vsv w x0 39 (-1)) Q :=
  (VW_b 3 (F := fun n => if vkd w x0 = 22 then vrun n d 114 65 [(2, x0), (1, x1), (9, 0), (1, x3), (9, 0), (0, x5), (0, x6)] [] (vsv w x0 39 (-1)) else none) (fun _ => rfl)).trans (EX_if.trans (and_congr Iff.rfl (Iff.rfl)))
set_option maxRecDepth 100000 in
theorem b114_65 {d : Nat} {w : vW} {x0 x1 x3 x5 x6 : Int} {Q : Int → vW → Prop} : VW d 114 65 [(2, x0), (1, x1), (9, 0), (1, x3), (9, 0), (0, x5), (0, x6)] [] w Q ↔ VW d 114 68 [(2, x0), (1, x1), (9, 0), (1, x3), (9, 0), (0, x5), (0, 0)] [] w Q :=
  (VW_b 2 (F := fun n => vrun n d 114 68 [(2, x0), (1, x1), (9, 0), (1, x3), (9, 0), (0, x5), (0, 0)] [] w) (fun _ => rfl)).trans (Iff.rfl)
set_option maxRecDepth 100000 in
theorem b114_68 {d : Nat} {w : vW} {x0 x1 x3 x5 x6 : Int} {Q : Int → vW → Prop} : VW d 114 68 [(2, x0), (1, x1), (9, 0), (1, x3), (9, 0), (0, x5), (0, x6)] [] w Q ↔ ((x6 < x5 → VW d 114 75 [(2, x0), (1, x1), (9, 0), (1, x3), (9, 0), (0, x5), (0, x6)] [] w Q) ∧ (¬ (x6 < x5) → VW d 114 137 [(2, x0), (1, x1), (9, 0), (1, x3), (9, 0), (0, x5), (0, x6)] [] w Q)) :=
  (VW_b 3 (F := fun n => (if x6 < x5 then vrun n d 114 75 [(2, x0), (1, x1), (9, 0), (1, x3), (9, 0), (0, x5), (0, x6)] [] w else vrun n d 114 137 [(2, x0), (1, x1), (9, 0), (1, x3), (9, 0), (0, x5), (0, x6)] [] w)) (fun _ => rfl)).trans (EX_br.trans (and_congr (imp_congr Iff.rfl Iff.rfl) (imp_congr Iff.rfl Iff.rfl)))
set_option maxRecDepth 100000 in
theorem b114_75 {d : Nat} {w : vW} {x0 x1 x3 x5 x6 : Int} {Q : Int → vW → Prop} : VW d 114 75 [(2, x0), (1, x1), (9, 0), (1, x3), (9, 0), (0, x5), (0, x6)] [] w Q ↔ (vkd w x0 = 22) ∧ (vkd w (vct w x0 38) = 2 ∧ (0 : Int) ≤ x6 ∧ x6 < vln w (vct w x0 38)) ∧ (vkd w x0 = 22) ∧ VC d 98 [(2, x0), (1, vct w (vct w x0 38) x6)] w (fun r w1 => VW d 114 87 [(2, x0), (1, x1), (9, 0), (1, x3), (9, 0), (0, x5), (0, x6)] [(0, r), (2, x0)] w1 Q) :=
  (VW_b 7 (F := fun n => if vkd w x0 = 22 then if vkd w (vct w x0 38) = 2 ∧ (0 : Int) ≤ x6 ∧ x6 < vln w (vct w x0 38) then if vkd w x0 = 22 then vclr (vrun n) d 114 87 98 2 0 [(2, x0), (1, x1), (9, 0), (1, x3), (9, 0), (0, x5), (0, x6)] [(1, vct w (vct w x0 38) x6), (2, x0), (2, x0)] w else none else none else none) (fun _ => rfl)).trans (EX_if.trans (and_congr Iff.rfl (EX_if.trans (and_congr Iff.rfl (EX_if.trans (and_congr Iff.rfl (EX_call rfl)))))))
set_option maxRecDepth 100000 in
theorem b114_87 {d : Nat} {w : vW} {x0 x1 x3 x5 x6 y0 y1 : Int} {Q : Int → vW → Prop} : VW d 114 87 [(2, x0), (1, x1), (9, 0), (1, x3), (9, 0), (0, x5), (0, x6)] [(0, y1), (2, y0)] w Q ↔ ((y1 < 0 → VW d 114 124 [(2, x0), (1, x1), (9, 0), (1, x3), (9, 0), (0, x5), (0, x6)] [(2, y0)] w Q) ∧ (¬ (y1 < 0) → VW d 114 90 [(2, x0), (1, x1), (9, 0), (1, x3), (9, 0), (0, x5), (0, x6)] [(2, y0)] w Q)) :=
  (VW_b 1 (F := fun n => (if y1 < 0 then vrun n d 114 124 [(2, x0), (1, x1), (9, 0), (1, x3), (9, 0), (0, x5), (0, x6)] [(2, y0)] w else vrun n d 114 90 [(2, x0), (1, x1), (9, 0), (1, x3), (9, 0), (0, x5), (0, x6)] [(2, y0)] w)) (fun _ => rfl)).trans (EX_br.trans (and_congr (imp_congr Iff.rfl Iff.rfl) (imp_congr Iff.rfl Iff.rfl)))
set_option maxRecDepth 100000 in
theorem b114_90 {d : Nat} {w : vW} {x0 x1 x3 x5 x6 y0 : Int} {Q : Int → vW → Prop} : VW d 114 90 [(2, x0), (1, x1), (9, 0), (1, x3), (9, 0), (0, x5), (0, x6)] [(2, y0)] w Q ↔ (vkd w x0 = 22) ∧ (((vlc (vct w x0 39) 0) < 0 → VW d 114 114 [(2, x0), (1, x1), (9, 0), (1, x3), (9, 0), (0, x5), (0, x6)] [(2, y0)] w Q) ∧ (¬ ((vlc (vct w x0 39) 0) < 0) → VW d 114 99 [(2, x0), (1, x1), (9, 0), (1, x3), (9, 0), (0, x5), (0, x6)] [(2, y0)] w Q)) :=
  (VW_b 5 (F := fun n => if vkd w x0 = 22 then (if (vlc (vct w x0 39) 0) < 0 then vrun n d 114 114 [(2, x0), (1, x1), (9, 0), (1, x3), (9, 0), (0, x5), (0, x6)] [(2, y0)] w else vrun n d 114 99 [(2, x0), (1, x1), (9, 0), (1, x3), (9, 0), (0, x5), (0, x6)] [(2, y0)] w) else none) (fun _ => rfl)).trans (EX_if.trans (and_congr Iff.rfl (EX_br.trans (and_congr (imp_congr Iff.rfl Iff.rfl) (imp_congr Iff.rfl Iff.rfl)))))
set_option maxRecDepth 100000 in
theorem b114_99 {d : Nat} {w : vW} {x0 x1 x3 x5 x6 y0 : Int} {Q : Int → vW → Prop} : VW d 114 99 [(2, x0), (1, x1), (9, 0), (1, x3), (9, 0), (0, x5), (0, x6)] [(2, y0)] w Q ↔ (vkd w x0 = 22) ∧ (vkd w (vct w x0 38) = 2 ∧ (0 : Int) ≤ x6 ∧ x6 < vln w (vct w x0 38)) ∧ (vkd w x0 = 22) ∧ (((vlc (vct w (vct w x0 38) x6) (vct w x0 39)) < 0 → VW d 114 114 [(2, x0), (1, x1), (9, 0), (1, x3), (9, 0), (0, x5), (0, x6)] [(2, y0)] w Q) ∧ (¬ ((vlc (vct w (vct w x0 38) x6) (vct w x0 39)) < 0) → VW d 114 124 [(2, x0), (1, x1), (9, 0), (1, x3), (9, 0), (0, x5), (0, x6)] [(2, y0)] w Q)) :=
  (VW_b 8 (F := fun n => if vkd w x0 = 22 then if vkd w (vct w x0 38) = 2 ∧ (0 : Int) ≤ x6 ∧ x6 < vln w (vct w x0 38) then if vkd w x0 = 22 then (if (vlc (vct w (vct w x0 38) x6) (vct w x0 39)) < 0 then vrun n d 114 114 [(2, x0), (1, x1), (9, 0), (1, x3), (9, 0), (0, x5), (0, x6)] [(2, y0)] w else vrun n d 114 124 [(2, x0), (1, x1), (9, 0), (1, x3), (9, 0), (0, x5), (0, x6)] [(2, y0)] w) else none else none else none) (fun _ => rfl)).trans (EX_if.trans (and_congr Iff.rfl (EX_if.trans (and_congr Iff.rfl (EX_if.trans (and_congr Iff.rfl (EX_br.trans (and_congr (imp_congr Iff.rfl Iff.rfl) (imp_congr Iff.rfl Iff.rfl)))))))))
set_option maxRecDepth 100000 in
theorem b114_114 {d : Nat} {w : vW} {x0 x1 x3 x5 x6 y0 : Int} {Q : Int → vW → Prop} : VW d 114 114 [(2, x0), (1, x1), (9, 0), (1, x3), (9, 0), (0, x5), (0, x6)] [(2, y0)] w Q ↔ (vkd w x0 = 22) ∧ (vkd w (vct w x0 38) = 2 ∧ (0 : Int) ≤ x6 ∧ x6 < vln w (vct w x0 38)) ∧ VW d 114 128 [(2, x0), (1, x1), (9, 0), (1, x3), (9, 0), (0, x5), (0, x6)] [(1, vct w (vct w x0 38) x6), (2, y0)] w Q :=
  (VW_b 5 (F := fun n => if vkd w x0 = 22 then if vkd w (vct w x0 38) = 2 ∧ (0 : Int) ≤ x6 ∧ x6 < vln w (vct w x0 38) then vrun n d 114 128 [(2, x0), (1, x1), (9, 0), (1, x3), (9, 0), (0, x5), (0, x6)] [(1, vct w (vct w x0 38) x6), (2, y0)] w else none else none) (fun _ => rfl)).trans (EX_if.trans (and_congr Iff.rfl (EX_if.trans (and_congr Iff.rfl (Iff.rfl)))))
set_option maxRecDepth 100000 in
theorem b114_124 {d : Nat} {w : vW} {x0 x1 x3 x5 x6 y0 : Int} {Q : Int → vW → Prop} : VW d 114 124 [(2, x0), (1, x1), (9, 0), (1, x3), (9, 0), (0, x5), (0, x6)] [(2, y0)] w Q ↔ (vkd w x0 = 22) ∧ VW d 114 128 [(2, x0), (1, x1), (9, 0), (1, x3), (9, 0), (0, x5), (0, x6)] [(1, vct w x0 39), (2, y0)] w Q :=
  (VW_b 2 (F := fun n => if vkd w x0 = 22 then vrun n d 114 128 [(2, x0), (1, x1), (9, 0), (1, x3), (9, 0), (0, x5), (0, x6)] [(1, vct w x0 39), (2, y0)] w else none) (fun _ => rfl)).trans (EX_if.trans (and_congr Iff.rfl (Iff.rfl)))
set_option maxRecDepth 100000 in
theorem b114_128 {d : Nat} {w : vW} {x0 x1 x3 x5 x6 y0 y1 : Int} {Q : Int → vW → Prop} : VW d 114 128 [(2, x0), (1, x1), (9, 0), (1, x3), (9, 0), (0, x5), (0, x6)] [(1, y1), (2, y0)] w Q ↔ (vkd w y0 = 22) ∧ VW d 114 131 [(2, x0), (1, x1), (9, 0), (1, x3), (9, 0), (0, x5), (0, x6)] [] (vsv w y0 39 y1) Q :=
  (VW_b 1 (F := fun n => if vkd w y0 = 22 then vrun n d 114 131 [(2, x0), (1, x1), (9, 0), (1, x3), (9, 0), (0, x5), (0, x6)] [] (vsv w y0 39 y1) else none) (fun _ => rfl)).trans (EX_if.trans (and_congr Iff.rfl (Iff.rfl)))
set_option maxRecDepth 100000 in
theorem b114_131 {d : Nat} {w : vW} {x0 x1 x3 x5 x6 : Int} {Q : Int → vW → Prop} : VW d 114 131 [(2, x0), (1, x1), (9, 0), (1, x3), (9, 0), (0, x5), (0, x6)] [] w Q ↔ VW d 114 68 [(2, x0), (1, x1), (9, 0), (1, x3), (9, 0), (0, x5), (0, w32 (x6 + 1))] [] w Q :=
  (VW_b 2 (F := fun n => vrun n d 114 68 [(2, x0), (1, x1), (9, 0), (1, x3), (9, 0), (0, x5), (0, w32 (x6 + 1))] [] w) (fun _ => rfl)).trans (Iff.rfl)
set_option maxRecDepth 100000 in
theorem b114_137 {d : Nat} {w : vW} {x0 x1 x3 x5 x6 : Int} {Q : Int → vW → Prop} : VW d 114 137 [(2, x0), (1, x1), (9, 0), (1, x3), (9, 0), (0, x5), (0, x6)] [] w Q ↔ (vkd w x0 = 22) ∧ (((vlc (vct w x0 39) 0) < 0 → VW d 114 150 [(2, x0), (1, x1), (9, 0), (1, x3), (9, 0), (0, x5), (0, x6)] [] w Q) ∧ (¬ ((vlc (vct w x0 39) 0) < 0) → VW d 114 146 [(2, x0), (1, x1), (9, 0), (1, x3), (9, 0), (0, x5), (0, x6)] [] w Q)) :=
  (VW_b 5 (F := fun n => if vkd w x0 = 22 then (if (vlc (vct w x0 39) 0) < 0 then vrun n d 114 150 [(2, x0), (1, x1), (9, 0), (1, x3), (9, 0), (0, x5), (0, x6)] [] w else vrun n d 114 146 [(2, x0), (1, x1), (9, 0), (1, x3), (9, 0), (0, x5), (0, x6)] [] w) else none) (fun _ => rfl)).trans (EX_if.trans (and_congr Iff.rfl (EX_br.trans (and_congr (imp_congr Iff.rfl Iff.rfl) (imp_congr Iff.rfl Iff.rfl)))))
set_option maxRecDepth 100000 in
theorem b114_146 {d : Nat} {w : vW} {x0 x1 x3 x5 x6 : Int} {Q : Int → vW → Prop} : VW d 114 146 [(2, x0), (1, x1), (9, 0), (1, x3), (9, 0), (0, x5), (0, x6)] [] w Q ↔ VW d 114 151 [(2, x0), (1, x1), (9, 0), (1, x3), (9, 0), (0, x5), (0, x6)] [(0, 1)] w Q :=
  (VW_b 2 (F := fun n => vrun n d 114 151 [(2, x0), (1, x1), (9, 0), (1, x3), (9, 0), (0, x5), (0, x6)] [(0, 1)] w) (fun _ => rfl)).trans (Iff.rfl)
set_option maxRecDepth 100000 in
theorem b114_150 {d : Nat} {w : vW} {x0 x1 x3 x5 x6 : Int} {Q : Int → vW → Prop} : VW d 114 150 [(2, x0), (1, x1), (9, 0), (1, x3), (9, 0), (0, x5), (0, x6)] [] w Q ↔ VW d 114 151 [(2, x0), (1, x1), (9, 0), (1, x3), (9, 0), (0, x5), (0, x6)] [(0, 0)] w Q :=
  (VW_b 1 (F := fun n => vrun n d 114 151 [(2, x0), (1, x1), (9, 0), (1, x3), (9, 0), (0, x5), (0, x6)] [(0, 0)] w) (fun _ => rfl)).trans (Iff.rfl)
set_option maxRecDepth 100000 in
theorem b114_151 {d : Nat} {w : vW} {x0 x1 x3 x5 x6 y0 : Int} {Q : Int → vW → Prop} : VW d 114 151 [(2, x0), (1, x1), (9, 0), (1, x3), (9, 0), (0, x5), (0, x6)] [(0, y0)] w Q ↔ VC d 57 [(0, y0)] w (fun r w1 => VW d 114 154 [(2, x0), (1, x1), (9, 0), (1, x3), (9, 0), (0, x5), (0, x6)] [(0, r)] w1 Q) :=
  (VW_b 1 (F := fun n => vclr (vrun n) d 114 154 57 1 0 [(2, x0), (1, x1), (9, 0), (1, x3), (9, 0), (0, x5), (0, x6)] [(0, y0)] w) (fun _ => rfl)).trans (EX_call rfl)
set_option maxRecDepth 100000 in
theorem b114_154 {d : Nat} {w : vW} {x0 x1 x3 x5 x6 y0 : Int} {Q : Int → vW → Prop} : VW d 114 154 [(2, x0), (1, x1), (9, 0), (1, x3), (9, 0), (0, x5), (0, x6)] [(0, y0)] w Q ↔ Q y0 w :=
  (VW_b 1 (F := fun n => some (0, y0, w)) (fun _ => rfl)).trans (EX_ret0)
/-! 115: StrikeWhatCancelsModel.meet(JJ)I -/
set_option maxRecDepth 100000 in
theorem b115_0 {d : Nat} {w : vW} {x0 x1 x3 : Int} {Q : Int → vW → Prop} : VW d 115 0 [(2, x0), (1, x1), (9, 0), (1, x3), (9, 0), (9, 0)] [] w Q ↔ (vkd w x0 = 22) ∧ VW d 115 5 [(2, x0), (1, x1), (9, 0), (1, x3), (9, 0), (9, 0)] [] (vsv w x0 0 0) Q :=
  (VW_b 3 (F := fun n => if vkd w x0 = 22 then vrun n d 115 5 [(2, x0), (1, x1), (9, 0), (1, x3), (9, 0), (9, 0)] [] (vsv w x0 0 0) else none) (fun _ => rfl)).trans (EX_if.trans (and_congr Iff.rfl (Iff.rfl)))
set_option maxRecDepth 100000 in
theorem b115_5 {d : Nat} {w : vW} {x0 x1 x3 : Int} {Q : Int → vW → Prop} : VW d 115 5 [(2, x0), (1, x1), (9, 0), (1, x3), (9, 0), (9, 0)] [] w Q ↔ (vkd w x0 = 22) ∧ VC d 61 [(2, x0), (1, x1)] w (fun r w1 => VW d 115 10 [(2, x0), (1, x1), (9, 0), (1, x3), (9, 0), (9, 0)] [(0, r)] w1 Q) :=
  (VW_b 3 (F := fun n => if vkd w x0 = 22 then vclr (vrun n) d 115 10 61 2 0 [(2, x0), (1, x1), (9, 0), (1, x3), (9, 0), (9, 0)] [(1, x1), (2, x0)] w else none) (fun _ => rfl)).trans (EX_if.trans (and_congr Iff.rfl (EX_call rfl)))
set_option maxRecDepth 100000 in
theorem b115_10 {d : Nat} {w : vW} {x0 x1 x3 y0 : Int} {Q : Int → vW → Prop} : VW d 115 10 [(2, x0), (1, x1), (9, 0), (1, x3), (9, 0), (9, 0)] [(0, y0)] w Q ↔ ((y0 = 0 → VW d 115 21 [(2, x0), (1, x1), (9, 0), (1, x3), (9, 0), (9, 0)] [] w Q) ∧ (¬ (y0 = 0) → VW d 115 13 [(2, x0), (1, x1), (9, 0), (1, x3), (9, 0), (9, 0)] [] w Q)) :=
  (VW_b 1 (F := fun n => (if y0 = 0 then vrun n d 115 21 [(2, x0), (1, x1), (9, 0), (1, x3), (9, 0), (9, 0)] [] w else vrun n d 115 13 [(2, x0), (1, x1), (9, 0), (1, x3), (9, 0), (9, 0)] [] w)) (fun _ => rfl)).trans (EX_br.trans (and_congr (imp_congr Iff.rfl Iff.rfl) (imp_congr Iff.rfl Iff.rfl)))
set_option maxRecDepth 100000 in
theorem b115_13 {d : Nat} {w : vW} {x0 x1 x3 : Int} {Q : Int → vW → Prop} : VW d 115 13 [(2, x0), (1, x1), (9, 0), (1, x3), (9, 0), (9, 0)] [] w Q ↔ (vkd w x0 = 22) ∧ VC d 61 [(2, x0), (1, x3)] w (fun r w1 => VW d 115 18 [(2, x0), (1, x1), (9, 0), (1, x3), (9, 0), (9, 0)] [(0, r)] w1 Q) :=
  (VW_b 3 (F := fun n => if vkd w x0 = 22 then vclr (vrun n) d 115 18 61 2 0 [(2, x0), (1, x1), (9, 0), (1, x3), (9, 0), (9, 0)] [(1, x3), (2, x0)] w else none) (fun _ => rfl)).trans (EX_if.trans (and_congr Iff.rfl (EX_call rfl)))
set_option maxRecDepth 100000 in
theorem b115_18 {d : Nat} {w : vW} {x0 x1 x3 y0 : Int} {Q : Int → vW → Prop} : VW d 115 18 [(2, x0), (1, x1), (9, 0), (1, x3), (9, 0), (9, 0)] [(0, y0)] w Q ↔ ((y0 = 0 → VW d 115 21 [(2, x0), (1, x1), (9, 0), (1, x3), (9, 0), (9, 0)] [] w Q) ∧ (¬ (y0 = 0) → VW d 115 23 [(2, x0), (1, x1), (9, 0), (1, x3), (9, 0), (9, 0)] [] w Q)) :=
  (VW_b 1 (F := fun n => (if y0 = 0 then vrun n d 115 21 [(2, x0), (1, x1), (9, 0), (1, x3), (9, 0), (9, 0)] [] w else vrun n d 115 23 [(2, x0), (1, x1), (9, 0), (1, x3), (9, 0), (9, 0)] [] w)) (fun _ => rfl)).trans (EX_br.trans (and_congr (imp_congr Iff.rfl Iff.rfl) (imp_congr Iff.rfl Iff.rfl)))
set_option maxRecDepth 100000 in
theorem b115_21 {d : Nat} {w : vW} {x0 x1 x3 : Int} {Q : Int → vW → Prop} : VW d 115 21 [(2, x0), (1, x1), (9, 0), (1, x3), (9, 0), (9, 0)] [] w Q ↔ Q (-1) w :=
  (VW_b 2 (F := fun n => some (0, (-1), w)) (fun _ => rfl)).trans (EX_ret0)
set_option maxRecDepth 100000 in
theorem b115_23 {d : Nat} {w : vW} {x0 x1 x3 : Int} {Q : Int → vW → Prop} : VW d 115 23 [(2, x0), (1, x1), (9, 0), (1, x3), (9, 0), (9, 0)] [] w Q ↔ (vkd w x0 = 22) ∧ VC d 114 [(2, x0), (1, x1), (1, x3)] w (fun r w1 => VW d 115 29 [(2, x0), (1, x1), (9, 0), (1, x3), (9, 0), (9, 0)] [(0, r)] w1 Q) :=
  (VW_b 4 (F := fun n => if vkd w x0 = 22 then vclr (vrun n) d 115 29 114 3 0 [(2, x0), (1, x1), (9, 0), (1, x3), (9, 0), (9, 0)] [(1, x3), (1, x1), (2, x0)] w else none) (fun _ => rfl)).trans (EX_if.trans (and_congr Iff.rfl (EX_call rfl)))
set_option maxRecDepth 100000 in
theorem b115_29 {d : Nat} {w : vW} {x0 x1 x3 y0 : Int} {Q : Int → vW → Prop} : VW d 115 29 [(2, x0), (1, x1), (9, 0), (1, x3), (9, 0), (9, 0)] [(0, y0)] w Q ↔ ((y0 < 0 → VW d 115 41 [(2, x0), (1, x1), (9, 0), (1, x3), (9, 0), (0, y0)] [] w Q) ∧ (¬ (y0 < 0) → VW d 115 36 [(2, x0), (1, x1), (9, 0), (1, x3), (9, 0), (0, y0)] [] w Q)) :=
  (VW_b 3 (F := fun n => (if y0 < 0 then vrun n d 115 41 [(2, x0), (1, x1), (9, 0), (1, x3), (9, 0), (0, y0)] [] w else vrun n d 115 36 [(2, x0), (1, x1), (9, 0), (1, x3), (9, 0), (0, y0)] [] w)) (fun _ => rfl)).trans (EX_br.trans (and_congr (imp_congr Iff.rfl Iff.rfl) (imp_congr Iff.rfl Iff.rfl)))
set_option maxRecDepth 100000 in
theorem b115_36 {d : Nat} {w : vW} {x0 x1 x3 x5 : Int} {Q : Int → vW → Prop} : VW d 115 36 [(2, x0), (1, x1), (9, 0), (1, x3), (9, 0), (0, x5)] [] w Q ↔ (vkd w x0 = 22) ∧ VW d 115 41 [(2, x0), (1, x1), (9, 0), (1, x3), (9, 0), (0, x5)] [] (vsv w x0 1 0) Q :=
  (VW_b 3 (F := fun n => if vkd w x0 = 22 then vrun n d 115 41 [(2, x0), (1, x1), (9, 0), (1, x3), (9, 0), (0, x5)] [] (vsv w x0 1 0) else none) (fun _ => rfl)).trans (EX_if.trans (and_congr Iff.rfl (Iff.rfl)))
set_option maxRecDepth 100000 in
theorem b115_41 {d : Nat} {w : vW} {x0 x1 x3 x5 : Int} {Q : Int → vW → Prop} : VW d 115 41 [(2, x0), (1, x1), (9, 0), (1, x3), (9, 0), (0, x5)] [] w Q ↔ ((x5 = 1 → VW d 115 47 [(2, x0), (1, x1), (9, 0), (1, x3), (9, 0), (0, x5)] [] w Q) ∧ (¬ (x5 = 1) → VW d 115 55 [(2, x0), (1, x1), (9, 0), (1, x3), (9, 0), (0, x5)] [] w Q)) :=
  (VW_b 3 (F := fun n => (if x5 = 1 then vrun n d 115 47 [(2, x0), (1, x1), (9, 0), (1, x3), (9, 0), (0, x5)] [] w else vrun n d 115 55 [(2, x0), (1, x1), (9, 0), (1, x3), (9, 0), (0, x5)] [] w)) (fun _ => rfl)).trans (EX_br.trans (and_congr (imp_congr Iff.rfl Iff.rfl) (imp_congr Iff.rfl Iff.rfl)))
set_option maxRecDepth 100000 in
theorem b115_47 {d : Nat} {w : vW} {x0 x1 x3 x5 : Int} {Q : Int → vW → Prop} : VW d 115 47 [(2, x0), (1, x1), (9, 0), (1, x3), (9, 0), (0, x5)] [] w Q ↔ (vkd w x0 = 22) ∧ (vkd w x0 = 22) ∧ VC d 58 [(2, x0), (1, vct w x0 39)] w (fun _ w1 => VW d 115 55 [(2, x0), (1, x1), (9, 0), (1, x3), (9, 0), (0, x5)] [] w1 Q) :=
  (VW_b 4 (F := fun n => if vkd w x0 = 22 then if vkd w x0 = 22 then vclr (vrun n) d 115 55 58 2 9 [(2, x0), (1, x1), (9, 0), (1, x3), (9, 0), (0, x5)] [(1, vct w x0 39), (2, x0)] w else none else none) (fun _ => rfl)).trans (EX_if.trans (and_congr Iff.rfl (EX_if.trans (and_congr Iff.rfl (EX_call rfl)))))
set_option maxRecDepth 100000 in
theorem b115_55 {d : Nat} {w : vW} {x0 x1 x3 x5 : Int} {Q : Int → vW → Prop} : VW d 115 55 [(2, x0), (1, x1), (9, 0), (1, x3), (9, 0), (0, x5)] [] w Q ↔ Q x5 w :=
  (VW_b 2 (F := fun n => some (0, x5, w)) (fun _ => rfl)).trans (EX_ret0)
/-! 116: StrikeWhatCancelsModel.beginsLaps()V -/
set_option maxRecDepth 100000 in
theorem b116_0 {d : Nat} {w : vW} {x0 : Int} {Q : Int → vW → Prop} : VW d 116 0 [(2, x0)] [] w Q ↔ (vkd w x0 = 22) ∧ VW d 116 5 [(2, x0)] [] (vsv w x0 40 0) Q :=
  (VW_b 3 (F := fun n => if vkd w x0 = 22 then vrun n d 116 5 [(2, x0)] [] (vsv w x0 40 0) else none) (fun _ => rfl)).trans (EX_if.trans (and_congr Iff.rfl (Iff.rfl)))
set_option maxRecDepth 100000 in
theorem b116_5 {d : Nat} {w : vW} {x0 : Int} {Q : Int → vW → Prop} : VW d 116 5 [(2, x0)] [] w Q ↔ (vkd w x0 = 22) ∧ VW d 116 10 [(2, x0)] [] (vsv w x0 41 0) Q :=
  (VW_b 3 (F := fun n => if vkd w x0 = 22 then vrun n d 116 10 [(2, x0)] [] (vsv w x0 41 0) else none) (fun _ => rfl)).trans (EX_if.trans (and_congr Iff.rfl (Iff.rfl)))
set_option maxRecDepth 100000 in
theorem b116_10 {d : Nat} {w : vW} {x0 : Int} {Q : Int → vW → Prop} : VW d 116 10 [(2, x0)] [] w Q ↔ (vkd w x0 = 22) ∧ VW d 116 15 [(2, x0)] [] (vsv w x0 42 0) Q :=
  (VW_b 3 (F := fun n => if vkd w x0 = 22 then vrun n d 116 15 [(2, x0)] [] (vsv w x0 42 0) else none) (fun _ => rfl)).trans (EX_if.trans (and_congr Iff.rfl (Iff.rfl)))
set_option maxRecDepth 100000 in
theorem b116_15 {d : Nat} {w : vW} {x0 : Int} {Q : Int → vW → Prop} : VW d 116 15 [(2, x0)] [] w Q ↔ Q 0 w :=
  (VW_b 1 (F := fun n => some (0, 0, w)) (fun _ => rfl)).trans (EX_ret0)
/-! 117: StrikeWhatCancelsModel.laps(III)Z -/
set_option maxRecDepth 100000 in
theorem b117_0 {d : Nat} {w : vW} {x0 x1 x2 x3 : Int} {Q : Int → vW → Prop} : VW d 117 0 [(2, x0), (0, x1), (0, x2), (0, x3), (9, 0), (9, 0), (9, 0), (9, 0)] [] w Q ↔ ((x3 < 10 → VW d 117 6 [(2, x0), (0, x1), (0, x2), (0, x3), (9, 0), (9, 0), (9, 0), (9, 0)] [] w Q) ∧ (¬ (x3 < 10) → VW d 117 187 [(2, x0), (0, x1), (0, x2), (0, x3), (9, 0), (9, 0), (9, 0), (9, 0)] [] w Q)) :=
  (VW_b 3 (F := fun n => (if x3 < 10 then vrun n d 117 6 [(2, x0), (0, x1), (0, x2), (0, x3), (9, 0), (9, 0), (9, 0), (9, 0)] [] w else vrun n d 117 187 [(2, x0), (0, x1), (0, x2), (0, x3), (9, 0), (9, 0), (9, 0), (9, 0)] [] w)) (fun _ => rfl)).trans (EX_br.trans (and_congr (imp_congr Iff.rfl Iff.rfl) (imp_congr Iff.rfl Iff.rfl)))
set_option maxRecDepth 100000 in
theorem b117_6 {d : Nat} {w : vW} {x0 x1 x2 x3 : Int} {Q : Int → vW → Prop} : VW d 117 6 [(2, x0), (0, x1), (0, x2), (0, x3), (9, 0), (9, 0), (9, 0), (9, 0)] [] w Q ↔ ((x3 < 1 → VW d 117 71 [(2, x0), (0, x1), (0, x2), (0, x3), (9, 0), (9, 0), (9, 0), (9, 0)] [] w Q) ∧ (¬ (x3 < 1) → VW d 117 11 [(2, x0), (0, x1), (0, x2), (0, x3), (9, 0), (9, 0), (9, 0), (9, 0)] [] w Q)) :=
  (VW_b 3 (F := fun n => (if x3 < 1 then vrun n d 117 71 [(2, x0), (0, x1), (0, x2), (0, x3), (9, 0), (9, 0), (9, 0), (9, 0)] [] w else vrun n d 117 11 [(2, x0), (0, x1), (0, x2), (0, x3), (9, 0), (9, 0), (9, 0), (9, 0)] [] w)) (fun _ => rfl)).trans (EX_br.trans (and_congr (imp_congr Iff.rfl Iff.rfl) (imp_congr Iff.rfl Iff.rfl)))
set_option maxRecDepth 100000 in
theorem b117_11 {d : Nat} {w : vW} {x0 x1 x2 x3 : Int} {Q : Int → vW → Prop} : VW d 117 11 [(2, x0), (0, x1), (0, x2), (0, x3), (9, 0), (9, 0), (9, 0), (9, 0)] [] w Q ↔ (vkd w x0 = 22) ∧ (vkd w (vct w x0 8) = 1 ∧ (0 : Int) ≤ x1 ∧ x1 < vln w (vct w x0 8)) ∧ (vkd w x0 = 22) ∧ (vkd w (vct w x0 8) = 1 ∧ (0 : Int) ≤ x2 ∧ x2 < vln w (vct w x0 8)) ∧ ((x3 < (min (vct w (vct w x0 8) x1) (vct w (vct w x0 8) x2)) → VW d 117 30 [(2, x0), (0, x1), (0, x2), (0, x3), (9, 0), (9, 0), (9, 0), (9, 0)] [] w Q) ∧ (¬ (x3 < (min (vct w (vct w x0 8) x1) (vct w (vct w x0 8) x2))) → VW d 117 71 [(2, x0), (0, x1), (0, x2), (0, x3), (9, 0), (9, 0), (9, 0), (9, 0)] [] w Q)) :=
  (VW_b 11 (F := fun n => if vkd w x0 = 22 then if vkd w (vct w x0 8) = 1 ∧ (0 : Int) ≤ x1 ∧ x1 < vln w (vct w x0 8) then if vkd w x0 = 22 then if vkd w (vct w x0 8) = 1 ∧ (0 : Int) ≤ x2 ∧ x2 < vln w (vct w x0 8) then (if x3 < (min (vct w (vct w x0 8) x1) (vct w (vct w x0 8) x2)) then vrun n d 117 30 [(2, x0), (0, x1), (0, x2), (0, x3), (9, 0), (9, 0), (9, 0), (9, 0)] [] w else vrun n d 117 71 [(2, x0), (0, x1), (0, x2), (0, x3), (9, 0), (9, 0), (9, 0), (9, 0)] [] w) else none else none else none else none) (fun _ => rfl)).trans (EX_if.trans (and_congr Iff.rfl (EX_if.trans (and_congr Iff.rfl (EX_if.trans (and_congr Iff.rfl (EX_if.trans (and_congr Iff.rfl (EX_br.trans (and_congr (imp_congr Iff.rfl Iff.rfl) (imp_congr Iff.rfl Iff.rfl)))))))))))
set_option maxRecDepth 100000 in
theorem b117_30 {d : Nat} {w : vW} {x0 x1 x2 x3 : Int} {Q : Int → vW → Prop} : VW d 117 30 [(2, x0), (0, x1), (0, x2), (0, x3), (9, 0), (9, 0), (9, 0), (9, 0)] [] w Q ↔ (vkd w x0 = 22) ∧ (vkd w (vct w x0 6) = 2 ∧ (0 : Int) ≤ x1 ∧ x1 < vln w (vct w x0 6)) ∧ (vkd w x0 = 22) ∧ (vkd w (vct w x0 3) = 2 ∧ (0 : Int) ≤ x3 ∧ x3 < vln w (vct w x0 3)) ∧ ¬ ((vct w (vct w x0 3) x3) = 0) ∧ (vkd w x0 = 22) ∧ (vkd w (vct w x0 6) = 2 ∧ (0 : Int) ≤ x2 ∧ x2 < vln w (vct w x0 6)) ∧ (vkd w x0 = 22) ∧ (vkd w x0 = 22) ∧ (vkd w (vct w x0 8) = 1 ∧ (0 : Int) ≤ x2 ∧ x2 < vln w (vct w x0 8)) ∧ (vkd w (vct w x0 3) = 2 ∧ (0 : Int) ≤ (w32 ((vct w (vct w x0 8) x2) - x3)) ∧ (w32 ((vct w (vct w x0 8) x2) - x3)) < vln w (vct w x0 3)) ∧ ¬ ((vct w (vct w x0 3) (w32 ((vct w (vct w x0 8) x2) - x3))) = 0) ∧ (((vlc (Int.tmod (vct w (vct w x0 6) x1) (vct w (vct w x0 3) x3)) (w64 (Int.tdiv (vct w (vct w x0 6) x2) (vct w (vct w x0 3) (w32 ((vct w (vct w x0 8) x2) - x3)))))) = 0 → VW d 117 67 [(2, x0), (0, x1), (0, x2), (0, x3), (9, 0), (9, 0), (9, 0), (9, 0)] [] w Q) ∧ (¬ ((vlc (Int.tmod (vct w (vct w x0 6) x1) (vct w (vct w x0 3) x3)) (w64 (Int.tdiv (vct w (vct w x0 6) x2) (vct w (vct w x0 3) (w32 ((vct w (vct w x0 8) x2) - x3)))))) = 0) → VW d 117 71 [(2, x0), (0, x1), (0, x2), (0, x3), (9, 0), (9, 0), (9, 0), (9, 0)] [] w Q)) :=
  (VW_b 25 (F := fun n => if vkd w x0 = 22 then if vkd w (vct w x0 6) = 2 ∧ (0 : Int) ≤ x1 ∧ x1 < vln w (vct w x0 6) then if vkd w x0 = 22 then if vkd w (vct w x0 3) = 2 ∧ (0 : Int) ≤ x3 ∧ x3 < vln w (vct w x0 3) then if (vct w (vct w x0 3) x3) = 0 then none else if vkd w x0 = 22 then if vkd w (vct w x0 6) = 2 ∧ (0 : Int) ≤ x2 ∧ x2 < vln w (vct w x0 6) then if vkd w x0 = 22 then if vkd w x0 = 22 then if vkd w (vct w x0 8) = 1 ∧ (0 : Int) ≤ x2 ∧ x2 < vln w (vct w x0 8) then if vkd w (vct w x0 3) = 2 ∧ (0 : Int) ≤ (w32 ((vct w (vct w x0 8) x2) - x3)) ∧ (w32 ((vct w (vct w x0 8) x2) - x3)) < vln w (vct w x0 3) then if (vct w (vct w x0 3) (w32 ((vct w (vct w x0 8) x2) - x3))) = 0 then none else (if (vlc (Int.tmod (vct w (vct w x0 6) x1) (vct w (vct w x0 3) x3)) (w64 (Int.tdiv (vct w (vct w x0 6) x2) (vct w (vct w x0 3) (w32 ((vct w (vct w x0 8) x2) - x3)))))) = 0 then vrun n d 117 67 [(2, x0), (0, x1), (0, x2), (0, x3), (9, 0), (9, 0), (9, 0), (9, 0)] [] w else vrun n d 117 71 [(2, x0), (0, x1), (0, x2), (0, x3), (9, 0), (9, 0), (9, 0), (9, 0)] [] w) else none else none else none else none else none else none else none else none else none else none) (fun _ => rfl)).trans (EX_if.trans (and_congr Iff.rfl (EX_if.trans (and_congr Iff.rfl (EX_if.trans (and_congr Iff.rfl (EX_if.trans (and_congr Iff.rfl (EX_ifn.trans (and_congr Iff.rfl (EX_if.trans (and_congr Iff.rfl (EX_if.trans (and_congr Iff.rfl (EX_if.trans (and_congr Iff.rfl (EX_if.trans (and_congr Iff.rfl (EX_if.trans (and_congr Iff.rfl (EX_if.trans (and_congr Iff.rfl (EX_ifn.trans (and_congr Iff.rfl (EX_br.trans (and_congr (imp_congr Iff.rfl Iff.rfl) (imp_congr Iff.rfl Iff.rfl)))))))))))))))))))))))))))
set_option maxRecDepth 100000 in
theorem b117_67 {d : Nat} {w : vW} {x0 x1 x2 x3 : Int} {Q : Int → vW → Prop} : VW d 117 67 [(2, x0), (0, x1), (0, x2), (0, x3), (9, 0), (9, 0), (9, 0), (9, 0)] [] w Q ↔ VW d 117 72 [(2, x0), (0, x1), (0, x2), (0, x3), (9, 0), (9, 0), (9, 0), (9, 0)] [(0, 1)] w Q :=
  (VW_b 2 (F := fun n => vrun n d 117 72 [(2, x0), (0, x1), (0, x2), (0, x3), (9, 0), (9, 0), (9, 0), (9, 0)] [(0, 1)] w) (fun _ => rfl)).trans (Iff.rfl)
set_option maxRecDepth 100000 in
theorem b117_71 {d : Nat} {w : vW} {x0 x1 x2 x3 : Int} {Q : Int → vW → Prop} : VW d 117 71 [(2, x0), (0, x1), (0, x2), (0, x3), (9, 0), (9, 0), (9, 0), (9, 0)] [] w Q ↔ VW d 117 72 [(2, x0), (0, x1), (0, x2), (0, x3), (9, 0), (9, 0), (9, 0), (9, 0)] [(0, 0)] w Q :=
  (VW_b 1 (F := fun n => vrun n d 117 72 [(2, x0), (0, x1), (0, x2), (0, x3), (9, 0), (9, 0), (9, 0), (9, 0)] [(0, 0)] w) (fun _ => rfl)).trans (Iff.rfl)
set_option maxRecDepth 100000 in
theorem b117_72 {d : Nat} {w : vW} {x0 x1 x2 x3 y0 : Int} {Q : Int → vW → Prop} : VW d 117 72 [(2, x0), (0, x1), (0, x2), (0, x3), (9, 0), (9, 0), (9, 0), (9, 0)] [(0, y0)] w Q ↔ ((y0 = 0 → VW d 117 79 [(2, x0), (0, x1), (0, x2), (0, x3), (0, y0), (9, 0), (9, 0), (9, 0)] [] w Q) ∧ (¬ (y0 = 0) → VW d 117 81 [(2, x0), (0, x1), (0, x2), (0, x3), (0, y0), (9, 0), (9, 0), (9, 0)] [] w Q)) :=
  (VW_b 3 (F := fun n => (if y0 = 0 then vrun n d 117 79 [(2, x0), (0, x1), (0, x2), (0, x3), (0, y0), (9, 0), (9, 0), (9, 0)] [] w else vrun n d 117 81 [(2, x0), (0, x1), (0, x2), (0, x3), (0, y0), (9, 0), (9, 0), (9, 0)] [] w)) (fun _ => rfl)).trans (EX_br.trans (and_congr (imp_congr Iff.rfl Iff.rfl) (imp_congr Iff.rfl Iff.rfl)))
set_option maxRecDepth 100000 in
theorem b117_79 {d : Nat} {w : vW} {x0 x1 x2 x3 x4 : Int} {Q : Int → vW → Prop} : VW d 117 79 [(2, x0), (0, x1), (0, x2), (0, x3), (0, x4), (9, 0), (9, 0), (9, 0)] [] w Q ↔ Q 0 w :=
  (VW_b 2 (F := fun n => some (0, 0, w)) (fun _ => rfl)).trans (EX_ret0)
set_option maxRecDepth 100000 in
theorem b117_81 {d : Nat} {w : vW} {x0 x1 x2 x3 x4 : Int} {Q : Int → vW → Prop} : VW d 117 81 [(2, x0), (0, x1), (0, x2), (0, x3), (0, x4), (9, 0), (9, 0), (9, 0)] [] w Q ↔ (vkd w x0 = 22) ∧ (vkd w (vct w x0 8) = 1 ∧ (0 : Int) ≤ x2 ∧ x2 < vln w (vct w x0 8)) ∧ (vkd w x0 = 22) ∧ (vkd w (vct w x0 6) = 2 ∧ (0 : Int) ≤ x2 ∧ x2 < vln w (vct w x0 6)) ∧ (vkd w x0 = 22) ∧ (vkd w (vct w x0 3) = 2 ∧ (0 : Int) ≤ (w32 ((vct w (vct w x0 8) x2) - x3)) ∧ (w32 ((vct w (vct w x0 8) x2) - x3)) < vln w (vct w x0 3)) ∧ ¬ ((vct w (vct w x0 3) (w32 ((vct w (vct w x0 8) x2) - x3))) = 0) ∧ (vkd w x0 = 22) ∧ (vkd w (vct w x0 6) = 2 ∧ (0 : Int) ≤ x1 ∧ x1 < vln w (vct w x0 6)) ∧ (vkd w x0 = 22) ∧ (vkd w (vct w x0 3) = 2 ∧ (0 : Int) ≤ (w32 ((vct w (vct w x0 8) x2) - x3)) ∧ (w32 ((vct w (vct w x0 8) x2) - x3)) < vln w (vct w x0 3)) ∧ (vkd w x0 = 22) ∧ VW d 117 128 [(2, x0), (0, x1), (0, x2), (0, x3), (0, x4), (0, w32 ((vct w (vct w x0 8) x2) - x3)), (1, Int.tmod (vct w (vct w x0 6) x2) (vct w (vct w x0 3) (w32 ((vct w (vct w x0 8) x2) - x3)))), (9, 0)] [] (vsv w x0 43 (w64 ((w64 ((vct w (vct w x0 6) x1) * (vct w (vct w x0 3) (w32 ((vct w (vct w x0 8) x2) - x3))))) + (Int.tmod (vct w (vct w x0 6) x2) (vct w (vct w x0 3) (w32 ((vct w (vct w x0 8) x2) - x3))))))) Q :=
  (VW_b 30 (F := fun n => if vkd w x0 = 22 then if vkd w (vct w x0 8) = 1 ∧ (0 : Int) ≤ x2 ∧ x2 < vln w (vct w x0 8) then if vkd w x0 = 22 then if vkd w (vct w x0 6) = 2 ∧ (0 : Int) ≤ x2 ∧ x2 < vln w (vct w x0 6) then if vkd w x0 = 22 then if vkd w (vct w x0 3) = 2 ∧ (0 : Int) ≤ (w32 ((vct w (vct w x0 8) x2) - x3)) ∧ (w32 ((vct w (vct w x0 8) x2) - x3)) < vln w (vct w x0 3) then if (vct w (vct w x0 3) (w32 ((vct w (vct w x0 8) x2) - x3))) = 0 then none else if vkd w x0 = 22 then if vkd w (vct w x0 6) = 2 ∧ (0 : Int) ≤ x1 ∧ x1 < vln w (vct w x0 6) then if vkd w x0 = 22 then if vkd w (vct w x0 3) = 2 ∧ (0 : Int) ≤ (w32 ((vct w (vct w x0 8) x2) - x3)) ∧ (w32 ((vct w (vct w x0 8) x2) - x3)) < vln w (vct w x0 3) then if vkd w x0 = 22 then vrun n d 117 128 [(2, x0), (0, x1), (0, x2), (0, x3), (0, x4), (0, w32 ((vct w (vct w x0 8) x2) - x3)), (1, Int.tmod (vct w (vct w x0 6) x2) (vct w (vct w x0 3) (w32 ((vct w (vct w x0 8) x2) - x3)))), (9, 0)] [] (vsv w x0 43 (w64 ((w64 ((vct w (vct w x0 6) x1) * (vct w (vct w x0 3) (w32 ((vct w (vct w x0 8) x2) - x3))))) + (Int.tmod (vct w (vct w x0 6) x2) (vct w (vct w x0 3) (w32 ((vct w (vct w x0 8) x2) - x3))))))) else none else none else none else none else none else none else none else none else none else none else none) (fun _ => rfl)).trans (EX_if.trans (and_congr Iff.rfl (EX_if.trans (and_congr Iff.rfl (EX_if.trans (and_congr Iff.rfl (EX_if.trans (and_congr Iff.rfl (EX_if.trans (and_congr Iff.rfl (EX_if.trans (and_congr Iff.rfl (EX_ifn.trans (and_congr Iff.rfl (EX_if.trans (and_congr Iff.rfl (EX_if.trans (and_congr Iff.rfl (EX_if.trans (and_congr Iff.rfl (EX_if.trans (and_congr Iff.rfl (EX_if.trans (and_congr Iff.rfl (Iff.rfl)))))))))))))))))))))))))
set_option maxRecDepth 100000 in
theorem b117_128 {d : Nat} {w : vW} {x0 x1 x2 x3 x4 x5 x6 : Int} {Q : Int → vW → Prop} : VW d 117 128 [(2, x0), (0, x1), (0, x2), (0, x3), (0, x4), (0, x5), (1, x6), (9, 0)] [] w Q ↔ (vkd w x0 = 22) ∧ (vkd w (vct w x0 7) = 2 ∧ (0 : Int) ≤ x1 ∧ x1 < vln w (vct w x0 7)) ∧ (vkd w x0 = 22) ∧ (vkd w (vct w x0 3) = 2 ∧ (0 : Int) ≤ x5 ∧ x5 < vln w (vct w x0 3)) ∧ (vkd w x0 = 22) ∧ VW d 117 149 [(2, x0), (0, x1), (0, x2), (0, x3), (0, x4), (0, x5), (1, x6), (9, 0)] [] (vsv w x0 44 (w64 ((w64 ((vct w (vct w x0 7) x1) * (vct w (vct w x0 3) x5))) + x6))) Q :=
  (VW_b 13 (F := fun n => if vkd w x0 = 22 then if vkd w (vct w x0 7) = 2 ∧ (0 : Int) ≤ x1 ∧ x1 < vln w (vct w x0 7) then if vkd w x0 = 22 then if vkd w (vct w x0 3) = 2 ∧ (0 : Int) ≤ x5 ∧ x5 < vln w (vct w x0 3) then if vkd w x0 = 22 then vrun n d 117 149 [(2, x0), (0, x1), (0, x2), (0, x3), (0, x4), (0, x5), (1, x6), (9, 0)] [] (vsv w x0 44 (w64 ((w64 ((vct w (vct w x0 7) x1) * (vct w (vct w x0 3) x5))) + x6))) else none else none else none else none else none) (fun _ => rfl)).trans (EX_if.trans (and_congr Iff.rfl (EX_if.trans (and_congr Iff.rfl (EX_if.trans (and_congr Iff.rfl (EX_if.trans (and_congr Iff.rfl (EX_if.trans (and_congr Iff.rfl (Iff.rfl)))))))))))
set_option maxRecDepth 100000 in
theorem b117_149 {d : Nat} {w : vW} {x0 x1 x2 x3 x4 x5 x6 : Int} {Q : Int → vW → Prop} : VW d 117 149 [(2, x0), (0, x1), (0, x2), (0, x3), (0, x4), (0, x5), (1, x6), (9, 0)] [] w Q ↔ (vkd w x0 = 22) ∧ (vkd w (vct w x0 6) = 2 ∧ (0 : Int) ≤ x1 ∧ x1 < vln w (vct w x0 6)) ∧ (vkd w x0 = 22) ∧ (vkd w (vct w x0 3) = 2 ∧ (0 : Int) ≤ x3 ∧ x3 < vln w (vct w x0 3)) ∧ ¬ ((vct w (vct w x0 3) x3) = 0) ∧ (vkd w x0 = 22) ∧ (vkd w x0 = 22) ∧ (vkd w (vct w x0 9) = 1 ∧ (0 : Int) ≤ x2 ∧ x2 < vln w (vct w x0 9)) ∧ (vkd w (vct w x0 3) = 2 ∧ (0 : Int) ≤ (vct w (vct w x0 9) x2) ∧ (vct w (vct w x0 9) x2) < vln w (vct w x0 3)) ∧ (vkd w x0 = 22) ∧ (vkd w (vct w x0 7) = 2 ∧ (0 : Int) ≤ x2 ∧ x2 < vln w (vct w x0 7)) ∧ (vkd w x0 = 22) ∧ VW d 117 185 [(2, x0), (0, x1), (0, x2), (0, x3), (0, x4), (0, x5), (1, x6), (9, 0)] [] (vsv w x0 45 (w64 ((w64 ((w64 (Int.tdiv (vct w (vct w x0 6) x1) (vct w (vct w x0 3) x3))) * (vct w (vct w x0 3) (vct w (vct w x0 9) x2)))) + (vct w (vct w x0 7) x2)))) Q :=
  (VW_b 24 (F := fun n => if vkd w x0 = 22 then if vkd w (vct w x0 6) = 2 ∧ (0 : Int) ≤ x1 ∧ x1 < vln w (vct w x0 6) then if vkd w x0 = 22 then if vkd w (vct w x0 3) = 2 ∧ (0 : Int) ≤ x3 ∧ x3 < vln w (vct w x0 3) then if (vct w (vct w x0 3) x3) = 0 then none else if vkd w x0 = 22 then if vkd w x0 = 22 then if vkd w (vct w x0 9) = 1 ∧ (0 : Int) ≤ x2 ∧ x2 < vln w (vct w x0 9) then if vkd w (vct w x0 3) = 2 ∧ (0 : Int) ≤ (vct w (vct w x0 9) x2) ∧ (vct w (vct w x0 9) x2) < vln w (vct w x0 3) then if vkd w x0 = 22 then if vkd w (vct w x0 7) = 2 ∧ (0 : Int) ≤ x2 ∧ x2 < vln w (vct w x0 7) then if vkd w x0 = 22 then vrun n d 117 185 [(2, x0), (0, x1), (0, x2), (0, x3), (0, x4), (0, x5), (1, x6), (9, 0)] [] (vsv w x0 45 (w64 ((w64 ((w64 (Int.tdiv (vct w (vct w x0 6) x1) (vct w (vct w x0 3) x3))) * (vct w (vct w x0 3) (vct w (vct w x0 9) x2)))) + (vct w (vct w x0 7) x2)))) else none else none else none else none else none else none else none else none else none else none else none) (fun _ => rfl)).trans (EX_if.trans (and_congr Iff.rfl (EX_if.trans (and_congr Iff.rfl (EX_if.trans (and_congr Iff.rfl (EX_if.trans (and_congr Iff.rfl (EX_ifn.trans (and_congr Iff.rfl (EX_if.trans (and_congr Iff.rfl (EX_if.trans (and_congr Iff.rfl (EX_if.trans (and_congr Iff.rfl (EX_if.trans (and_congr Iff.rfl (EX_if.trans (and_congr Iff.rfl (EX_if.trans (and_congr Iff.rfl (EX_if.trans (and_congr Iff.rfl (Iff.rfl)))))))))))))))))))))))))
set_option maxRecDepth 100000 in
theorem b117_185 {d : Nat} {w : vW} {x0 x1 x2 x3 x4 x5 x6 : Int} {Q : Int → vW → Prop} : VW d 117 185 [(2, x0), (0, x1), (0, x2), (0, x3), (0, x4), (0, x5), (1, x6), (9, 0)] [] w Q ↔ Q 1 w :=
  (VW_b 2 (F := fun n => some (0, 1, w)) (fun _ => rfl)).trans (EX_ret0)
set_option maxRecDepth 100000 in
theorem b117_187 {d : Nat} {w : vW} {x0 x1 x2 x3 : Int} {Q : Int → vW → Prop} : VW d 117 187 [(2, x0), (0, x1), (0, x2), (0, x3), (9, 0), (9, 0), (9, 0), (9, 0)] [] w Q ↔ ((x1 = x2 → VW d 117 231 [(2, x0), (0, x1), (0, x2), (0, x3), (0, w32 (x3 - 10)), (9, 0), (9, 0), (9, 0)] [] w Q) ∧ (¬ (x1 = x2) → VW d 117 198 [(2, x0), (0, x1), (0, x2), (0, x3), (0, w32 (x3 - 10)), (9, 0), (9, 0), (9, 0)] [] w Q)) :=
  (VW_b 7 (F := fun n => (if x1 = x2 then vrun n d 117 231 [(2, x0), (0, x1), (0, x2), (0, x3), (0, w32 (x3 - 10)), (9, 0), (9, 0), (9, 0)] [] w else vrun n d 117 198 [(2, x0), (0, x1), (0, x2), (0, x3), (0, w32 (x3 - 10)), (9, 0), (9, 0), (9, 0)] [] w)) (fun _ => rfl)).trans (EX_br.trans (and_congr (imp_congr Iff.rfl Iff.rfl) (imp_congr Iff.rfl Iff.rfl)))
set_option maxRecDepth 100000 in
theorem b117_198 {d : Nat} {w : vW} {x0 x1 x2 x3 x4 : Int} {Q : Int → vW → Prop} : VW d 117 198 [(2, x0), (0, x1), (0, x2), (0, x3), (0, x4), (9, 0), (9, 0), (9, 0)] [] w Q ↔ (vkd w x0 = 22) ∧ (vkd w (vct w x0 6) = 2 ∧ (0 : Int) ≤ x1 ∧ x1 < vln w (vct w x0 6)) ∧ (vkd w x0 = 22) ∧ (vkd w (vct w x0 8) = 1 ∧ (0 : Int) ≤ x1 ∧ x1 < vln w (vct w x0 8)) ∧ (vkd w x0 = 22) ∧ (vkd w (vct w x0 6) = 2 ∧ (0 : Int) ≤ x2 ∧ x2 < vln w (vct w x0 6)) ∧ (vkd w x0 = 22) ∧ (vkd w (vct w x0 8) = 1 ∧ (0 : Int) ≤ x2 ∧ x2 < vln w (vct w x0 8)) ∧ (vkd w x0 = 22) ∧ VC d 81 [(2, x0), (1, vct w (vct w x0 6) x1), (0, vct w (vct w x0 8) x1), (1, vct w (vct w x0 6) x2), (0, vct w (vct w x0 8) x2), (0, x4)] w (fun r w1 => VW d 117 228 [(2, x0), (0, x1), (0, x2), (0, x3), (0, x4), (9, 0), (9, 0), (9, 0)] [(0, r)] w1 Q) :=
  (VW_b 19 (F := fun n => if vkd w x0 = 22 then if vkd w (vct w x0 6) = 2 ∧ (0 : Int) ≤ x1 ∧ x1 < vln w (vct w x0 6) then if vkd w x0 = 22 then if vkd w (vct w x0 8) = 1 ∧ (0 : Int) ≤ x1 ∧ x1 < vln w (vct w x0 8) then if vkd w x0 = 22 then if vkd w (vct w x0 6) = 2 ∧ (0 : Int) ≤ x2 ∧ x2 < vln w (vct w x0 6) then if vkd w x0 = 22 then if vkd w (vct w x0 8) = 1 ∧ (0 : Int) ≤ x2 ∧ x2 < vln w (vct w x0 8) then if vkd w x0 = 22 then vclr (vrun n) d 117 228 81 6 0 [(2, x0), (0, x1), (0, x2), (0, x3), (0, x4), (9, 0), (9, 0), (9, 0)] [(0, x4), (0, vct w (vct w x0 8) x2), (1, vct w (vct w x0 6) x2), (0, vct w (vct w x0 8) x1), (1, vct w (vct w x0 6) x1), (2, x0)] w else none else none else none else none else none else none else none else none else none) (fun _ => rfl)).trans (EX_if.trans (and_congr Iff.rfl (EX_if.trans (and_congr Iff.rfl (EX_if.trans (and_congr Iff.rfl (EX_if.trans (and_congr Iff.rfl (EX_if.trans (and_congr Iff.rfl (EX_if.trans (and_congr Iff.rfl (EX_if.trans (and_congr Iff.rfl (EX_if.trans (and_congr Iff.rfl (EX_if.trans (and_congr Iff.rfl (EX_call rfl)))))))))))))))))))
set_option maxRecDepth 100000 in
theorem b117_228 {d : Nat} {w : vW} {x0 x1 x2 x3 x4 y0 : Int} {Q : Int → vW → Prop} : VW d 117 228 [(2, x0), (0, x1), (0, x2), (0, x3), (0, x4), (9, 0), (9, 0), (9, 0)] [(0, y0)] w Q ↔ ((y0 = 0 → VW d 117 231 [(2, x0), (0, x1), (0, x2), (0, x3), (0, x4), (9, 0), (9, 0), (9, 0)] [] w Q) ∧ (¬ (y0 = 0) → VW d 117 233 [(2, x0), (0, x1), (0, x2), (0, x3), (0, x4), (9, 0), (9, 0), (9, 0)] [] w Q)) :=
  (VW_b 1 (F := fun n => (if y0 = 0 then vrun n d 117 231 [(2, x0), (0, x1), (0, x2), (0, x3), (0, x4), (9, 0), (9, 0), (9, 0)] [] w else vrun n d 117 233 [(2, x0), (0, x1), (0, x2), (0, x3), (0, x4), (9, 0), (9, 0), (9, 0)] [] w)) (fun _ => rfl)).trans (EX_br.trans (and_congr (imp_congr Iff.rfl Iff.rfl) (imp_congr Iff.rfl Iff.rfl)))
set_option maxRecDepth 100000 in
theorem b117_231 {d : Nat} {w : vW} {x0 x1 x2 x3 x4 : Int} {Q : Int → vW → Prop} : VW d 117 231 [(2, x0), (0, x1), (0, x2), (0, x3), (0, x4), (9, 0), (9, 0), (9, 0)] [] w Q ↔ Q 0 w :=
  (VW_b 2 (F := fun n => some (0, 0, w)) (fun _ => rfl)).trans (EX_ret0)
set_option maxRecDepth 100000 in
theorem b117_233 {d : Nat} {w : vW} {x0 x1 x2 x3 x4 : Int} {Q : Int → vW → Prop} : VW d 117 233 [(2, x0), (0, x1), (0, x2), (0, x3), (0, x4), (9, 0), (9, 0), (9, 0)] [] w Q ↔ (vkd w x0 = 22) ∧ (vkd w (vct w x0 6) = 2 ∧ (0 : Int) ≤ x1 ∧ x1 < vln w (vct w x0 6)) ∧ (vkd w x0 = 22) ∧ VW d 117 243 [(2, x0), (0, x1), (0, x2), (0, x3), (0, x4), (9, 0), (9, 0), (9, 0)] [] (vsv w x0 43 (vct w (vct w x0 6) x1)) Q :=
  (VW_b 6 (F := fun n => if vkd w x0 = 22 then if vkd w (vct w x0 6) = 2 ∧ (0 : Int) ≤ x1 ∧ x1 < vln w (vct w x0 6) then if vkd w x0 = 22 then vrun n d 117 243 [(2, x0), (0, x1), (0, x2), (0, x3), (0, x4), (9, 0), (9, 0), (9, 0)] [] (vsv w x0 43 (vct w (vct w x0 6) x1)) else none else none else none) (fun _ => rfl)).trans (EX_if.trans (and_congr Iff.rfl (EX_if.trans (and_congr Iff.rfl (EX_if.trans (and_congr Iff.rfl (Iff.rfl)))))))
set_option maxRecDepth 100000 in
theorem b117_243 {d : Nat} {w : vW} {x0 x1 x2 x3 x4 : Int} {Q : Int → vW → Prop} : VW d 117 243 [(2, x0), (0, x1), (0, x2), (0, x3), (0, x4), (9, 0), (9, 0), (9, 0)] [] w Q ↔ (vkd w x0 = 22) ∧ (vkd w (vct w x0 7) = 2 ∧ (0 : Int) ≤ x1 ∧ x1 < vln w (vct w x0 7)) ∧ (vkd w x0 = 22) ∧ VW d 117 253 [(2, x0), (0, x1), (0, x2), (0, x3), (0, x4), (9, 0), (9, 0), (9, 0)] [] (vsv w x0 44 (vct w (vct w x0 7) x1)) Q :=
  (VW_b 6 (F := fun n => if vkd w x0 = 22 then if vkd w (vct w x0 7) = 2 ∧ (0 : Int) ≤ x1 ∧ x1 < vln w (vct w x0 7) then if vkd w x0 = 22 then vrun n d 117 253 [(2, x0), (0, x1), (0, x2), (0, x3), (0, x4), (9, 0), (9, 0), (9, 0)] [] (vsv w x0 44 (vct w (vct w x0 7) x1)) else none else none else none) (fun _ => rfl)).trans (EX_if.trans (and_congr Iff.rfl (EX_if.trans (and_congr Iff.rfl (EX_if.trans (and_congr Iff.rfl (Iff.rfl)))))))
set_option maxRecDepth 100000 in
theorem b117_253 {d : Nat} {w : vW} {x0 x1 x2 x3 x4 : Int} {Q : Int → vW → Prop} : VW d 117 253 [(2, x0), (0, x1), (0, x2), (0, x3), (0, x4), (9, 0), (9, 0), (9, 0)] [] w Q ↔ (vkd w x0 = 22) ∧ (vkd w (vct w x0 6) = 2 ∧ (0 : Int) ≤ x1 ∧ x1 < vln w (vct w x0 6)) ∧ (vkd w x0 = 22) ∧ (vkd w (vct w x0 8) = 1 ∧ (0 : Int) ≤ x1 ∧ x1 < vln w (vct w x0 8)) ∧ (vkd w x0 = 22) ∧ (vkd w (vct w x0 8) = 1 ∧ (0 : Int) ≤ x2 ∧ x2 < vln w (vct w x0 8)) ∧ (vkd w x0 = 22) ∧ (vkd w (vct w x0 7) = 2 ∧ (0 : Int) ≤ x2 ∧ x2 < vln w (vct w x0 7)) ∧ (vkd w x0 = 22) ∧ (vkd w (vct w x0 9) = 1 ∧ (0 : Int) ≤ x2 ∧ x2 < vln w (vct w x0 9)) ∧ (vkd w x0 = 22) ∧ VC d 82 [(2, x0), (1, vct w (vct w x0 6) x1), (0, vct w (vct w x0 8) x1), (0, x4), (0, vct w (vct w x0 8) x2), (1, vct w (vct w x0 7) x2), (0, vct w (vct w x0 9) x2)] w (fun r w1 => VW d 117 290 [(2, x0), (0, x1), (0, x2), (0, x3), (0, x4), (9, 0), (9, 0), (9, 0)] [(1, r), (2, x0)] w1 Q) :=
  (VW_b 24 (F := fun n => if vkd w x0 = 22 then if vkd w (vct w x0 6) = 2 ∧ (0 : Int) ≤ x1 ∧ x1 < vln w (vct w x0 6) then if vkd w x0 = 22 then if vkd w (vct w x0 8) = 1 ∧ (0 : Int) ≤ x1 ∧ x1 < vln w (vct w x0 8) then if vkd w x0 = 22 then if vkd w (vct w x0 8) = 1 ∧ (0 : Int) ≤ x2 ∧ x2 < vln w (vct w x0 8) then if vkd w x0 = 22 then if vkd w (vct w x0 7) = 2 ∧ (0 : Int) ≤ x2 ∧ x2 < vln w (vct w x0 7) then if vkd w x0 = 22 then if vkd w (vct w x0 9) = 1 ∧ (0 : Int) ≤ x2 ∧ x2 < vln w (vct w x0 9) then if vkd w x0 = 22 then vclr (vrun n) d 117 290 82 7 1 [(2, x0), (0, x1), (0, x2), (0, x3), (0, x4), (9, 0), (9, 0), (9, 0)] [(0, vct w (vct w x0 9) x2), (1, vct w (vct w x0 7) x2), (0, vct w (vct w x0 8) x2), (0, x4), (0, vct w (vct w x0 8) x1), (1, vct w (vct w x0 6) x1), (2, x0), (2, x0)] w else none else none else none else none else none else none else none else none else none else none else none) (fun _ => rfl)).trans (EX_if.trans (and_congr Iff.rfl (EX_if.trans (and_congr Iff.rfl (EX_if.trans (and_congr Iff.rfl (EX_if.trans (and_congr Iff.rfl (EX_if.trans (and_congr Iff.rfl (EX_if.trans (and_congr Iff.rfl (EX_if.trans (and_congr Iff.rfl (EX_if.trans (and_congr Iff.rfl (EX_if.trans (and_congr Iff.rfl (EX_if.trans (and_congr Iff.rfl (EX_if.trans (and_congr Iff.rfl (EX_call rfl)))))))))))))))))))))))
set_option maxRecDepth 100000 in
theorem b117_290 {d : Nat} {w : vW} {x0 x1 x2 x3 x4 y0 y1 : Int} {Q : Int → vW → Prop} : VW d 117 290 [(2, x0), (0, x1), (0, x2), (0, x3), (0, x4), (9, 0), (9, 0), (9, 0)] [(1, y1), (2, y0)] w Q ↔ (vkd w y0 = 22) ∧ VW d 117 293 [(2, x0), (0, x1), (0, x2), (0, x3), (0, x4), (9, 0), (9, 0), (9, 0)] [] (vsv w y0 45 y1) Q :=
  (VW_b 1 (F := fun n => if vkd w y0 = 22 then vrun n d 117 293 [(2, x0), (0, x1), (0, x2), (0, x3), (0, x4), (9, 0), (9, 0), (9, 0)] [] (vsv w y0 45 y1) else none) (fun _ => rfl)).trans (EX_if.trans (and_congr Iff.rfl (Iff.rfl)))
set_option maxRecDepth 100000 in
theorem b117_293 {d : Nat} {w : vW} {x0 x1 x2 x3 x4 : Int} {Q : Int → vW → Prop} : VW d 117 293 [(2, x0), (0, x1), (0, x2), (0, x3), (0, x4), (9, 0), (9, 0), (9, 0)] [] w Q ↔ Q 1 w :=
  (VW_b 2 (F := fun n => some (0, 1, w)) (fun _ => rfl)).trans (EX_ret0)
/-! 118: StrikeWhatCancelsModel.nextLap(I)Z -/
set_option maxRecDepth 100000 in
theorem b118_0 {d : Nat} {w : vW} {x0 x1 : Int} {Q : Int → vW → Prop} : VW d 118 0 [(2, x0), (0, x1)] [] w Q ↔ (vkd w x0 = 22) ∧ (((vct w x0 40) < x1 → VW d 118 8 [(2, x0), (0, x1)] [] w Q) ∧ (¬ ((vct w x0 40) < x1) → VW d 118 106 [(2, x0), (0, x1)] [] w Q)) :=
  (VW_b 4 (F := fun n => if vkd w x0 = 22 then (if (vct w x0 40) < x1 then vrun n d 118 8 [(2, x0), (0, x1)] [] w else vrun n d 118 106 [(2, x0), (0, x1)] [] w) else none) (fun _ => rfl)).trans (EX_if.trans (and_congr Iff.rfl (EX_br.trans (and_congr (imp_congr Iff.rfl Iff.rfl) (imp_congr Iff.rfl Iff.rfl)))))
set_option maxRecDepth 100000 in
theorem b118_8 {d : Nat} {w : vW} {x0 x1 : Int} {Q : Int → vW → Prop} : VW d 118 8 [(2, x0), (0, x1)] [] w Q ↔ (vkd w x0 = 22) ∧ (vkd w x0 = 22) ∧ VW d 118 18 [(2, x0), (0, x1)] [] (vsv w x0 42 (w32 ((vct w x0 42) + 1))) Q :=
  (VW_b 6 (F := fun n => if vkd w x0 = 22 then if vkd w x0 = 22 then vrun n d 118 18 [(2, x0), (0, x1)] [] (vsv w x0 42 (w32 ((vct w x0 42) + 1))) else none else none) (fun _ => rfl)).trans (EX_if.trans (and_congr Iff.rfl (EX_if.trans (and_congr Iff.rfl (Iff.rfl)))))
set_option maxRecDepth 100000 in
theorem b118_18 {d : Nat} {w : vW} {x0 x1 : Int} {Q : Int → vW → Prop} : VW d 118 18 [(2, x0), (0, x1)] [] w Q ↔ (vkd w x0 = 22) ∧ ((15 < (vct w x0 42) → VW d 118 27 [(2, x0), (0, x1)] [] w Q) ∧ (¬ (15 < (vct w x0 42)) → VW d 118 42 [(2, x0), (0, x1)] [] w Q)) :=
  (VW_b 4 (F := fun n => if vkd w x0 = 22 then (if 15 < (vct w x0 42) then vrun n d 118 27 [(2, x0), (0, x1)] [] w else vrun n d 118 42 [(2, x0), (0, x1)] [] w) else none) (fun _ => rfl)).trans (EX_if.trans (and_congr Iff.rfl (EX_br.trans (and_congr (imp_congr Iff.rfl Iff.rfl) (imp_congr Iff.rfl Iff.rfl)))))
set_option maxRecDepth 100000 in
theorem b118_27 {d : Nat} {w : vW} {x0 x1 : Int} {Q : Int → vW → Prop} : VW d 118 27 [(2, x0), (0, x1)] [] w Q ↔ (vkd w x0 = 22) ∧ VW d 118 32 [(2, x0), (0, x1)] [] (vsv w x0 42 0) Q :=
  (VW_b 3 (F := fun n => if vkd w x0 = 22 then vrun n d 118 32 [(2, x0), (0, x1)] [] (vsv w x0 42 0) else none) (fun _ => rfl)).trans (EX_if.trans (and_congr Iff.rfl (Iff.rfl)))
set_option maxRecDepth 100000 in
theorem b118_32 {d : Nat} {w : vW} {x0 x1 : Int} {Q : Int → vW → Prop} : VW d 118 32 [(2, x0), (0, x1)] [] w Q ↔ (vkd w x0 = 22) ∧ (vkd w x0 = 22) ∧ VW d 118 42 [(2, x0), (0, x1)] [] (vsv w x0 41 (w32 ((vct w x0 41) + 1))) Q :=
  (VW_b 6 (F := fun n => if vkd w x0 = 22 then if vkd w x0 = 22 then vrun n d 118 42 [(2, x0), (0, x1)] [] (vsv w x0 41 (w32 ((vct w x0 41) + 1))) else none else none) (fun _ => rfl)).trans (EX_if.trans (and_congr Iff.rfl (EX_if.trans (and_congr Iff.rfl (Iff.rfl)))))
set_option maxRecDepth 100000 in
theorem b118_42 {d : Nat} {w : vW} {x0 x1 : Int} {Q : Int → vW → Prop} : VW d 118 42 [(2, x0), (0, x1)] [] w Q ↔ (vkd w x0 = 22) ∧ (((vct w x0 41) < x1 → VW d 118 70 [(2, x0), (0, x1)] [] w Q) ∧ (¬ ((vct w x0 41) < x1) → VW d 118 50 [(2, x0), (0, x1)] [] w Q)) :=
  (VW_b 4 (F := fun n => if vkd w x0 = 22 then (if (vct w x0 41) < x1 then vrun n d 118 70 [(2, x0), (0, x1)] [] w else vrun n d 118 50 [(2, x0), (0, x1)] [] w) else none) (fun _ => rfl)).trans (EX_if.trans (and_congr Iff.rfl (EX_br.trans (and_congr (imp_congr Iff.rfl Iff.rfl) (imp_congr Iff.rfl Iff.rfl)))))
set_option maxRecDepth 100000 in
theorem b118_50 {d : Nat} {w : vW} {x0 x1 : Int} {Q : Int → vW → Prop} : VW d 118 50 [(2, x0), (0, x1)] [] w Q ↔ (vkd w x0 = 22) ∧ VW d 118 55 [(2, x0), (0, x1)] [] (vsv w x0 41 0) Q :=
  (VW_b 3 (F := fun n => if vkd w x0 = 22 then vrun n d 118 55 [(2, x0), (0, x1)] [] (vsv w x0 41 0) else none) (fun _ => rfl)).trans (EX_if.trans (and_congr Iff.rfl (Iff.rfl)))
set_option maxRecDepth 100000 in
theorem b118_55 {d : Nat} {w : vW} {x0 x1 : Int} {Q : Int → vW → Prop} : VW d 118 55 [(2, x0), (0, x1)] [] w Q ↔ (vkd w x0 = 22) ∧ VW d 118 60 [(2, x0), (0, x1)] [] (vsv w x0 42 0) Q :=
  (VW_b 3 (F := fun n => if vkd w x0 = 22 then vrun n d 118 60 [(2, x0), (0, x1)] [] (vsv w x0 42 0) else none) (fun _ => rfl)).trans (EX_if.trans (and_congr Iff.rfl (Iff.rfl)))
set_option maxRecDepth 100000 in
theorem b118_60 {d : Nat} {w : vW} {x0 x1 : Int} {Q : Int → vW → Prop} : VW d 118 60 [(2, x0), (0, x1)] [] w Q ↔ (vkd w x0 = 22) ∧ (vkd w x0 = 22) ∧ VW d 118 70 [(2, x0), (0, x1)] [] (vsv w x0 40 (w32 ((vct w x0 40) + 1))) Q :=
  (VW_b 6 (F := fun n => if vkd w x0 = 22 then if vkd w x0 = 22 then vrun n d 118 70 [(2, x0), (0, x1)] [] (vsv w x0 40 (w32 ((vct w x0 40) + 1))) else none else none) (fun _ => rfl)).trans (EX_if.trans (and_congr Iff.rfl (EX_if.trans (and_congr Iff.rfl (Iff.rfl)))))
set_option maxRecDepth 100000 in
theorem b118_70 {d : Nat} {w : vW} {x0 x1 : Int} {Q : Int → vW → Prop} : VW d 118 70 [(2, x0), (0, x1)] [] w Q ↔ (vkd w x0 = 22) ∧ (((vct w x0 40) < x1 → VW d 118 78 [(2, x0), (0, x1)] [] w Q) ∧ (¬ ((vct w x0 40) < x1) → VW d 118 0 [(2, x0), (0, x1)] [] w Q)) :=
  (VW_b 4 (F := fun n => if vkd w x0 = 22 then (if (vct w x0 40) < x1 then vrun n d 118 78 [(2, x0), (0, x1)] [] w else vrun n d 118 0 [(2, x0), (0, x1)] [] w) else none) (fun _ => rfl)).trans (EX_if.trans (and_congr Iff.rfl (EX_br.trans (and_congr (imp_congr Iff.rfl Iff.rfl) (imp_congr Iff.rfl Iff.rfl)))))
set_option maxRecDepth 100000 in
theorem b118_78 {d : Nat} {w : vW} {x0 x1 : Int} {Q : Int → vW → Prop} : VW d 118 78 [(2, x0), (0, x1)] [] w Q ↔ (vkd w x0 = 22) ∧ ((0 < (vct w x0 42) → VW d 118 85 [(2, x0), (0, x1)] [] w Q) ∧ (¬ (0 < (vct w x0 42)) → VW d 118 0 [(2, x0), (0, x1)] [] w Q)) :=
  (VW_b 3 (F := fun n => if vkd w x0 = 22 then (if 0 < (vct w x0 42) then vrun n d 118 85 [(2, x0), (0, x1)] [] w else vrun n d 118 0 [(2, x0), (0, x1)] [] w) else none) (fun _ => rfl)).trans (EX_if.trans (and_congr Iff.rfl (EX_br.trans (and_congr (imp_congr Iff.rfl Iff.rfl) (imp_congr Iff.rfl Iff.rfl)))))
set_option maxRecDepth 100000 in
theorem b118_85 {d : Nat} {w : vW} {x0 x1 : Int} {Q : Int → vW → Prop} : VW d 118 85 [(2, x0), (0, x1)] [] w Q ↔ (vkd w x0 = 22) ∧ (vkd w x0 = 22) ∧ (vkd w x0 = 22) ∧ (vkd w x0 = 22) ∧ VC d 117 [(2, x0), (0, vct w x0 40), (0, vct w x0 41), (0, vct w x0 42)] w (fun r w1 => VW d 118 101 [(2, x0), (0, x1)] [(0, r)] w1 Q) :=
  (VW_b 8 (F := fun n => if vkd w x0 = 22 then if vkd w x0 = 22 then if vkd w x0 = 22 then if vkd w x0 = 22 then vclr (vrun n) d 118 101 117 4 0 [(2, x0), (0, x1)] [(0, vct w x0 42), (0, vct w x0 41), (0, vct w x0 40), (2, x0)] w else none else none else none else none) (fun _ => rfl)).trans (EX_if.trans (and_congr Iff.rfl (EX_if.trans (and_congr Iff.rfl (EX_if.trans (and_congr Iff.rfl (EX_if.trans (and_congr Iff.rfl (EX_call rfl)))))))))
set_option maxRecDepth 100000 in
theorem b118_101 {d : Nat} {w : vW} {x0 x1 y0 : Int} {Q : Int → vW → Prop} : VW d 118 101 [(2, x0), (0, x1)] [(0, y0)] w Q ↔ ((y0 = 0 → VW d 118 0 [(2, x0), (0, x1)] [] w Q) ∧ (¬ (y0 = 0) → VW d 118 104 [(2, x0), (0, x1)] [] w Q)) :=
  (VW_b 1 (F := fun n => (if y0 = 0 then vrun n d 118 0 [(2, x0), (0, x1)] [] w else vrun n d 118 104 [(2, x0), (0, x1)] [] w)) (fun _ => rfl)).trans (EX_br.trans (and_congr (imp_congr Iff.rfl Iff.rfl) (imp_congr Iff.rfl Iff.rfl)))
set_option maxRecDepth 100000 in
theorem b118_104 {d : Nat} {w : vW} {x0 x1 : Int} {Q : Int → vW → Prop} : VW d 118 104 [(2, x0), (0, x1)] [] w Q ↔ Q 1 w :=
  (VW_b 2 (F := fun n => some (0, 1, w)) (fun _ => rfl)).trans (EX_ret0)
set_option maxRecDepth 100000 in
theorem b118_106 {d : Nat} {w : vW} {x0 x1 : Int} {Q : Int → vW → Prop} : VW d 118 106 [(2, x0), (0, x1)] [] w Q ↔ Q 0 w :=
  (VW_b 2 (F := fun n => some (0, 0, w)) (fun _ => rfl)).trans (EX_ret0)
/-! 119: StrikeWhatCancelsModel.overlaps()I -/
set_option maxRecDepth 100000 in
theorem b119_0 {d : Nat} {w : vW} {x0 : Int} {Q : Int → vW → Prop} : VW d 119 0 [(2, x0), (9, 0), (9, 0), (9, 0), (9, 0)] [] w Q ↔ (vkd w x0 = 22) ∧ VW d 119 5 [(2, x0), (9, 0), (9, 0), (9, 0), (9, 0)] [] (vsv w x0 0 0) Q :=
  (VW_b 3 (F := fun n => if vkd w x0 = 22 then vrun n d 119 5 [(2, x0), (9, 0), (9, 0), (9, 0), (9, 0)] [] (vsv w x0 0 0) else none) (fun _ => rfl)).trans (EX_if.trans (and_congr Iff.rfl (Iff.rfl)))
set_option maxRecDepth 100000 in
theorem b119_5 {d : Nat} {w : vW} {x0 : Int} {Q : Int → vW → Prop} : VW d 119 5 [(2, x0), (9, 0), (9, 0), (9, 0), (9, 0)] [] w Q ↔ (vkd w x0 = 22) ∧ VC d 116 [(2, x0)] w (fun _ w1 => VW d 119 15 [(2, x0), (0, 0), (0, 0), (0, (-1)), (9, 0)] [] w1 Q) :=
  (VW_b 8 (F := fun n => if vkd w x0 = 22 then vclr (vrun n) d 119 15 116 1 9 [(2, x0), (0, 0), (0, 0), (0, (-1)), (9, 0)] [(2, x0)] w else none) (fun _ => rfl)).trans (EX_if.trans (and_congr Iff.rfl (EX_call rfl)))
set_option maxRecDepth 100000 in
theorem b119_15 {d : Nat} {w : vW} {x0 x1 x2 x3 : Int} {v4 : vV} {Q : Int → vW → Prop} : VW d 119 15 [(2, x0), (0, x1), (0, x2), (0, x3), v4] [] w Q ↔ (vkd w x0 = 22) ∧ (vkd w x0 = 22) ∧ VC d 118 [(2, x0), (0, vct w x0 4)] w (fun r w1 => VW d 119 23 [(2, x0), (0, x1), (0, x2), (0, x3), v4] [(0, r)] w1 Q) :=
  (VW_b 4 (F := fun n => if vkd w x0 = 22 then if vkd w x0 = 22 then vclr (vrun n) d 119 23 118 2 0 [(2, x0), (0, x1), (0, x2), (0, x3), v4] [(0, vct w x0 4), (2, x0)] w else none else none) (fun _ => rfl)).trans (EX_if.trans (and_congr Iff.rfl (EX_if.trans (and_congr Iff.rfl (EX_call rfl)))))
set_option maxRecDepth 100000 in
theorem b119_23 {d : Nat} {w : vW} {x0 x1 x2 x3 y0 : Int} {v4 : vV} {Q : Int → vW → Prop} : VW d 119 23 [(2, x0), (0, x1), (0, x2), (0, x3), v4] [(0, y0)] w Q ↔ ((y0 = 0 → VW d 119 76 [(2, x0), (0, x1), (0, x2), (0, x3), v4] [] w Q) ∧ (¬ (y0 = 0) → VW d 119 26 [(2, x0), (0, x1), (0, x2), (0, x3), v4] [] w Q)) :=
  (VW_b 1 (F := fun n => (if y0 = 0 then vrun n d 119 76 [(2, x0), (0, x1), (0, x2), (0, x3), v4] [] w else vrun n d 119 26 [(2, x0), (0, x1), (0, x2), (0, x3), v4] [] w)) (fun _ => rfl)).trans (EX_br.trans (and_congr (imp_congr Iff.rfl Iff.rfl) (imp_congr Iff.rfl Iff.rfl)))
set_option maxRecDepth 100000 in
theorem b119_26 {d : Nat} {w : vW} {x0 x1 x2 x3 : Int} {v4 : vV} {Q : Int → vW → Prop} : VW d 119 26 [(2, x0), (0, x1), (0, x2), (0, x3), v4] [] w Q ↔ (vkd w x0 = 22) ∧ (vkd w x0 = 22) ∧ (vkd w x0 = 22) ∧ VC d 114 [(2, x0), (1, vct w x0 44), (1, vct w x0 45)] w (fun r w1 => VW d 119 38 [(2, x0), (0, x1), (0, x2), (0, x3), v4] [(0, r)] w1 Q) :=
  (VW_b 6 (F := fun n => if vkd w x0 = 22 then if vkd w x0 = 22 then if vkd w x0 = 22 then vclr (vrun n) d 119 38 114 3 0 [(2, x0), (0, x1), (0, x2), (0, x3), v4] [(1, vct w x0 45), (1, vct w x0 44), (2, x0)] w else none else none else none) (fun _ => rfl)).trans (EX_if.trans (and_congr Iff.rfl (EX_if.trans (and_congr Iff.rfl (EX_if.trans (and_congr Iff.rfl (EX_call rfl)))))))
set_option maxRecDepth 100000 in
theorem b119_38 {d : Nat} {w : vW} {x0 x1 x2 x3 y0 : Int} {v4 : vV} {Q : Int → vW → Prop} : VW d 119 38 [(2, x0), (0, x1), (0, x2), (0, x3), v4] [(0, y0)] w Q ↔ ((y0 < 0 → VW d 119 45 [(2, x0), (0, x1), (0, x2), (0, x3), (0, y0)] [] w Q) ∧ (¬ (y0 < 0) → VW d 119 48 [(2, x0), (0, x1), (0, x2), (0, x3), (0, y0)] [] w Q)) :=
  (VW_b 3 (F := fun n => (if y0 < 0 then vrun n d 119 45 [(2, x0), (0, x1), (0, x2), (0, x3), (0, y0)] [] w else vrun n d 119 48 [(2, x0), (0, x1), (0, x2), (0, x3), (0, y0)] [] w)) (fun _ => rfl)).trans (EX_br.trans (and_congr (imp_congr Iff.rfl Iff.rfl) (imp_congr Iff.rfl Iff.rfl)))
set_option maxRecDepth 100000 in
theorem b119_45 {d : Nat} {w : vW} {x0 x1 x2 x3 x4 : Int} {Q : Int → vW → Prop} : VW d 119 45 [(2, x0), (0, x1), (0, x2), (0, x3), (0, x4)] [] w Q ↔ Q (-3) w :=
  (VW_b 2 (F := fun n => some (0, (-3), w)) (fun _ => rfl)).trans (EX_ret0)
set_option maxRecDepth 100000 in
theorem b119_48 {d : Nat} {w : vW} {x0 x1 x2 x3 x4 : Int} {Q : Int → vW → Prop} : VW d 119 48 [(2, x0), (0, x1), (0, x2), (0, x3), (0, x4)] [] w Q ↔ ((x4 = 0 → VW d 119 53 [(2, x0), (0, x1), (0, x2), (0, x3), (0, x4)] [] w Q) ∧ (¬ (x4 = 0) → VW d 119 61 [(2, x0), (0, x1), (0, x2), (0, x3), (0, x4)] [] w Q)) :=
  (VW_b 2 (F := fun n => (if x4 = 0 then vrun n d 119 53 [(2, x0), (0, x1), (0, x2), (0, x3), (0, x4)] [] w else vrun n d 119 61 [(2, x0), (0, x1), (0, x2), (0, x3), (0, x4)] [] w)) (fun _ => rfl)).trans (EX_br.trans (and_congr (imp_congr Iff.rfl Iff.rfl) (imp_congr Iff.rfl Iff.rfl)))
set_option maxRecDepth 100000 in
theorem b119_53 {d : Nat} {w : vW} {x0 x1 x2 x3 x4 : Int} {Q : Int → vW → Prop} : VW d 119 53 [(2, x0), (0, x1), (0, x2), (0, x3), (0, x4)] [] w Q ↔ ((x2 = 0 → VW d 119 57 [(2, x0), (0, x1), (0, x2), (0, x3), (0, x4)] [] w Q) ∧ (¬ (x2 = 0) → VW d 119 61 [(2, x0), (0, x1), (0, x2), (0, x3), (0, x4)] [] w Q)) :=
  (VW_b 2 (F := fun n => (if x2 = 0 then vrun n d 119 57 [(2, x0), (0, x1), (0, x2), (0, x3), (0, x4)] [] w else vrun n d 119 61 [(2, x0), (0, x1), (0, x2), (0, x3), (0, x4)] [] w)) (fun _ => rfl)).trans (EX_br.trans (and_congr (imp_congr Iff.rfl Iff.rfl) (imp_congr Iff.rfl Iff.rfl)))
set_option maxRecDepth 100000 in
theorem b119_57 {d : Nat} {w : vW} {x0 x1 x2 x3 x4 : Int} {Q : Int → vW → Prop} : VW d 119 57 [(2, x0), (0, x1), (0, x2), (0, x3), (0, x4)] [] w Q ↔ VW d 119 62 [(2, x0), (0, x1), (0, x2), (0, x3), (0, x4)] [(0, x1)] w Q :=
  (VW_b 2 (F := fun n => vrun n d 119 62 [(2, x0), (0, x1), (0, x2), (0, x3), (0, x4)] [(0, x1)] w) (fun _ => rfl)).trans (Iff.rfl)
set_option maxRecDepth 100000 in
theorem b119_61 {d : Nat} {w : vW} {x0 x1 x2 x3 x4 : Int} {Q : Int → vW → Prop} : VW d 119 61 [(2, x0), (0, x1), (0, x2), (0, x3), (0, x4)] [] w Q ↔ VW d 119 62 [(2, x0), (0, x1), (0, x2), (0, x3), (0, x4)] [(0, x3)] w Q :=
  (VW_b 1 (F := fun n => vrun n d 119 62 [(2, x0), (0, x1), (0, x2), (0, x3), (0, x4)] [(0, x3)] w) (fun _ => rfl)).trans (Iff.rfl)
set_option maxRecDepth 100000 in
theorem b119_62 {d : Nat} {w : vW} {x0 x1 x2 x3 x4 y0 : Int} {Q : Int → vW → Prop} : VW d 119 62 [(2, x0), (0, x1), (0, x2), (0, x3), (0, x4)] [(0, y0)] w Q ↔ VW d 119 15 [(2, x0), (0, w32 (x1 + 1)), (0, w32 (x2 + (w32 (1 - x4)))), (0, y0), (0, x4)] [] w Q :=
  (VW_b 9 (F := fun n => vrun n d 119 15 [(2, x0), (0, w32 (x1 + 1)), (0, w32 (x2 + (w32 (1 - x4)))), (0, y0), (0, x4)] [] w) (fun _ => rfl)).trans (Iff.rfl)
set_option maxRecDepth 100000 in
theorem b119_76 {d : Nat} {w : vW} {x0 x1 x2 x3 : Int} {v4 : vV} {Q : Int → vW → Prop} : VW d 119 76 [(2, x0), (0, x1), (0, x2), (0, x3), v4] [] w Q ↔ (vkd w x0 = 22) ∧ VW d 119 81 [(2, x0), (0, x1), (0, x2), (0, x3), v4] [] (vsv w x0 1 0) Q :=
  (VW_b 3 (F := fun n => if vkd w x0 = 22 then vrun n d 119 81 [(2, x0), (0, x1), (0, x2), (0, x3), v4] [] (vsv w x0 1 0) else none) (fun _ => rfl)).trans (EX_if.trans (and_congr Iff.rfl (Iff.rfl)))
set_option maxRecDepth 100000 in
theorem b119_81 {d : Nat} {w : vW} {x0 x1 x2 x3 : Int} {v4 : vV} {Q : Int → vW → Prop} : VW d 119 81 [(2, x0), (0, x1), (0, x2), (0, x3), v4] [] w Q ↔ (vkd w x0 = 22) ∧ VC d 58 [(2, x0), (1, x2)] w (fun _ w1 => VW d 119 87 [(2, x0), (0, x1), (0, x2), (0, x3), v4] [] w1 Q) :=
  (VW_b 4 (F := fun n => if vkd w x0 = 22 then vclr (vrun n) d 119 87 58 2 9 [(2, x0), (0, x1), (0, x2), (0, x3), v4] [(1, x2), (2, x0)] w else none) (fun _ => rfl)).trans (EX_if.trans (and_congr Iff.rfl (EX_call rfl)))
set_option maxRecDepth 100000 in
theorem b119_87 {d : Nat} {w : vW} {x0 x1 x2 x3 : Int} {v4 : vV} {Q : Int → vW → Prop} : VW d 119 87 [(2, x0), (0, x1), (0, x2), (0, x3), v4] [] w Q ↔ (vkd w x0 = 22) ∧ VC d 58 [(2, x0), (1, x3)] w (fun _ w1 => VW d 119 93 [(2, x0), (0, x1), (0, x2), (0, x3), v4] [] w1 Q) :=
  (VW_b 4 (F := fun n => if vkd w x0 = 22 then vclr (vrun n) d 119 93 58 2 9 [(2, x0), (0, x1), (0, x2), (0, x3), v4] [(1, x3), (2, x0)] w else none) (fun _ => rfl)).trans (EX_if.trans (and_congr Iff.rfl (EX_call rfl)))
set_option maxRecDepth 100000 in
theorem b119_93 {d : Nat} {w : vW} {x0 x1 x2 x3 : Int} {v4 : vV} {Q : Int → vW → Prop} : VW d 119 93 [(2, x0), (0, x1), (0, x2), (0, x3), v4] [] w Q ↔ Q x1 w :=
  (VW_b 2 (F := fun n => some (0, x1, w)) (fun _ => rfl)).trans (EX_ret0)
/-! 120: StrikeWhatCancelsModel.overlap(I)I -/
set_option maxRecDepth 100000 in
theorem b120_0 {d : Nat} {w : vW} {x0 x1 : Int} {Q : Int → vW → Prop} : VW d 120 0 [(2, x0), (0, x1), (9, 0), (9, 0)] [] w Q ↔ (vkd w x0 = 22) ∧ VW d 120 5 [(2, x0), (0, x1), (9, 0), (9, 0)] [] (vsv w x0 0 0) Q :=
  (VW_b 3 (F := fun n => if vkd w x0 = 22 then vrun n d 120 5 [(2, x0), (0, x1), (9, 0), (9, 0)] [] (vsv w x0 0 0) else none) (fun _ => rfl)).trans (EX_if.trans (and_congr Iff.rfl (Iff.rfl)))
set_option maxRecDepth 100000 in
theorem b120_5 {d : Nat} {w : vW} {x0 x1 : Int} {Q : Int → vW → Prop} : VW d 120 5 [(2, x0), (0, x1), (9, 0), (9, 0)] [] w Q ↔ ((x1 < 0 → VW d 120 9 [(2, x0), (0, x1), (9, 0), (9, 0)] [] w Q) ∧ (¬ (x1 < 0) → VW d 120 11 [(2, x0), (0, x1), (9, 0), (9, 0)] [] w Q)) :=
  (VW_b 2 (F := fun n => (if x1 < 0 then vrun n d 120 9 [(2, x0), (0, x1), (9, 0), (9, 0)] [] w else vrun n d 120 11 [(2, x0), (0, x1), (9, 0), (9, 0)] [] w)) (fun _ => rfl)).trans (EX_br.trans (and_congr (imp_congr Iff.rfl Iff.rfl) (imp_congr Iff.rfl Iff.rfl)))
set_option maxRecDepth 100000 in
theorem b120_9 {d : Nat} {w : vW} {x0 x1 : Int} {Q : Int → vW → Prop} : VW d 120 9 [(2, x0), (0, x1), (9, 0), (9, 0)] [] w Q ↔ Q (-1) w :=
  (VW_b 2 (F := fun n => some (0, (-1), w)) (fun _ => rfl)).trans (EX_ret0)
set_option maxRecDepth 100000 in
theorem b120_11 {d : Nat} {w : vW} {x0 x1 : Int} {Q : Int → vW → Prop} : VW d 120 11 [(2, x0), (0, x1), (9, 0), (9, 0)] [] w Q ↔ (vkd w x0 = 22) ∧ VC d 116 [(2, x0)] w (fun _ w1 => VW d 120 15 [(2, x0), (0, x1), (9, 0), (9, 0)] [] w1 Q) :=
  (VW_b 2 (F := fun n => if vkd w x0 = 22 then vclr (vrun n) d 120 15 116 1 9 [(2, x0), (0, x1), (9, 0), (9, 0)] [(2, x0)] w else none) (fun _ => rfl)).trans (EX_if.trans (and_congr Iff.rfl (EX_call rfl)))
set_option maxRecDepth 100000 in
theorem b120_15 {d : Nat} {w : vW} {x0 x1 : Int} {Q : Int → vW → Prop} : VW d 120 15 [(2, x0), (0, x1), (9, 0), (9, 0)] [] w Q ↔ VW d 120 19 [(2, x0), (0, x1), (0, 1), (0, 0)] [] w Q :=
  (VW_b 4 (F := fun n => vrun n d 120 19 [(2, x0), (0, x1), (0, 1), (0, 0)] [] w) (fun _ => rfl)).trans (Iff.rfl)
set_option maxRecDepth 100000 in
theorem b120_19 {d : Nat} {w : vW} {x0 x1 x2 x3 : Int} {Q : Int → vW → Prop} : VW d 120 19 [(2, x0), (0, x1), (0, x2), (0, x3)] [] w Q ↔ ((x1 < x3 → VW d 120 43 [(2, x0), (0, x1), (0, x2), (0, x3)] [] w Q) ∧ (¬ (x1 < x3) → VW d 120 24 [(2, x0), (0, x1), (0, x2), (0, x3)] [] w Q)) :=
  (VW_b 3 (F := fun n => (if x1 < x3 then vrun n d 120 43 [(2, x0), (0, x1), (0, x2), (0, x3)] [] w else vrun n d 120 24 [(2, x0), (0, x1), (0, x2), (0, x3)] [] w)) (fun _ => rfl)).trans (EX_br.trans (and_congr (imp_congr Iff.rfl Iff.rfl) (imp_congr Iff.rfl Iff.rfl)))
set_option maxRecDepth 100000 in
theorem b120_24 {d : Nat} {w : vW} {x0 x1 x2 x3 : Int} {Q : Int → vW → Prop} : VW d 120 24 [(2, x0), (0, x1), (0, x2), (0, x3)] [] w Q ↔ ((x2 = 0 → VW d 120 43 [(2, x0), (0, x1), (0, x2), (0, x3)] [] w Q) ∧ (¬ (x2 = 0) → VW d 120 28 [(2, x0), (0, x1), (0, x2), (0, x3)] [] w Q)) :=
  (VW_b 2 (F := fun n => (if x2 = 0 then vrun n d 120 43 [(2, x0), (0, x1), (0, x2), (0, x3)] [] w else vrun n d 120 28 [(2, x0), (0, x1), (0, x2), (0, x3)] [] w)) (fun _ => rfl)).trans (EX_br.trans (and_congr (imp_congr Iff.rfl Iff.rfl) (imp_congr Iff.rfl Iff.rfl)))
set_option maxRecDepth 100000 in
theorem b120_28 {d : Nat} {w : vW} {x0 x1 x2 x3 : Int} {Q : Int → vW → Prop} : VW d 120 28 [(2, x0), (0, x1), (0, x2), (0, x3)] [] w Q ↔ (vkd w x0 = 22) ∧ (vkd w x0 = 22) ∧ VC d 118 [(2, x0), (0, vct w x0 4)] w (fun r w1 => VW d 120 36 [(2, x0), (0, x1), (0, x2), (0, x3)] [(0, r)] w1 Q) :=
  (VW_b 4 (F := fun n => if vkd w x0 = 22 then if vkd w x0 = 22 then vclr (vrun n) d 120 36 118 2 0 [(2, x0), (0, x1), (0, x2), (0, x3)] [(0, vct w x0 4), (2, x0)] w else none else none) (fun _ => rfl)).trans (EX_if.trans (and_congr Iff.rfl (EX_if.trans (and_congr Iff.rfl (EX_call rfl)))))
set_option maxRecDepth 100000 in
theorem b120_36 {d : Nat} {w : vW} {x0 x1 x2 x3 y0 : Int} {Q : Int → vW → Prop} : VW d 120 36 [(2, x0), (0, x1), (0, x2), (0, x3)] [(0, y0)] w Q ↔ VW d 120 19 [(2, x0), (0, x1), (0, y0), (0, w32 (x3 + 1))] [] w Q :=
  (VW_b 3 (F := fun n => vrun n d 120 19 [(2, x0), (0, x1), (0, y0), (0, w32 (x3 + 1))] [] w) (fun _ => rfl)).trans (Iff.rfl)
set_option maxRecDepth 100000 in
theorem b120_43 {d : Nat} {w : vW} {x0 x1 x2 x3 : Int} {Q : Int → vW → Prop} : VW d 120 43 [(2, x0), (0, x1), (0, x2), (0, x3)] [] w Q ↔ ((x2 = 0 → VW d 120 47 [(2, x0), (0, x1), (0, x2), (0, x3)] [] w Q) ∧ (¬ (x2 = 0) → VW d 120 50 [(2, x0), (0, x1), (0, x2), (0, x3)] [] w Q)) :=
  (VW_b 2 (F := fun n => (if x2 = 0 then vrun n d 120 47 [(2, x0), (0, x1), (0, x2), (0, x3)] [] w else vrun n d 120 50 [(2, x0), (0, x1), (0, x2), (0, x3)] [] w)) (fun _ => rfl)).trans (EX_br.trans (and_congr (imp_congr Iff.rfl Iff.rfl) (imp_congr Iff.rfl Iff.rfl)))
set_option maxRecDepth 100000 in
theorem b120_47 {d : Nat} {w : vW} {x0 x1 x2 x3 : Int} {Q : Int → vW → Prop} : VW d 120 47 [(2, x0), (0, x1), (0, x2), (0, x3)] [] w Q ↔ Q (-2) w :=
  (VW_b 2 (F := fun n => some (0, (-2), w)) (fun _ => rfl)).trans (EX_ret0)
set_option maxRecDepth 100000 in
theorem b120_50 {d : Nat} {w : vW} {x0 x1 x2 x3 : Int} {Q : Int → vW → Prop} : VW d 120 50 [(2, x0), (0, x1), (0, x2), (0, x3)] [] w Q ↔ (vkd w x0 = 22) ∧ (vkd w x0 = 22) ∧ (vkd w x0 = 22) ∧ VC d 114 [(2, x0), (1, vct w x0 44), (1, vct w x0 45)] w (fun r w1 => VW d 120 62 [(2, x0), (0, x1), (0, x2), (0, x3)] [(0, r)] w1 Q) :=
  (VW_b 6 (F := fun n => if vkd w x0 = 22 then if vkd w x0 = 22 then if vkd w x0 = 22 then vclr (vrun n) d 120 62 114 3 0 [(2, x0), (0, x1), (0, x2), (0, x3)] [(1, vct w x0 45), (1, vct w x0 44), (2, x0)] w else none else none else none) (fun _ => rfl)).trans (EX_if.trans (and_congr Iff.rfl (EX_if.trans (and_congr Iff.rfl (EX_if.trans (and_congr Iff.rfl (EX_call rfl)))))))
set_option maxRecDepth 100000 in
theorem b120_62 {d : Nat} {w : vW} {x0 x1 x2 x3 y0 : Int} {Q : Int → vW → Prop} : VW d 120 62 [(2, x0), (0, x1), (0, x2), (0, x3)] [(0, y0)] w Q ↔ ((y0 < 0 → VW d 120 67 [(2, x0), (0, x1), (0, x2), (0, y0)] [] w Q) ∧ (¬ (y0 < 0) → VW d 120 70 [(2, x0), (0, x1), (0, x2), (0, y0)] [] w Q)) :=
  (VW_b 3 (F := fun n => (if y0 < 0 then vrun n d 120 67 [(2, x0), (0, x1), (0, x2), (0, y0)] [] w else vrun n d 120 70 [(2, x0), (0, x1), (0, x2), (0, y0)] [] w)) (fun _ => rfl)).trans (EX_br.trans (and_congr (imp_congr Iff.rfl Iff.rfl) (imp_congr Iff.rfl Iff.rfl)))
set_option maxRecDepth 100000 in
theorem b120_67 {d : Nat} {w : vW} {x0 x1 x2 x3 : Int} {Q : Int → vW → Prop} : VW d 120 67 [(2, x0), (0, x1), (0, x2), (0, x3)] [] w Q ↔ Q (-3) w :=
  (VW_b 2 (F := fun n => some (0, (-3), w)) (fun _ => rfl)).trans (EX_ret0)
set_option maxRecDepth 100000 in
theorem b120_70 {d : Nat} {w : vW} {x0 x1 x2 x3 : Int} {Q : Int → vW → Prop} : VW d 120 70 [(2, x0), (0, x1), (0, x2), (0, x3)] [] w Q ↔ (vkd w x0 = 22) ∧ VW d 120 75 [(2, x0), (0, x1), (0, x2), (0, x3)] [] (vsv w x0 1 0) Q :=
  (VW_b 3 (F := fun n => if vkd w x0 = 22 then vrun n d 120 75 [(2, x0), (0, x1), (0, x2), (0, x3)] [] (vsv w x0 1 0) else none) (fun _ => rfl)).trans (EX_if.trans (and_congr Iff.rfl (Iff.rfl)))
set_option maxRecDepth 100000 in
theorem b120_75 {d : Nat} {w : vW} {x0 x1 x2 x3 : Int} {Q : Int → vW → Prop} : VW d 120 75 [(2, x0), (0, x1), (0, x2), (0, x3)] [] w Q ↔ (vkd w x0 = 22) ∧ (vkd w x0 = 22) ∧ VC d 58 [(2, x0), (1, (vct w x0 40))] w (fun _ w1 => VW d 120 84 [(2, x0), (0, x1), (0, x2), (0, x3)] [] w1 Q) :=
  (VW_b 5 (F := fun n => if vkd w x0 = 22 then if vkd w x0 = 22 then vclr (vrun n) d 120 84 58 2 9 [(2, x0), (0, x1), (0, x2), (0, x3)] [(1, (vct w x0 40)), (2, x0)] w else none else none) (fun _ => rfl)).trans (EX_if.trans (and_congr Iff.rfl (EX_if.trans (and_congr Iff.rfl (EX_call rfl)))))
set_option maxRecDepth 100000 in
theorem b120_84 {d : Nat} {w : vW} {x0 x1 x2 x3 : Int} {Q : Int → vW → Prop} : VW d 120 84 [(2, x0), (0, x1), (0, x2), (0, x3)] [] w Q ↔ (vkd w x0 = 22) ∧ (vkd w x0 = 22) ∧ VC d 58 [(2, x0), (1, (vct w x0 41))] w (fun _ w1 => VW d 120 93 [(2, x0), (0, x1), (0, x2), (0, x3)] [] w1 Q) :=
  (VW_b 5 (F := fun n => if vkd w x0 = 22 then if vkd w x0 = 22 then vclr (vrun n) d 120 93 58 2 9 [(2, x0), (0, x1), (0, x2), (0, x3)] [(1, (vct w x0 41)), (2, x0)] w else none else none) (fun _ => rfl)).trans (EX_if.trans (and_congr Iff.rfl (EX_if.trans (and_congr Iff.rfl (EX_call rfl)))))
set_option maxRecDepth 100000 in
theorem b120_93 {d : Nat} {w : vW} {x0 x1 x2 x3 : Int} {Q : Int → vW → Prop} : VW d 120 93 [(2, x0), (0, x1), (0, x2), (0, x3)] [] w Q ↔ (vkd w x0 = 22) ∧ (vkd w x0 = 22) ∧ VC d 58 [(2, x0), (1, (vct w x0 42))] w (fun _ w1 => VW d 120 102 [(2, x0), (0, x1), (0, x2), (0, x3)] [] w1 Q) :=
  (VW_b 5 (F := fun n => if vkd w x0 = 22 then if vkd w x0 = 22 then vclr (vrun n) d 120 102 58 2 9 [(2, x0), (0, x1), (0, x2), (0, x3)] [(1, (vct w x0 42)), (2, x0)] w else none else none) (fun _ => rfl)).trans (EX_if.trans (and_congr Iff.rfl (EX_if.trans (and_congr Iff.rfl (EX_call rfl)))))
set_option maxRecDepth 100000 in
theorem b120_102 {d : Nat} {w : vW} {x0 x1 x2 x3 : Int} {Q : Int → vW → Prop} : VW d 120 102 [(2, x0), (0, x1), (0, x2), (0, x3)] [] w Q ↔ (vkd w x0 = 22) ∧ (vkd w x0 = 22) ∧ VC d 58 [(2, x0), (1, vct w x0 43)] w (fun _ w1 => VW d 120 110 [(2, x0), (0, x1), (0, x2), (0, x3)] [] w1 Q) :=
  (VW_b 4 (F := fun n => if vkd w x0 = 22 then if vkd w x0 = 22 then vclr (vrun n) d 120 110 58 2 9 [(2, x0), (0, x1), (0, x2), (0, x3)] [(1, vct w x0 43), (2, x0)] w else none else none) (fun _ => rfl)).trans (EX_if.trans (and_congr Iff.rfl (EX_if.trans (and_congr Iff.rfl (EX_call rfl)))))
set_option maxRecDepth 100000 in
theorem b120_110 {d : Nat} {w : vW} {x0 x1 x2 x3 : Int} {Q : Int → vW → Prop} : VW d 120 110 [(2, x0), (0, x1), (0, x2), (0, x3)] [] w Q ↔ (vkd w x0 = 22) ∧ (vkd w x0 = 22) ∧ VC d 58 [(2, x0), (1, vct w x0 44)] w (fun _ w1 => VW d 120 118 [(2, x0), (0, x1), (0, x2), (0, x3)] [] w1 Q) :=
  (VW_b 4 (F := fun n => if vkd w x0 = 22 then if vkd w x0 = 22 then vclr (vrun n) d 120 118 58 2 9 [(2, x0), (0, x1), (0, x2), (0, x3)] [(1, vct w x0 44), (2, x0)] w else none else none) (fun _ => rfl)).trans (EX_if.trans (and_congr Iff.rfl (EX_if.trans (and_congr Iff.rfl (EX_call rfl)))))
set_option maxRecDepth 100000 in
theorem b120_118 {d : Nat} {w : vW} {x0 x1 x2 x3 : Int} {Q : Int → vW → Prop} : VW d 120 118 [(2, x0), (0, x1), (0, x2), (0, x3)] [] w Q ↔ (vkd w x0 = 22) ∧ (vkd w x0 = 22) ∧ VC d 58 [(2, x0), (1, vct w x0 45)] w (fun _ w1 => VW d 120 126 [(2, x0), (0, x1), (0, x2), (0, x3)] [] w1 Q) :=
  (VW_b 4 (F := fun n => if vkd w x0 = 22 then if vkd w x0 = 22 then vclr (vrun n) d 120 126 58 2 9 [(2, x0), (0, x1), (0, x2), (0, x3)] [(1, vct w x0 45), (2, x0)] w else none else none) (fun _ => rfl)).trans (EX_if.trans (and_congr Iff.rfl (EX_if.trans (and_congr Iff.rfl (EX_call rfl)))))
set_option maxRecDepth 100000 in
theorem b120_126 {d : Nat} {w : vW} {x0 x1 x2 x3 : Int} {Q : Int → vW → Prop} : VW d 120 126 [(2, x0), (0, x1), (0, x2), (0, x3)] [] w Q ↔ Q x3 w :=
  (VW_b 2 (F := fun n => some (0, x3, w)) (fun _ => rfl)).trans (EX_ret0)
/-! 121: StrikeWhatCancelsModel.idle()I -/
set_option maxRecDepth 100000 in
theorem b121_0 {d : Nat} {w : vW} {x0 : Int} {Q : Int → vW → Prop} : VW d 121 0 [(2, x0), (9, 0), (9, 0), (9, 0)] [] w Q ↔ (vkd w x0 = 22) ∧ VW d 121 5 [(2, x0), (9, 0), (9, 0), (9, 0)] [] (vsv w x0 0 0) Q :=
  (VW_b 3 (F := fun n => if vkd w x0 = 22 then vrun n d 121 5 [(2, x0), (9, 0), (9, 0), (9, 0)] [] (vsv w x0 0 0) else none) (fun _ => rfl)).trans (EX_if.trans (and_congr Iff.rfl (Iff.rfl)))
set_option maxRecDepth 100000 in
theorem b121_5 {d : Nat} {w : vW} {x0 : Int} {Q : Int → vW → Prop} : VW d 121 5 [(2, x0), (9, 0), (9, 0), (9, 0)] [] w Q ↔ VW d 121 9 [(2, x0), (0, 0), (0, 0), (9, 0)] [] w Q :=
  (VW_b 4 (F := fun n => vrun n d 121 9 [(2, x0), (0, 0), (0, 0), (9, 0)] [] w) (fun _ => rfl)).trans (Iff.rfl)
set_option maxRecDepth 100000 in
theorem b121_9 {d : Nat} {w : vW} {x0 x1 x2 : Int} {v3 : vV} {Q : Int → vW → Prop} : VW d 121 9 [(2, x0), (0, x1), (0, x2), v3] [] w Q ↔ (vkd w x0 = 22) ∧ ((x2 < (vct w x0 4) → VW d 121 17 [(2, x0), (0, x1), (0, x2), v3] [] w Q) ∧ (¬ (x2 < (vct w x0 4)) → VW d 121 63 [(2, x0), (0, x1), (0, x2), v3] [] w Q)) :=
  (VW_b 4 (F := fun n => if vkd w x0 = 22 then (if x2 < (vct w x0 4) then vrun n d 121 17 [(2, x0), (0, x1), (0, x2), v3] [] w else vrun n d 121 63 [(2, x0), (0, x1), (0, x2), v3] [] w) else none) (fun _ => rfl)).trans (EX_if.trans (and_congr Iff.rfl (EX_br.trans (and_congr (imp_congr Iff.rfl Iff.rfl) (imp_congr Iff.rfl Iff.rfl)))))
set_option maxRecDepth 100000 in
theorem b121_17 {d : Nat} {w : vW} {x0 x1 x2 : Int} {v3 : vV} {Q : Int → vW → Prop} : VW d 121 17 [(2, x0), (0, x1), (0, x2), v3] [] w Q ↔ (vkd w x0 = 22) ∧ VW d 121 22 [(2, x0), (0, x1), (0, x2), v3] [] (vsv w x0 29 x2) Q :=
  (VW_b 3 (F := fun n => if vkd w x0 = 22 then vrun n d 121 22 [(2, x0), (0, x1), (0, x2), v3] [] (vsv w x0 29 x2) else none) (fun _ => rfl)).trans (EX_if.trans (and_congr Iff.rfl (Iff.rfl)))
set_option maxRecDepth 100000 in
theorem b121_22 {d : Nat} {w : vW} {x0 x1 x2 : Int} {v3 : vV} {Q : Int → vW → Prop} : VW d 121 22 [(2, x0), (0, x1), (0, x2), v3] [] w Q ↔ (vkd w x0 = 22) ∧ (vkd w (vct w x0 6) = 2 ∧ (0 : Int) ≤ x2 ∧ x2 < vln w (vct w x0 6)) ∧ (vkd w x0 = 22) ∧ (vkd w (vct w x0 7) = 2 ∧ (0 : Int) ≤ x2 ∧ x2 < vln w (vct w x0 7)) ∧ (vkd w x0 = 22) ∧ VC d 114 [(2, x0), (1, vct w (vct w x0 6) x2), (1, vct w (vct w x0 7) x2)] w (fun r w1 => VW d 121 38 [(2, x0), (0, x1), (0, x2), v3] [(0, r)] w1 Q) :=
  (VW_b 10 (F := fun n => if vkd w x0 = 22 then if vkd w (vct w x0 6) = 2 ∧ (0 : Int) ≤ x2 ∧ x2 < vln w (vct w x0 6) then if vkd w x0 = 22 then if vkd w (vct w x0 7) = 2 ∧ (0 : Int) ≤ x2 ∧ x2 < vln w (vct w x0 7) then if vkd w x0 = 22 then vclr (vrun n) d 121 38 114 3 0 [(2, x0), (0, x1), (0, x2), v3] [(1, vct w (vct w x0 7) x2), (1, vct w (vct w x0 6) x2), (2, x0)] w else none else none else none else none else none) (fun _ => rfl)).trans (EX_if.trans (and_congr Iff.rfl (EX_if.trans (and_congr Iff.rfl (EX_if.trans (and_congr Iff.rfl (EX_if.trans (and_congr Iff.rfl (EX_if.trans (and_congr Iff.rfl (EX_call rfl)))))))))))
set_option maxRecDepth 100000 in
theorem b121_38 {d : Nat} {w : vW} {x0 x1 x2 y0 : Int} {v3 : vV} {Q : Int → vW → Prop} : VW d 121 38 [(2, x0), (0, x1), (0, x2), v3] [(0, y0)] w Q ↔ (vkd w x0 = 22) ∧ VW d 121 44 [(2, x0), (0, x1), (0, x2), (0, y0)] [] (vsv w x0 29 (-1)) Q :=
  (VW_b 4 (F := fun n => if vkd w x0 = 22 then vrun n d 121 44 [(2, x0), (0, x1), (0, x2), (0, y0)] [] (vsv w x0 29 (-1)) else none) (fun _ => rfl)).trans (EX_if.trans (and_congr Iff.rfl (Iff.rfl)))
set_option maxRecDepth 100000 in
theorem b121_44 {d : Nat} {w : vW} {x0 x1 x2 x3 : Int} {Q : Int → vW → Prop} : VW d 121 44 [(2, x0), (0, x1), (0, x2), (0, x3)] [] w Q ↔ ((x3 < 0 → VW d 121 48 [(2, x0), (0, x1), (0, x2), (0, x3)] [] w Q) ∧ (¬ (x3 < 0) → VW d 121 51 [(2, x0), (0, x1), (0, x2), (0, x3)] [] w Q)) :=
  (VW_b 2 (F := fun n => (if x3 < 0 then vrun n d 121 48 [(2, x0), (0, x1), (0, x2), (0, x3)] [] w else vrun n d 121 51 [(2, x0), (0, x1), (0, x2), (0, x3)] [] w)) (fun _ => rfl)).trans (EX_br.trans (and_congr (imp_congr Iff.rfl Iff.rfl) (imp_congr Iff.rfl Iff.rfl)))
set_option maxRecDepth 100000 in
theorem b121_48 {d : Nat} {w : vW} {x0 x1 x2 x3 : Int} {Q : Int → vW → Prop} : VW d 121 48 [(2, x0), (0, x1), (0, x2), (0, x3)] [] w Q ↔ Q (-3) w :=
  (VW_b 2 (F := fun n => some (0, (-3), w)) (fun _ => rfl)).trans (EX_ret0)
set_option maxRecDepth 100000 in
theorem b121_51 {d : Nat} {w : vW} {x0 x1 x2 x3 : Int} {Q : Int → vW → Prop} : VW d 121 51 [(2, x0), (0, x1), (0, x2), (0, x3)] [] w Q ↔ VW d 121 57 [(2, x0), (0, i_or x1 (i_shl x3 x2)), (0, x2), (0, x3)] [] w Q :=
  (VW_b 6 (F := fun n => vrun n d 121 57 [(2, x0), (0, i_or x1 (i_shl x3 x2)), (0, x2), (0, x3)] [] w) (fun _ => rfl)).trans (Iff.rfl)
set_option maxRecDepth 100000 in
theorem b121_57 {d : Nat} {w : vW} {x0 x1 x2 x3 : Int} {Q : Int → vW → Prop} : VW d 121 57 [(2, x0), (0, x1), (0, x2), (0, x3)] [] w Q ↔ VW d 121 9 [(2, x0), (0, x1), (0, w32 (x2 + 1)), (0, x3)] [] w Q :=
  (VW_b 2 (F := fun n => vrun n d 121 9 [(2, x0), (0, x1), (0, w32 (x2 + 1)), (0, x3)] [] w) (fun _ => rfl)).trans (Iff.rfl)
set_option maxRecDepth 100000 in
theorem b121_63 {d : Nat} {w : vW} {x0 x1 x2 : Int} {v3 : vV} {Q : Int → vW → Prop} : VW d 121 63 [(2, x0), (0, x1), (0, x2), v3] [] w Q ↔ Q x1 w :=
  (VW_b 2 (F := fun n => some (0, x1, w)) (fun _ => rfl)).trans (EX_ret0)
/-! 122: StrikeWhatCancelsModel.lessens()I -/
set_option maxRecDepth 100000 in
theorem b122_0 {d : Nat} {w : vW} {x0 : Int} {Q : Int → vW → Prop} : VW d 122 0 [(2, x0), (9, 0), (9, 0), (9, 0), (9, 0)] [] w Q ↔ (vkd w x0 = 22) ∧ VW d 122 5 [(2, x0), (9, 0), (9, 0), (9, 0), (9, 0)] [] (vsv w x0 0 0) Q :=
  (VW_b 3 (F := fun n => if vkd w x0 = 22 then vrun n d 122 5 [(2, x0), (9, 0), (9, 0), (9, 0), (9, 0)] [] (vsv w x0 0 0) else none) (fun _ => rfl)).trans (EX_if.trans (and_congr Iff.rfl (Iff.rfl)))
set_option maxRecDepth 100000 in
theorem b122_5 {d : Nat} {w : vW} {x0 : Int} {Q : Int → vW → Prop} : VW d 122 5 [(2, x0), (9, 0), (9, 0), (9, 0), (9, 0)] [] w Q ↔ VW d 122 11 [(2, x0), (0, (-1)), (0, 0), (0, 0), (9, 0)] [] w Q :=
  (VW_b 6 (F := fun n => vrun n d 122 11 [(2, x0), (0, (-1)), (0, 0), (0, 0), (9, 0)] [] w) (fun _ => rfl)).trans (Iff.rfl)
set_option maxRecDepth 100000 in
theorem b122_11 {d : Nat} {w : vW} {x0 x1 x2 x3 : Int} {v4 : vV} {Q : Int → vW → Prop} : VW d 122 11 [(2, x0), (0, x1), (0, x2), (0, x3), v4] [] w Q ↔ (vkd w x0 = 22) ∧ ((x3 < (vct w x0 4) → VW d 122 19 [(2, x0), (0, x1), (0, x2), (0, x3), v4] [] w Q) ∧ (¬ (x3 < (vct w x0 4)) → VW d 122 63 [(2, x0), (0, x1), (0, x2), (0, x3), v4] [] w Q)) :=
  (VW_b 4 (F := fun n => if vkd w x0 = 22 then (if x3 < (vct w x0 4) then vrun n d 122 19 [(2, x0), (0, x1), (0, x2), (0, x3), v4] [] w else vrun n d 122 63 [(2, x0), (0, x1), (0, x2), (0, x3), v4] [] w) else none) (fun _ => rfl)).trans (EX_if.trans (and_congr Iff.rfl (EX_br.trans (and_congr (imp_congr Iff.rfl Iff.rfl) (imp_congr Iff.rfl Iff.rfl)))))
set_option maxRecDepth 100000 in
theorem b122_19 {d : Nat} {w : vW} {x0 x1 x2 x3 : Int} {v4 : vV} {Q : Int → vW → Prop} : VW d 122 19 [(2, x0), (0, x1), (0, x2), (0, x3), v4] [] w Q ↔ (vkd w x0 = 22) ∧ (vkd w (vct w x0 6) = 2 ∧ (0 : Int) ≤ x3 ∧ x3 < vln w (vct w x0 6)) ∧ (vkd w x0 = 22) ∧ VC d 75 [(2, x0), (1, vct w (vct w x0 6) x3)] w (fun r w1 => VW d 122 29 [(2, x0), (0, x1), (0, x2), (0, x3), v4] [(0, r)] w1 Q) :=
  (VW_b 6 (F := fun n => if vkd w x0 = 22 then if vkd w (vct w x0 6) = 2 ∧ (0 : Int) ≤ x3 ∧ x3 < vln w (vct w x0 6) then if vkd w x0 = 22 then vclr (vrun n) d 122 29 75 2 0 [(2, x0), (0, x1), (0, x2), (0, x3), v4] [(1, vct w (vct w x0 6) x3), (2, x0)] w else none else none else none) (fun _ => rfl)).trans (EX_if.trans (and_congr Iff.rfl (EX_if.trans (and_congr Iff.rfl (EX_if.trans (and_congr Iff.rfl (EX_call rfl)))))))
set_option maxRecDepth 100000 in
theorem b122_29 {d : Nat} {w : vW} {x0 x1 x2 x3 y0 : Int} {v4 : vV} {Q : Int → vW → Prop} : VW d 122 29 [(2, x0), (0, x1), (0, x2), (0, x3), v4] [(0, y0)] w Q ↔ (vkd w x0 = 22) ∧ (vkd w (vct w x0 7) = 2 ∧ (0 : Int) ≤ x3 ∧ x3 < vln w (vct w x0 7)) ∧ (vkd w x0 = 22) ∧ VC d 75 [(2, x0), (1, vct w (vct w x0 7) x3)] w (fun r w1 => VW d 122 39 [(2, x0), (0, x1), (0, x2), (0, x3), v4] [(0, r), (0, y0)] w1 Q) :=
  (VW_b 6 (F := fun n => if vkd w x0 = 22 then if vkd w (vct w x0 7) = 2 ∧ (0 : Int) ≤ x3 ∧ x3 < vln w (vct w x0 7) then if vkd w x0 = 22 then vclr (vrun n) d 122 39 75 2 0 [(2, x0), (0, x1), (0, x2), (0, x3), v4] [(1, vct w (vct w x0 7) x3), (2, x0), (0, y0)] w else none else none else none) (fun _ => rfl)).trans (EX_if.trans (and_congr Iff.rfl (EX_if.trans (and_congr Iff.rfl (EX_if.trans (and_congr Iff.rfl (EX_call rfl)))))))
set_option maxRecDepth 100000 in
theorem b122_39 {d : Nat} {w : vW} {x0 x1 x2 x3 y0 y1 : Int} {v4 : vV} {Q : Int → vW → Prop} : VW d 122 39 [(2, x0), (0, x1), (0, x2), (0, x3), v4] [(0, y1), (0, y0)] w Q ↔ ((x1 < 0 → VW d 122 52 [(2, x0), (0, x1), (0, x2), (0, x3), (0, w32 (y0 - y1))] [] w Q) ∧ (¬ (x1 < 0) → VW d 122 46 [(2, x0), (0, x1), (0, x2), (0, x3), (0, w32 (y0 - y1))] [] w Q)) :=
  (VW_b 4 (F := fun n => (if x1 < 0 then vrun n d 122 52 [(2, x0), (0, x1), (0, x2), (0, x3), (0, w32 (y0 - y1))] [] w else vrun n d 122 46 [(2, x0), (0, x1), (0, x2), (0, x3), (0, w32 (y0 - y1))] [] w)) (fun _ => rfl)).trans (EX_br.trans (and_congr (imp_congr Iff.rfl Iff.rfl) (imp_congr Iff.rfl Iff.rfl)))
set_option maxRecDepth 100000 in
theorem b122_46 {d : Nat} {w : vW} {x0 x1 x2 x3 x4 : Int} {Q : Int → vW → Prop} : VW d 122 46 [(2, x0), (0, x1), (0, x2), (0, x3), (0, x4)] [] w Q ↔ ((x4 < x2 → VW d 122 52 [(2, x0), (0, x1), (0, x2), (0, x3), (0, x4)] [] w Q) ∧ (¬ (x4 < x2) → VW d 122 57 [(2, x0), (0, x1), (0, x2), (0, x3), (0, x4)] [] w Q)) :=
  (VW_b 3 (F := fun n => (if x4 < x2 then vrun n d 122 52 [(2, x0), (0, x1), (0, x2), (0, x3), (0, x4)] [] w else vrun n d 122 57 [(2, x0), (0, x1), (0, x2), (0, x3), (0, x4)] [] w)) (fun _ => rfl)).trans (EX_br.trans (and_congr (imp_congr Iff.rfl Iff.rfl) (imp_congr Iff.rfl Iff.rfl)))
set_option maxRecDepth 100000 in
theorem b122_52 {d : Nat} {w : vW} {x0 x1 x2 x3 x4 : Int} {Q : Int → vW → Prop} : VW d 122 52 [(2, x0), (0, x1), (0, x2), (0, x3), (0, x4)] [] w Q ↔ VW d 122 57 [(2, x0), (0, x3), (0, x4), (0, x3), (0, x4)] [] w Q :=
  (VW_b 4 (F := fun n => vrun n d 122 57 [(2, x0), (0, x3), (0, x4), (0, x3), (0, x4)] [] w) (fun _ => rfl)).trans (Iff.rfl)
set_option maxRecDepth 100000 in
theorem b122_57 {d : Nat} {w : vW} {x0 x1 x2 x3 x4 : Int} {Q : Int → vW → Prop} : VW d 122 57 [(2, x0), (0, x1), (0, x2), (0, x3), (0, x4)] [] w Q ↔ VW d 122 11 [(2, x0), (0, x1), (0, x2), (0, w32 (x3 + 1)), (0, x4)] [] w Q :=
  (VW_b 2 (F := fun n => vrun n d 122 11 [(2, x0), (0, x1), (0, x2), (0, w32 (x3 + 1)), (0, x4)] [] w) (fun _ => rfl)).trans (Iff.rfl)
set_option maxRecDepth 100000 in
theorem b122_63 {d : Nat} {w : vW} {x0 x1 x2 x3 : Int} {v4 : vV} {Q : Int → vW → Prop} : VW d 122 63 [(2, x0), (0, x1), (0, x2), (0, x3), v4] [] w Q ↔ (vkd w x0 = 22) ∧ VW d 122 68 [(2, x0), (0, x1), (0, x2), (0, x3), v4] [] (vsv w x0 1 0) Q :=
  (VW_b 3 (F := fun n => if vkd w x0 = 22 then vrun n d 122 68 [(2, x0), (0, x1), (0, x2), (0, x3), v4] [] (vsv w x0 1 0) else none) (fun _ => rfl)).trans (EX_if.trans (and_congr Iff.rfl (Iff.rfl)))
set_option maxRecDepth 100000 in
theorem b122_68 {d : Nat} {w : vW} {x0 x1 x2 x3 : Int} {v4 : vV} {Q : Int → vW → Prop} : VW d 122 68 [(2, x0), (0, x1), (0, x2), (0, x3), v4] [] w Q ↔ (vkd w x0 = 22) ∧ VC d 58 [(2, x0), (1, x1)] w (fun _ w1 => VW d 122 74 [(2, x0), (0, x1), (0, x2), (0, x3), v4] [] w1 Q) :=
  (VW_b 4 (F := fun n => if vkd w x0 = 22 then vclr (vrun n) d 122 74 58 2 9 [(2, x0), (0, x1), (0, x2), (0, x3), v4] [(1, x1), (2, x0)] w else none) (fun _ => rfl)).trans (EX_if.trans (and_congr Iff.rfl (EX_call rfl)))
set_option maxRecDepth 100000 in
theorem b122_74 {d : Nat} {w : vW} {x0 x1 x2 x3 : Int} {v4 : vV} {Q : Int → vW → Prop} : VW d 122 74 [(2, x0), (0, x1), (0, x2), (0, x3), v4] [] w Q ↔ (vkd w x0 = 22) ∧ VC d 58 [(2, x0), (1, x2)] w (fun _ w1 => VW d 122 80 [(2, x0), (0, x1), (0, x2), (0, x3), v4] [] w1 Q) :=
  (VW_b 4 (F := fun n => if vkd w x0 = 22 then vclr (vrun n) d 122 80 58 2 9 [(2, x0), (0, x1), (0, x2), (0, x3), v4] [(1, x2), (2, x0)] w else none) (fun _ => rfl)).trans (EX_if.trans (and_congr Iff.rfl (EX_call rfl)))
set_option maxRecDepth 100000 in
theorem b122_80 {d : Nat} {w : vW} {x0 x1 x2 x3 : Int} {v4 : vV} {Q : Int → vW → Prop} : VW d 122 80 [(2, x0), (0, x1), (0, x2), (0, x3), v4] [] w Q ↔ ((x1 < 0 → VW d 122 88 [(2, x0), (0, x1), (0, x2), (0, x3), v4] [] w Q) ∧ (¬ (x1 < 0) → VW d 122 84 [(2, x0), (0, x1), (0, x2), (0, x3), v4] [] w Q)) :=
  (VW_b 2 (F := fun n => (if x1 < 0 then vrun n d 122 88 [(2, x0), (0, x1), (0, x2), (0, x3), v4] [] w else vrun n d 122 84 [(2, x0), (0, x1), (0, x2), (0, x3), v4] [] w)) (fun _ => rfl)).trans (EX_br.trans (and_congr (imp_congr Iff.rfl Iff.rfl) (imp_congr Iff.rfl Iff.rfl)))
set_option maxRecDepth 100000 in
theorem b122_84 {d : Nat} {w : vW} {x0 x1 x2 x3 : Int} {v4 : vV} {Q : Int → vW → Prop} : VW d 122 84 [(2, x0), (0, x1), (0, x2), (0, x3), v4] [] w Q ↔ ((0 < x2 → VW d 122 88 [(2, x0), (0, x1), (0, x2), (0, x3), v4] [] w Q) ∧ (¬ (0 < x2) → VW d 122 92 [(2, x0), (0, x1), (0, x2), (0, x3), v4] [] w Q)) :=
  (VW_b 2 (F := fun n => (if 0 < x2 then vrun n d 122 88 [(2, x0), (0, x1), (0, x2), (0, x3), v4] [] w else vrun n d 122 92 [(2, x0), (0, x1), (0, x2), (0, x3), v4] [] w)) (fun _ => rfl)).trans (EX_br.trans (and_congr (imp_congr Iff.rfl Iff.rfl) (imp_congr Iff.rfl Iff.rfl)))
set_option maxRecDepth 100000 in
theorem b122_88 {d : Nat} {w : vW} {x0 x1 x2 x3 : Int} {v4 : vV} {Q : Int → vW → Prop} : VW d 122 88 [(2, x0), (0, x1), (0, x2), (0, x3), v4] [] w Q ↔ VW d 122 93 [(2, x0), (0, x1), (0, x2), (0, x3), v4] [(0, 1)] w Q :=
  (VW_b 2 (F := fun n => vrun n d 122 93 [(2, x0), (0, x1), (0, x2), (0, x3), v4] [(0, 1)] w) (fun _ => rfl)).trans (Iff.rfl)
set_option maxRecDepth 100000 in
theorem b122_92 {d : Nat} {w : vW} {x0 x1 x2 x3 : Int} {v4 : vV} {Q : Int → vW → Prop} : VW d 122 92 [(2, x0), (0, x1), (0, x2), (0, x3), v4] [] w Q ↔ VW d 122 93 [(2, x0), (0, x1), (0, x2), (0, x3), v4] [(0, 0)] w Q :=
  (VW_b 1 (F := fun n => vrun n d 122 93 [(2, x0), (0, x1), (0, x2), (0, x3), v4] [(0, 0)] w) (fun _ => rfl)).trans (Iff.rfl)
set_option maxRecDepth 100000 in
theorem b122_93 {d : Nat} {w : vW} {x0 x1 x2 x3 y0 : Int} {v4 : vV} {Q : Int → vW → Prop} : VW d 122 93 [(2, x0), (0, x1), (0, x2), (0, x3), v4] [(0, y0)] w Q ↔ VC d 57 [(0, y0)] w (fun r w1 => VW d 122 96 [(2, x0), (0, x1), (0, x2), (0, x3), v4] [(0, r)] w1 Q) :=
  (VW_b 1 (F := fun n => vclr (vrun n) d 122 96 57 1 0 [(2, x0), (0, x1), (0, x2), (0, x3), v4] [(0, y0)] w) (fun _ => rfl)).trans (EX_call rfl)
set_option maxRecDepth 100000 in
theorem b122_96 {d : Nat} {w : vW} {x0 x1 x2 x3 y0 : Int} {v4 : vV} {Q : Int → vW → Prop} : VW d 122 96 [(2, x0), (0, x1), (0, x2), (0, x3), v4] [(0, y0)] w Q ↔ Q y0 w :=
  (VW_b 1 (F := fun n => some (0, y0, w)) (fun _ => rfl)).trans (EX_ret0)
