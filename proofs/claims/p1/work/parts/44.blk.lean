/-! 154: StrikeWhatCancelsModel.count(I)I -/
set_option maxRecDepth 100000 in
theorem b154_0 {d : Nat} {w : vW} {x0 x1 : Int} {Q : Int → vW → Prop} : VW d 154 0 [(2, x0), (0, x1)] [] w Q ↔ (vkd w x0 = 22) ∧ VW d 154 5 [(2, x0), (0, x1)] [] (vsv w x0 0 0) Q :=
  (VW_b 3 (F := fun n => if vkd w x0 = 22 then vrun n d 154 5 [(2, x0), (0, x1)] [] (vsv w x0 0 0) else none) (fun _ => rfl)).trans (EX_if.trans (and_congr Iff.rfl (Iff.rfl)))
set_option maxRecDepth 100000 in
theorem b154_5 {d : Nat} {w : vW} {x0 x1 : Int} {Q : Int → vW → Prop} : VW d 154 5 [(2, x0), (0, x1)] [] w Q ↔ VW d 154 (vswt 1 x1) [(2, x0), (0, x1)] [] w Q :=
  (VW_b 2 (F := fun n => vrun n d 154 (vswt 1 x1) [(2, x0), (0, x1)] [] w) (fun _ => rfl)).trans (Iff.rfl)
set_option maxRecDepth 100000 in
theorem b154_48 {d : Nat} {w : vW} {x0 x1 : Int} {Q : Int → vW → Prop} : VW d 154 48 [(2, x0), (0, x1)] [] w Q ↔ (vkd w x0 = 22) ∧ Q (vct w x0 4) w :=
  (VW_b 3 (F := fun n => if vkd w x0 = 22 then some (0, vct w x0 4, w) else none) (fun _ => rfl)).trans (EX_if.trans (and_congr Iff.rfl (EX_ret0)))
set_option maxRecDepth 100000 in
theorem b154_53 {d : Nat} {w : vW} {x0 x1 : Int} {Q : Int → vW → Prop} : VW d 154 53 [(2, x0), (0, x1)] [] w Q ↔ (vkd w x0 = 22) ∧ (vkd w x0 = 22) ∧ VC d 60 [(2, x0), (1, vct w x0 13)] w (fun r w1 => VW d 154 61 [(2, x0), (0, x1)] [(0, r)] w1 Q) :=
  (VW_b 4 (F := fun n => if vkd w x0 = 22 then if vkd w x0 = 22 then vclr (vrun n) d 154 61 60 2 0 [(2, x0), (0, x1)] [(1, vct w x0 13), (2, x0)] w else none else none) (fun _ => rfl)).trans (EX_if.trans (and_congr Iff.rfl (EX_if.trans (and_congr Iff.rfl (EX_call rfl)))))
set_option maxRecDepth 100000 in
theorem b154_61 {d : Nat} {w : vW} {x0 x1 y0 : Int} {Q : Int → vW → Prop} : VW d 154 61 [(2, x0), (0, x1)] [(0, y0)] w Q ↔ Q y0 w :=
  (VW_b 1 (F := fun n => some (0, y0, w)) (fun _ => rfl)).trans (EX_ret0)
set_option maxRecDepth 100000 in
theorem b154_62 {d : Nat} {w : vW} {x0 x1 : Int} {Q : Int → vW → Prop} : VW d 154 62 [(2, x0), (0, x1)] [] w Q ↔ (vkd w x0 = 22) ∧ (vkd w x0 = 22) ∧ VC d 60 [(2, x0), (1, vct w x0 14)] w (fun r w1 => VW d 154 70 [(2, x0), (0, x1)] [(0, r)] w1 Q) :=
  (VW_b 4 (F := fun n => if vkd w x0 = 22 then if vkd w x0 = 22 then vclr (vrun n) d 154 70 60 2 0 [(2, x0), (0, x1)] [(1, vct w x0 14), (2, x0)] w else none else none) (fun _ => rfl)).trans (EX_if.trans (and_congr Iff.rfl (EX_if.trans (and_congr Iff.rfl (EX_call rfl)))))
set_option maxRecDepth 100000 in
theorem b154_70 {d : Nat} {w : vW} {x0 x1 y0 : Int} {Q : Int → vW → Prop} : VW d 154 70 [(2, x0), (0, x1)] [(0, y0)] w Q ↔ Q y0 w :=
  (VW_b 1 (F := fun n => some (0, y0, w)) (fun _ => rfl)).trans (EX_ret0)
set_option maxRecDepth 100000 in
theorem b154_71 {d : Nat} {w : vW} {x0 x1 : Int} {Q : Int → vW → Prop} : VW d 154 71 [(2, x0), (0, x1)] [] w Q ↔ (vkd w x0 = 22) ∧ Q (vct w x0 15) w :=
  (VW_b 3 (F := fun n => if vkd w x0 = 22 then some (0, vct w x0 15, w) else none) (fun _ => rfl)).trans (EX_if.trans (and_congr Iff.rfl (EX_ret0)))
set_option maxRecDepth 100000 in
theorem b154_76 {d : Nat} {w : vW} {x0 x1 : Int} {Q : Int → vW → Prop} : VW d 154 76 [(2, x0), (0, x1)] [] w Q ↔ (vkd w x0 = 22) ∧ Q (vct w x0 12) w :=
  (VW_b 3 (F := fun n => if vkd w x0 = 22 then some (0, vct w x0 12, w) else none) (fun _ => rfl)).trans (EX_if.trans (and_congr Iff.rfl (EX_ret0)))
set_option maxRecDepth 100000 in
theorem b154_81 {d : Nat} {w : vW} {x0 x1 : Int} {Q : Int → vW → Prop} : VW d 154 81 [(2, x0), (0, x1)] [] w Q ↔ (vkd w x0 = 22) ∧ Q (vct w x0 1) w :=
  (VW_b 3 (F := fun n => if vkd w x0 = 22 then some (0, vct w x0 1, w) else none) (fun _ => rfl)).trans (EX_if.trans (and_congr Iff.rfl (EX_ret0)))
set_option maxRecDepth 100000 in
theorem b154_86 {d : Nat} {w : vW} {x0 x1 : Int} {Q : Int → vW → Prop} : VW d 154 86 [(2, x0), (0, x1)] [] w Q ↔ (vkd w x0 = 22) ∧ Q (vct w x0 19) w :=
  (VW_b 3 (F := fun n => if vkd w x0 = 22 then some (0, vct w x0 19, w) else none) (fun _ => rfl)).trans (EX_if.trans (and_congr Iff.rfl (EX_ret0)))
set_option maxRecDepth 100000 in
theorem b154_91 {d : Nat} {w : vW} {x0 x1 : Int} {Q : Int → vW → Prop} : VW d 154 91 [(2, x0), (0, x1)] [] w Q ↔ Q (-1) w :=
  (VW_b 2 (F := fun n => some (0, (-1), w)) (fun _ => rfl)).trans (EX_ret0)
/-! 155: StrikeWhatCancelsModel.minutes()J -/
set_option maxRecDepth 100000 in
theorem b155_0 {d : Nat} {w : vW} {x0 : Int} {Q : Int → vW → Prop} : VW d 155 0 [(2, x0)] [] w Q ↔ (vkd w x0 = 22) ∧ VW d 155 5 [(2, x0)] [] (vsv w x0 0 0) Q :=
  (VW_b 3 (F := fun n => if vkd w x0 = 22 then vrun n d 155 5 [(2, x0)] [] (vsv w x0 0 0) else none) (fun _ => rfl)).trans (EX_if.trans (and_congr Iff.rfl (Iff.rfl)))
set_option maxRecDepth 100000 in
theorem b155_5 {d : Nat} {w : vW} {x0 : Int} {Q : Int → vW → Prop} : VW d 155 5 [(2, x0)] [] w Q ↔ (vkd w x0 = 22) ∧ Q (vct w x0 14) w :=
  (VW_b 3 (F := fun n => if vkd w x0 = 22 then some (0, vct w x0 14, w) else none) (fun _ => rfl)).trans (EX_if.trans (and_congr Iff.rfl (EX_ret0)))
/-! 156: StrikeWhatCancelsModel.row(I)J -/
set_option maxRecDepth 100000 in
theorem b156_0 {d : Nat} {w : vW} {x0 x1 : Int} {Q : Int → vW → Prop} : VW d 156 0 [(2, x0), (0, x1)] [] w Q ↔ (vkd w x0 = 22) ∧ VW d 156 5 [(2, x0), (0, x1)] [] (vsv w x0 0 0) Q :=
  (VW_b 3 (F := fun n => if vkd w x0 = 22 then vrun n d 156 5 [(2, x0), (0, x1)] [] (vsv w x0 0 0) else none) (fun _ => rfl)).trans (EX_if.trans (and_congr Iff.rfl (Iff.rfl)))
set_option maxRecDepth 100000 in
theorem b156_5 {d : Nat} {w : vW} {x0 x1 : Int} {Q : Int → vW → Prop} : VW d 156 5 [(2, x0), (0, x1)] [] w Q ↔ (vkd w x0 = 22) ∧ VC d 56 [(1, x1), (1, 0), (1, (w32 ((vct w x0 1) - 1)))] w (fun r w1 => VW d 156 18 [(2, x0), (0, x1)] [(0, r)] w1 Q) :=
  (VW_b 9 (F := fun n => if vkd w x0 = 22 then vclr (vrun n) d 156 18 56 3 0 [(2, x0), (0, x1)] [(1, (w32 ((vct w x0 1) - 1))), (1, 0), (1, x1)] w else none) (fun _ => rfl)).trans (EX_if.trans (and_congr Iff.rfl (EX_call rfl)))
set_option maxRecDepth 100000 in
theorem b156_18 {d : Nat} {w : vW} {x0 x1 y0 : Int} {Q : Int → vW → Prop} : VW d 156 18 [(2, x0), (0, x1)] [(0, y0)] w Q ↔ ((y0 = 0 → VW d 156 21 [(2, x0), (0, x1)] [] w Q) ∧ (¬ (y0 = 0) → VW d 156 26 [(2, x0), (0, x1)] [] w Q)) :=
  (VW_b 1 (F := fun n => (if y0 = 0 then vrun n d 156 21 [(2, x0), (0, x1)] [] w else vrun n d 156 26 [(2, x0), (0, x1)] [] w)) (fun _ => rfl)).trans (EX_br.trans (and_congr (imp_congr Iff.rfl Iff.rfl) (imp_congr Iff.rfl Iff.rfl)))
set_option maxRecDepth 100000 in
theorem b156_21 {d : Nat} {w : vW} {x0 x1 : Int} {Q : Int → vW → Prop} : VW d 156 21 [(2, x0), (0, x1)] [] w Q ↔ (vkd w x0 = 22) ∧ VC d 55 [(2, x0)] w (fun r w1 => VW d 156 25 [(2, x0), (0, x1)] [(1, r)] w1 Q) :=
  (VW_b 2 (F := fun n => if vkd w x0 = 22 then vclr (vrun n) d 156 25 55 1 1 [(2, x0), (0, x1)] [(2, x0)] w else none) (fun _ => rfl)).trans (EX_if.trans (and_congr Iff.rfl (EX_call rfl)))
set_option maxRecDepth 100000 in
theorem b156_25 {d : Nat} {w : vW} {x0 x1 y0 : Int} {Q : Int → vW → Prop} : VW d 156 25 [(2, x0), (0, x1)] [(1, y0)] w Q ↔ Q y0 w :=
  (VW_b 1 (F := fun n => some (0, y0, w)) (fun _ => rfl)).trans (EX_ret0)
set_option maxRecDepth 100000 in
theorem b156_26 {d : Nat} {w : vW} {x0 x1 : Int} {Q : Int → vW → Prop} : VW d 156 26 [(2, x0), (0, x1)] [] w Q ↔ (vkd w x0 = 22) ∧ (vkd w (vct w x0 2) = 2 ∧ (0 : Int) ≤ x1 ∧ x1 < vln w (vct w x0 2)) ∧ Q (vct w (vct w x0 2) x1) w :=
  (VW_b 5 (F := fun n => if vkd w x0 = 22 then if vkd w (vct w x0 2) = 2 ∧ (0 : Int) ≤ x1 ∧ x1 < vln w (vct w x0 2) then some (0, vct w (vct w x0 2) x1, w) else none else none) (fun _ => rfl)).trans (EX_if.trans (and_congr Iff.rfl (EX_if.trans (and_congr Iff.rfl (EX_ret0)))))
/-! 157: StrikeWhatCancels$Aside.<init>()V -/
set_option maxRecDepth 100000 in
theorem b157_0 {d : Nat} {w : vW} {x0 : Int} {Q : Int → vW → Prop} : VW d 157 0 [(2, x0)] [] w Q ↔ (vkd w x0 ≠ 0) ∧ VW d 157 8 [(2, x0)] [(2, vnt w), (2, x0)] (vnw w 18 7 (vdfl 18) 7) Q :=
  (VW_b 4 (F := fun n => if vkd w x0 ≠ 0 then vrun n d 157 8 [(2, x0)] [(2, vnt w), (2, x0)] (vnw w 18 7 (vdfl 18) 7) else none) (fun _ => rfl)).trans (EX_if.trans (and_congr Iff.rfl (Iff.rfl)))
set_option maxRecDepth 100000 in
theorem b157_8 {d : Nat} {w : vW} {x0 y0 y1 : Int} {Q : Int → vW → Prop} : VW d 157 8 [(2, x0)] [(2, y1), (2, y0)] w Q ↔ (vkd w y1 = 18) ∧ VC d 248 [(2, y1)] w (fun _ w1 => VW d 157 12 [(2, x0)] [(2, y1), (2, y0)] w1 Q) :=
  (VW_b 2 (F := fun n => if vkd w y1 = 18 then vclr (vrun n) d 157 12 248 1 9 [(2, x0)] [(2, y1), (2, y1), (2, y0)] w else none) (fun _ => rfl)).trans (EX_if.trans (and_congr Iff.rfl (EX_call rfl)))
set_option maxRecDepth 100000 in
theorem b157_12 {d : Nat} {w : vW} {x0 y0 y1 : Int} {Q : Int → vW → Prop} : VW d 157 12 [(2, x0)] [(2, y1), (2, y0)] w Q ↔ (vkd w y0 = 10) ∧ VW d 157 15 [(2, x0)] [] (vsv w y0 0 y1) Q :=
  (VW_b 1 (F := fun n => if vkd w y0 = 10 then vrun n d 157 15 [(2, x0)] [] (vsv w y0 0 y1) else none) (fun _ => rfl)).trans (EX_if.trans (and_congr Iff.rfl (Iff.rfl)))
set_option maxRecDepth 100000 in
theorem b157_15 {d : Nat} {w : vW} {x0 : Int} {Q : Int → vW → Prop} : VW d 157 15 [(2, x0)] [] w Q ↔ VW d 157 19 [(2, x0)] [(2, vnt w), (2, x0)] (vnw w 16 8 (vdfl 16) 8) Q :=
  (VW_b 2 (F := fun n => vrun n d 157 19 [(2, x0)] [(2, vnt w), (2, x0)] (vnw w 16 8 (vdfl 16) 8)) (fun _ => rfl)).trans (Iff.rfl)
set_option maxRecDepth 100000 in
theorem b157_19 {d : Nat} {w : vW} {x0 y0 y1 : Int} {Q : Int → vW → Prop} : VW d 157 19 [(2, x0)] [(2, y1), (2, y0)] w Q ↔ (vkd w y1 = 16) ∧ VC d 225 [(2, y1)] w (fun _ w1 => VW d 157 23 [(2, x0)] [(2, y1), (2, y0)] w1 Q) :=
  (VW_b 2 (F := fun n => if vkd w y1 = 16 then vclr (vrun n) d 157 23 225 1 9 [(2, x0)] [(2, y1), (2, y1), (2, y0)] w else none) (fun _ => rfl)).trans (EX_if.trans (and_congr Iff.rfl (EX_call rfl)))
set_option maxRecDepth 100000 in
theorem b157_23 {d : Nat} {w : vW} {x0 y0 y1 : Int} {Q : Int → vW → Prop} : VW d 157 23 [(2, x0)] [(2, y1), (2, y0)] w Q ↔ (vkd w y0 = 10) ∧ VW d 157 26 [(2, x0)] [] (vsv w y0 1 y1) Q :=
  (VW_b 1 (F := fun n => if vkd w y0 = 10 then vrun n d 157 26 [(2, x0)] [] (vsv w y0 1 y1) else none) (fun _ => rfl)).trans (EX_if.trans (and_congr Iff.rfl (Iff.rfl)))
set_option maxRecDepth 100000 in
theorem b157_26 {d : Nat} {w : vW} {x0 : Int} {Q : Int → vW → Prop} : VW d 157 26 [(2, x0)] [] w Q ↔ (vkd w x0 = 10) ∧ VW d 157 31 [(2, x0)] [] (vsv w x0 2 (-1)) Q :=
  (VW_b 3 (F := fun n => if vkd w x0 = 10 then vrun n d 157 31 [(2, x0)] [] (vsv w x0 2 (-1)) else none) (fun _ => rfl)).trans (EX_if.trans (and_congr Iff.rfl (Iff.rfl)))
set_option maxRecDepth 100000 in
theorem b157_31 {d : Nat} {w : vW} {x0 : Int} {Q : Int → vW → Prop} : VW d 157 31 [(2, x0)] [] w Q ↔ ((0 : Int) ≤ 0 ∧ 0 ≤ 1) ∧ (vkd w x0 = 10) ∧ VW d 157 36 [(2, x0)] [] (vsv w x0 3 0) Q :=
  (VW_b 3 (F := fun n => if (0 : Int) ≤ 0 ∧ 0 ≤ 1 then if vkd w x0 = 10 then vrun n d 157 36 [(2, x0)] [] (vsv w x0 3 0) else none else none) (fun _ => rfl)).trans (EX_if.trans (and_congr Iff.rfl (EX_if.trans (and_congr Iff.rfl (Iff.rfl)))))
set_option maxRecDepth 100000 in
theorem b157_36 {d : Nat} {w : vW} {x0 : Int} {Q : Int → vW → Prop} : VW d 157 36 [(2, x0)] [] w Q ↔ ((0 : Int) ≤ 0 ∧ 0 ≤ 1) ∧ (vkd w x0 = 10) ∧ VW d 157 41 [(2, x0)] [] (vsv w x0 4 0) Q :=
  (VW_b 3 (F := fun n => if (0 : Int) ≤ 0 ∧ 0 ≤ 1 then if vkd w x0 = 10 then vrun n d 157 41 [(2, x0)] [] (vsv w x0 4 0) else none else none) (fun _ => rfl)).trans (EX_if.trans (and_congr Iff.rfl (EX_if.trans (and_congr Iff.rfl (Iff.rfl)))))
set_option maxRecDepth 100000 in
theorem b157_41 {d : Nat} {w : vW} {x0 : Int} {Q : Int → vW → Prop} : VW d 157 41 [(2, x0)] [] w Q ↔ (vkd w x0 = 10) ∧ VW d 157 46 [(2, x0)] [] (vsv w x0 5 0) Q :=
  (VW_b 3 (F := fun n => if vkd w x0 = 10 then vrun n d 157 46 [(2, x0)] [] (vsv w x0 5 0) else none) (fun _ => rfl)).trans (EX_if.trans (and_congr Iff.rfl (Iff.rfl)))
set_option maxRecDepth 100000 in
theorem b157_46 {d : Nat} {w : vW} {x0 : Int} {Q : Int → vW → Prop} : VW d 157 46 [(2, x0)] [] w Q ↔ Q 0 w :=
  (VW_b 1 (F := fun n => some (0, 0, w)) (fun _ => rfl)).trans (EX_ret0)
/-! 158: StrikeWhatCancels$Aside.extend(LStrikeWhatCancels$Rules;I)V -/
set_option maxRecDepth 100000 in
theorem b158_0 {d : Nat} {w : vW} {x0 x1 x2 : Int} {Q : Int → vW → Prop} : VW d 158 0 [(2, x0), (2, x1), (0, x2), (9, 0)] [] w Q ↔ (vkd w x0 = 10) ∧ (vkd w x1 = 18) ∧ (((vct w x0 2) = (vct w x1 4) → VW d 158 16 [(2, x0), (2, x1), (0, x2), (9, 0)] [] w Q) ∧ (¬ ((vct w x0 2) = (vct w x1 4)) → VW d 158 11 [(2, x0), (2, x1), (0, x2), (9, 0)] [] w Q)) :=
  (VW_b 5 (F := fun n => if vkd w x0 = 10 then if vkd w x1 = 18 then (if (vct w x0 2) = (vct w x1 4) then vrun n d 158 16 [(2, x0), (2, x1), (0, x2), (9, 0)] [] w else vrun n d 158 11 [(2, x0), (2, x1), (0, x2), (9, 0)] [] w) else none else none) (fun _ => rfl)).trans (EX_if.trans (and_congr Iff.rfl (EX_if.trans (and_congr Iff.rfl (EX_br.trans (and_congr (imp_congr Iff.rfl Iff.rfl) (imp_congr Iff.rfl Iff.rfl)))))))
set_option maxRecDepth 100000 in
theorem b158_11 {d : Nat} {w : vW} {x0 x1 x2 : Int} {Q : Int → vW → Prop} : VW d 158 11 [(2, x0), (2, x1), (0, x2), (9, 0)] [] w Q ↔ (vkd w x0 = 10) ∧ VC d 159 [(2, x0), (2, x1)] w (fun _ w1 => VW d 158 16 [(2, x0), (2, x1), (0, x2), (9, 0)] [] w1 Q) :=
  (VW_b 3 (F := fun n => if vkd w x0 = 10 then vclr (vrun n) d 158 16 159 2 9 [(2, x0), (2, x1), (0, x2), (9, 0)] [(2, x1), (2, x0)] w else none) (fun _ => rfl)).trans (EX_if.trans (and_congr Iff.rfl (EX_call rfl)))
set_option maxRecDepth 100000 in
theorem b158_16 {d : Nat} {w : vW} {x0 x1 x2 : Int} {Q : Int → vW → Prop} : VW d 158 16 [(2, x0), (2, x1), (0, x2), (9, 0)] [] w Q ↔ VW d 158 18 [(2, x0), (2, x1), (0, x2), (0, 0)] [] w Q :=
  (VW_b 2 (F := fun n => vrun n d 158 18 [(2, x0), (2, x1), (0, x2), (0, 0)] [] w) (fun _ => rfl)).trans (Iff.rfl)
set_option maxRecDepth 100000 in
theorem b158_18 {d : Nat} {w : vW} {x0 x1 x2 x3 : Int} {Q : Int → vW → Prop} : VW d 158 18 [(2, x0), (2, x1), (0, x2), (0, x3)] [] w Q ↔ ((x2 < x3 → VW d 158 56 [(2, x0), (2, x1), (0, x2), (0, x3)] [] w Q) ∧ (¬ (x2 < x3) → VW d 158 23 [(2, x0), (2, x1), (0, x2), (0, x3)] [] w Q)) :=
  (VW_b 3 (F := fun n => (if x2 < x3 then vrun n d 158 56 [(2, x0), (2, x1), (0, x2), (0, x3)] [] w else vrun n d 158 23 [(2, x0), (2, x1), (0, x2), (0, x3)] [] w)) (fun _ => rfl)).trans (EX_br.trans (and_congr (imp_congr Iff.rfl Iff.rfl) (imp_congr Iff.rfl Iff.rfl)))
set_option maxRecDepth 100000 in
theorem b158_23 {d : Nat} {w : vW} {x0 x1 x2 x3 : Int} {Q : Int → vW → Prop} : VW d 158 23 [(2, x0), (2, x1), (0, x2), (0, x3)] [] w Q ↔ (vkd w x0 = 10) ∧ (((vct w x0 4) = 0 → VW d 158 30 [(2, x0), (2, x1), (0, x2), (0, x3)] [] w Q) ∧ (¬ ((vct w x0 4) = 0) → VW d 158 56 [(2, x0), (2, x1), (0, x2), (0, x3)] [] w Q)) :=
  (VW_b 3 (F := fun n => if vkd w x0 = 10 then (if (vct w x0 4) = 0 then vrun n d 158 30 [(2, x0), (2, x1), (0, x2), (0, x3)] [] w else vrun n d 158 56 [(2, x0), (2, x1), (0, x2), (0, x3)] [] w) else none) (fun _ => rfl)).trans (EX_if.trans (and_congr Iff.rfl (EX_br.trans (and_congr (imp_congr Iff.rfl Iff.rfl) (imp_congr Iff.rfl Iff.rfl)))))
set_option maxRecDepth 100000 in
theorem b158_30 {d : Nat} {w : vW} {x0 x1 x2 x3 : Int} {Q : Int → vW → Prop} : VW d 158 30 [(2, x0), (2, x1), (0, x2), (0, x3)] [] w Q ↔ (vkd w x0 = 10) ∧ (((vct w x0 3) = 0 → VW d 158 37 [(2, x0), (2, x1), (0, x2), (0, x3)] [] w Q) ∧ (¬ ((vct w x0 3) = 0) → VW d 158 56 [(2, x0), (2, x1), (0, x2), (0, x3)] [] w Q)) :=
  (VW_b 3 (F := fun n => if vkd w x0 = 10 then (if (vct w x0 3) = 0 then vrun n d 158 37 [(2, x0), (2, x1), (0, x2), (0, x3)] [] w else vrun n d 158 56 [(2, x0), (2, x1), (0, x2), (0, x3)] [] w) else none) (fun _ => rfl)).trans (EX_if.trans (and_congr Iff.rfl (EX_br.trans (and_congr (imp_congr Iff.rfl Iff.rfl) (imp_congr Iff.rfl Iff.rfl)))))
set_option maxRecDepth 100000 in
theorem b158_37 {d : Nat} {w : vW} {x0 x1 x2 x3 : Int} {Q : Int → vW → Prop} : VW d 158 37 [(2, x0), (2, x1), (0, x2), (0, x3)] [] w Q ↔ (vkd w x0 = 10) ∧ ((x2 < (vct w x0 5) → VW d 158 56 [(2, x0), (2, x1), (0, x2), (0, x3)] [] w Q) ∧ (¬ (x2 < (vct w x0 5)) → VW d 158 45 [(2, x0), (2, x1), (0, x2), (0, x3)] [] w Q)) :=
  (VW_b 4 (F := fun n => if vkd w x0 = 10 then (if x2 < (vct w x0 5) then vrun n d 158 56 [(2, x0), (2, x1), (0, x2), (0, x3)] [] w else vrun n d 158 45 [(2, x0), (2, x1), (0, x2), (0, x3)] [] w) else none) (fun _ => rfl)).trans (EX_if.trans (and_congr Iff.rfl (EX_br.trans (and_congr (imp_congr Iff.rfl Iff.rfl) (imp_congr Iff.rfl Iff.rfl)))))
set_option maxRecDepth 100000 in
theorem b158_45 {d : Nat} {w : vW} {x0 x1 x2 x3 : Int} {Q : Int → vW → Prop} : VW d 158 45 [(2, x0), (2, x1), (0, x2), (0, x3)] [] w Q ↔ (vkd w x0 = 10) ∧ VC d 160 [(2, x0), (0, x2)] w (fun _ w1 => VW d 158 50 [(2, x0), (2, x1), (0, x2), (0, x3)] [] w1 Q) :=
  (VW_b 3 (F := fun n => if vkd w x0 = 10 then vclr (vrun n) d 158 50 160 2 9 [(2, x0), (2, x1), (0, x2), (0, x3)] [(0, x2), (2, x0)] w else none) (fun _ => rfl)).trans (EX_if.trans (and_congr Iff.rfl (EX_call rfl)))
set_option maxRecDepth 100000 in
theorem b158_50 {d : Nat} {w : vW} {x0 x1 x2 x3 : Int} {Q : Int → vW → Prop} : VW d 158 50 [(2, x0), (2, x1), (0, x2), (0, x3)] [] w Q ↔ VW d 158 18 [(2, x0), (2, x1), (0, x2), (0, w32 (x3 + 1))] [] w Q :=
  (VW_b 2 (F := fun n => vrun n d 158 18 [(2, x0), (2, x1), (0, x2), (0, w32 (x3 + 1))] [] w) (fun _ => rfl)).trans (Iff.rfl)
set_option maxRecDepth 100000 in
theorem b158_56 {d : Nat} {w : vW} {x0 x1 x2 x3 : Int} {Q : Int → vW → Prop} : VW d 158 56 [(2, x0), (2, x1), (0, x2), (0, x3)] [] w Q ↔ Q 0 w :=
  (VW_b 1 (F := fun n => some (0, 0, w)) (fun _ => rfl)).trans (EX_ret0)
/-! 159: StrikeWhatCancels$Aside.begin(LStrikeWhatCancels$Rules;)V -/
set_option maxRecDepth 100000 in
theorem b159_0 {d : Nat} {w : vW} {x0 x1 : Int} {Q : Int → vW → Prop} : VW d 159 0 [(2, x0), (2, x1)] [] w Q ↔ (vkd w x1 = 18) ∧ (vkd w x0 = 10) ∧ VW d 159 8 [(2, x0), (2, x1)] [] (vsv w x0 2 (vct w x1 4)) Q :=
  (VW_b 4 (F := fun n => if vkd w x1 = 18 then if vkd w x0 = 10 then vrun n d 159 8 [(2, x0), (2, x1)] [] (vsv w x0 2 (vct w x1 4)) else none else none) (fun _ => rfl)).trans (EX_if.trans (and_congr Iff.rfl (EX_if.trans (and_congr Iff.rfl (Iff.rfl)))))
set_option maxRecDepth 100000 in
theorem b159_8 {d : Nat} {w : vW} {x0 x1 : Int} {Q : Int → vW → Prop} : VW d 159 8 [(2, x0), (2, x1)] [] w Q ↔ (vkd w x0 = 10) ∧ (vkd w (vct w x0 0) = 18) ∧ VC d 254 [(2, vct w x0 0)] w (fun _ w1 => VW d 159 15 [(2, x0), (2, x1)] [] w1 Q) :=
  (VW_b 3 (F := fun n => if vkd w x0 = 10 then if vkd w (vct w x0 0) = 18 then vclr (vrun n) d 159 15 254 1 9 [(2, x0), (2, x1)] [(2, vct w x0 0)] w else none else none) (fun _ => rfl)).trans (EX_if.trans (and_congr Iff.rfl (EX_if.trans (and_congr Iff.rfl (EX_call rfl)))))
set_option maxRecDepth 100000 in
theorem b159_15 {d : Nat} {w : vW} {x0 x1 : Int} {Q : Int → vW → Prop} : VW d 159 15 [(2, x0), (2, x1)] [] w Q ↔ (vkd w x0 = 10) ∧ (vkd w (vct w x0 0) = 18) ∧ VC d 256 [(2, vct w x0 0), (2, x1)] w (fun _ w1 => VW d 159 23 [(2, x0), (2, x1)] [] w1 Q) :=
  (VW_b 4 (F := fun n => if vkd w x0 = 10 then if vkd w (vct w x0 0) = 18 then vclr (vrun n) d 159 23 256 2 9 [(2, x0), (2, x1)] [(2, x1), (2, vct w x0 0)] w else none else none) (fun _ => rfl)).trans (EX_if.trans (and_congr Iff.rfl (EX_if.trans (and_congr Iff.rfl (EX_call rfl)))))
set_option maxRecDepth 100000 in
theorem b159_23 {d : Nat} {w : vW} {x0 x1 : Int} {Q : Int → vW → Prop} : VW d 159 23 [(2, x0), (2, x1)] [] w Q ↔ (vkd w x0 = 10) ∧ VW d 159 28 [(2, x0), (2, x1)] [] (vsv w x0 5 0) Q :=
  (VW_b 3 (F := fun n => if vkd w x0 = 10 then vrun n d 159 28 [(2, x0), (2, x1)] [] (vsv w x0 5 0) else none) (fun _ => rfl)).trans (EX_if.trans (and_congr Iff.rfl (Iff.rfl)))
set_option maxRecDepth 100000 in
theorem b159_28 {d : Nat} {w : vW} {x0 x1 : Int} {Q : Int → vW → Prop} : VW d 159 28 [(2, x0), (2, x1)] [] w Q ↔ ((0 : Int) ≤ 0 ∧ 0 ≤ 1) ∧ (vkd w x0 = 10) ∧ VW d 159 33 [(2, x0), (2, x1)] [] (vsv w x0 4 0) Q :=
  (VW_b 3 (F := fun n => if (0 : Int) ≤ 0 ∧ 0 ≤ 1 then if vkd w x0 = 10 then vrun n d 159 33 [(2, x0), (2, x1)] [] (vsv w x0 4 0) else none else none) (fun _ => rfl)).trans (EX_if.trans (and_congr Iff.rfl (EX_if.trans (and_congr Iff.rfl (Iff.rfl)))))
set_option maxRecDepth 100000 in
theorem b159_33 {d : Nat} {w : vW} {x0 x1 : Int} {Q : Int → vW → Prop} : VW d 159 33 [(2, x0), (2, x1)] [] w Q ↔ ((0 : Int) ≤ 0 ∧ 0 ≤ 1) ∧ (vkd w x0 = 10) ∧ VW d 159 38 [(2, x0), (2, x1)] [] (vsv w x0 3 0) Q :=
  (VW_b 3 (F := fun n => if (0 : Int) ≤ 0 ∧ 0 ≤ 1 then if vkd w x0 = 10 then vrun n d 159 38 [(2, x0), (2, x1)] [] (vsv w x0 3 0) else none else none) (fun _ => rfl)).trans (EX_if.trans (and_congr Iff.rfl (EX_if.trans (and_congr Iff.rfl (Iff.rfl)))))
set_option maxRecDepth 100000 in
theorem b159_38 {d : Nat} {w : vW} {x0 x1 : Int} {Q : Int → vW → Prop} : VW d 159 38 [(2, x0), (2, x1)] [] w Q ↔ Q 0 w :=
  (VW_b 1 (F := fun n => some (0, 0, w)) (fun _ => rfl)).trans (EX_ret0)
/-! 160: StrikeWhatCancels$Aside.addOne(I)V -/
set_option maxRecDepth 100000 in
theorem b160_0 {d : Nat} {w : vW} {x0 x1 : Int} {Q : Int → vW → Prop} : VW d 160 0 [(2, x0), (0, x1), (9, 0), (9, 0), (9, 0), (9, 0), (9, 0)] [] w Q ↔ (vkd w x0 = 10) ∧ (vkd w x0 = 10) ∧ (vkd w (vct w x0 1) = 16) ∧ VC d 226 [(2, vct w x0 1), (2, vct w x0 0)] w (fun _ w1 => VW d 160 11 [(2, x0), (0, x1), (9, 0), (9, 0), (9, 0), (9, 0), (9, 0)] [] w1 Q) :=
  (VW_b 5 (F := fun n => if vkd w x0 = 10 then if vkd w x0 = 10 then if vkd w (vct w x0 1) = 16 then vclr (vrun n) d 160 11 226 2 9 [(2, x0), (0, x1), (9, 0), (9, 0), (9, 0), (9, 0), (9, 0)] [(2, vct w x0 0), (2, vct w x0 1)] w else none else none else none) (fun _ => rfl)).trans (EX_if.trans (and_congr Iff.rfl (EX_if.trans (and_congr Iff.rfl (EX_if.trans (and_congr Iff.rfl (EX_call rfl)))))))
set_option maxRecDepth 100000 in
theorem b160_11 {d : Nat} {w : vW} {x0 x1 : Int} {Q : Int → vW → Prop} : VW d 160 11 [(2, x0), (0, x1), (9, 0), (9, 0), (9, 0), (9, 0), (9, 0)] [] w Q ↔ VW d 160 13 [(2, x0), (0, x1), (0, 0), (9, 0), (9, 0), (9, 0), (9, 0)] [] w Q :=
  (VW_b 2 (F := fun n => vrun n d 160 13 [(2, x0), (0, x1), (0, 0), (9, 0), (9, 0), (9, 0), (9, 0)] [] w) (fun _ => rfl)).trans (Iff.rfl)
set_option maxRecDepth 100000 in
theorem b160_13 {d : Nat} {w : vW} {x0 x1 x2 : Int} {v3 v4 v5 v6 : vV} {Q : Int → vW → Prop} : VW d 160 13 [(2, x0), (0, x1), (0, x2), v3, v4, v5, v6] [] w Q ↔ ((x2 < 9216 → VW d 160 20 [(2, x0), (0, x1), (0, x2), v3, v4, v5, v6] [] w Q) ∧ (¬ (x2 < 9216) → VW d 160 94 [(2, x0), (0, x1), (0, x2), v3, v4, v5, v6] [] w Q)) :=
  (VW_b 3 (F := fun n => (if x2 < 9216 then vrun n d 160 20 [(2, x0), (0, x1), (0, x2), v3, v4, v5, v6] [] w else vrun n d 160 94 [(2, x0), (0, x1), (0, x2), v3, v4, v5, v6] [] w)) (fun _ => rfl)).trans (EX_br.trans (and_congr (imp_congr Iff.rfl Iff.rfl) (imp_congr Iff.rfl Iff.rfl)))
set_option maxRecDepth 100000 in
theorem b160_20 {d : Nat} {w : vW} {x0 x1 x2 : Int} {v3 v4 v5 v6 : vV} {Q : Int → vW → Prop} : VW d 160 20 [(2, x0), (0, x1), (0, x2), v3, v4, v5, v6] [] w Q ↔ (vkd w x0 = 10) ∧ (vkd w (vct w x0 1) = 16) ∧ VC d 227 [(2, vct w x0 1)] w (fun r w1 => VW d 160 27 [(2, x0), (0, x1), (0, x2), v3, v4, v5, v6] [(0, r)] w1 Q) :=
  (VW_b 3 (F := fun n => if vkd w x0 = 10 then if vkd w (vct w x0 1) = 16 then vclr (vrun n) d 160 27 227 1 0 [(2, x0), (0, x1), (0, x2), v3, v4, v5, v6] [(2, vct w x0 1)] w else none else none) (fun _ => rfl)).trans (EX_if.trans (and_congr Iff.rfl (EX_if.trans (and_congr Iff.rfl (EX_call rfl)))))
set_option maxRecDepth 100000 in
theorem b160_27 {d : Nat} {w : vW} {x0 x1 x2 y0 : Int} {v3 v4 v5 v6 : vV} {Q : Int → vW → Prop} : VW d 160 27 [(2, x0), (0, x1), (0, x2), v3, v4, v5, v6] [(0, y0)] w Q ↔ ((y0 = 0 → VW d 160 94 [(2, x0), (0, x1), (0, x2), v3, v4, v5, v6] [] w Q) ∧ (¬ (y0 = 0) → VW d 160 30 [(2, x0), (0, x1), (0, x2), v3, v4, v5, v6] [] w Q)) :=
  (VW_b 1 (F := fun n => (if y0 = 0 then vrun n d 160 94 [(2, x0), (0, x1), (0, x2), v3, v4, v5, v6] [] w else vrun n d 160 30 [(2, x0), (0, x1), (0, x2), v3, v4, v5, v6] [] w)) (fun _ => rfl)).trans (EX_br.trans (and_congr (imp_congr Iff.rfl Iff.rfl) (imp_congr Iff.rfl Iff.rfl)))
set_option maxRecDepth 100000 in
theorem b160_30 {d : Nat} {w : vW} {x0 x1 x2 : Int} {v3 v4 v5 v6 : vV} {Q : Int → vW → Prop} : VW d 160 30 [(2, x0), (0, x1), (0, x2), v3, v4, v5, v6] [] w Q ↔ (vkd w x0 = 10) ∧ (vkd w x0 = 10) ∧ (vkd w (vct w x0 1) = 16) ∧ (vkd w (vct w x0 0) = 18) ∧ VC d 265 [(2, vct w x0 0), (0, 0), (1, vct w (vct w x0 1) 6)] w (fun r w1 => VW d 160 45 [(2, x0), (0, x1), (0, x2), v3, v4, v5, v6] [(1, r)] w1 Q) :=
  (VW_b 7 (F := fun n => if vkd w x0 = 10 then if vkd w x0 = 10 then if vkd w (vct w x0 1) = 16 then if vkd w (vct w x0 0) = 18 then vclr (vrun n) d 160 45 265 3 1 [(2, x0), (0, x1), (0, x2), v3, v4, v5, v6] [(1, vct w (vct w x0 1) 6), (0, 0), (2, vct w x0 0)] w else none else none else none else none) (fun _ => rfl)).trans (EX_if.trans (and_congr Iff.rfl (EX_if.trans (and_congr Iff.rfl (EX_if.trans (and_congr Iff.rfl (EX_if.trans (and_congr Iff.rfl (EX_call rfl)))))))))
set_option maxRecDepth 100000 in
theorem b160_45 {d : Nat} {w : vW} {x0 x1 x2 y0 : Int} {v3 v4 v5 v6 : vV} {Q : Int → vW → Prop} : VW d 160 45 [(2, x0), (0, x1), (0, x2), v3, v4, v5, v6] [(1, y0)] w Q ↔ (vkd w x0 = 10) ∧ (vkd w x0 = 10) ∧ (vkd w (vct w x0 1) = 16) ∧ (vkd w (vct w x0 0) = 18) ∧ VC d 265 [(2, vct w x0 0), (0, 0), (1, vct w (vct w x0 1) 7)] w (fun r w1 => VW d 160 61 [(2, x0), (0, x1), (0, x2), (1, y0), (9, 0), v5, v6] [(1, r)] w1 Q) :=
  (VW_b 8 (F := fun n => if vkd w x0 = 10 then if vkd w x0 = 10 then if vkd w (vct w x0 1) = 16 then if vkd w (vct w x0 0) = 18 then vclr (vrun n) d 160 61 265 3 1 [(2, x0), (0, x1), (0, x2), (1, y0), (9, 0), v5, v6] [(1, vct w (vct w x0 1) 7), (0, 0), (2, vct w x0 0)] w else none else none else none else none) (fun _ => rfl)).trans (EX_if.trans (and_congr Iff.rfl (EX_if.trans (and_congr Iff.rfl (EX_if.trans (and_congr Iff.rfl (EX_if.trans (and_congr Iff.rfl (EX_call rfl)))))))))
set_option maxRecDepth 100000 in
theorem b160_61 {d : Nat} {w : vW} {x0 x1 x2 x3 y0 : Int} {v5 v6 : vV} {Q : Int → vW → Prop} : VW d 160 61 [(2, x0), (0, x1), (0, x2), (1, x3), (9, 0), v5, v6] [(1, y0)] w Q ↔ (((vlc x3 y0) = 0 → VW d 160 88 [(2, x0), (0, x1), (0, x2), (1, x3), (9, 0), (1, y0), (9, 0)] [] w Q) ∧ (¬ ((vlc x3 y0) = 0) → VW d 160 70 [(2, x0), (0, x1), (0, x2), (1, x3), (9, 0), (1, y0), (9, 0)] [] w Q)) :=
  (VW_b 5 (F := fun n => (if (vlc x3 y0) = 0 then vrun n d 160 88 [(2, x0), (0, x1), (0, x2), (1, x3), (9, 0), (1, y0), (9, 0)] [] w else vrun n d 160 70 [(2, x0), (0, x1), (0, x2), (1, x3), (9, 0), (1, y0), (9, 0)] [] w)) (fun _ => rfl)).trans (EX_br.trans (and_congr (imp_congr Iff.rfl Iff.rfl) (imp_congr Iff.rfl Iff.rfl)))
set_option maxRecDepth 100000 in
theorem b160_70 {d : Nat} {w : vW} {x0 x1 x2 x3 x5 : Int} {Q : Int → vW → Prop} : VW d 160 70 [(2, x0), (0, x1), (0, x2), (1, x3), (9, 0), (1, x5), (9, 0)] [] w Q ↔ (vkd w x0 = 10) ∧ VC d 161 [(2, x0), (1, max x3 x5), (1, min x3 x5), (0, x1)] w (fun _ w1 => VW d 160 87 [(2, x0), (0, x1), (0, x2), (1, x3), (9, 0), (1, x5), (9, 0)] [] w1 Q) :=
  (VW_b 9 (F := fun n => if vkd w x0 = 10 then vclr (vrun n) d 160 87 161 4 9 [(2, x0), (0, x1), (0, x2), (1, x3), (9, 0), (1, x5), (9, 0)] [(0, x1), (1, min x3 x5), (1, max x3 x5), (2, x0)] w else none) (fun _ => rfl)).trans (EX_if.trans (and_congr Iff.rfl (EX_call rfl)))
set_option maxRecDepth 100000 in
theorem b160_87 {d : Nat} {w : vW} {x0 x1 x2 x3 x5 : Int} {Q : Int → vW → Prop} : VW d 160 87 [(2, x0), (0, x1), (0, x2), (1, x3), (9, 0), (1, x5), (9, 0)] [] w Q ↔ Q 0 w :=
  (VW_b 1 (F := fun n => some (0, 0, w)) (fun _ => rfl)).trans (EX_ret0)
set_option maxRecDepth 100000 in
theorem b160_88 {d : Nat} {w : vW} {x0 x1 x2 x3 x5 : Int} {Q : Int → vW → Prop} : VW d 160 88 [(2, x0), (0, x1), (0, x2), (1, x3), (9, 0), (1, x5), (9, 0)] [] w Q ↔ VW d 160 13 [(2, x0), (0, x1), (0, w32 (x2 + 1)), (1, x3), (9, 0), (1, x5), (9, 0)] [] w Q :=
  (VW_b 2 (F := fun n => vrun n d 160 13 [(2, x0), (0, x1), (0, w32 (x2 + 1)), (1, x3), (9, 0), (1, x5), (9, 0)] [] w) (fun _ => rfl)).trans (Iff.rfl)
set_option maxRecDepth 100000 in
theorem b160_94 {d : Nat} {w : vW} {x0 x1 x2 : Int} {v3 v4 v5 v6 : vV} {Q : Int → vW → Prop} : VW d 160 94 [(2, x0), (0, x1), (0, x2), v3, v4, v5, v6] [] w Q ↔ ((0 : Int) ≤ 1 ∧ 1 ≤ 1) ∧ (vkd w x0 = 10) ∧ VW d 160 99 [(2, x0), (0, x1), (0, x2), v3, v4, v5, v6] [] (vsv w x0 4 1) Q :=
  (VW_b 3 (F := fun n => if (0 : Int) ≤ 1 ∧ 1 ≤ 1 then if vkd w x0 = 10 then vrun n d 160 99 [(2, x0), (0, x1), (0, x2), v3, v4, v5, v6] [] (vsv w x0 4 1) else none else none) (fun _ => rfl)).trans (EX_if.trans (and_congr Iff.rfl (EX_if.trans (and_congr Iff.rfl (Iff.rfl)))))
set_option maxRecDepth 100000 in
theorem b160_99 {d : Nat} {w : vW} {x0 x1 x2 : Int} {v3 v4 v5 v6 : vV} {Q : Int → vW → Prop} : VW d 160 99 [(2, x0), (0, x1), (0, x2), v3, v4, v5, v6] [] w Q ↔ Q 0 w :=
  (VW_b 1 (F := fun n => some (0, 0, w)) (fun _ => rfl)).trans (EX_ret0)
/-! 161: StrikeWhatCancels$Aside.tell(JJI)V -/
set_option maxRecDepth 100000 in
theorem b161_0 {d : Nat} {w : vW} {x0 x1 x3 x5 : Int} {Q : Int → vW → Prop} : VW d 161 0 [(2, x0), (1, x1), (9, 0), (1, x3), (9, 0), (0, x5)] [] w Q ↔ VC d 273 [(1, x1)] w (fun r w1 => VW d 161 4 [(2, x0), (1, x1), (9, 0), (1, x3), (9, 0), (0, x5)] [(0, r)] w1 Q) :=
  (VW_b 2 (F := fun n => vclr (vrun n) d 161 4 273 1 0 [(2, x0), (1, x1), (9, 0), (1, x3), (9, 0), (0, x5)] [(1, x1)] w) (fun _ => rfl)).trans (EX_call rfl)
set_option maxRecDepth 100000 in
theorem b161_4 {d : Nat} {w : vW} {x0 x1 x3 x5 y0 : Int} {Q : Int → vW → Prop} : VW d 161 4 [(2, x0), (1, x1), (9, 0), (1, x3), (9, 0), (0, x5)] [(0, y0)] w Q ↔ ((5 < y0 → VW d 161 8 [(2, x0), (1, x1), (9, 0), (1, x3), (9, 0), (0, x5)] [] w Q) ∧ (¬ (5 < y0) → VW d 161 16 [(2, x0), (1, x1), (9, 0), (1, x3), (9, 0), (0, x5)] [] w Q)) :=
  (VW_b 2 (F := fun n => (if 5 < y0 then vrun n d 161 8 [(2, x0), (1, x1), (9, 0), (1, x3), (9, 0), (0, x5)] [] w else vrun n d 161 16 [(2, x0), (1, x1), (9, 0), (1, x3), (9, 0), (0, x5)] [] w)) (fun _ => rfl)).trans (EX_br.trans (and_congr (imp_congr Iff.rfl Iff.rfl) (imp_congr Iff.rfl Iff.rfl)))
set_option maxRecDepth 100000 in
theorem b161_8 {d : Nat} {w : vW} {x0 x1 x3 x5 : Int} {Q : Int → vW → Prop} : VW d 161 8 [(2, x0), (1, x1), (9, 0), (1, x3), (9, 0), (0, x5)] [] w Q ↔ ((0 : Int) ≤ 1 ∧ 1 ≤ 1) ∧ (vkd w x0 = 10) ∧ VW d 161 13 [(2, x0), (1, x1), (9, 0), (1, x3), (9, 0), (0, x5)] [] (vsv w x0 3 1) Q :=
  (VW_b 3 (F := fun n => if (0 : Int) ≤ 1 ∧ 1 ≤ 1 then if vkd w x0 = 10 then vrun n d 161 13 [(2, x0), (1, x1), (9, 0), (1, x3), (9, 0), (0, x5)] [] (vsv w x0 3 1) else none else none) (fun _ => rfl)).trans (EX_if.trans (and_congr Iff.rfl (EX_if.trans (and_congr Iff.rfl (Iff.rfl)))))
set_option maxRecDepth 100000 in
theorem b161_13 {d : Nat} {w : vW} {x0 x1 x3 x5 : Int} {Q : Int → vW → Prop} : VW d 161 13 [(2, x0), (1, x1), (9, 0), (1, x3), (9, 0), (0, x5)] [] w Q ↔ VW d 161 44 [(2, x0), (1, x1), (9, 0), (1, x3), (9, 0), (0, x5)] [] w Q :=
  (VW_b 1 (F := fun n => vrun n d 161 44 [(2, x0), (1, x1), (9, 0), (1, x3), (9, 0), (0, x5)] [] w) (fun _ => rfl)).trans (Iff.rfl)
set_option maxRecDepth 100000 in
theorem b161_16 {d : Nat} {w : vW} {x0 x1 x3 x5 : Int} {Q : Int → vW → Prop} : VW d 161 16 [(2, x0), (1, x1), (9, 0), (1, x3), (9, 0), (0, x5)] [] w Q ↔ (vkd w x0 = 10) ∧ (((vct w x0 5) < x5 → VW d 161 25 [(2, x0), (1, x1), (9, 0), (1, x3), (9, 0), (0, x5)] [] w Q) ∧ (¬ ((vct w x0 5) < x5) → VW d 161 44 [(2, x0), (1, x1), (9, 0), (1, x3), (9, 0), (0, x5)] [] w Q)) :=
  (VW_b 4 (F := fun n => if vkd w x0 = 10 then (if (vct w x0 5) < x5 then vrun n d 161 25 [(2, x0), (1, x1), (9, 0), (1, x3), (9, 0), (0, x5)] [] w else vrun n d 161 44 [(2, x0), (1, x1), (9, 0), (1, x3), (9, 0), (0, x5)] [] w) else none) (fun _ => rfl)).trans (EX_if.trans (and_congr Iff.rfl (EX_br.trans (and_congr (imp_congr Iff.rfl Iff.rfl) (imp_congr Iff.rfl Iff.rfl)))))
set_option maxRecDepth 100000 in
theorem b161_25 {d : Nat} {w : vW} {x0 x1 x3 x5 : Int} {Q : Int → vW → Prop} : VW d 161 25 [(2, x0), (1, x1), (9, 0), (1, x3), (9, 0), (0, x5)] [] w Q ↔ (vkd w x0 = 10) ∧ (vkd w (vct w x0 0) = 18) ∧ VC d 255 [(2, vct w x0 0), (1, x1), (1, x3)] w (fun _ w1 => VW d 161 34 [(2, x0), (1, x1), (9, 0), (1, x3), (9, 0), (0, x5)] [] w1 Q) :=
  (VW_b 5 (F := fun n => if vkd w x0 = 10 then if vkd w (vct w x0 0) = 18 then vclr (vrun n) d 161 34 255 3 9 [(2, x0), (1, x1), (9, 0), (1, x3), (9, 0), (0, x5)] [(1, x3), (1, x1), (2, vct w x0 0)] w else none else none) (fun _ => rfl)).trans (EX_if.trans (and_congr Iff.rfl (EX_if.trans (and_congr Iff.rfl (EX_call rfl)))))
set_option maxRecDepth 100000 in
theorem b161_34 {d : Nat} {w : vW} {x0 x1 x3 x5 : Int} {Q : Int → vW → Prop} : VW d 161 34 [(2, x0), (1, x1), (9, 0), (1, x3), (9, 0), (0, x5)] [] w Q ↔ (vkd w x0 = 10) ∧ (vkd w x0 = 10) ∧ VW d 161 44 [(2, x0), (1, x1), (9, 0), (1, x3), (9, 0), (0, x5)] [] (vsv w x0 5 (w32 ((vct w x0 5) + 1))) Q :=
  (VW_b 6 (F := fun n => if vkd w x0 = 10 then if vkd w x0 = 10 then vrun n d 161 44 [(2, x0), (1, x1), (9, 0), (1, x3), (9, 0), (0, x5)] [] (vsv w x0 5 (w32 ((vct w x0 5) + 1))) else none else none) (fun _ => rfl)).trans (EX_if.trans (and_congr Iff.rfl (EX_if.trans (and_congr Iff.rfl (Iff.rfl)))))
set_option maxRecDepth 100000 in
theorem b161_44 {d : Nat} {w : vW} {x0 x1 x3 x5 : Int} {Q : Int → vW → Prop} : VW d 161 44 [(2, x0), (1, x1), (9, 0), (1, x3), (9, 0), (0, x5)] [] w Q ↔ Q 0 w :=
  (VW_b 1 (F := fun n => some (0, 0, w)) (fun _ => rfl)).trans (EX_ret0)
/-! 162: StrikeWhatCancels$Balance.<init>()V -/
set_option maxRecDepth 100000 in
theorem b162_0 {d : Nat} {w : vW} {x0 : Int} {Q : Int → vW → Prop} : VW d 162 0 [(2, x0)] [] w Q ↔ (vkd w x0 ≠ 0) ∧ VW d 162 13 [(2, x0)] [(2, vnt w), (2, x0)] (vnwm w 6 1 12 8) Q :=
  (VW_b 6 (F := fun n => if vkd w x0 ≠ 0 then vrun n d 162 13 [(2, x0)] [(2, vnt w), (2, x0)] (vnwm w 6 1 12 8) else none) (fun _ => rfl)).trans (EX_if.trans (and_congr Iff.rfl (Iff.rfl)))
set_option maxRecDepth 100000 in
theorem b162_13 {d : Nat} {w : vW} {x0 y0 y1 : Int} {Q : Int → vW → Prop} : VW d 162 13 [(2, x0)] [(2, y1), (2, y0)] w Q ↔ (vkd w y0 = 11) ∧ VW d 162 16 [(2, x0)] [] (vsv w y0 0 y1) Q :=
  (VW_b 1 (F := fun n => if vkd w y0 = 11 then vrun n d 162 16 [(2, x0)] [] (vsv w y0 0 y1) else none) (fun _ => rfl)).trans (EX_if.trans (and_congr Iff.rfl (Iff.rfl)))
set_option maxRecDepth 100000 in
theorem b162_16 {d : Nat} {w : vW} {x0 : Int} {Q : Int → vW → Prop} : VW d 162 16 [(2, x0)] [] w Q ↔ VW d 162 25 [(2, x0)] [(2, vnt w), (2, x0)] (vnwm w 6 1 9 8) Q :=
  (VW_b 4 (F := fun n => vrun n d 162 25 [(2, x0)] [(2, vnt w), (2, x0)] (vnwm w 6 1 9 8)) (fun _ => rfl)).trans (Iff.rfl)
set_option maxRecDepth 100000 in
theorem b162_25 {d : Nat} {w : vW} {x0 y0 y1 : Int} {Q : Int → vW → Prop} : VW d 162 25 [(2, x0)] [(2, y1), (2, y0)] w Q ↔ (vkd w y0 = 11) ∧ VW d 162 28 [(2, x0)] [] (vsv w y0 1 y1) Q :=
  (VW_b 1 (F := fun n => if vkd w y0 = 11 then vrun n d 162 28 [(2, x0)] [] (vsv w y0 1 y1) else none) (fun _ => rfl)).trans (EX_if.trans (and_congr Iff.rfl (Iff.rfl)))
set_option maxRecDepth 100000 in
theorem b162_28 {d : Nat} {w : vW} {x0 : Int} {Q : Int → vW → Prop} : VW d 162 28 [(2, x0)] [] w Q ↔ VW d 162 37 [(2, x0)] [(2, vnt w), (2, x0)] (vnwm w 6 1 9 8) Q :=
  (VW_b 4 (F := fun n => vrun n d 162 37 [(2, x0)] [(2, vnt w), (2, x0)] (vnwm w 6 1 9 8)) (fun _ => rfl)).trans (Iff.rfl)
set_option maxRecDepth 100000 in
theorem b162_37 {d : Nat} {w : vW} {x0 y0 y1 : Int} {Q : Int → vW → Prop} : VW d 162 37 [(2, x0)] [(2, y1), (2, y0)] w Q ↔ (vkd w y0 = 11) ∧ VW d 162 40 [(2, x0)] [] (vsv w y0 2 y1) Q :=
  (VW_b 1 (F := fun n => if vkd w y0 = 11 then vrun n d 162 40 [(2, x0)] [] (vsv w y0 2 y1) else none) (fun _ => rfl)).trans (EX_if.trans (and_congr Iff.rfl (Iff.rfl)))
set_option maxRecDepth 100000 in
theorem b162_40 {d : Nat} {w : vW} {x0 : Int} {Q : Int → vW → Prop} : VW d 162 40 [(2, x0)] [] w Q ↔ (vkd w x0 = 11) ∧ VW d 162 45 [(2, x0)] [] (vsv w x0 3 0) Q :=
  (VW_b 3 (F := fun n => if vkd w x0 = 11 then vrun n d 162 45 [(2, x0)] [] (vsv w x0 3 0) else none) (fun _ => rfl)).trans (EX_if.trans (and_congr Iff.rfl (Iff.rfl)))
set_option maxRecDepth 100000 in
theorem b162_45 {d : Nat} {w : vW} {x0 : Int} {Q : Int → vW → Prop} : VW d 162 45 [(2, x0)] [] w Q ↔ (vkd w x0 = 11) ∧ VW d 162 50 [(2, x0)] [] (vsv w x0 4 (-1)) Q :=
  (VW_b 3 (F := fun n => if vkd w x0 = 11 then vrun n d 162 50 [(2, x0)] [] (vsv w x0 4 (-1)) else none) (fun _ => rfl)).trans (EX_if.trans (and_congr Iff.rfl (Iff.rfl)))
set_option maxRecDepth 100000 in
theorem b162_50 {d : Nat} {w : vW} {x0 : Int} {Q : Int → vW → Prop} : VW d 162 50 [(2, x0)] [] w Q ↔ ((0 : Int) ≤ 0 ∧ 0 ≤ 1) ∧ (vkd w x0 = 11) ∧ VW d 162 55 [(2, x0)] [] (vsv w x0 5 0) Q :=
  (VW_b 3 (F := fun n => if (0 : Int) ≤ 0 ∧ 0 ≤ 1 then if vkd w x0 = 11 then vrun n d 162 55 [(2, x0)] [] (vsv w x0 5 0) else none else none) (fun _ => rfl)).trans (EX_if.trans (and_congr Iff.rfl (EX_if.trans (and_congr Iff.rfl (Iff.rfl)))))
set_option maxRecDepth 100000 in
theorem b162_55 {d : Nat} {w : vW} {x0 : Int} {Q : Int → vW → Prop} : VW d 162 55 [(2, x0)] [] w Q ↔ Q 0 w :=
  (VW_b 1 (F := fun n => some (0, 0, w)) (fun _ => rfl)).trans (EX_ret0)
/-! 163: StrikeWhatCancels$Balance.solve(LStrikeWhatCancels$Rules;)Z -/
set_option maxRecDepth 100000 in
theorem b163_0 {d : Nat} {w : vW} {x0 x1 : Int} {Q : Int → vW → Prop} : VW d 163 0 [(2, x0), (2, x1)] [] w Q ↔ (vkd w x0 = 11) ∧ (vkd w x1 = 18) ∧ (((vct w x0 4) = (vct w x1 4) → VW d 163 60 [(2, x0), (2, x1)] [] w Q) ∧ (¬ ((vct w x0 4) = (vct w x1 4)) → VW d 163 11 [(2, x0), (2, x1)] [] w Q)) :=
  (VW_b 5 (F := fun n => if vkd w x0 = 11 then if vkd w x1 = 18 then (if (vct w x0 4) = (vct w x1 4) then vrun n d 163 60 [(2, x0), (2, x1)] [] w else vrun n d 163 11 [(2, x0), (2, x1)] [] w) else none else none) (fun _ => rfl)).trans (EX_if.trans (and_congr Iff.rfl (EX_if.trans (and_congr Iff.rfl (EX_br.trans (and_congr (imp_congr Iff.rfl Iff.rfl) (imp_congr Iff.rfl Iff.rfl)))))))
set_option maxRecDepth 100000 in
theorem b163_11 {d : Nat} {w : vW} {x0 x1 : Int} {Q : Int → vW → Prop} : VW d 163 11 [(2, x0), (2, x1)] [] w Q ↔ (vkd w x1 = 18) ∧ (vkd w x0 = 11) ∧ VW d 163 19 [(2, x0), (2, x1)] [] (vsv w x0 4 (vct w x1 4)) Q :=
  (VW_b 4 (F := fun n => if vkd w x1 = 18 then if vkd w x0 = 11 then vrun n d 163 19 [(2, x0), (2, x1)] [] (vsv w x0 4 (vct w x1 4)) else none else none) (fun _ => rfl)).trans (EX_if.trans (and_congr Iff.rfl (EX_if.trans (and_congr Iff.rfl (Iff.rfl)))))
set_option maxRecDepth 100000 in
theorem b163_19 {d : Nat} {w : vW} {x0 x1 : Int} {Q : Int → vW → Prop} : VW d 163 19 [(2, x0), (2, x1)] [] w Q ↔ (vkd w x0 = 11) ∧ VC d 164 [(2, x0), (2, x1)] w (fun _ w1 => VW d 163 24 [(2, x0), (2, x1)] [] w1 Q) :=
  (VW_b 3 (F := fun n => if vkd w x0 = 11 then vclr (vrun n) d 163 24 164 2 9 [(2, x0), (2, x1)] [(2, x1), (2, x0)] w else none) (fun _ => rfl)).trans (EX_if.trans (and_congr Iff.rfl (EX_call rfl)))
set_option maxRecDepth 100000 in
theorem b163_24 {d : Nat} {w : vW} {x0 x1 : Int} {Q : Int → vW → Prop} : VW d 163 24 [(2, x0), (2, x1)] [] w Q ↔ (vkd w x0 = 11) ∧ (vkd w (vct w x0 1) = 6 ∧ (0 : Int) ≤ 0 ∧ 0 < vln w (vct w x0 1)) ∧ (vkd w x0 = 11) ∧ (vkd w (vct w x0 2) = 6 ∧ (0 : Int) ≤ 0 ∧ 0 < vln w (vct w x0 2)) ∧ (vkd w x0 = 11) ∧ VC d 168 [(2, x0), (2, vct w (vct w x0 1) 0), (2, vct w (vct w x0 2) 0)] w (fun r w1 => VW d 163 41 [(2, x0), (2, x1)] [(0, r), (2, x0)] w1 Q) :=
  (VW_b 11 (F := fun n => if vkd w x0 = 11 then if vkd w (vct w x0 1) = 6 ∧ (0 : Int) ≤ 0 ∧ 0 < vln w (vct w x0 1) then if vkd w x0 = 11 then if vkd w (vct w x0 2) = 6 ∧ (0 : Int) ≤ 0 ∧ 0 < vln w (vct w x0 2) then if vkd w x0 = 11 then vclr (vrun n) d 163 41 168 3 0 [(2, x0), (2, x1)] [(2, vct w (vct w x0 2) 0), (2, vct w (vct w x0 1) 0), (2, x0), (2, x0)] w else none else none else none else none else none) (fun _ => rfl)).trans (EX_if.trans (and_congr Iff.rfl (EX_if.trans (and_congr Iff.rfl (EX_if.trans (and_congr Iff.rfl (EX_if.trans (and_congr Iff.rfl (EX_if.trans (and_congr Iff.rfl (EX_call rfl)))))))))))
set_option maxRecDepth 100000 in
theorem b163_41 {d : Nat} {w : vW} {x0 x1 y0 y1 : Int} {Q : Int → vW → Prop} : VW d 163 41 [(2, x0), (2, x1)] [(0, y1), (2, y0)] w Q ↔ ((y1 = 0 → VW d 163 56 [(2, x0), (2, x1)] [(2, y0)] w Q) ∧ (¬ (y1 = 0) → VW d 163 44 [(2, x0), (2, x1)] [(2, y0)] w Q)) :=
  (VW_b 1 (F := fun n => (if y1 = 0 then vrun n d 163 56 [(2, x0), (2, x1)] [(2, y0)] w else vrun n d 163 44 [(2, x0), (2, x1)] [(2, y0)] w)) (fun _ => rfl)).trans (EX_br.trans (and_congr (imp_congr Iff.rfl Iff.rfl) (imp_congr Iff.rfl Iff.rfl)))
set_option maxRecDepth 100000 in
theorem b163_44 {d : Nat} {w : vW} {x0 x1 y0 : Int} {Q : Int → vW → Prop} : VW d 163 44 [(2, x0), (2, x1)] [(2, y0)] w Q ↔ (vkd w x0 = 11) ∧ VC d 167 [(2, x0), (0, 0)] w (fun r w1 => VW d 163 49 [(2, x0), (2, x1)] [(0, r), (2, y0)] w1 Q) :=
  (VW_b 3 (F := fun n => if vkd w x0 = 11 then vclr (vrun n) d 163 49 167 2 0 [(2, x0), (2, x1)] [(0, 0), (2, x0), (2, y0)] w else none) (fun _ => rfl)).trans (EX_if.trans (and_congr Iff.rfl (EX_call rfl)))
set_option maxRecDepth 100000 in
theorem b163_49 {d : Nat} {w : vW} {x0 x1 y0 y1 : Int} {Q : Int → vW → Prop} : VW d 163 49 [(2, x0), (2, x1)] [(0, y1), (2, y0)] w Q ↔ ((y1 = 0 → VW d 163 56 [(2, x0), (2, x1)] [(2, y0)] w Q) ∧ (¬ (y1 = 0) → VW d 163 52 [(2, x0), (2, x1)] [(2, y0)] w Q)) :=
  (VW_b 1 (F := fun n => (if y1 = 0 then vrun n d 163 56 [(2, x0), (2, x1)] [(2, y0)] w else vrun n d 163 52 [(2, x0), (2, x1)] [(2, y0)] w)) (fun _ => rfl)).trans (EX_br.trans (and_congr (imp_congr Iff.rfl Iff.rfl) (imp_congr Iff.rfl Iff.rfl)))
set_option maxRecDepth 100000 in
theorem b163_52 {d : Nat} {w : vW} {x0 x1 y0 : Int} {Q : Int → vW → Prop} : VW d 163 52 [(2, x0), (2, x1)] [(2, y0)] w Q ↔ VW d 163 57 [(2, x0), (2, x1)] [(0, 1), (2, y0)] w Q :=
  (VW_b 2 (F := fun n => vrun n d 163 57 [(2, x0), (2, x1)] [(0, 1), (2, y0)] w) (fun _ => rfl)).trans (Iff.rfl)
set_option maxRecDepth 100000 in
theorem b163_56 {d : Nat} {w : vW} {x0 x1 y0 : Int} {Q : Int → vW → Prop} : VW d 163 56 [(2, x0), (2, x1)] [(2, y0)] w Q ↔ VW d 163 57 [(2, x0), (2, x1)] [(0, 0), (2, y0)] w Q :=
  (VW_b 1 (F := fun n => vrun n d 163 57 [(2, x0), (2, x1)] [(0, 0), (2, y0)] w) (fun _ => rfl)).trans (Iff.rfl)
set_option maxRecDepth 100000 in
theorem b163_57 {d : Nat} {w : vW} {x0 x1 y0 y1 : Int} {Q : Int → vW → Prop} : VW d 163 57 [(2, x0), (2, x1)] [(0, y1), (2, y0)] w Q ↔ ((0 : Int) ≤ y1 ∧ y1 ≤ 1) ∧ (vkd w y0 = 11) ∧ VW d 163 60 [(2, x0), (2, x1)] [] (vsv w y0 5 y1) Q :=
  (VW_b 1 (F := fun n => if (0 : Int) ≤ y1 ∧ y1 ≤ 1 then if vkd w y0 = 11 then vrun n d 163 60 [(2, x0), (2, x1)] [] (vsv w y0 5 y1) else none else none) (fun _ => rfl)).trans (EX_if.trans (and_congr Iff.rfl (EX_if.trans (and_congr Iff.rfl (Iff.rfl)))))
set_option maxRecDepth 100000 in
theorem b163_60 {d : Nat} {w : vW} {x0 x1 : Int} {Q : Int → vW → Prop} : VW d 163 60 [(2, x0), (2, x1)] [] w Q ↔ (vkd w x0 = 11) ∧ ((0 : Int) ≤ (vct w x0 5) ∧ (vct w x0 5) ≤ 1) ∧ Q (vct w x0 5) w :=
  (VW_b 3 (F := fun n => if vkd w x0 = 11 then if (0 : Int) ≤ (vct w x0 5) ∧ (vct w x0 5) ≤ 1 then some (0, vct w x0 5, w) else none else none) (fun _ => rfl)).trans (EX_if.trans (and_congr Iff.rfl (EX_if.trans (and_congr Iff.rfl (EX_ret0)))))
/-! 164: StrikeWhatCancels$Balance.begin(LStrikeWhatCancels$Rules;)V -/
set_option maxRecDepth 100000 in
theorem b164_0 {d : Nat} {w : vW} {x0 x1 : Int} {Q : Int → vW → Prop} : VW d 164 0 [(2, x0), (2, x1), (9, 0), (9, 0)] [] w Q ↔ (vkd w x1 = 18) ∧ (vkd w x0 = 11) ∧ (vkd w (vct w x0 0) = 6) ∧ (vkd w x0 = 11) ∧ VW d 164 16 [(2, x0), (2, x1), (9, 0), (9, 0)] [] (vsv w x0 3 (min (vct w x1 3) (vln w (vct w x0 0)))) Q :=
  (VW_b 8 (F := fun n => if vkd w x1 = 18 then if vkd w x0 = 11 then if vkd w (vct w x0 0) = 6 then if vkd w x0 = 11 then vrun n d 164 16 [(2, x0), (2, x1), (9, 0), (9, 0)] [] (vsv w x0 3 (min (vct w x1 3) (vln w (vct w x0 0)))) else none else none else none else none) (fun _ => rfl)).trans (EX_if.trans (and_congr Iff.rfl (EX_if.trans (and_congr Iff.rfl (EX_if.trans (and_congr Iff.rfl (EX_if.trans (and_congr Iff.rfl (Iff.rfl)))))))))
set_option maxRecDepth 100000 in
theorem b164_16 {d : Nat} {w : vW} {x0 x1 : Int} {Q : Int → vW → Prop} : VW d 164 16 [(2, x0), (2, x1), (9, 0), (9, 0)] [] w Q ↔ VW d 164 18 [(2, x0), (2, x1), (0, 0), (9, 0)] [] w Q :=
  (VW_b 2 (F := fun n => vrun n d 164 18 [(2, x0), (2, x1), (0, 0), (9, 0)] [] w) (fun _ => rfl)).trans (Iff.rfl)
set_option maxRecDepth 100000 in
theorem b164_18 {d : Nat} {w : vW} {x0 x1 x2 : Int} {v3 : vV} {Q : Int → vW → Prop} : VW d 164 18 [(2, x0), (2, x1), (0, x2), v3] [] w Q ↔ (vkd w x0 = 11) ∧ ((x2 < (vct w x0 3) → VW d 164 26 [(2, x0), (2, x1), (0, x2), v3] [] w Q) ∧ (¬ (x2 < (vct w x0 3)) → VW d 164 77 [(2, x0), (2, x1), (0, x2), v3] [] w Q)) :=
  (VW_b 4 (F := fun n => if vkd w x0 = 11 then (if x2 < (vct w x0 3) then vrun n d 164 26 [(2, x0), (2, x1), (0, x2), v3] [] w else vrun n d 164 77 [(2, x0), (2, x1), (0, x2), v3] [] w) else none) (fun _ => rfl)).trans (EX_if.trans (and_congr Iff.rfl (EX_br.trans (and_congr (imp_congr Iff.rfl Iff.rfl) (imp_congr Iff.rfl Iff.rfl)))))
set_option maxRecDepth 100000 in
theorem b164_26 {d : Nat} {w : vW} {x0 x1 x2 : Int} {v3 : vV} {Q : Int → vW → Prop} : VW d 164 26 [(2, x0), (2, x1), (0, x2), v3] [] w Q ↔ VW d 164 28 [(2, x0), (2, x1), (0, x2), (0, 0)] [] w Q :=
  (VW_b 2 (F := fun n => vrun n d 164 28 [(2, x0), (2, x1), (0, x2), (0, 0)] [] w) (fun _ => rfl)).trans (Iff.rfl)
set_option maxRecDepth 100000 in
theorem b164_28 {d : Nat} {w : vW} {x0 x1 x2 x3 : Int} {Q : Int → vW → Prop} : VW d 164 28 [(2, x0), (2, x1), (0, x2), (0, x3)] [] w Q ↔ ((x3 < 8 → VW d 164 34 [(2, x0), (2, x1), (0, x2), (0, x3)] [] w Q) ∧ (¬ (x3 < 8) → VW d 164 71 [(2, x0), (2, x1), (0, x2), (0, x3)] [] w Q)) :=
  (VW_b 3 (F := fun n => (if x3 < 8 then vrun n d 164 34 [(2, x0), (2, x1), (0, x2), (0, x3)] [] w else vrun n d 164 71 [(2, x0), (2, x1), (0, x2), (0, x3)] [] w)) (fun _ => rfl)).trans (EX_br.trans (and_congr (imp_congr Iff.rfl Iff.rfl) (imp_congr Iff.rfl Iff.rfl)))
set_option maxRecDepth 100000 in
theorem b164_34 {d : Nat} {w : vW} {x0 x1 x2 x3 : Int} {Q : Int → vW → Prop} : VW d 164 34 [(2, x0), (2, x1), (0, x2), (0, x3)] [] w Q ↔ (vkd w x0 = 11) ∧ (vkd w (vct w x0 0) = 6 ∧ (0 : Int) ≤ x2 ∧ x2 < vln w (vct w x0 0)) ∧ (vkd w x1 = 18) ∧ VC d 252 [(2, x1), (0, x2)] w (fun r w1 => VW d 164 46 [(2, x0), (2, x1), (0, x2), (0, x3)] [(1, r), (0, x3), (2, vct w (vct w x0 0) x2)] w1 Q) :=
  (VW_b 8 (F := fun n => if vkd w x0 = 11 then if vkd w (vct w x0 0) = 6 ∧ (0 : Int) ≤ x2 ∧ x2 < vln w (vct w x0 0) then if vkd w x1 = 18 then vclr (vrun n) d 164 46 252 2 1 [(2, x0), (2, x1), (0, x2), (0, x3)] [(0, x2), (2, x1), (0, x3), (2, vct w (vct w x0 0) x2)] w else none else none else none) (fun _ => rfl)).trans (EX_if.trans (and_congr Iff.rfl (EX_if.trans (and_congr Iff.rfl (EX_if.trans (and_congr Iff.rfl (EX_call rfl)))))))
set_option maxRecDepth 100000 in
theorem b164_46 {d : Nat} {w : vW} {x0 x1 x2 x3 y0 y1 y2 : Int} {Q : Int → vW → Prop} : VW d 164 46 [(2, x0), (2, x1), (0, x2), (0, x3)] [(1, y2), (0, y1), (2, y0)] w Q ↔ VC d 166 [(1, y2), (0, w32 (x3 + 1))] w (fun r w1 => VW d 164 52 [(2, x0), (2, x1), (0, x2), (0, x3)] [(0, r), (0, y1), (2, y0)] w1 Q) :=
  (VW_b 4 (F := fun n => vclr (vrun n) d 164 52 166 2 0 [(2, x0), (2, x1), (0, x2), (0, x3)] [(0, w32 (x3 + 1)), (1, y2), (0, y1), (2, y0)] w) (fun _ => rfl)).trans (EX_call rfl)
set_option maxRecDepth 100000 in
theorem b164_52 {d : Nat} {w : vW} {x0 x1 x2 x3 y0 y1 y2 : Int} {Q : Int → vW → Prop} : VW d 164 52 [(2, x0), (2, x1), (0, x2), (0, x3)] [(0, y2), (0, y1), (2, y0)] w Q ↔ (vkd w x1 = 18) ∧ VC d 253 [(2, x1), (0, x2)] w (fun r w1 => VW d 164 57 [(2, x0), (2, x1), (0, x2), (0, x3)] [(1, r), (0, y2), (0, y1), (2, y0)] w1 Q) :=
  (VW_b 3 (F := fun n => if vkd w x1 = 18 then vclr (vrun n) d 164 57 253 2 1 [(2, x0), (2, x1), (0, x2), (0, x3)] [(0, x2), (2, x1), (0, y2), (0, y1), (2, y0)] w else none) (fun _ => rfl)).trans (EX_if.trans (and_congr Iff.rfl (EX_call rfl)))
set_option maxRecDepth 100000 in
theorem b164_57 {d : Nat} {w : vW} {x0 x1 x2 x3 y0 y1 y2 y3 : Int} {Q : Int → vW → Prop} : VW d 164 57 [(2, x0), (2, x1), (0, x2), (0, x3)] [(1, y3), (0, y2), (0, y1), (2, y0)] w Q ↔ VC d 166 [(1, y3), (0, w32 (x3 + 1))] w (fun r w1 => VW d 164 63 [(2, x0), (2, x1), (0, x2), (0, x3)] [(0, r), (0, y2), (0, y1), (2, y0)] w1 Q) :=
  (VW_b 4 (F := fun n => vclr (vrun n) d 164 63 166 2 0 [(2, x0), (2, x1), (0, x2), (0, x3)] [(0, w32 (x3 + 1)), (1, y3), (0, y2), (0, y1), (2, y0)] w) (fun _ => rfl)).trans (EX_call rfl)
set_option maxRecDepth 100000 in
theorem b164_63 {d : Nat} {w : vW} {x0 x1 x2 x3 y0 y1 y2 y3 : Int} {Q : Int → vW → Prop} : VW d 164 63 [(2, x0), (2, x1), (0, x2), (0, x3)] [(0, y3), (0, y2), (0, y1), (2, y0)] w Q ↔ (vkd w y0 = 1 ∧ (0 : Int) ≤ y1 ∧ y1 < vln w y0) ∧ VW d 164 65 [(2, x0), (2, x1), (0, x2), (0, x3)] [] (vsv w y0 y1 (w32 (y2 - y3))) Q :=
  (VW_b 2 (F := fun n => if vkd w y0 = 1 ∧ (0 : Int) ≤ y1 ∧ y1 < vln w y0 then vrun n d 164 65 [(2, x0), (2, x1), (0, x2), (0, x3)] [] (vsv w y0 y1 (w32 (y2 - y3))) else none) (fun _ => rfl)).trans (EX_if.trans (and_congr Iff.rfl (Iff.rfl)))
set_option maxRecDepth 100000 in
theorem b164_65 {d : Nat} {w : vW} {x0 x1 x2 x3 : Int} {Q : Int → vW → Prop} : VW d 164 65 [(2, x0), (2, x1), (0, x2), (0, x3)] [] w Q ↔ VW d 164 28 [(2, x0), (2, x1), (0, x2), (0, w32 (x3 + 1))] [] w Q :=
  (VW_b 2 (F := fun n => vrun n d 164 28 [(2, x0), (2, x1), (0, x2), (0, w32 (x3 + 1))] [] w) (fun _ => rfl)).trans (Iff.rfl)
set_option maxRecDepth 100000 in
theorem b164_71 {d : Nat} {w : vW} {x0 x1 x2 x3 : Int} {Q : Int → vW → Prop} : VW d 164 71 [(2, x0), (2, x1), (0, x2), (0, x3)] [] w Q ↔ VW d 164 18 [(2, x0), (2, x1), (0, w32 (x2 + 1)), (0, x3)] [] w Q :=
  (VW_b 2 (F := fun n => vrun n d 164 18 [(2, x0), (2, x1), (0, w32 (x2 + 1)), (0, x3)] [] w) (fun _ => rfl)).trans (Iff.rfl)
set_option maxRecDepth 100000 in
theorem b164_77 {d : Nat} {w : vW} {x0 x1 x2 : Int} {v3 : vV} {Q : Int → vW → Prop} : VW d 164 77 [(2, x0), (2, x1), (0, x2), v3] [] w Q ↔ VW d 164 79 [(2, x0), (2, x1), (0, 0), v3] [] w Q :=
  (VW_b 2 (F := fun n => vrun n d 164 79 [(2, x0), (2, x1), (0, 0), v3] [] w) (fun _ => rfl)).trans (Iff.rfl)
set_option maxRecDepth 100000 in
theorem b164_79 {d : Nat} {w : vW} {x0 x1 x2 : Int} {v3 : vV} {Q : Int → vW → Prop} : VW d 164 79 [(2, x0), (2, x1), (0, x2), v3] [] w Q ↔ ((x2 < 8 → VW d 164 85 [(2, x0), (2, x1), (0, x2), v3] [] w Q) ∧ (¬ (x2 < 8) → VW d 164 110 [(2, x0), (2, x1), (0, x2), v3] [] w Q)) :=
  (VW_b 3 (F := fun n => (if x2 < 8 then vrun n d 164 85 [(2, x0), (2, x1), (0, x2), v3] [] w else vrun n d 164 110 [(2, x0), (2, x1), (0, x2), v3] [] w)) (fun _ => rfl)).trans (EX_br.trans (and_congr (imp_congr Iff.rfl Iff.rfl) (imp_congr Iff.rfl Iff.rfl)))
set_option maxRecDepth 100000 in
theorem b164_85 {d : Nat} {w : vW} {x0 x1 x2 : Int} {v3 : vV} {Q : Int → vW → Prop} : VW d 164 85 [(2, x0), (2, x1), (0, x2), v3] [] w Q ↔ (vkd w x0 = 11) ∧ (vkd w (vct w x0 1) = 6 ∧ (0 : Int) ≤ 0 ∧ 0 < vln w (vct w x0 1)) ∧ (vkd w (vct w (vct w x0 1) 0) = 1 ∧ (0 : Int) ≤ x2 ∧ x2 < vln w (vct w (vct w x0 1) 0)) ∧ VW d 164 94 [(2, x0), (2, x1), (0, x2), v3] [] (vsv w (vct w (vct w x0 1) 0) x2 1) Q :=
  (VW_b 7 (F := fun n => if vkd w x0 = 11 then if vkd w (vct w x0 1) = 6 ∧ (0 : Int) ≤ 0 ∧ 0 < vln w (vct w x0 1) then if vkd w (vct w (vct w x0 1) 0) = 1 ∧ (0 : Int) ≤ x2 ∧ x2 < vln w (vct w (vct w x0 1) 0) then vrun n d 164 94 [(2, x0), (2, x1), (0, x2), v3] [] (vsv w (vct w (vct w x0 1) 0) x2 1) else none else none else none) (fun _ => rfl)).trans (EX_if.trans (and_congr Iff.rfl (EX_if.trans (and_congr Iff.rfl (EX_if.trans (and_congr Iff.rfl (Iff.rfl)))))))
set_option maxRecDepth 100000 in
theorem b164_94 {d : Nat} {w : vW} {x0 x1 x2 : Int} {v3 : vV} {Q : Int → vW → Prop} : VW d 164 94 [(2, x0), (2, x1), (0, x2), v3] [] w Q ↔ (vkd w x0 = 11) ∧ (vkd w (vct w x0 2) = 6 ∧ (0 : Int) ≤ 0 ∧ 0 < vln w (vct w x0 2)) ∧ (vkd w (vct w (vct w x0 2) 0) = 1 ∧ (0 : Int) ≤ x2 ∧ x2 < vln w (vct w (vct w x0 2) 0)) ∧ VW d 164 104 [(2, x0), (2, x1), (0, x2), v3] [] (vsv w (vct w (vct w x0 2) 0) x2 9) Q :=
  (VW_b 7 (F := fun n => if vkd w x0 = 11 then if vkd w (vct w x0 2) = 6 ∧ (0 : Int) ≤ 0 ∧ 0 < vln w (vct w x0 2) then if vkd w (vct w (vct w x0 2) 0) = 1 ∧ (0 : Int) ≤ x2 ∧ x2 < vln w (vct w (vct w x0 2) 0) then vrun n d 164 104 [(2, x0), (2, x1), (0, x2), v3] [] (vsv w (vct w (vct w x0 2) 0) x2 9) else none else none else none) (fun _ => rfl)).trans (EX_if.trans (and_congr Iff.rfl (EX_if.trans (and_congr Iff.rfl (EX_if.trans (and_congr Iff.rfl (Iff.rfl)))))))
set_option maxRecDepth 100000 in
theorem b164_104 {d : Nat} {w : vW} {x0 x1 x2 : Int} {v3 : vV} {Q : Int → vW → Prop} : VW d 164 104 [(2, x0), (2, x1), (0, x2), v3] [] w Q ↔ VW d 164 79 [(2, x0), (2, x1), (0, w32 (x2 + 1)), v3] [] w Q :=
  (VW_b 2 (F := fun n => vrun n d 164 79 [(2, x0), (2, x1), (0, w32 (x2 + 1)), v3] [] w) (fun _ => rfl)).trans (Iff.rfl)
set_option maxRecDepth 100000 in
theorem b164_110 {d : Nat} {w : vW} {x0 x1 x2 : Int} {v3 : vV} {Q : Int → vW → Prop} : VW d 164 110 [(2, x0), (2, x1), (0, x2), v3] [] w Q ↔ Q 0 w :=
  (VW_b 1 (F := fun n => some (0, 0, w)) (fun _ => rfl)).trans (EX_ret0)
/-! 165: StrikeWhatCancels$Balance.weightOf(I)I -/
set_option maxRecDepth 100000 in
theorem b165_0 {d : Nat} {w : vW} {x0 x1 : Int} {Q : Int → vW → Prop} : VW d 165 0 [(2, x0), (0, x1)] [] w Q ↔ ((x1 < 0 → VW d 165 22 [(2, x0), (0, x1)] [] w Q) ∧ (¬ (x1 < 0) → VW d 165 4 [(2, x0), (0, x1)] [] w Q)) :=
  (VW_b 2 (F := fun n => (if x1 < 0 then vrun n d 165 22 [(2, x0), (0, x1)] [] w else vrun n d 165 4 [(2, x0), (0, x1)] [] w)) (fun _ => rfl)).trans (EX_br.trans (and_congr (imp_congr Iff.rfl Iff.rfl) (imp_congr Iff.rfl Iff.rfl)))
set_option maxRecDepth 100000 in
theorem b165_4 {d : Nat} {w : vW} {x0 x1 : Int} {Q : Int → vW → Prop} : VW d 165 4 [(2, x0), (0, x1)] [] w Q ↔ ((x1 < 8 → VW d 165 10 [(2, x0), (0, x1)] [] w Q) ∧ (¬ (x1 < 8) → VW d 165 22 [(2, x0), (0, x1)] [] w Q)) :=
  (VW_b 3 (F := fun n => (if x1 < 8 then vrun n d 165 10 [(2, x0), (0, x1)] [] w else vrun n d 165 22 [(2, x0), (0, x1)] [] w)) (fun _ => rfl)).trans (EX_br.trans (and_congr (imp_congr Iff.rfl Iff.rfl) (imp_congr Iff.rfl Iff.rfl)))
set_option maxRecDepth 100000 in
theorem b165_10 {d : Nat} {w : vW} {x0 x1 : Int} {Q : Int → vW → Prop} : VW d 165 10 [(2, x0), (0, x1)] [] w Q ↔ (vkd w x0 = 11) ∧ (vkd w (vct w x0 1) = 6 ∧ (0 : Int) ≤ 8 ∧ 8 < vln w (vct w x0 1)) ∧ (vkd w (vct w (vct w x0 1) 8) = 1 ∧ (0 : Int) ≤ x1 ∧ x1 < vln w (vct w (vct w x0 1) 8)) ∧ VW d 165 23 [(2, x0), (0, x1)] [(0, vct w (vct w (vct w x0 1) 8) x1)] w Q :=
  (VW_b 7 (F := fun n => if vkd w x0 = 11 then if vkd w (vct w x0 1) = 6 ∧ (0 : Int) ≤ 8 ∧ 8 < vln w (vct w x0 1) then if vkd w (vct w (vct w x0 1) 8) = 1 ∧ (0 : Int) ≤ x1 ∧ x1 < vln w (vct w (vct w x0 1) 8) then vrun n d 165 23 [(2, x0), (0, x1)] [(0, vct w (vct w (vct w x0 1) 8) x1)] w else none else none else none) (fun _ => rfl)).trans (EX_if.trans (and_congr Iff.rfl (EX_if.trans (and_congr Iff.rfl (EX_if.trans (and_congr Iff.rfl (Iff.rfl)))))))
set_option maxRecDepth 100000 in
theorem b165_22 {d : Nat} {w : vW} {x0 x1 : Int} {Q : Int → vW → Prop} : VW d 165 22 [(2, x0), (0, x1)] [] w Q ↔ VW d 165 23 [(2, x0), (0, x1)] [(0, 1)] w Q :=
  (VW_b 1 (F := fun n => vrun n d 165 23 [(2, x0), (0, x1)] [(0, 1)] w) (fun _ => rfl)).trans (Iff.rfl)
set_option maxRecDepth 100000 in
theorem b165_23 {d : Nat} {w : vW} {x0 x1 y0 : Int} {Q : Int → vW → Prop} : VW d 165 23 [(2, x0), (0, x1)] [(0, y0)] w Q ↔ Q y0 w :=
  (VW_b 1 (F := fun n => some (0, y0, w)) (fun _ => rfl)).trans (EX_ret0)
/-! 166: StrikeWhatCancels$Balance.times(JI)I -/
set_option maxRecDepth 100000 in
theorem b166_0 {d : Nat} {w : vW} {x0 x2 : Int} {Q : Int → vW → Prop} : VW d 166 0 [(1, x0), (9, 0), (0, x2), (9, 0), (9, 0)] [] w Q ↔ VW d 166 5 [(1, x0), (9, 0), (0, x2), (0, 0), (0, 0)] [] w Q :=
  (VW_b 4 (F := fun n => vrun n d 166 5 [(1, x0), (9, 0), (0, x2), (0, 0), (0, 0)] [] w) (fun _ => rfl)).trans (Iff.rfl)
set_option maxRecDepth 100000 in
theorem b166_5 {d : Nat} {w : vW} {x0 x2 x3 x4 : Int} {Q : Int → vW → Prop} : VW d 166 5 [(1, x0), (9, 0), (0, x2), (0, x3), (0, x4)] [] w Q ↔ VC d 273 [(1, x0)] w (fun r w1 => VW d 166 11 [(1, x0), (9, 0), (0, x2), (0, x3), (0, x4)] [(0, r), (0, x4)] w1 Q) :=
  (VW_b 3 (F := fun n => vclr (vrun n) d 166 11 273 1 0 [(1, x0), (9, 0), (0, x2), (0, x3), (0, x4)] [(1, x0), (0, x4)] w) (fun _ => rfl)).trans (EX_call rfl)
set_option maxRecDepth 100000 in
theorem b166_11 {d : Nat} {w : vW} {x0 x2 x3 x4 y0 y1 : Int} {Q : Int → vW → Prop} : VW d 166 11 [(1, x0), (9, 0), (0, x2), (0, x3), (0, x4)] [(0, y1), (0, y0)] w Q ↔ ((y0 < y1 → VW d 166 14 [(1, x0), (9, 0), (0, x2), (0, x3), (0, x4)] [] w Q) ∧ (¬ (y0 < y1) → VW d 166 38 [(1, x0), (9, 0), (0, x2), (0, x3), (0, x4)] [] w Q)) :=
  (VW_b 1 (F := fun n => (if y0 < y1 then vrun n d 166 14 [(1, x0), (9, 0), (0, x2), (0, x3), (0, x4)] [] w else vrun n d 166 38 [(1, x0), (9, 0), (0, x2), (0, x3), (0, x4)] [] w)) (fun _ => rfl)).trans (EX_br.trans (and_congr (imp_congr Iff.rfl Iff.rfl) (imp_congr Iff.rfl Iff.rfl)))
set_option maxRecDepth 100000 in
theorem b166_14 {d : Nat} {w : vW} {x0 x2 x3 x4 : Int} {Q : Int → vW → Prop} : VW d 166 14 [(1, x0), (9, 0), (0, x2), (0, x3), (0, x4)] [] w Q ↔ VC d 276 [(1, x0), (0, x4)] w (fun r w1 => VW d 166 21 [(1, x0), (9, 0), (0, x2), (0, x3), (0, x4)] [(0, r), (0, x3)] w1 Q) :=
  (VW_b 4 (F := fun n => vclr (vrun n) d 166 21 276 2 0 [(1, x0), (9, 0), (0, x2), (0, x3), (0, x4)] [(0, x4), (1, x0), (0, x3)] w) (fun _ => rfl)).trans (EX_call rfl)
set_option maxRecDepth 100000 in
theorem b166_21 {d : Nat} {w : vW} {x0 x2 x3 x4 y0 y1 : Int} {Q : Int → vW → Prop} : VW d 166 21 [(1, x0), (9, 0), (0, x2), (0, x3), (0, x4)] [(0, y1), (0, y0)] w Q ↔ ((y1 = x2 → VW d 166 25 [(1, x0), (9, 0), (0, x2), (0, x3), (0, x4)] [(0, y0)] w Q) ∧ (¬ (y1 = x2) → VW d 166 29 [(1, x0), (9, 0), (0, x2), (0, x3), (0, x4)] [(0, y0)] w Q)) :=
  (VW_b 2 (F := fun n => (if y1 = x2 then vrun n d 166 25 [(1, x0), (9, 0), (0, x2), (0, x3), (0, x4)] [(0, y0)] w else vrun n d 166 29 [(1, x0), (9, 0), (0, x2), (0, x3), (0, x4)] [(0, y0)] w)) (fun _ => rfl)).trans (EX_br.trans (and_congr (imp_congr Iff.rfl Iff.rfl) (imp_congr Iff.rfl Iff.rfl)))
set_option maxRecDepth 100000 in
theorem b166_25 {d : Nat} {w : vW} {x0 x2 x3 x4 y0 : Int} {Q : Int → vW → Prop} : VW d 166 25 [(1, x0), (9, 0), (0, x2), (0, x3), (0, x4)] [(0, y0)] w Q ↔ VW d 166 30 [(1, x0), (9, 0), (0, x2), (0, x3), (0, x4)] [(0, 1), (0, y0)] w Q :=
  (VW_b 2 (F := fun n => vrun n d 166 30 [(1, x0), (9, 0), (0, x2), (0, x3), (0, x4)] [(0, 1), (0, y0)] w) (fun _ => rfl)).trans (Iff.rfl)
set_option maxRecDepth 100000 in
theorem b166_29 {d : Nat} {w : vW} {x0 x2 x3 x4 y0 : Int} {Q : Int → vW → Prop} : VW d 166 29 [(1, x0), (9, 0), (0, x2), (0, x3), (0, x4)] [(0, y0)] w Q ↔ VW d 166 30 [(1, x0), (9, 0), (0, x2), (0, x3), (0, x4)] [(0, 0), (0, y0)] w Q :=
  (VW_b 1 (F := fun n => vrun n d 166 30 [(1, x0), (9, 0), (0, x2), (0, x3), (0, x4)] [(0, 0), (0, y0)] w) (fun _ => rfl)).trans (Iff.rfl)
set_option maxRecDepth 100000 in
theorem b166_30 {d : Nat} {w : vW} {x0 x2 x3 x4 y0 y1 : Int} {Q : Int → vW → Prop} : VW d 166 30 [(1, x0), (9, 0), (0, x2), (0, x3), (0, x4)] [(0, y1), (0, y0)] w Q ↔ VW d 166 5 [(1, x0), (9, 0), (0, x2), (0, w32 (y0 + y1)), (0, w32 (x4 + 1))] [] w Q :=
  (VW_b 4 (F := fun n => vrun n d 166 5 [(1, x0), (9, 0), (0, x2), (0, w32 (y0 + y1)), (0, w32 (x4 + 1))] [] w) (fun _ => rfl)).trans (Iff.rfl)
set_option maxRecDepth 100000 in
theorem b166_38 {d : Nat} {w : vW} {x0 x2 x3 x4 : Int} {Q : Int → vW → Prop} : VW d 166 38 [(1, x0), (9, 0), (0, x2), (0, x3), (0, x4)] [] w Q ↔ Q x3 w :=
  (VW_b 2 (F := fun n => some (0, x3, w)) (fun _ => rfl)).trans (EX_ret0)
/-! 167: StrikeWhatCancels$Balance.choose(I)Z -/
set_option maxRecDepth 100000 in
theorem b167_0 {d : Nat} {w : vW} {x0 x1 : Int} {Q : Int → vW → Prop} : VW d 167 0 [(2, x0), (0, x1), (9, 0)] [] w Q ↔ ((x1 < 0 → VW d 167 10 [(2, x0), (0, x1), (9, 0)] [] w Q) ∧ (¬ (x1 < 0) → VW d 167 4 [(2, x0), (0, x1), (9, 0)] [] w Q)) :=
  (VW_b 2 (F := fun n => (if x1 < 0 then vrun n d 167 10 [(2, x0), (0, x1), (9, 0)] [] w else vrun n d 167 4 [(2, x0), (0, x1), (9, 0)] [] w)) (fun _ => rfl)).trans (EX_br.trans (and_congr (imp_congr Iff.rfl Iff.rfl) (imp_congr Iff.rfl Iff.rfl)))
set_option maxRecDepth 100000 in
theorem b167_4 {d : Nat} {w : vW} {x0 x1 : Int} {Q : Int → vW → Prop} : VW d 167 4 [(2, x0), (0, x1), (9, 0)] [] w Q ↔ ((x1 < 8 → VW d 167 12 [(2, x0), (0, x1), (9, 0)] [] w Q) ∧ (¬ (x1 < 8) → VW d 167 10 [(2, x0), (0, x1), (9, 0)] [] w Q)) :=
  (VW_b 3 (F := fun n => (if x1 < 8 then vrun n d 167 12 [(2, x0), (0, x1), (9, 0)] [] w else vrun n d 167 10 [(2, x0), (0, x1), (9, 0)] [] w)) (fun _ => rfl)).trans (EX_br.trans (and_congr (imp_congr Iff.rfl Iff.rfl) (imp_congr Iff.rfl Iff.rfl)))
set_option maxRecDepth 100000 in
theorem b167_10 {d : Nat} {w : vW} {x0 x1 : Int} {Q : Int → vW → Prop} : VW d 167 10 [(2, x0), (0, x1), (9, 0)] [] w Q ↔ Q 1 w :=
  (VW_b 2 (F := fun n => some (0, 1, w)) (fun _ => rfl)).trans (EX_ret0)
set_option maxRecDepth 100000 in
theorem b167_12 {d : Nat} {w : vW} {x0 x1 : Int} {Q : Int → vW → Prop} : VW d 167 12 [(2, x0), (0, x1), (9, 0)] [] w Q ↔ (vkd w x0 = 11) ∧ (vkd w (vct w x0 1) = 6 ∧ (0 : Int) ≤ x1 ∧ x1 < vln w (vct w x0 1)) ∧ (vkd w (vct w (vct w x0 1) x1) = 1 ∧ (0 : Int) ≤ x1 ∧ x1 < vln w (vct w (vct w x0 1) x1)) ∧ VW d 167 21 [(2, x0), (0, x1), (0, vct w (vct w (vct w x0 1) x1) x1)] [] w Q :=
  (VW_b 7 (F := fun n => if vkd w x0 = 11 then if vkd w (vct w x0 1) = 6 ∧ (0 : Int) ≤ x1 ∧ x1 < vln w (vct w x0 1) then if vkd w (vct w (vct w x0 1) x1) = 1 ∧ (0 : Int) ≤ x1 ∧ x1 < vln w (vct w (vct w x0 1) x1) then vrun n d 167 21 [(2, x0), (0, x1), (0, vct w (vct w (vct w x0 1) x1) x1)] [] w else none else none else none) (fun _ => rfl)).trans (EX_if.trans (and_congr Iff.rfl (EX_if.trans (and_congr Iff.rfl (EX_if.trans (and_congr Iff.rfl (Iff.rfl)))))))
set_option maxRecDepth 100000 in
theorem b167_21 {d : Nat} {w : vW} {x0 x1 x2 : Int} {Q : Int → vW → Prop} : VW d 167 21 [(2, x0), (0, x1), (0, x2)] [] w Q ↔ (vkd w x0 = 11) ∧ (vkd w (vct w x0 2) = 6 ∧ (0 : Int) ≤ x1 ∧ x1 < vln w (vct w x0 2)) ∧ (vkd w (vct w (vct w x0 2) x1) = 1 ∧ (0 : Int) ≤ x1 ∧ x1 < vln w (vct w (vct w x0 2) x1)) ∧ (((vct w (vct w (vct w x0 2) x1) x1) < x2 → VW d 167 138 [(2, x0), (0, x1), (0, x2)] [] w Q) ∧ (¬ ((vct w (vct w (vct w x0 2) x1) x1) < x2) → VW d 167 33 [(2, x0), (0, x1), (0, x2)] [] w Q)) :=
  (VW_b 8 (F := fun n => if vkd w x0 = 11 then if vkd w (vct w x0 2) = 6 ∧ (0 : Int) ≤ x1 ∧ x1 < vln w (vct w x0 2) then if vkd w (vct w (vct w x0 2) x1) = 1 ∧ (0 : Int) ≤ x1 ∧ x1 < vln w (vct w (vct w x0 2) x1) then (if (vct w (vct w (vct w x0 2) x1) x1) < x2 then vrun n d 167 138 [(2, x0), (0, x1), (0, x2)] [] w else vrun n d 167 33 [(2, x0), (0, x1), (0, x2)] [] w) else none else none else none) (fun _ => rfl)).trans (EX_if.trans (and_congr Iff.rfl (EX_if.trans (and_congr Iff.rfl (EX_if.trans (and_congr Iff.rfl (EX_br.trans (and_congr (imp_congr Iff.rfl Iff.rfl) (imp_congr Iff.rfl Iff.rfl)))))))))
set_option maxRecDepth 100000 in
theorem b167_33 {d : Nat} {w : vW} {x0 x1 x2 : Int} {Q : Int → vW → Prop} : VW d 167 33 [(2, x0), (0, x1), (0, x2)] [] w Q ↔ (vkd w x0 = 11) ∧ (vkd w (vct w x0 1) = 6 ∧ (0 : Int) ≤ x1 ∧ x1 < vln w (vct w x0 1)) ∧ (vkd w x0 = 11) ∧ (vkd w (vct w x0 1) = 6 ∧ (0 : Int) ≤ (w32 (x1 + 1)) ∧ (w32 (x1 + 1)) < vln w (vct w x0 1)) ∧ (vkd w (vct w (vct w x0 1) x1) = 1 ∧ vkd w (vct w (vct w x0 1) (w32 (x1 + 1))) = 1 ∧ (vct w (vct w x0 1) x1) ≠ (vct w (vct w x0 1) (w32 (x1 + 1))) ∧ (0 : Int) ≤ 0 ∧ (0 : Int) ≤ 0 ∧ (0 : Int) ≤ 8 ∧ 0 + 8 ≤ vln w (vct w (vct w x0 1) x1) ∧ 0 + 8 ≤ vln w (vct w (vct w x0 1) (w32 (x1 + 1)))) ∧ VW d 167 54 [(2, x0), (0, x1), (0, x2)] [] (vcpw w (vct w (vct w x0 1) x1) 0 (vct w (vct w x0 1) (w32 (x1 + 1))) 0 8) Q :=
  (VW_b 14 (F := fun n => if vkd w x0 = 11 then if vkd w (vct w x0 1) = 6 ∧ (0 : Int) ≤ x1 ∧ x1 < vln w (vct w x0 1) then if vkd w x0 = 11 then if vkd w (vct w x0 1) = 6 ∧ (0 : Int) ≤ (w32 (x1 + 1)) ∧ (w32 (x1 + 1)) < vln w (vct w x0 1) then if vkd w (vct w (vct w x0 1) x1) = 1 ∧ vkd w (vct w (vct w x0 1) (w32 (x1 + 1))) = 1 ∧ (vct w (vct w x0 1) x1) ≠ (vct w (vct w x0 1) (w32 (x1 + 1))) ∧ (0 : Int) ≤ 0 ∧ (0 : Int) ≤ 0 ∧ (0 : Int) ≤ 8 ∧ 0 + 8 ≤ vln w (vct w (vct w x0 1) x1) ∧ 0 + 8 ≤ vln w (vct w (vct w x0 1) (w32 (x1 + 1))) then vrun n d 167 54 [(2, x0), (0, x1), (0, x2)] [] (vcpw w (vct w (vct w x0 1) x1) 0 (vct w (vct w x0 1) (w32 (x1 + 1))) 0 8) else none else none else none else none else none) (fun _ => rfl)).trans (EX_if.trans (and_congr Iff.rfl (EX_if.trans (and_congr Iff.rfl (EX_if.trans (and_congr Iff.rfl (EX_if.trans (and_congr Iff.rfl (EX_if.trans (and_congr Iff.rfl (Iff.rfl)))))))))))
set_option maxRecDepth 100000 in
theorem b167_54 {d : Nat} {w : vW} {x0 x1 x2 : Int} {Q : Int → vW → Prop} : VW d 167 54 [(2, x0), (0, x1), (0, x2)] [] w Q ↔ (vkd w x0 = 11) ∧ (vkd w (vct w x0 2) = 6 ∧ (0 : Int) ≤ x1 ∧ x1 < vln w (vct w x0 2)) ∧ (vkd w x0 = 11) ∧ (vkd w (vct w x0 2) = 6 ∧ (0 : Int) ≤ (w32 (x1 + 1)) ∧ (w32 (x1 + 1)) < vln w (vct w x0 2)) ∧ (vkd w (vct w (vct w x0 2) x1) = 1 ∧ vkd w (vct w (vct w x0 2) (w32 (x1 + 1))) = 1 ∧ (vct w (vct w x0 2) x1) ≠ (vct w (vct w x0 2) (w32 (x1 + 1))) ∧ (0 : Int) ≤ 0 ∧ (0 : Int) ≤ 0 ∧ (0 : Int) ≤ 8 ∧ 0 + 8 ≤ vln w (vct w (vct w x0 2) x1) ∧ 0 + 8 ≤ vln w (vct w (vct w x0 2) (w32 (x1 + 1)))) ∧ VW d 167 75 [(2, x0), (0, x1), (0, x2)] [] (vcpw w (vct w (vct w x0 2) x1) 0 (vct w (vct w x0 2) (w32 (x1 + 1))) 0 8) Q :=
  (VW_b 14 (F := fun n => if vkd w x0 = 11 then if vkd w (vct w x0 2) = 6 ∧ (0 : Int) ≤ x1 ∧ x1 < vln w (vct w x0 2) then if vkd w x0 = 11 then if vkd w (vct w x0 2) = 6 ∧ (0 : Int) ≤ (w32 (x1 + 1)) ∧ (w32 (x1 + 1)) < vln w (vct w x0 2) then if vkd w (vct w (vct w x0 2) x1) = 1 ∧ vkd w (vct w (vct w x0 2) (w32 (x1 + 1))) = 1 ∧ (vct w (vct w x0 2) x1) ≠ (vct w (vct w x0 2) (w32 (x1 + 1))) ∧ (0 : Int) ≤ 0 ∧ (0 : Int) ≤ 0 ∧ (0 : Int) ≤ 8 ∧ 0 + 8 ≤ vln w (vct w (vct w x0 2) x1) ∧ 0 + 8 ≤ vln w (vct w (vct w x0 2) (w32 (x1 + 1))) then vrun n d 167 75 [(2, x0), (0, x1), (0, x2)] [] (vcpw w (vct w (vct w x0 2) x1) 0 (vct w (vct w x0 2) (w32 (x1 + 1))) 0 8) else none else none else none else none else none) (fun _ => rfl)).trans (EX_if.trans (and_congr Iff.rfl (EX_if.trans (and_congr Iff.rfl (EX_if.trans (and_congr Iff.rfl (EX_if.trans (and_congr Iff.rfl (EX_if.trans (and_congr Iff.rfl (Iff.rfl)))))))))))
set_option maxRecDepth 100000 in
theorem b167_75 {d : Nat} {w : vW} {x0 x1 x2 : Int} {Q : Int → vW → Prop} : VW d 167 75 [(2, x0), (0, x1), (0, x2)] [] w Q ↔ (vkd w x0 = 11) ∧ (vkd w (vct w x0 1) = 6 ∧ (0 : Int) ≤ (w32 (x1 + 1)) ∧ (w32 (x1 + 1)) < vln w (vct w x0 1)) ∧ (vkd w (vct w (vct w x0 1) (w32 (x1 + 1))) = 1 ∧ (0 : Int) ≤ x1 ∧ x1 < vln w (vct w (vct w x0 1) (w32 (x1 + 1)))) ∧ VW d 167 86 [(2, x0), (0, x1), (0, x2)] [] (vsv w (vct w (vct w x0 1) (w32 (x1 + 1))) x1 x2) Q :=
  (VW_b 9 (F := fun n => if vkd w x0 = 11 then if vkd w (vct w x0 1) = 6 ∧ (0 : Int) ≤ (w32 (x1 + 1)) ∧ (w32 (x1 + 1)) < vln w (vct w x0 1) then if vkd w (vct w (vct w x0 1) (w32 (x1 + 1))) = 1 ∧ (0 : Int) ≤ x1 ∧ x1 < vln w (vct w (vct w x0 1) (w32 (x1 + 1))) then vrun n d 167 86 [(2, x0), (0, x1), (0, x2)] [] (vsv w (vct w (vct w x0 1) (w32 (x1 + 1))) x1 x2) else none else none else none) (fun _ => rfl)).trans (EX_if.trans (and_congr Iff.rfl (EX_if.trans (and_congr Iff.rfl (EX_if.trans (and_congr Iff.rfl (Iff.rfl)))))))
set_option maxRecDepth 100000 in
theorem b167_86 {d : Nat} {w : vW} {x0 x1 x2 : Int} {Q : Int → vW → Prop} : VW d 167 86 [(2, x0), (0, x1), (0, x2)] [] w Q ↔ (vkd w x0 = 11) ∧ (vkd w (vct w x0 2) = 6 ∧ (0 : Int) ≤ (w32 (x1 + 1)) ∧ (w32 (x1 + 1)) < vln w (vct w x0 2)) ∧ (vkd w (vct w (vct w x0 2) (w32 (x1 + 1))) = 1 ∧ (0 : Int) ≤ x1 ∧ x1 < vln w (vct w (vct w x0 2) (w32 (x1 + 1)))) ∧ VW d 167 97 [(2, x0), (0, x1), (0, x2)] [] (vsv w (vct w (vct w x0 2) (w32 (x1 + 1))) x1 x2) Q :=
  (VW_b 9 (F := fun n => if vkd w x0 = 11 then if vkd w (vct w x0 2) = 6 ∧ (0 : Int) ≤ (w32 (x1 + 1)) ∧ (w32 (x1 + 1)) < vln w (vct w x0 2) then if vkd w (vct w (vct w x0 2) (w32 (x1 + 1))) = 1 ∧ (0 : Int) ≤ x1 ∧ x1 < vln w (vct w (vct w x0 2) (w32 (x1 + 1))) then vrun n d 167 97 [(2, x0), (0, x1), (0, x2)] [] (vsv w (vct w (vct w x0 2) (w32 (x1 + 1))) x1 x2) else none else none else none) (fun _ => rfl)).trans (EX_if.trans (and_congr Iff.rfl (EX_if.trans (and_congr Iff.rfl (EX_if.trans (and_congr Iff.rfl (Iff.rfl)))))))
set_option maxRecDepth 100000 in
theorem b167_97 {d : Nat} {w : vW} {x0 x1 x2 : Int} {Q : Int → vW → Prop} : VW d 167 97 [(2, x0), (0, x1), (0, x2)] [] w Q ↔ (vkd w x0 = 11) ∧ (vkd w (vct w x0 1) = 6 ∧ (0 : Int) ≤ (w32 (x1 + 1)) ∧ (w32 (x1 + 1)) < vln w (vct w x0 1)) ∧ (vkd w x0 = 11) ∧ (vkd w (vct w x0 2) = 6 ∧ (0 : Int) ≤ (w32 (x1 + 1)) ∧ (w32 (x1 + 1)) < vln w (vct w x0 2)) ∧ (vkd w x0 = 11) ∧ VC d 168 [(2, x0), (2, vct w (vct w x0 1) (w32 (x1 + 1))), (2, vct w (vct w x0 2) (w32 (x1 + 1)))] w (fun r w1 => VW d 167 117 [(2, x0), (0, x1), (0, x2)] [(0, r)] w1 Q) :=
  (VW_b 14 (F := fun n => if vkd w x0 = 11 then if vkd w (vct w x0 1) = 6 ∧ (0 : Int) ≤ (w32 (x1 + 1)) ∧ (w32 (x1 + 1)) < vln w (vct w x0 1) then if vkd w x0 = 11 then if vkd w (vct w x0 2) = 6 ∧ (0 : Int) ≤ (w32 (x1 + 1)) ∧ (w32 (x1 + 1)) < vln w (vct w x0 2) then if vkd w x0 = 11 then vclr (vrun n) d 167 117 168 3 0 [(2, x0), (0, x1), (0, x2)] [(2, vct w (vct w x0 2) (w32 (x1 + 1))), (2, vct w (vct w x0 1) (w32 (x1 + 1))), (2, x0)] w else none else none else none else none else none) (fun _ => rfl)).trans (EX_if.trans (and_congr Iff.rfl (EX_if.trans (and_congr Iff.rfl (EX_if.trans (and_congr Iff.rfl (EX_if.trans (and_congr Iff.rfl (EX_if.trans (and_congr Iff.rfl (EX_call rfl)))))))))))
set_option maxRecDepth 100000 in
theorem b167_117 {d : Nat} {w : vW} {x0 x1 x2 y0 : Int} {Q : Int → vW → Prop} : VW d 167 117 [(2, x0), (0, x1), (0, x2)] [(0, y0)] w Q ↔ ((y0 = 0 → VW d 167 132 [(2, x0), (0, x1), (0, x2)] [] w Q) ∧ (¬ (y0 = 0) → VW d 167 120 [(2, x0), (0, x1), (0, x2)] [] w Q)) :=
  (VW_b 1 (F := fun n => (if y0 = 0 then vrun n d 167 132 [(2, x0), (0, x1), (0, x2)] [] w else vrun n d 167 120 [(2, x0), (0, x1), (0, x2)] [] w)) (fun _ => rfl)).trans (EX_br.trans (and_congr (imp_congr Iff.rfl Iff.rfl) (imp_congr Iff.rfl Iff.rfl)))
set_option maxRecDepth 100000 in
theorem b167_120 {d : Nat} {w : vW} {x0 x1 x2 : Int} {Q : Int → vW → Prop} : VW d 167 120 [(2, x0), (0, x1), (0, x2)] [] w Q ↔ (vkd w x0 = 11) ∧ VC d 167 [(2, x0), (0, w32 (x1 + 1))] w (fun r w1 => VW d 167 127 [(2, x0), (0, x1), (0, x2)] [(0, r)] w1 Q) :=
  (VW_b 5 (F := fun n => if vkd w x0 = 11 then vclr (vrun n) d 167 127 167 2 0 [(2, x0), (0, x1), (0, x2)] [(0, w32 (x1 + 1)), (2, x0)] w else none) (fun _ => rfl)).trans (EX_if.trans (and_congr Iff.rfl (EX_call rfl)))
set_option maxRecDepth 100000 in
theorem b167_127 {d : Nat} {w : vW} {x0 x1 x2 y0 : Int} {Q : Int → vW → Prop} : VW d 167 127 [(2, x0), (0, x1), (0, x2)] [(0, y0)] w Q ↔ ((y0 = 0 → VW d 167 132 [(2, x0), (0, x1), (0, x2)] [] w Q) ∧ (¬ (y0 = 0) → VW d 167 130 [(2, x0), (0, x1), (0, x2)] [] w Q)) :=
  (VW_b 1 (F := fun n => (if y0 = 0 then vrun n d 167 132 [(2, x0), (0, x1), (0, x2)] [] w else vrun n d 167 130 [(2, x0), (0, x1), (0, x2)] [] w)) (fun _ => rfl)).trans (EX_br.trans (and_congr (imp_congr Iff.rfl Iff.rfl) (imp_congr Iff.rfl Iff.rfl)))
set_option maxRecDepth 100000 in
theorem b167_130 {d : Nat} {w : vW} {x0 x1 x2 : Int} {Q : Int → vW → Prop} : VW d 167 130 [(2, x0), (0, x1), (0, x2)] [] w Q ↔ Q 1 w :=
  (VW_b 2 (F := fun n => some (0, 1, w)) (fun _ => rfl)).trans (EX_ret0)
set_option maxRecDepth 100000 in
theorem b167_132 {d : Nat} {w : vW} {x0 x1 x2 : Int} {Q : Int → vW → Prop} : VW d 167 132 [(2, x0), (0, x1), (0, x2)] [] w Q ↔ VW d 167 21 [(2, x0), (0, x1), (0, w32 (x2 + 1))] [] w Q :=
  (VW_b 2 (F := fun n => vrun n d 167 21 [(2, x0), (0, x1), (0, w32 (x2 + 1))] [] w) (fun _ => rfl)).trans (Iff.rfl)
set_option maxRecDepth 100000 in
theorem b167_138 {d : Nat} {w : vW} {x0 x1 x2 : Int} {Q : Int → vW → Prop} : VW d 167 138 [(2, x0), (0, x1), (0, x2)] [] w Q ↔ Q 0 w :=
  (VW_b 2 (F := fun n => some (0, 0, w)) (fun _ => rfl)).trans (EX_ret0)
/-! 168: StrikeWhatCancels$Balance.narrow([I[I)Z -/
set_option maxRecDepth 100000 in
theorem b168_0 {d : Nat} {w : vW} {x0 x1 x2 : Int} {Q : Int → vW → Prop} : VW d 168 0 [(2, x0), (2, x1), (2, x2), (9, 0), (9, 0), (9, 0), (9, 0)] [] w Q ↔ VW d 168 5 [(2, x0), (2, x1), (2, x2), (0, 1), (0, 0), (9, 0), (9, 0)] [] w Q :=
  (VW_b 4 (F := fun n => vrun n d 168 5 [(2, x0), (2, x1), (2, x2), (0, 1), (0, 0), (9, 0), (9, 0)] [] w) (fun _ => rfl)).trans (Iff.rfl)
set_option maxRecDepth 100000 in
theorem b168_5 {d : Nat} {w : vW} {x0 x1 x2 x3 x4 : Int} {v5 v6 : vV} {Q : Int → vW → Prop} : VW d 168 5 [(2, x0), (2, x1), (2, x2), (0, x3), (0, x4), v5, v6] [] w Q ↔ ((x3 = 0 → VW d 168 72 [(2, x0), (2, x1), (2, x2), (0, x3), (0, x4), v5, v6] [] w Q) ∧ (¬ (x3 = 0) → VW d 168 9 [(2, x0), (2, x1), (2, x2), (0, x3), (0, x4), v5, v6] [] w Q)) :=
  (VW_b 2 (F := fun n => (if x3 = 0 then vrun n d 168 72 [(2, x0), (2, x1), (2, x2), (0, x3), (0, x4), v5, v6] [] w else vrun n d 168 9 [(2, x0), (2, x1), (2, x2), (0, x3), (0, x4), v5, v6] [] w)) (fun _ => rfl)).trans (EX_br.trans (and_congr (imp_congr Iff.rfl Iff.rfl) (imp_congr Iff.rfl Iff.rfl)))
set_option maxRecDepth 100000 in
theorem b168_9 {d : Nat} {w : vW} {x0 x1 x2 x3 x4 : Int} {v5 v6 : vV} {Q : Int → vW → Prop} : VW d 168 9 [(2, x0), (2, x1), (2, x2), (0, x3), (0, x4), v5, v6] [] w Q ↔ ((72 < x4 → VW d 168 72 [(2, x0), (2, x1), (2, x2), (0, x3), (0, x4), v5, v6] [] w Q) ∧ (¬ (72 < x4) → VW d 168 16 [(2, x0), (2, x1), (2, x2), (0, x3), (0, x4), v5, v6] [] w Q)) :=
  (VW_b 3 (F := fun n => (if 72 < x4 then vrun n d 168 72 [(2, x0), (2, x1), (2, x2), (0, x3), (0, x4), v5, v6] [] w else vrun n d 168 16 [(2, x0), (2, x1), (2, x2), (0, x3), (0, x4), v5, v6] [] w)) (fun _ => rfl)).trans (EX_br.trans (and_congr (imp_congr Iff.rfl Iff.rfl) (imp_congr Iff.rfl Iff.rfl)))
set_option maxRecDepth 100000 in
theorem b168_16 {d : Nat} {w : vW} {x0 x1 x2 x3 x4 : Int} {v5 v6 : vV} {Q : Int → vW → Prop} : VW d 168 16 [(2, x0), (2, x1), (2, x2), (0, x3), (0, x4), v5, v6] [] w Q ↔ VW d 168 21 [(2, x0), (2, x1), (2, x2), (0, 0), (0, x4), (0, 0), v6] [] w Q :=
  (VW_b 4 (F := fun n => vrun n d 168 21 [(2, x0), (2, x1), (2, x2), (0, 0), (0, x4), (0, 0), v6] [] w) (fun _ => rfl)).trans (Iff.rfl)
set_option maxRecDepth 100000 in
theorem b168_21 {d : Nat} {w : vW} {x0 x1 x2 x3 x4 x5 : Int} {v6 : vV} {Q : Int → vW → Prop} : VW d 168 21 [(2, x0), (2, x1), (2, x2), (0, x3), (0, x4), (0, x5), v6] [] w Q ↔ (vkd w x0 = 11) ∧ ((x5 < (vct w x0 3) → VW d 168 30 [(2, x0), (2, x1), (2, x2), (0, x3), (0, x4), (0, x5), v6] [] w Q) ∧ (¬ (x5 < (vct w x0 3)) → VW d 168 66 [(2, x0), (2, x1), (2, x2), (0, x3), (0, x4), (0, x5), v6] [] w Q)) :=
  (VW_b 4 (F := fun n => if vkd w x0 = 11 then (if x5 < (vct w x0 3) then vrun n d 168 30 [(2, x0), (2, x1), (2, x2), (0, x3), (0, x4), (0, x5), v6] [] w else vrun n d 168 66 [(2, x0), (2, x1), (2, x2), (0, x3), (0, x4), (0, x5), v6] [] w) else none) (fun _ => rfl)).trans (EX_if.trans (and_congr Iff.rfl (EX_br.trans (and_congr (imp_congr Iff.rfl Iff.rfl) (imp_congr Iff.rfl Iff.rfl)))))
set_option maxRecDepth 100000 in
theorem b168_30 {d : Nat} {w : vW} {x0 x1 x2 x3 x4 x5 : Int} {v6 : vV} {Q : Int → vW → Prop} : VW d 168 30 [(2, x0), (2, x1), (2, x2), (0, x3), (0, x4), (0, x5), v6] [] w Q ↔ (vkd w x0 = 11) ∧ VC d 169 [(2, x0), (0, x5), (2, x1), (2, x2)] w (fun r w1 => VW d 168 38 [(2, x0), (2, x1), (2, x2), (0, x3), (0, x4), (0, x5), v6] [(0, r)] w1 Q) :=
  (VW_b 5 (F := fun n => if vkd w x0 = 11 then vclr (vrun n) d 168 38 169 4 0 [(2, x0), (2, x1), (2, x2), (0, x3), (0, x4), (0, x5), v6] [(2, x2), (2, x1), (0, x5), (2, x0)] w else none) (fun _ => rfl)).trans (EX_if.trans (and_congr Iff.rfl (EX_call rfl)))
set_option maxRecDepth 100000 in
theorem b168_38 {d : Nat} {w : vW} {x0 x1 x2 x3 x4 x5 y0 : Int} {v6 : vV} {Q : Int → vW → Prop} : VW d 168 38 [(2, x0), (2, x1), (2, x2), (0, x3), (0, x4), (0, x5), v6] [(0, y0)] w Q ↔ ((y0 < 0 → VW d 168 45 [(2, x0), (2, x1), (2, x2), (0, x3), (0, x4), (0, x5), (0, y0)] [] w Q) ∧ (¬ (y0 < 0) → VW d 168 47 [(2, x0), (2, x1), (2, x2), (0, x3), (0, x4), (0, x5), (0, y0)] [] w Q)) :=
  (VW_b 3 (F := fun n => (if y0 < 0 then vrun n d 168 45 [(2, x0), (2, x1), (2, x2), (0, x3), (0, x4), (0, x5), (0, y0)] [] w else vrun n d 168 47 [(2, x0), (2, x1), (2, x2), (0, x3), (0, x4), (0, x5), (0, y0)] [] w)) (fun _ => rfl)).trans (EX_br.trans (and_congr (imp_congr Iff.rfl Iff.rfl) (imp_congr Iff.rfl Iff.rfl)))
set_option maxRecDepth 100000 in
theorem b168_45 {d : Nat} {w : vW} {x0 x1 x2 x3 x4 x5 x6 : Int} {Q : Int → vW → Prop} : VW d 168 45 [(2, x0), (2, x1), (2, x2), (0, x3), (0, x4), (0, x5), (0, x6)] [] w Q ↔ Q 0 w :=
  (VW_b 2 (F := fun n => some (0, 0, w)) (fun _ => rfl)).trans (EX_ret0)
set_option maxRecDepth 100000 in
theorem b168_47 {d : Nat} {w : vW} {x0 x1 x2 x3 x4 x5 x6 : Int} {Q : Int → vW → Prop} : VW d 168 47 [(2, x0), (2, x1), (2, x2), (0, x3), (0, x4), (0, x5), (0, x6)] [] w Q ↔ (vkd w x0 = 11) ∧ VC d 170 [(2, x0), (0, x5), (0, x6), (2, x1), (2, x2)] w (fun r w1 => VW d 168 58 [(2, x0), (2, x1), (2, x2), (0, x3), (0, x4), (0, x5), (0, x6)] [(0, r), (0, x3)] w1 Q) :=
  (VW_b 7 (F := fun n => if vkd w x0 = 11 then vclr (vrun n) d 168 58 170 5 0 [(2, x0), (2, x1), (2, x2), (0, x3), (0, x4), (0, x5), (0, x6)] [(2, x2), (2, x1), (0, x6), (0, x5), (2, x0), (0, x3)] w else none) (fun _ => rfl)).trans (EX_if.trans (and_congr Iff.rfl (EX_call rfl)))
set_option maxRecDepth 100000 in
theorem b168_58 {d : Nat} {w : vW} {x0 x1 x2 x3 x4 x5 x6 y0 y1 : Int} {Q : Int → vW → Prop} : VW d 168 58 [(2, x0), (2, x1), (2, x2), (0, x3), (0, x4), (0, x5), (0, x6)] [(0, y1), (0, y0)] w Q ↔ VW d 168 60 [(2, x0), (2, x1), (2, x2), (0, i_or y0 y1), (0, x4), (0, x5), (0, x6)] [] w Q :=
  (VW_b 2 (F := fun n => vrun n d 168 60 [(2, x0), (2, x1), (2, x2), (0, i_or y0 y1), (0, x4), (0, x5), (0, x6)] [] w) (fun _ => rfl)).trans (Iff.rfl)
set_option maxRecDepth 100000 in
theorem b168_60 {d : Nat} {w : vW} {x0 x1 x2 x3 x4 x5 x6 : Int} {Q : Int → vW → Prop} : VW d 168 60 [(2, x0), (2, x1), (2, x2), (0, x3), (0, x4), (0, x5), (0, x6)] [] w Q ↔ VW d 168 21 [(2, x0), (2, x1), (2, x2), (0, x3), (0, x4), (0, w32 (x5 + 1)), (0, x6)] [] w Q :=
  (VW_b 2 (F := fun n => vrun n d 168 21 [(2, x0), (2, x1), (2, x2), (0, x3), (0, x4), (0, w32 (x5 + 1)), (0, x6)] [] w) (fun _ => rfl)).trans (Iff.rfl)
set_option maxRecDepth 100000 in
theorem b168_66 {d : Nat} {w : vW} {x0 x1 x2 x3 x4 x5 : Int} {v6 : vV} {Q : Int → vW → Prop} : VW d 168 66 [(2, x0), (2, x1), (2, x2), (0, x3), (0, x4), (0, x5), v6] [] w Q ↔ VW d 168 5 [(2, x0), (2, x1), (2, x2), (0, x3), (0, w32 (x4 + 1)), (0, x5), v6] [] w Q :=
  (VW_b 2 (F := fun n => vrun n d 168 5 [(2, x0), (2, x1), (2, x2), (0, x3), (0, w32 (x4 + 1)), (0, x5), v6] [] w) (fun _ => rfl)).trans (Iff.rfl)
set_option maxRecDepth 100000 in
theorem b168_72 {d : Nat} {w : vW} {x0 x1 x2 x3 x4 : Int} {v5 v6 : vV} {Q : Int → vW → Prop} : VW d 168 72 [(2, x0), (2, x1), (2, x2), (0, x3), (0, x4), v5, v6] [] w Q ↔ Q 1 w :=
  (VW_b 2 (F := fun n => some (0, 1, w)) (fun _ => rfl)).trans (EX_ret0)
/-! 169: StrikeWhatCancels$Balance.spare(I[I[I)I -/
set_option maxRecDepth 100000 in
theorem b169_0 {d : Nat} {w : vW} {x0 x1 x2 x3 : Int} {Q : Int → vW → Prop} : VW d 169 0 [(2, x0), (0, x1), (2, x2), (2, x3), (9, 0), (9, 0), (9, 0)] [] w Q ↔ VW d 169 6 [(2, x0), (0, x1), (2, x2), (2, x3), (0, (-1)), (0, 0), (9, 0)] [] w Q :=
  (VW_b 4 (F := fun n => vrun n d 169 6 [(2, x0), (0, x1), (2, x2), (2, x3), (0, (-1)), (0, 0), (9, 0)] [] w) (fun _ => rfl)).trans (Iff.rfl)
set_option maxRecDepth 100000 in
theorem b169_6 {d : Nat} {w : vW} {x0 x1 x2 x3 x4 x5 : Int} {v6 : vV} {Q : Int → vW → Prop} : VW d 169 6 [(2, x0), (0, x1), (2, x2), (2, x3), (0, x4), (0, x5), v6] [] w Q ↔ ((x5 < 8 → VW d 169 13 [(2, x0), (0, x1), (2, x2), (2, x3), (0, x4), (0, x5), v6] [] w Q) ∧ (¬ (x5 < 8) → VW d 169 82 [(2, x0), (0, x1), (2, x2), (2, x3), (0, x4), (0, x5), v6] [] w Q)) :=
  (VW_b 3 (F := fun n => (if x5 < 8 then vrun n d 169 13 [(2, x0), (0, x1), (2, x2), (2, x3), (0, x4), (0, x5), v6] [] w else vrun n d 169 82 [(2, x0), (0, x1), (2, x2), (2, x3), (0, x4), (0, x5), v6] [] w)) (fun _ => rfl)).trans (EX_br.trans (and_congr (imp_congr Iff.rfl Iff.rfl) (imp_congr Iff.rfl Iff.rfl)))
set_option maxRecDepth 100000 in
theorem b169_13 {d : Nat} {w : vW} {x0 x1 x2 x3 x4 x5 : Int} {v6 : vV} {Q : Int → vW → Prop} : VW d 169 13 [(2, x0), (0, x1), (2, x2), (2, x3), (0, x4), (0, x5), v6] [] w Q ↔ (vkd w x2 = 1) ∧ ((x5 < (vln w x2) → VW d 169 20 [(2, x0), (0, x1), (2, x2), (2, x3), (0, x4), (0, x5), v6] [] w Q) ∧ (¬ (x5 < (vln w x2)) → VW d 169 82 [(2, x0), (0, x1), (2, x2), (2, x3), (0, x4), (0, x5), v6] [] w Q)) :=
  (VW_b 4 (F := fun n => if vkd w x2 = 1 then (if x5 < (vln w x2) then vrun n d 169 20 [(2, x0), (0, x1), (2, x2), (2, x3), (0, x4), (0, x5), v6] [] w else vrun n d 169 82 [(2, x0), (0, x1), (2, x2), (2, x3), (0, x4), (0, x5), v6] [] w) else none) (fun _ => rfl)).trans (EX_if.trans (and_congr Iff.rfl (EX_br.trans (and_congr (imp_congr Iff.rfl Iff.rfl) (imp_congr Iff.rfl Iff.rfl)))))
set_option maxRecDepth 100000 in
theorem b169_20 {d : Nat} {w : vW} {x0 x1 x2 x3 x4 x5 : Int} {v6 : vV} {Q : Int → vW → Prop} : VW d 169 20 [(2, x0), (0, x1), (2, x2), (2, x3), (0, x4), (0, x5), v6] [] w Q ↔ (vkd w x3 = 1) ∧ ((x5 < (vln w x3) → VW d 169 27 [(2, x0), (0, x1), (2, x2), (2, x3), (0, x4), (0, x5), v6] [] w Q) ∧ (¬ (x5 < (vln w x3)) → VW d 169 82 [(2, x0), (0, x1), (2, x2), (2, x3), (0, x4), (0, x5), v6] [] w Q)) :=
  (VW_b 4 (F := fun n => if vkd w x3 = 1 then (if x5 < (vln w x3) then vrun n d 169 27 [(2, x0), (0, x1), (2, x2), (2, x3), (0, x4), (0, x5), v6] [] w else vrun n d 169 82 [(2, x0), (0, x1), (2, x2), (2, x3), (0, x4), (0, x5), v6] [] w) else none) (fun _ => rfl)).trans (EX_if.trans (and_congr Iff.rfl (EX_br.trans (and_congr (imp_congr Iff.rfl Iff.rfl) (imp_congr Iff.rfl Iff.rfl)))))
set_option maxRecDepth 100000 in
theorem b169_27 {d : Nat} {w : vW} {x0 x1 x2 x3 x4 x5 : Int} {v6 : vV} {Q : Int → vW → Prop} : VW d 169 27 [(2, x0), (0, x1), (2, x2), (2, x3), (0, x4), (0, x5), v6] [] w Q ↔ (vkd w x2 = 1 ∧ (0 : Int) ≤ x5 ∧ x5 < vln w x2) ∧ (vkd w x3 = 1 ∧ (0 : Int) ≤ x5 ∧ x5 < vln w x3) ∧ (((vct w x3 x5) < (vct w x2 x5) → VW d 169 38 [(2, x0), (0, x1), (2, x2), (2, x3), (0, x4), (0, x5), v6] [] w Q) ∧ (¬ ((vct w x3 x5) < (vct w x2 x5)) → VW d 169 40 [(2, x0), (0, x1), (2, x2), (2, x3), (0, x4), (0, x5), v6] [] w Q)) :=
  (VW_b 7 (F := fun n => if vkd w x2 = 1 ∧ (0 : Int) ≤ x5 ∧ x5 < vln w x2 then if vkd w x3 = 1 ∧ (0 : Int) ≤ x5 ∧ x5 < vln w x3 then (if (vct w x3 x5) < (vct w x2 x5) then vrun n d 169 38 [(2, x0), (0, x1), (2, x2), (2, x3), (0, x4), (0, x5), v6] [] w else vrun n d 169 40 [(2, x0), (0, x1), (2, x2), (2, x3), (0, x4), (0, x5), v6] [] w) else none else none) (fun _ => rfl)).trans (EX_if.trans (and_congr Iff.rfl (EX_if.trans (and_congr Iff.rfl (EX_br.trans (and_congr (imp_congr Iff.rfl Iff.rfl) (imp_congr Iff.rfl Iff.rfl)))))))
set_option maxRecDepth 100000 in
theorem b169_38 {d : Nat} {w : vW} {x0 x1 x2 x3 x4 x5 : Int} {v6 : vV} {Q : Int → vW → Prop} : VW d 169 38 [(2, x0), (0, x1), (2, x2), (2, x3), (0, x4), (0, x5), v6] [] w Q ↔ Q (-1) w :=
  (VW_b 2 (F := fun n => some (0, (-1), w)) (fun _ => rfl)).trans (EX_ret0)
set_option maxRecDepth 100000 in
theorem b169_40 {d : Nat} {w : vW} {x0 x1 x2 x3 x4 x5 : Int} {v6 : vV} {Q : Int → vW → Prop} : VW d 169 40 [(2, x0), (0, x1), (2, x2), (2, x3), (0, x4), (0, x5), v6] [] w Q ↔ (vkd w x0 = 11) ∧ VC d 171 [(2, x0), (0, x1), (0, x5)] w (fun r w1 => VW d 169 47 [(2, x0), (0, x1), (2, x2), (2, x3), (0, x4), (0, x5), v6] [(0, r)] w1 Q) :=
  (VW_b 4 (F := fun n => if vkd w x0 = 11 then vclr (vrun n) d 169 47 171 3 0 [(2, x0), (0, x1), (2, x2), (2, x3), (0, x4), (0, x5), v6] [(0, x5), (0, x1), (2, x0)] w else none) (fun _ => rfl)).trans (EX_if.trans (and_congr Iff.rfl (EX_call rfl)))
set_option maxRecDepth 100000 in
theorem b169_47 {d : Nat} {w : vW} {x0 x1 x2 x3 x4 x5 y0 : Int} {v6 : vV} {Q : Int → vW → Prop} : VW d 169 47 [(2, x0), (0, x1), (2, x2), (2, x3), (0, x4), (0, x5), v6] [(0, y0)] w Q ↔ ((0 < y0 → VW d 169 56 [(2, x0), (0, x1), (2, x2), (2, x3), (0, x4), (0, x5), (0, y0)] [(0, x4)] w Q) ∧ (¬ (0 < y0) → VW d 169 66 [(2, x0), (0, x1), (2, x2), (2, x3), (0, x4), (0, x5), (0, y0)] [(0, x4)] w Q)) :=
  (VW_b 4 (F := fun n => (if 0 < y0 then vrun n d 169 56 [(2, x0), (0, x1), (2, x2), (2, x3), (0, x4), (0, x5), (0, y0)] [(0, x4)] w else vrun n d 169 66 [(2, x0), (0, x1), (2, x2), (2, x3), (0, x4), (0, x5), (0, y0)] [(0, x4)] w)) (fun _ => rfl)).trans (EX_br.trans (and_congr (imp_congr Iff.rfl Iff.rfl) (imp_congr Iff.rfl Iff.rfl)))
set_option maxRecDepth 100000 in
theorem b169_56 {d : Nat} {w : vW} {x0 x1 x2 x3 x4 x5 x6 y0 : Int} {Q : Int → vW → Prop} : VW d 169 56 [(2, x0), (0, x1), (2, x2), (2, x3), (0, x4), (0, x5), (0, x6)] [(0, y0)] w Q ↔ (vkd w x3 = 1 ∧ (0 : Int) ≤ x5 ∧ x5 < vln w x3) ∧ VW d 169 73 [(2, x0), (0, x1), (2, x2), (2, x3), (0, x4), (0, x5), (0, x6)] [(0, w32 (x6 * (vct w x3 x5))), (0, y0)] w Q :=
  (VW_b 6 (F := fun n => if vkd w x3 = 1 ∧ (0 : Int) ≤ x5 ∧ x5 < vln w x3 then vrun n d 169 73 [(2, x0), (0, x1), (2, x2), (2, x3), (0, x4), (0, x5), (0, x6)] [(0, w32 (x6 * (vct w x3 x5))), (0, y0)] w else none) (fun _ => rfl)).trans (EX_if.trans (and_congr Iff.rfl (Iff.rfl)))
set_option maxRecDepth 100000 in
theorem b169_66 {d : Nat} {w : vW} {x0 x1 x2 x3 x4 x5 x6 y0 : Int} {Q : Int → vW → Prop} : VW d 169 66 [(2, x0), (0, x1), (2, x2), (2, x3), (0, x4), (0, x5), (0, x6)] [(0, y0)] w Q ↔ (vkd w x2 = 1 ∧ (0 : Int) ≤ x5 ∧ x5 < vln w x2) ∧ VW d 169 73 [(2, x0), (0, x1), (2, x2), (2, x3), (0, x4), (0, x5), (0, x6)] [(0, w32 (x6 * (vct w x2 x5))), (0, y0)] w Q :=
  (VW_b 5 (F := fun n => if vkd w x2 = 1 ∧ (0 : Int) ≤ x5 ∧ x5 < vln w x2 then vrun n d 169 73 [(2, x0), (0, x1), (2, x2), (2, x3), (0, x4), (0, x5), (0, x6)] [(0, w32 (x6 * (vct w x2 x5))), (0, y0)] w else none) (fun _ => rfl)).trans (EX_if.trans (and_congr Iff.rfl (Iff.rfl)))
set_option maxRecDepth 100000 in
theorem b169_73 {d : Nat} {w : vW} {x0 x1 x2 x3 x4 x5 x6 y0 y1 : Int} {Q : Int → vW → Prop} : VW d 169 73 [(2, x0), (0, x1), (2, x2), (2, x3), (0, x4), (0, x5), (0, x6)] [(0, y1), (0, y0)] w Q ↔ VW d 169 6 [(2, x0), (0, x1), (2, x2), (2, x3), (0, w32 (y0 + y1)), (0, w32 (x5 + 1)), (0, x6)] [] w Q :=
  (VW_b 4 (F := fun n => vrun n d 169 6 [(2, x0), (0, x1), (2, x2), (2, x3), (0, w32 (y0 + y1)), (0, w32 (x5 + 1)), (0, x6)] [] w) (fun _ => rfl)).trans (Iff.rfl)
set_option maxRecDepth 100000 in
theorem b169_82 {d : Nat} {w : vW} {x0 x1 x2 x3 x4 x5 : Int} {v6 : vV} {Q : Int → vW → Prop} : VW d 169 82 [(2, x0), (0, x1), (2, x2), (2, x3), (0, x4), (0, x5), v6] [] w Q ↔ Q x4 w :=
  (VW_b 2 (F := fun n => some (0, x4, w)) (fun _ => rfl)).trans (EX_ret0)
/-! 170: StrikeWhatCancels$Balance.tighten(II[I[I)Z -/
set_option maxRecDepth 100000 in
theorem b170_0 {d : Nat} {w : vW} {x0 x1 x2 x3 x4 : Int} {Q : Int → vW → Prop} : VW d 170 0 [(2, x0), (0, x1), (0, x2), (2, x3), (2, x4), (9, 0), (9, 0), (9, 0)] [] w Q ↔ VW d 170 6 [(2, x0), (0, x1), (0, x2), (2, x3), (2, x4), (0, 0), (0, 0), (9, 0)] [] w Q :=
  (VW_b 4 (F := fun n => vrun n d 170 6 [(2, x0), (0, x1), (0, x2), (2, x3), (2, x4), (0, 0), (0, 0), (9, 0)] [] w) (fun _ => rfl)).trans (Iff.rfl)
set_option maxRecDepth 100000 in
theorem b170_6 {d : Nat} {w : vW} {x0 x1 x2 x3 x4 x5 x6 : Int} {v7 : vV} {Q : Int → vW → Prop} : VW d 170 6 [(2, x0), (0, x1), (0, x2), (2, x3), (2, x4), (0, x5), (0, x6), v7] [] w Q ↔ ((x6 < 8 → VW d 170 13 [(2, x0), (0, x1), (0, x2), (2, x3), (2, x4), (0, x5), (0, x6), v7] [] w Q) ∧ (¬ (x6 < 8) → VW d 170 123 [(2, x0), (0, x1), (0, x2), (2, x3), (2, x4), (0, x5), (0, x6), v7] [] w Q)) :=
  (VW_b 3 (F := fun n => (if x6 < 8 then vrun n d 170 13 [(2, x0), (0, x1), (0, x2), (2, x3), (2, x4), (0, x5), (0, x6), v7] [] w else vrun n d 170 123 [(2, x0), (0, x1), (0, x2), (2, x3), (2, x4), (0, x5), (0, x6), v7] [] w)) (fun _ => rfl)).trans (EX_br.trans (and_congr (imp_congr Iff.rfl Iff.rfl) (imp_congr Iff.rfl Iff.rfl)))
set_option maxRecDepth 100000 in
theorem b170_13 {d : Nat} {w : vW} {x0 x1 x2 x3 x4 x5 x6 : Int} {v7 : vV} {Q : Int → vW → Prop} : VW d 170 13 [(2, x0), (0, x1), (0, x2), (2, x3), (2, x4), (0, x5), (0, x6), v7] [] w Q ↔ (vkd w x3 = 1) ∧ ((x6 < (vln w x3) → VW d 170 20 [(2, x0), (0, x1), (0, x2), (2, x3), (2, x4), (0, x5), (0, x6), v7] [] w Q) ∧ (¬ (x6 < (vln w x3)) → VW d 170 123 [(2, x0), (0, x1), (0, x2), (2, x3), (2, x4), (0, x5), (0, x6), v7] [] w Q)) :=
  (VW_b 4 (F := fun n => if vkd w x3 = 1 then (if x6 < (vln w x3) then vrun n d 170 20 [(2, x0), (0, x1), (0, x2), (2, x3), (2, x4), (0, x5), (0, x6), v7] [] w else vrun n d 170 123 [(2, x0), (0, x1), (0, x2), (2, x3), (2, x4), (0, x5), (0, x6), v7] [] w) else none) (fun _ => rfl)).trans (EX_if.trans (and_congr Iff.rfl (EX_br.trans (and_congr (imp_congr Iff.rfl Iff.rfl) (imp_congr Iff.rfl Iff.rfl)))))
set_option maxRecDepth 100000 in
theorem b170_20 {d : Nat} {w : vW} {x0 x1 x2 x3 x4 x5 x6 : Int} {v7 : vV} {Q : Int → vW → Prop} : VW d 170 20 [(2, x0), (0, x1), (0, x2), (2, x3), (2, x4), (0, x5), (0, x6), v7] [] w Q ↔ (vkd w x4 = 1) ∧ ((x6 < (vln w x4) → VW d 170 28 [(2, x0), (0, x1), (0, x2), (2, x3), (2, x4), (0, x5), (0, x6), v7] [] w Q) ∧ (¬ (x6 < (vln w x4)) → VW d 170 123 [(2, x0), (0, x1), (0, x2), (2, x3), (2, x4), (0, x5), (0, x6), v7] [] w Q)) :=
  (VW_b 4 (F := fun n => if vkd w x4 = 1 then (if x6 < (vln w x4) then vrun n d 170 28 [(2, x0), (0, x1), (0, x2), (2, x3), (2, x4), (0, x5), (0, x6), v7] [] w else vrun n d 170 123 [(2, x0), (0, x1), (0, x2), (2, x3), (2, x4), (0, x5), (0, x6), v7] [] w) else none) (fun _ => rfl)).trans (EX_if.trans (and_congr Iff.rfl (EX_br.trans (and_congr (imp_congr Iff.rfl Iff.rfl) (imp_congr Iff.rfl Iff.rfl)))))
set_option maxRecDepth 100000 in
theorem b170_28 {d : Nat} {w : vW} {x0 x1 x2 x3 x4 x5 x6 : Int} {v7 : vV} {Q : Int → vW → Prop} : VW d 170 28 [(2, x0), (0, x1), (0, x2), (2, x3), (2, x4), (0, x5), (0, x6), v7] [] w Q ↔ (vkd w x0 = 11) ∧ VC d 171 [(2, x0), (0, x1), (0, x6)] w (fun r w1 => VW d 170 35 [(2, x0), (0, x1), (0, x2), (2, x3), (2, x4), (0, x5), (0, x6), v7] [(0, r)] w1 Q) :=
  (VW_b 4 (F := fun n => if vkd w x0 = 11 then vclr (vrun n) d 170 35 171 3 0 [(2, x0), (0, x1), (0, x2), (2, x3), (2, x4), (0, x5), (0, x6), v7] [(0, x6), (0, x1), (2, x0)] w else none) (fun _ => rfl)).trans (EX_if.trans (and_congr Iff.rfl (EX_call rfl)))
set_option maxRecDepth 100000 in
theorem b170_35 {d : Nat} {w : vW} {x0 x1 x2 x3 x4 x5 x6 y0 : Int} {v7 : vV} {Q : Int → vW → Prop} : VW d 170 35 [(2, x0), (0, x1), (0, x2), (2, x3), (2, x4), (0, x5), (0, x6), v7] [(0, y0)] w Q ↔ ((0 < y0 → VW d 170 42 [(2, x0), (0, x1), (0, x2), (2, x3), (2, x4), (0, x5), (0, x6), (0, y0)] [] w Q) ∧ (¬ (0 < y0) → VW d 170 76 [(2, x0), (0, x1), (0, x2), (2, x3), (2, x4), (0, x5), (0, x6), (0, y0)] [] w Q)) :=
  (VW_b 3 (F := fun n => (if 0 < y0 then vrun n d 170 42 [(2, x0), (0, x1), (0, x2), (2, x3), (2, x4), (0, x5), (0, x6), (0, y0)] [] w else vrun n d 170 76 [(2, x0), (0, x1), (0, x2), (2, x3), (2, x4), (0, x5), (0, x6), (0, y0)] [] w)) (fun _ => rfl)).trans (EX_br.trans (and_congr (imp_congr Iff.rfl Iff.rfl) (imp_congr Iff.rfl Iff.rfl)))
set_option maxRecDepth 100000 in
theorem b170_42 {d : Nat} {w : vW} {x0 x1 x2 x3 x4 x5 x6 x7 : Int} {Q : Int → vW → Prop} : VW d 170 42 [(2, x0), (0, x1), (0, x2), (2, x3), (2, x4), (0, x5), (0, x6), (0, x7)] [] w Q ↔ (vkd w x4 = 1 ∧ (0 : Int) ≤ x6 ∧ x6 < vln w x4) ∧ ¬ (x7 = 0) ∧ (vkd w x3 = 1 ∧ (0 : Int) ≤ x6 ∧ x6 < vln w x3) ∧ (((vct w x3 x6) < (w32 ((vct w x4 x6) - (w32 (Int.tdiv x2 x7)))) → VW d 170 59 [(2, x0), (0, x1), (0, x2), (2, x3), (2, x4), (0, x5), (0, x6), (0, x7)] [] w Q) ∧ (¬ ((vct w x3 x6) < (w32 ((vct w x4 x6) - (w32 (Int.tdiv x2 x7))))) → VW d 170 76 [(2, x0), (0, x1), (0, x2), (2, x3), (2, x4), (0, x5), (0, x6), (0, x7)] [] w Q)) :=
  (VW_b 11 (F := fun n => if vkd w x4 = 1 ∧ (0 : Int) ≤ x6 ∧ x6 < vln w x4 then if x7 = 0 then none else if vkd w x3 = 1 ∧ (0 : Int) ≤ x6 ∧ x6 < vln w x3 then (if (vct w x3 x6) < (w32 ((vct w x4 x6) - (w32 (Int.tdiv x2 x7)))) then vrun n d 170 59 [(2, x0), (0, x1), (0, x2), (2, x3), (2, x4), (0, x5), (0, x6), (0, x7)] [] w else vrun n d 170 76 [(2, x0), (0, x1), (0, x2), (2, x3), (2, x4), (0, x5), (0, x6), (0, x7)] [] w) else none else none) (fun _ => rfl)).trans (EX_if.trans (and_congr Iff.rfl (EX_ifn.trans (and_congr Iff.rfl (EX_if.trans (and_congr Iff.rfl (EX_br.trans (and_congr (imp_congr Iff.rfl Iff.rfl) (imp_congr Iff.rfl Iff.rfl)))))))))
set_option maxRecDepth 100000 in
theorem b170_59 {d : Nat} {w : vW} {x0 x1 x2 x3 x4 x5 x6 x7 : Int} {Q : Int → vW → Prop} : VW d 170 59 [(2, x0), (0, x1), (0, x2), (2, x3), (2, x4), (0, x5), (0, x6), (0, x7)] [] w Q ↔ (vkd w x4 = 1 ∧ (0 : Int) ≤ x6 ∧ x6 < vln w x4) ∧ ¬ (x7 = 0) ∧ (vkd w x3 = 1 ∧ (0 : Int) ≤ x6 ∧ x6 < vln w x3) ∧ VW d 170 73 [(2, x0), (0, x1), (0, x2), (2, x3), (2, x4), (0, x5), (0, x6), (0, x7)] [] (vsv w x3 x6 (w32 ((vct w x4 x6) - (w32 (Int.tdiv x2 x7))))) Q :=
  (VW_b 10 (F := fun n => if vkd w x4 = 1 ∧ (0 : Int) ≤ x6 ∧ x6 < vln w x4 then if x7 = 0 then none else if vkd w x3 = 1 ∧ (0 : Int) ≤ x6 ∧ x6 < vln w x3 then vrun n d 170 73 [(2, x0), (0, x1), (0, x2), (2, x3), (2, x4), (0, x5), (0, x6), (0, x7)] [] (vsv w x3 x6 (w32 ((vct w x4 x6) - (w32 (Int.tdiv x2 x7))))) else none else none) (fun _ => rfl)).trans (EX_if.trans (and_congr Iff.rfl (EX_ifn.trans (and_congr Iff.rfl (EX_if.trans (and_congr Iff.rfl (Iff.rfl)))))))
set_option maxRecDepth 100000 in
theorem b170_73 {d : Nat} {w : vW} {x0 x1 x2 x3 x4 x5 x6 x7 : Int} {Q : Int → vW → Prop} : VW d 170 73 [(2, x0), (0, x1), (0, x2), (2, x3), (2, x4), (0, x5), (0, x6), (0, x7)] [] w Q ↔ VW d 170 76 [(2, x0), (0, x1), (0, x2), (2, x3), (2, x4), (0, 1), (0, x6), (0, x7)] [] w Q :=
  (VW_b 2 (F := fun n => vrun n d 170 76 [(2, x0), (0, x1), (0, x2), (2, x3), (2, x4), (0, 1), (0, x6), (0, x7)] [] w) (fun _ => rfl)).trans (Iff.rfl)
set_option maxRecDepth 100000 in
theorem b170_76 {d : Nat} {w : vW} {x0 x1 x2 x3 x4 x5 x6 x7 : Int} {Q : Int → vW → Prop} : VW d 170 76 [(2, x0), (0, x1), (0, x2), (2, x3), (2, x4), (0, x5), (0, x6), (0, x7)] [] w Q ↔ ((x7 < 0 → VW d 170 81 [(2, x0), (0, x1), (0, x2), (2, x3), (2, x4), (0, x5), (0, x6), (0, x7)] [] w Q) ∧ (¬ (x7 < 0) → VW d 170 117 [(2, x0), (0, x1), (0, x2), (2, x3), (2, x4), (0, x5), (0, x6), (0, x7)] [] w Q)) :=
  (VW_b 2 (F := fun n => (if x7 < 0 then vrun n d 170 81 [(2, x0), (0, x1), (0, x2), (2, x3), (2, x4), (0, x5), (0, x6), (0, x7)] [] w else vrun n d 170 117 [(2, x0), (0, x1), (0, x2), (2, x3), (2, x4), (0, x5), (0, x6), (0, x7)] [] w)) (fun _ => rfl)).trans (EX_br.trans (and_congr (imp_congr Iff.rfl Iff.rfl) (imp_congr Iff.rfl Iff.rfl)))
set_option maxRecDepth 100000 in
theorem b170_81 {d : Nat} {w : vW} {x0 x1 x2 x3 x4 x5 x6 x7 : Int} {Q : Int → vW → Prop} : VW d 170 81 [(2, x0), (0, x1), (0, x2), (2, x3), (2, x4), (0, x5), (0, x6), (0, x7)] [] w Q ↔ (vkd w x3 = 1 ∧ (0 : Int) ≤ x6 ∧ x6 < vln w x3) ∧ ¬ ((w32 (-x7)) = 0) ∧ (vkd w x4 = 1 ∧ (0 : Int) ≤ x6 ∧ x6 < vln w x4) ∧ (((w32 ((vct w x3 x6) + (w32 (Int.tdiv x2 (w32 (-x7)))))) < (vct w x4 x6) → VW d 170 99 [(2, x0), (0, x1), (0, x2), (2, x3), (2, x4), (0, x5), (0, x6), (0, x7)] [] w Q) ∧ (¬ ((w32 ((vct w x3 x6) + (w32 (Int.tdiv x2 (w32 (-x7)))))) < (vct w x4 x6)) → VW d 170 117 [(2, x0), (0, x1), (0, x2), (2, x3), (2, x4), (0, x5), (0, x6), (0, x7)] [] w Q)) :=
  (VW_b 12 (F := fun n => if vkd w x3 = 1 ∧ (0 : Int) ≤ x6 ∧ x6 < vln w x3 then if (w32 (-x7)) = 0 then none else if vkd w x4 = 1 ∧ (0 : Int) ≤ x6 ∧ x6 < vln w x4 then (if (w32 ((vct w x3 x6) + (w32 (Int.tdiv x2 (w32 (-x7)))))) < (vct w x4 x6) then vrun n d 170 99 [(2, x0), (0, x1), (0, x2), (2, x3), (2, x4), (0, x5), (0, x6), (0, x7)] [] w else vrun n d 170 117 [(2, x0), (0, x1), (0, x2), (2, x3), (2, x4), (0, x5), (0, x6), (0, x7)] [] w) else none else none) (fun _ => rfl)).trans (EX_if.trans (and_congr Iff.rfl (EX_ifn.trans (and_congr Iff.rfl (EX_if.trans (and_congr Iff.rfl (EX_br.trans (and_congr (imp_congr Iff.rfl Iff.rfl) (imp_congr Iff.rfl Iff.rfl)))))))))
set_option maxRecDepth 100000 in
theorem b170_99 {d : Nat} {w : vW} {x0 x1 x2 x3 x4 x5 x6 x7 : Int} {Q : Int → vW → Prop} : VW d 170 99 [(2, x0), (0, x1), (0, x2), (2, x3), (2, x4), (0, x5), (0, x6), (0, x7)] [] w Q ↔ (vkd w x3 = 1 ∧ (0 : Int) ≤ x6 ∧ x6 < vln w x3) ∧ ¬ ((w32 (-x7)) = 0) ∧ (vkd w x4 = 1 ∧ (0 : Int) ≤ x6 ∧ x6 < vln w x4) ∧ VW d 170 114 [(2, x0), (0, x1), (0, x2), (2, x3), (2, x4), (0, x5), (0, x6), (0, x7)] [] (vsv w x4 x6 (w32 ((vct w x3 x6) + (w32 (Int.tdiv x2 (w32 (-x7))))))) Q :=
  (VW_b 11 (F := fun n => if vkd w x3 = 1 ∧ (0 : Int) ≤ x6 ∧ x6 < vln w x3 then if (w32 (-x7)) = 0 then none else if vkd w x4 = 1 ∧ (0 : Int) ≤ x6 ∧ x6 < vln w x4 then vrun n d 170 114 [(2, x0), (0, x1), (0, x2), (2, x3), (2, x4), (0, x5), (0, x6), (0, x7)] [] (vsv w x4 x6 (w32 ((vct w x3 x6) + (w32 (Int.tdiv x2 (w32 (-x7))))))) else none else none) (fun _ => rfl)).trans (EX_if.trans (and_congr Iff.rfl (EX_ifn.trans (and_congr Iff.rfl (EX_if.trans (and_congr Iff.rfl (Iff.rfl)))))))
set_option maxRecDepth 100000 in
theorem b170_114 {d : Nat} {w : vW} {x0 x1 x2 x3 x4 x5 x6 x7 : Int} {Q : Int → vW → Prop} : VW d 170 114 [(2, x0), (0, x1), (0, x2), (2, x3), (2, x4), (0, x5), (0, x6), (0, x7)] [] w Q ↔ VW d 170 117 [(2, x0), (0, x1), (0, x2), (2, x3), (2, x4), (0, 1), (0, x6), (0, x7)] [] w Q :=
  (VW_b 2 (F := fun n => vrun n d 170 117 [(2, x0), (0, x1), (0, x2), (2, x3), (2, x4), (0, 1), (0, x6), (0, x7)] [] w) (fun _ => rfl)).trans (Iff.rfl)
set_option maxRecDepth 100000 in
theorem b170_117 {d : Nat} {w : vW} {x0 x1 x2 x3 x4 x5 x6 x7 : Int} {Q : Int → vW → Prop} : VW d 170 117 [(2, x0), (0, x1), (0, x2), (2, x3), (2, x4), (0, x5), (0, x6), (0, x7)] [] w Q ↔ VW d 170 6 [(2, x0), (0, x1), (0, x2), (2, x3), (2, x4), (0, x5), (0, w32 (x6 + 1)), (0, x7)] [] w Q :=
  (VW_b 2 (F := fun n => vrun n d 170 6 [(2, x0), (0, x1), (0, x2), (2, x3), (2, x4), (0, x5), (0, w32 (x6 + 1)), (0, x7)] [] w) (fun _ => rfl)).trans (Iff.rfl)
set_option maxRecDepth 100000 in
theorem b170_123 {d : Nat} {w : vW} {x0 x1 x2 x3 x4 x5 x6 : Int} {v7 : vV} {Q : Int → vW → Prop} : VW d 170 123 [(2, x0), (0, x1), (0, x2), (2, x3), (2, x4), (0, x5), (0, x6), v7] [] w Q ↔ ((0 : Int) ≤ x5 ∧ x5 ≤ 1) ∧ Q x5 w :=
  (VW_b 2 (F := fun n => if (0 : Int) ≤ x5 ∧ x5 ≤ 1 then some (0, x5, w) else none) (fun _ => rfl)).trans (EX_if.trans (and_congr Iff.rfl (EX_ret0)))
/-! 171: StrikeWhatCancels$Balance.gainOf(II)I -/
set_option maxRecDepth 100000 in
theorem b171_0 {d : Nat} {w : vW} {x0 x1 x2 : Int} {Q : Int → vW → Prop} : VW d 171 0 [(2, x0), (0, x1), (0, x2)] [] w Q ↔ ((x1 < 0 → VW d 171 34 [(2, x0), (0, x1), (0, x2)] [] w Q) ∧ (¬ (x1 < 0) → VW d 171 4 [(2, x0), (0, x1), (0, x2)] [] w Q)) :=
  (VW_b 2 (F := fun n => (if x1 < 0 then vrun n d 171 34 [(2, x0), (0, x1), (0, x2)] [] w else vrun n d 171 4 [(2, x0), (0, x1), (0, x2)] [] w)) (fun _ => rfl)).trans (EX_br.trans (and_congr (imp_congr Iff.rfl Iff.rfl) (imp_congr Iff.rfl Iff.rfl)))
set_option maxRecDepth 100000 in
theorem b171_4 {d : Nat} {w : vW} {x0 x1 x2 : Int} {Q : Int → vW → Prop} : VW d 171 4 [(2, x0), (0, x1), (0, x2)] [] w Q ↔ (vkd w x0 = 11) ∧ (vkd w (vct w x0 0) = 6) ∧ ((x1 < (vln w (vct w x0 0)) → VW d 171 13 [(2, x0), (0, x1), (0, x2)] [] w Q) ∧ (¬ (x1 < (vln w (vct w x0 0))) → VW d 171 34 [(2, x0), (0, x1), (0, x2)] [] w Q)) :=
  (VW_b 5 (F := fun n => if vkd w x0 = 11 then if vkd w (vct w x0 0) = 6 then (if x1 < (vln w (vct w x0 0)) then vrun n d 171 13 [(2, x0), (0, x1), (0, x2)] [] w else vrun n d 171 34 [(2, x0), (0, x1), (0, x2)] [] w) else none else none) (fun _ => rfl)).trans (EX_if.trans (and_congr Iff.rfl (EX_if.trans (and_congr Iff.rfl (EX_br.trans (and_congr (imp_congr Iff.rfl Iff.rfl) (imp_congr Iff.rfl Iff.rfl)))))))
set_option maxRecDepth 100000 in
theorem b171_13 {d : Nat} {w : vW} {x0 x1 x2 : Int} {Q : Int → vW → Prop} : VW d 171 13 [(2, x0), (0, x1), (0, x2)] [] w Q ↔ ((x2 < 0 → VW d 171 34 [(2, x0), (0, x1), (0, x2)] [] w Q) ∧ (¬ (x2 < 0) → VW d 171 17 [(2, x0), (0, x1), (0, x2)] [] w Q)) :=
  (VW_b 2 (F := fun n => (if x2 < 0 then vrun n d 171 34 [(2, x0), (0, x1), (0, x2)] [] w else vrun n d 171 17 [(2, x0), (0, x1), (0, x2)] [] w)) (fun _ => rfl)).trans (EX_br.trans (and_congr (imp_congr Iff.rfl Iff.rfl) (imp_congr Iff.rfl Iff.rfl)))
set_option maxRecDepth 100000 in
theorem b171_17 {d : Nat} {w : vW} {x0 x1 x2 : Int} {Q : Int → vW → Prop} : VW d 171 17 [(2, x0), (0, x1), (0, x2)] [] w Q ↔ ((x2 < 8 → VW d 171 23 [(2, x0), (0, x1), (0, x2)] [] w Q) ∧ (¬ (x2 < 8) → VW d 171 34 [(2, x0), (0, x1), (0, x2)] [] w Q)) :=
  (VW_b 3 (F := fun n => (if x2 < 8 then vrun n d 171 23 [(2, x0), (0, x1), (0, x2)] [] w else vrun n d 171 34 [(2, x0), (0, x1), (0, x2)] [] w)) (fun _ => rfl)).trans (EX_br.trans (and_congr (imp_congr Iff.rfl Iff.rfl) (imp_congr Iff.rfl Iff.rfl)))
set_option maxRecDepth 100000 in
theorem b171_23 {d : Nat} {w : vW} {x0 x1 x2 : Int} {Q : Int → vW → Prop} : VW d 171 23 [(2, x0), (0, x1), (0, x2)] [] w Q ↔ (vkd w x0 = 11) ∧ (vkd w (vct w x0 0) = 6 ∧ (0 : Int) ≤ x1 ∧ x1 < vln w (vct w x0 0)) ∧ (vkd w (vct w (vct w x0 0) x1) = 1 ∧ (0 : Int) ≤ x2 ∧ x2 < vln w (vct w (vct w x0 0) x1)) ∧ VW d 171 35 [(2, x0), (0, x1), (0, x2)] [(0, vct w (vct w (vct w x0 0) x1) x2)] w Q :=
  (VW_b 7 (F := fun n => if vkd w x0 = 11 then if vkd w (vct w x0 0) = 6 ∧ (0 : Int) ≤ x1 ∧ x1 < vln w (vct w x0 0) then if vkd w (vct w (vct w x0 0) x1) = 1 ∧ (0 : Int) ≤ x2 ∧ x2 < vln w (vct w (vct w x0 0) x1) then vrun n d 171 35 [(2, x0), (0, x1), (0, x2)] [(0, vct w (vct w (vct w x0 0) x1) x2)] w else none else none else none) (fun _ => rfl)).trans (EX_if.trans (and_congr Iff.rfl (EX_if.trans (and_congr Iff.rfl (EX_if.trans (and_congr Iff.rfl (Iff.rfl)))))))
set_option maxRecDepth 100000 in
theorem b171_34 {d : Nat} {w : vW} {x0 x1 x2 : Int} {Q : Int → vW → Prop} : VW d 171 34 [(2, x0), (0, x1), (0, x2)] [] w Q ↔ VW d 171 35 [(2, x0), (0, x1), (0, x2)] [(0, 0)] w Q :=
  (VW_b 1 (F := fun n => vrun n d 171 35 [(2, x0), (0, x1), (0, x2)] [(0, 0)] w) (fun _ => rfl)).trans (Iff.rfl)
set_option maxRecDepth 100000 in
theorem b171_35 {d : Nat} {w : vW} {x0 x1 x2 y0 : Int} {Q : Int → vW → Prop} : VW d 171 35 [(2, x0), (0, x1), (0, x2)] [(0, y0)] w Q ↔ Q y0 w :=
  (VW_b 1 (F := fun n => some (0, y0, w)) (fun _ => rfl)).trans (EX_ret0)
/-! 172: StrikeWhatCancels$Desk.<init>()V -/
set_option maxRecDepth 100000 in
theorem b172_0 {d : Nat} {w : vW} {x0 : Int} {Q : Int → vW → Prop} : VW d 172 0 [(2, x0), (9, 0)] [] w Q ↔ (vkd w x0 ≠ 0) ∧ VW d 172 9 [(2, x0), (9, 0)] [(2, vnt w), (2, x0)] (vnw w 1 8 (fun _ => 0) (8 : Int).toNat) Q :=
  (VW_b 5 (F := fun n => if vkd w x0 ≠ 0 then vrun n d 172 9 [(2, x0), (9, 0)] [(2, vnt w), (2, x0)] (vnw w 1 8 (fun _ => 0) (8 : Int).toNat) else none) (fun _ => rfl)).trans (EX_if.trans (and_congr Iff.rfl (Iff.rfl)))
set_option maxRecDepth 100000 in
theorem b172_9 {d : Nat} {w : vW} {x0 y0 y1 : Int} {Q : Int → vW → Prop} : VW d 172 9 [(2, x0), (9, 0)] [(2, y1), (2, y0)] w Q ↔ (vkd w y0 = 12) ∧ VW d 172 12 [(2, x0), (9, 0)] [] (vsv w y0 0 y1) Q :=
  (VW_b 1 (F := fun n => if vkd w y0 = 12 then vrun n d 172 12 [(2, x0), (9, 0)] [] (vsv w y0 0 y1) else none) (fun _ => rfl)).trans (EX_if.trans (and_congr Iff.rfl (Iff.rfl)))
set_option maxRecDepth 100000 in
theorem b172_12 {d : Nat} {w : vW} {x0 : Int} {Q : Int → vW → Prop} : VW d 172 12 [(2, x0), (9, 0)] [] w Q ↔ (vkd w x0 = 12) ∧ VW d 172 17 [(2, x0), (9, 0)] [] (vsv w x0 1 0) Q :=
  (VW_b 3 (F := fun n => if vkd w x0 = 12 then vrun n d 172 17 [(2, x0), (9, 0)] [] (vsv w x0 1 0) else none) (fun _ => rfl)).trans (EX_if.trans (and_congr Iff.rfl (Iff.rfl)))
set_option maxRecDepth 100000 in
theorem b172_17 {d : Nat} {w : vW} {x0 : Int} {Q : Int → vW → Prop} : VW d 172 17 [(2, x0), (9, 0)] [] w Q ↔ (vkd w x0 = 12) ∧ VW d 172 22 [(2, x0), (9, 0)] [] (vsv w x0 2 0) Q :=
  (VW_b 3 (F := fun n => if vkd w x0 = 12 then vrun n d 172 22 [(2, x0), (9, 0)] [] (vsv w x0 2 0) else none) (fun _ => rfl)).trans (EX_if.trans (and_congr Iff.rfl (Iff.rfl)))
set_option maxRecDepth 100000 in
theorem b172_22 {d : Nat} {w : vW} {x0 : Int} {Q : Int → vW → Prop} : VW d 172 22 [(2, x0), (9, 0)] [] w Q ↔ (vkd w x0 = 12) ∧ VW d 172 27 [(2, x0), (9, 0)] [] (vsv w x0 3 1) Q :=
  (VW_b 3 (F := fun n => if vkd w x0 = 12 then vrun n d 172 27 [(2, x0), (9, 0)] [] (vsv w x0 3 1) else none) (fun _ => rfl)).trans (EX_if.trans (and_congr Iff.rfl (Iff.rfl)))
set_option maxRecDepth 100000 in
theorem b172_27 {d : Nat} {w : vW} {x0 : Int} {Q : Int → vW → Prop} : VW d 172 27 [(2, x0), (9, 0)] [] w Q ↔ (vkd w x0 = 12) ∧ VW d 172 32 [(2, x0), (9, 0)] [] (vsv w x0 4 3) Q :=
  (VW_b 3 (F := fun n => if vkd w x0 = 12 then vrun n d 172 32 [(2, x0), (9, 0)] [] (vsv w x0 4 3) else none) (fun _ => rfl)).trans (EX_if.trans (and_congr Iff.rfl (Iff.rfl)))
set_option maxRecDepth 100000 in
theorem b172_32 {d : Nat} {w : vW} {x0 : Int} {Q : Int → vW → Prop} : VW d 172 32 [(2, x0), (9, 0)] [] w Q ↔ ((0 : Int) ≤ 0 ∧ 0 ≤ 1) ∧ (vkd w x0 = 12) ∧ VW d 172 37 [(2, x0), (9, 0)] [] (vsv w x0 5 0) Q :=
  (VW_b 3 (F := fun n => if (0 : Int) ≤ 0 ∧ 0 ≤ 1 then if vkd w x0 = 12 then vrun n d 172 37 [(2, x0), (9, 0)] [] (vsv w x0 5 0) else none else none) (fun _ => rfl)).trans (EX_if.trans (and_congr Iff.rfl (EX_if.trans (and_congr Iff.rfl (Iff.rfl)))))
set_option maxRecDepth 100000 in
theorem b172_37 {d : Nat} {w : vW} {x0 : Int} {Q : Int → vW → Prop} : VW d 172 37 [(2, x0), (9, 0)] [] w Q ↔ VW d 172 39 [(2, x0), (0, 0)] [] w Q :=
  (VW_b 2 (F := fun n => vrun n d 172 39 [(2, x0), (0, 0)] [] w) (fun _ => rfl)).trans (Iff.rfl)
set_option maxRecDepth 100000 in
theorem b172_39 {d : Nat} {w : vW} {x0 x1 : Int} {Q : Int → vW → Prop} : VW d 172 39 [(2, x0), (0, x1)] [] w Q ↔ (vkd w x0 = 12) ∧ (vkd w (vct w x0 0) = 1) ∧ ((x1 < (vln w (vct w x0 0)) → VW d 172 48 [(2, x0), (0, x1)] [] w Q) ∧ (¬ (x1 < (vln w (vct w x0 0))) → VW d 172 61 [(2, x0), (0, x1)] [] w Q)) :=
  (VW_b 5 (F := fun n => if vkd w x0 = 12 then if vkd w (vct w x0 0) = 1 then (if x1 < (vln w (vct w x0 0)) then vrun n d 172 48 [(2, x0), (0, x1)] [] w else vrun n d 172 61 [(2, x0), (0, x1)] [] w) else none else none) (fun _ => rfl)).trans (EX_if.trans (and_congr Iff.rfl (EX_if.trans (and_congr Iff.rfl (EX_br.trans (and_congr (imp_congr Iff.rfl Iff.rfl) (imp_congr Iff.rfl Iff.rfl)))))))
set_option maxRecDepth 100000 in
theorem b172_48 {d : Nat} {w : vW} {x0 x1 : Int} {Q : Int → vW → Prop} : VW d 172 48 [(2, x0), (0, x1)] [] w Q ↔ (vkd w x0 = 12) ∧ (vkd w (vct w x0 0) = 1 ∧ (0 : Int) ≤ x1 ∧ x1 < vln w (vct w x0 0)) ∧ VW d 172 55 [(2, x0), (0, x1)] [] (vsv w (vct w x0 0) x1 1) Q :=
  (VW_b 5 (F := fun n => if vkd w x0 = 12 then if vkd w (vct w x0 0) = 1 ∧ (0 : Int) ≤ x1 ∧ x1 < vln w (vct w x0 0) then vrun n d 172 55 [(2, x0), (0, x1)] [] (vsv w (vct w x0 0) x1 1) else none else none) (fun _ => rfl)).trans (EX_if.trans (and_congr Iff.rfl (EX_if.trans (and_congr Iff.rfl (Iff.rfl)))))
set_option maxRecDepth 100000 in
theorem b172_55 {d : Nat} {w : vW} {x0 x1 : Int} {Q : Int → vW → Prop} : VW d 172 55 [(2, x0), (0, x1)] [] w Q ↔ VW d 172 39 [(2, x0), (0, w32 (x1 + 1))] [] w Q :=
  (VW_b 2 (F := fun n => vrun n d 172 39 [(2, x0), (0, w32 (x1 + 1))] [] w) (fun _ => rfl)).trans (Iff.rfl)
set_option maxRecDepth 100000 in
theorem b172_61 {d : Nat} {w : vW} {x0 x1 : Int} {Q : Int → vW → Prop} : VW d 172 61 [(2, x0), (0, x1)] [] w Q ↔ Q 0 w :=
  (VW_b 1 (F := fun n => some (0, 0, w)) (fun _ => rfl)).trans (EX_ret0)
/-! 173: StrikeWhatCancels$Desk.take(LStrikeWhatCancels$Desk;)V -/
set_option maxRecDepth 100000 in
theorem b173_0 {d : Nat} {w : vW} {x0 x1 : Int} {Q : Int → vW → Prop} : VW d 173 0 [(2, x0), (2, x1), (9, 0)] [] w Q ↔ (vkd w x1 = 12) ∧ (vkd w x0 = 12) ∧ VW d 173 8 [(2, x0), (2, x1), (9, 0)] [] (vsv w x0 1 (vct w x1 1)) Q :=
  (VW_b 4 (F := fun n => if vkd w x1 = 12 then if vkd w x0 = 12 then vrun n d 173 8 [(2, x0), (2, x1), (9, 0)] [] (vsv w x0 1 (vct w x1 1)) else none else none) (fun _ => rfl)).trans (EX_if.trans (and_congr Iff.rfl (EX_if.trans (and_congr Iff.rfl (Iff.rfl)))))
set_option maxRecDepth 100000 in
theorem b173_8 {d : Nat} {w : vW} {x0 x1 : Int} {Q : Int → vW → Prop} : VW d 173 8 [(2, x0), (2, x1), (9, 0)] [] w Q ↔ (vkd w x1 = 12) ∧ (vkd w x0 = 12) ∧ VW d 173 16 [(2, x0), (2, x1), (9, 0)] [] (vsv w x0 2 (vct w x1 2)) Q :=
  (VW_b 4 (F := fun n => if vkd w x1 = 12 then if vkd w x0 = 12 then vrun n d 173 16 [(2, x0), (2, x1), (9, 0)] [] (vsv w x0 2 (vct w x1 2)) else none else none) (fun _ => rfl)).trans (EX_if.trans (and_congr Iff.rfl (EX_if.trans (and_congr Iff.rfl (Iff.rfl)))))
set_option maxRecDepth 100000 in
theorem b173_16 {d : Nat} {w : vW} {x0 x1 : Int} {Q : Int → vW → Prop} : VW d 173 16 [(2, x0), (2, x1), (9, 0)] [] w Q ↔ (vkd w x1 = 12) ∧ (vkd w x0 = 12) ∧ VW d 173 24 [(2, x0), (2, x1), (9, 0)] [] (vsv w x0 3 (vct w x1 3)) Q :=
  (VW_b 4 (F := fun n => if vkd w x1 = 12 then if vkd w x0 = 12 then vrun n d 173 24 [(2, x0), (2, x1), (9, 0)] [] (vsv w x0 3 (vct w x1 3)) else none else none) (fun _ => rfl)).trans (EX_if.trans (and_congr Iff.rfl (EX_if.trans (and_congr Iff.rfl (Iff.rfl)))))
set_option maxRecDepth 100000 in
theorem b173_24 {d : Nat} {w : vW} {x0 x1 : Int} {Q : Int → vW → Prop} : VW d 173 24 [(2, x0), (2, x1), (9, 0)] [] w Q ↔ (vkd w x1 = 12) ∧ (vkd w x0 = 12) ∧ VW d 173 32 [(2, x0), (2, x1), (9, 0)] [] (vsv w x0 4 (vct w x1 4)) Q :=
  (VW_b 4 (F := fun n => if vkd w x1 = 12 then if vkd w x0 = 12 then vrun n d 173 32 [(2, x0), (2, x1), (9, 0)] [] (vsv w x0 4 (vct w x1 4)) else none else none) (fun _ => rfl)).trans (EX_if.trans (and_congr Iff.rfl (EX_if.trans (and_congr Iff.rfl (Iff.rfl)))))
set_option maxRecDepth 100000 in
theorem b173_32 {d : Nat} {w : vW} {x0 x1 : Int} {Q : Int → vW → Prop} : VW d 173 32 [(2, x0), (2, x1), (9, 0)] [] w Q ↔ VW d 173 34 [(2, x0), (2, x1), (0, 0)] [] w Q :=
  (VW_b 2 (F := fun n => vrun n d 173 34 [(2, x0), (2, x1), (0, 0)] [] w) (fun _ => rfl)).trans (Iff.rfl)
set_option maxRecDepth 100000 in
theorem b173_34 {d : Nat} {w : vW} {x0 x1 x2 : Int} {Q : Int → vW → Prop} : VW d 173 34 [(2, x0), (2, x1), (0, x2)] [] w Q ↔ (vkd w x0 = 12) ∧ (vkd w (vct w x0 0) = 1) ∧ ((x2 < (vln w (vct w x0 0)) → VW d 173 43 [(2, x0), (2, x1), (0, x2)] [] w Q) ∧ (¬ (x2 < (vln w (vct w x0 0))) → VW d 173 60 [(2, x0), (2, x1), (0, x2)] [] w Q)) :=
  (VW_b 5 (F := fun n => if vkd w x0 = 12 then if vkd w (vct w x0 0) = 1 then (if x2 < (vln w (vct w x0 0)) then vrun n d 173 43 [(2, x0), (2, x1), (0, x2)] [] w else vrun n d 173 60 [(2, x0), (2, x1), (0, x2)] [] w) else none else none) (fun _ => rfl)).trans (EX_if.trans (and_congr Iff.rfl (EX_if.trans (and_congr Iff.rfl (EX_br.trans (and_congr (imp_congr Iff.rfl Iff.rfl) (imp_congr Iff.rfl Iff.rfl)))))))
set_option maxRecDepth 100000 in
theorem b173_43 {d : Nat} {w : vW} {x0 x1 x2 : Int} {Q : Int → vW → Prop} : VW d 173 43 [(2, x0), (2, x1), (0, x2)] [] w Q ↔ (vkd w x0 = 12) ∧ (vkd w x1 = 12) ∧ VC d 174 [(2, x1), (0, x2)] w (fun r w1 => VW d 173 53 [(2, x0), (2, x1), (0, x2)] [(0, r), (0, x2), (2, vct w x0 0)] w1 Q) :=
  (VW_b 6 (F := fun n => if vkd w x0 = 12 then if vkd w x1 = 12 then vclr (vrun n) d 173 53 174 2 0 [(2, x0), (2, x1), (0, x2)] [(0, x2), (2, x1), (0, x2), (2, vct w x0 0)] w else none else none) (fun _ => rfl)).trans (EX_if.trans (and_congr Iff.rfl (EX_if.trans (and_congr Iff.rfl (EX_call rfl)))))
set_option maxRecDepth 100000 in
theorem b173_53 {d : Nat} {w : vW} {x0 x1 x2 y0 y1 y2 : Int} {Q : Int → vW → Prop} : VW d 173 53 [(2, x0), (2, x1), (0, x2)] [(0, y2), (0, y1), (2, y0)] w Q ↔ (vkd w y0 = 1 ∧ (0 : Int) ≤ y1 ∧ y1 < vln w y0) ∧ VW d 173 54 [(2, x0), (2, x1), (0, x2)] [] (vsv w y0 y1 y2) Q :=
  (VW_b 1 (F := fun n => if vkd w y0 = 1 ∧ (0 : Int) ≤ y1 ∧ y1 < vln w y0 then vrun n d 173 54 [(2, x0), (2, x1), (0, x2)] [] (vsv w y0 y1 y2) else none) (fun _ => rfl)).trans (EX_if.trans (and_congr Iff.rfl (Iff.rfl)))
set_option maxRecDepth 100000 in
theorem b173_54 {d : Nat} {w : vW} {x0 x1 x2 : Int} {Q : Int → vW → Prop} : VW d 173 54 [(2, x0), (2, x1), (0, x2)] [] w Q ↔ VW d 173 34 [(2, x0), (2, x1), (0, w32 (x2 + 1))] [] w Q :=
  (VW_b 2 (F := fun n => vrun n d 173 34 [(2, x0), (2, x1), (0, w32 (x2 + 1))] [] w) (fun _ => rfl)).trans (Iff.rfl)
set_option maxRecDepth 100000 in
theorem b173_60 {d : Nat} {w : vW} {x0 x1 x2 : Int} {Q : Int → vW → Prop} : VW d 173 60 [(2, x0), (2, x1), (0, x2)] [] w Q ↔ Q 0 w :=
  (VW_b 1 (F := fun n => some (0, 0, w)) (fun _ => rfl)).trans (EX_ret0)
/-! 174: StrikeWhatCancels$Desk.weightOf(I)I -/
set_option maxRecDepth 100000 in
theorem b174_0 {d : Nat} {w : vW} {x0 x1 : Int} {Q : Int → vW → Prop} : VW d 174 0 [(2, x0), (0, x1)] [] w Q ↔ ((x1 < 0 → VW d 174 22 [(2, x0), (0, x1)] [] w Q) ∧ (¬ (x1 < 0) → VW d 174 4 [(2, x0), (0, x1)] [] w Q)) :=
  (VW_b 2 (F := fun n => (if x1 < 0 then vrun n d 174 22 [(2, x0), (0, x1)] [] w else vrun n d 174 4 [(2, x0), (0, x1)] [] w)) (fun _ => rfl)).trans (EX_br.trans (and_congr (imp_congr Iff.rfl Iff.rfl) (imp_congr Iff.rfl Iff.rfl)))
set_option maxRecDepth 100000 in
theorem b174_4 {d : Nat} {w : vW} {x0 x1 : Int} {Q : Int → vW → Prop} : VW d 174 4 [(2, x0), (0, x1)] [] w Q ↔ (vkd w x0 = 12) ∧ (vkd w (vct w x0 0) = 1) ∧ ((x1 < (vln w (vct w x0 0)) → VW d 174 13 [(2, x0), (0, x1)] [] w Q) ∧ (¬ (x1 < (vln w (vct w x0 0))) → VW d 174 22 [(2, x0), (0, x1)] [] w Q)) :=
  (VW_b 5 (F := fun n => if vkd w x0 = 12 then if vkd w (vct w x0 0) = 1 then (if x1 < (vln w (vct w x0 0)) then vrun n d 174 13 [(2, x0), (0, x1)] [] w else vrun n d 174 22 [(2, x0), (0, x1)] [] w) else none else none) (fun _ => rfl)).trans (EX_if.trans (and_congr Iff.rfl (EX_if.trans (and_congr Iff.rfl (EX_br.trans (and_congr (imp_congr Iff.rfl Iff.rfl) (imp_congr Iff.rfl Iff.rfl)))))))
set_option maxRecDepth 100000 in
theorem b174_13 {d : Nat} {w : vW} {x0 x1 : Int} {Q : Int → vW → Prop} : VW d 174 13 [(2, x0), (0, x1)] [] w Q ↔ (vkd w x0 = 12) ∧ (vkd w (vct w x0 0) = 1 ∧ (0 : Int) ≤ x1 ∧ x1 < vln w (vct w x0 0)) ∧ VW d 174 23 [(2, x0), (0, x1)] [(0, vct w (vct w x0 0) x1)] w Q :=
  (VW_b 5 (F := fun n => if vkd w x0 = 12 then if vkd w (vct w x0 0) = 1 ∧ (0 : Int) ≤ x1 ∧ x1 < vln w (vct w x0 0) then vrun n d 174 23 [(2, x0), (0, x1)] [(0, vct w (vct w x0 0) x1)] w else none else none) (fun _ => rfl)).trans (EX_if.trans (and_congr Iff.rfl (EX_if.trans (and_congr Iff.rfl (Iff.rfl)))))
set_option maxRecDepth 100000 in
theorem b174_22 {d : Nat} {w : vW} {x0 x1 : Int} {Q : Int → vW → Prop} : VW d 174 22 [(2, x0), (0, x1)] [] w Q ↔ VW d 174 23 [(2, x0), (0, x1)] [(0, 0)] w Q :=
  (VW_b 1 (F := fun n => vrun n d 174 23 [(2, x0), (0, x1)] [(0, 0)] w) (fun _ => rfl)).trans (Iff.rfl)
set_option maxRecDepth 100000 in
theorem b174_23 {d : Nat} {w : vW} {x0 x1 y0 : Int} {Q : Int → vW → Prop} : VW d 174 23 [(2, x0), (0, x1)] [(0, y0)] w Q ↔ Q y0 w :=
  (VW_b 1 (F := fun n => some (0, y0, w)) (fun _ => rfl)).trans (EX_ret0)
/-! 175: StrikeWhatCancels$Desk.setWeight(II)V -/
set_option maxRecDepth 100000 in
theorem b175_0 {d : Nat} {w : vW} {x0 x1 x2 : Int} {Q : Int → vW → Prop} : VW d 175 0 [(2, x0), (0, x1), (0, x2)] [] w Q ↔ ((x1 < 0 → VW d 175 20 [(2, x0), (0, x1), (0, x2)] [] w Q) ∧ (¬ (x1 < 0) → VW d 175 4 [(2, x0), (0, x1), (0, x2)] [] w Q)) :=
  (VW_b 2 (F := fun n => (if x1 < 0 then vrun n d 175 20 [(2, x0), (0, x1), (0, x2)] [] w else vrun n d 175 4 [(2, x0), (0, x1), (0, x2)] [] w)) (fun _ => rfl)).trans (EX_br.trans (and_congr (imp_congr Iff.rfl Iff.rfl) (imp_congr Iff.rfl Iff.rfl)))
set_option maxRecDepth 100000 in
theorem b175_4 {d : Nat} {w : vW} {x0 x1 x2 : Int} {Q : Int → vW → Prop} : VW d 175 4 [(2, x0), (0, x1), (0, x2)] [] w Q ↔ (vkd w x0 = 12) ∧ (vkd w (vct w x0 0) = 1) ∧ ((x1 < (vln w (vct w x0 0)) → VW d 175 13 [(2, x0), (0, x1), (0, x2)] [] w Q) ∧ (¬ (x1 < (vln w (vct w x0 0))) → VW d 175 20 [(2, x0), (0, x1), (0, x2)] [] w Q)) :=
  (VW_b 5 (F := fun n => if vkd w x0 = 12 then if vkd w (vct w x0 0) = 1 then (if x1 < (vln w (vct w x0 0)) then vrun n d 175 13 [(2, x0), (0, x1), (0, x2)] [] w else vrun n d 175 20 [(2, x0), (0, x1), (0, x2)] [] w) else none else none) (fun _ => rfl)).trans (EX_if.trans (and_congr Iff.rfl (EX_if.trans (and_congr Iff.rfl (EX_br.trans (and_congr (imp_congr Iff.rfl Iff.rfl) (imp_congr Iff.rfl Iff.rfl)))))))
set_option maxRecDepth 100000 in
theorem b175_13 {d : Nat} {w : vW} {x0 x1 x2 : Int} {Q : Int → vW → Prop} : VW d 175 13 [(2, x0), (0, x1), (0, x2)] [] w Q ↔ (vkd w x0 = 12) ∧ (vkd w (vct w x0 0) = 1 ∧ (0 : Int) ≤ x1 ∧ x1 < vln w (vct w x0 0)) ∧ VW d 175 20 [(2, x0), (0, x1), (0, x2)] [] (vsv w (vct w x0 0) x1 x2) Q :=
  (VW_b 5 (F := fun n => if vkd w x0 = 12 then if vkd w (vct w x0 0) = 1 ∧ (0 : Int) ≤ x1 ∧ x1 < vln w (vct w x0 0) then vrun n d 175 20 [(2, x0), (0, x1), (0, x2)] [] (vsv w (vct w x0 0) x1 x2) else none else none) (fun _ => rfl)).trans (EX_if.trans (and_congr Iff.rfl (EX_if.trans (and_congr Iff.rfl (Iff.rfl)))))
set_option maxRecDepth 100000 in
theorem b175_20 {d : Nat} {w : vW} {x0 x1 x2 : Int} {Q : Int → vW → Prop} : VW d 175 20 [(2, x0), (0, x1), (0, x2)] [] w Q ↔ Q 0 w :=
  (VW_b 1 (F := fun n => some (0, 0, w)) (fun _ => rfl)).trans (EX_ret0)
/-! 176: StrikeWhatCancels$Desk.weightOfAll(J)I -/
set_option maxRecDepth 100000 in
theorem b176_0 {d : Nat} {w : vW} {x0 x1 : Int} {Q : Int → vW → Prop} : VW d 176 0 [(2, x0), (1, x1), (9, 0), (9, 0), (9, 0), (9, 0)] [] w Q ↔ VC d 273 [(1, x1)] w (fun r w1 => VW d 176 6 [(2, x0), (1, x1), (9, 0), (0, 0), (9, 0), (9, 0)] [(0, r)] w1 Q) :=
  (VW_b 4 (F := fun n => vclr (vrun n) d 176 6 273 1 0 [(2, x0), (1, x1), (9, 0), (0, 0), (9, 0), (9, 0)] [(1, x1)] w) (fun _ => rfl)).trans (EX_call rfl)
set_option maxRecDepth 100000 in
theorem b176_6 {d : Nat} {w : vW} {x0 x1 x3 y0 : Int} {Q : Int → vW → Prop} : VW d 176 6 [(2, x0), (1, x1), (9, 0), (0, x3), (9, 0), (9, 0)] [(0, y0)] w Q ↔ VW d 176 11 [(2, x0), (1, x1), (9, 0), (0, x3), (0, y0), (0, 0)] [] w Q :=
  (VW_b 3 (F := fun n => vrun n d 176 11 [(2, x0), (1, x1), (9, 0), (0, x3), (0, y0), (0, 0)] [] w) (fun _ => rfl)).trans (Iff.rfl)
set_option maxRecDepth 100000 in
theorem b176_11 {d : Nat} {w : vW} {x0 x1 x3 x4 x5 : Int} {Q : Int → vW → Prop} : VW d 176 11 [(2, x0), (1, x1), (9, 0), (0, x3), (0, x4), (0, x5)] [] w Q ↔ ((x5 < x4 → VW d 176 18 [(2, x0), (1, x1), (9, 0), (0, x3), (0, x4), (0, x5)] [] w Q) ∧ (¬ (x5 < x4) → VW d 176 39 [(2, x0), (1, x1), (9, 0), (0, x3), (0, x4), (0, x5)] [] w Q)) :=
  (VW_b 3 (F := fun n => (if x5 < x4 then vrun n d 176 18 [(2, x0), (1, x1), (9, 0), (0, x3), (0, x4), (0, x5)] [] w else vrun n d 176 39 [(2, x0), (1, x1), (9, 0), (0, x3), (0, x4), (0, x5)] [] w)) (fun _ => rfl)).trans (EX_br.trans (and_congr (imp_congr Iff.rfl Iff.rfl) (imp_congr Iff.rfl Iff.rfl)))
set_option maxRecDepth 100000 in
theorem b176_18 {d : Nat} {w : vW} {x0 x1 x3 x4 x5 : Int} {Q : Int → vW → Prop} : VW d 176 18 [(2, x0), (1, x1), (9, 0), (0, x3), (0, x4), (0, x5)] [] w Q ↔ VC d 276 [(1, x1), (0, x5)] w (fun r w1 => VW d 176 26 [(2, x0), (1, x1), (9, 0), (0, x3), (0, x4), (0, x5)] [(0, r), (2, x0), (0, x3)] w1 Q) :=
  (VW_b 5 (F := fun n => vclr (vrun n) d 176 26 276 2 0 [(2, x0), (1, x1), (9, 0), (0, x3), (0, x4), (0, x5)] [(0, x5), (1, x1), (2, x0), (0, x3)] w) (fun _ => rfl)).trans (EX_call rfl)
set_option maxRecDepth 100000 in
theorem b176_26 {d : Nat} {w : vW} {x0 x1 x3 x4 x5 y0 y1 y2 : Int} {Q : Int → vW → Prop} : VW d 176 26 [(2, x0), (1, x1), (9, 0), (0, x3), (0, x4), (0, x5)] [(0, y2), (2, y1), (0, y0)] w Q ↔ (vkd w y1 = 12) ∧ VC d 174 [(2, y1), (0, w32 (y2 - 1))] w (fun r w1 => VW d 176 31 [(2, x0), (1, x1), (9, 0), (0, x3), (0, x4), (0, x5)] [(0, r), (0, y0)] w1 Q) :=
  (VW_b 3 (F := fun n => if vkd w y1 = 12 then vclr (vrun n) d 176 31 174 2 0 [(2, x0), (1, x1), (9, 0), (0, x3), (0, x4), (0, x5)] [(0, w32 (y2 - 1)), (2, y1), (0, y0)] w else none) (fun _ => rfl)).trans (EX_if.trans (and_congr Iff.rfl (EX_call rfl)))
set_option maxRecDepth 100000 in
theorem b176_31 {d : Nat} {w : vW} {x0 x1 x3 x4 x5 y0 y1 : Int} {Q : Int → vW → Prop} : VW d 176 31 [(2, x0), (1, x1), (9, 0), (0, x3), (0, x4), (0, x5)] [(0, y1), (0, y0)] w Q ↔ VW d 176 11 [(2, x0), (1, x1), (9, 0), (0, w32 (y0 + y1)), (0, x4), (0, w32 (x5 + 1))] [] w Q :=
  (VW_b 4 (F := fun n => vrun n d 176 11 [(2, x0), (1, x1), (9, 0), (0, w32 (y0 + y1)), (0, x4), (0, w32 (x5 + 1))] [] w) (fun _ => rfl)).trans (Iff.rfl)
set_option maxRecDepth 100000 in
theorem b176_39 {d : Nat} {w : vW} {x0 x1 x3 x4 x5 : Int} {Q : Int → vW → Prop} : VW d 176 39 [(2, x0), (1, x1), (9, 0), (0, x3), (0, x4), (0, x5)] [] w Q ↔ Q x3 w :=
  (VW_b 2 (F := fun n => some (0, x3, w)) (fun _ => rfl)).trans (EX_ret0)
/-! 177: StrikeWhatCancels$Finals.<init>(I)V -/
set_option maxRecDepth 100000 in
theorem b177_0 {d : Nat} {w : vW} {x0 x1 : Int} {Q : Int → vW → Prop} : VW d 177 0 [(2, x0), (0, x1)] [] w Q ↔ (vkd w x0 ≠ 0) ∧ VW d 177 10 [(2, x0), (0, x1)] [(2, vnt w), (2, x0)] (vnw w 2 8192 (fun _ => 0) (8192 : Int).toNat) Q :=
  (VW_b 5 (F := fun n => if vkd w x0 ≠ 0 then vrun n d 177 10 [(2, x0), (0, x1)] [(2, vnt w), (2, x0)] (vnw w 2 8192 (fun _ => 0) (8192 : Int).toNat) else none) (fun _ => rfl)).trans (EX_if.trans (and_congr Iff.rfl (Iff.rfl)))
set_option maxRecDepth 100000 in
theorem b177_10 {d : Nat} {w : vW} {x0 x1 y0 y1 : Int} {Q : Int → vW → Prop} : VW d 177 10 [(2, x0), (0, x1)] [(2, y1), (2, y0)] w Q ↔ (vkd w y0 = 13) ∧ VW d 177 13 [(2, x0), (0, x1)] [] (vsv w y0 0 y1) Q :=
  (VW_b 1 (F := fun n => if vkd w y0 = 13 then vrun n d 177 13 [(2, x0), (0, x1)] [] (vsv w y0 0 y1) else none) (fun _ => rfl)).trans (EX_if.trans (and_congr Iff.rfl (Iff.rfl)))
set_option maxRecDepth 100000 in
theorem b177_13 {d : Nat} {w : vW} {x0 x1 : Int} {Q : Int → vW → Prop} : VW d 177 13 [(2, x0), (0, x1)] [] w Q ↔ VW d 177 19 [(2, x0), (0, x1)] [(2, vnt w), (2, x0)] (vnw w 2 8192 (fun _ => 0) (8192 : Int).toNat) Q :=
  (VW_b 3 (F := fun n => vrun n d 177 19 [(2, x0), (0, x1)] [(2, vnt w), (2, x0)] (vnw w 2 8192 (fun _ => 0) (8192 : Int).toNat)) (fun _ => rfl)).trans (Iff.rfl)
set_option maxRecDepth 100000 in
theorem b177_19 {d : Nat} {w : vW} {x0 x1 y0 y1 : Int} {Q : Int → vW → Prop} : VW d 177 19 [(2, x0), (0, x1)] [(2, y1), (2, y0)] w Q ↔ (vkd w y0 = 13) ∧ VW d 177 22 [(2, x0), (0, x1)] [] (vsv w y0 1 y1) Q :=
  (VW_b 1 (F := fun n => if vkd w y0 = 13 then vrun n d 177 22 [(2, x0), (0, x1)] [] (vsv w y0 1 y1) else none) (fun _ => rfl)).trans (EX_if.trans (and_congr Iff.rfl (Iff.rfl)))
set_option maxRecDepth 100000 in
theorem b177_22 {d : Nat} {w : vW} {x0 x1 : Int} {Q : Int → vW → Prop} : VW d 177 22 [(2, x0), (0, x1)] [] w Q ↔ VW d 177 27 [(2, x0), (0, x1)] [(2, vnt w), (2, x0)] (vnw w 1 15 (fun _ => 0) (15 : Int).toNat) Q :=
  (VW_b 3 (F := fun n => vrun n d 177 27 [(2, x0), (0, x1)] [(2, vnt w), (2, x0)] (vnw w 1 15 (fun _ => 0) (15 : Int).toNat)) (fun _ => rfl)).trans (Iff.rfl)
set_option maxRecDepth 100000 in
theorem b177_27 {d : Nat} {w : vW} {x0 x1 y0 y1 : Int} {Q : Int → vW → Prop} : VW d 177 27 [(2, x0), (0, x1)] [(2, y1), (2, y0)] w Q ↔ (vkd w y0 = 13) ∧ VW d 177 30 [(2, x0), (0, x1)] [] (vsv w y0 2 y1) Q :=
  (VW_b 1 (F := fun n => if vkd w y0 = 13 then vrun n d 177 30 [(2, x0), (0, x1)] [] (vsv w y0 2 y1) else none) (fun _ => rfl)).trans (EX_if.trans (and_congr Iff.rfl (Iff.rfl)))
set_option maxRecDepth 100000 in
theorem b177_30 {d : Nat} {w : vW} {x0 x1 : Int} {Q : Int → vW → Prop} : VW d 177 30 [(2, x0), (0, x1)] [] w Q ↔ VW d 177 36 [(2, x0), (0, x1)] [(2, vnt w), (2, x0)] (vnw w 2 4096 (fun _ => 0) (4096 : Int).toNat) Q :=
  (VW_b 3 (F := fun n => vrun n d 177 36 [(2, x0), (0, x1)] [(2, vnt w), (2, x0)] (vnw w 2 4096 (fun _ => 0) (4096 : Int).toNat)) (fun _ => rfl)).trans (Iff.rfl)
set_option maxRecDepth 100000 in
theorem b177_36 {d : Nat} {w : vW} {x0 x1 y0 y1 : Int} {Q : Int → vW → Prop} : VW d 177 36 [(2, x0), (0, x1)] [(2, y1), (2, y0)] w Q ↔ (vkd w y0 = 13) ∧ VW d 177 39 [(2, x0), (0, x1)] [] (vsv w y0 3 y1) Q :=
  (VW_b 1 (F := fun n => if vkd w y0 = 13 then vrun n d 177 39 [(2, x0), (0, x1)] [] (vsv w y0 3 y1) else none) (fun _ => rfl)).trans (EX_if.trans (and_congr Iff.rfl (Iff.rfl)))
set_option maxRecDepth 100000 in
theorem b177_39 {d : Nat} {w : vW} {x0 x1 : Int} {Q : Int → vW → Prop} : VW d 177 39 [(2, x0), (0, x1)] [] w Q ↔ (vkd w x0 = 13) ∧ VW d 177 44 [(2, x0), (0, x1)] [] (vsv w x0 5 0) Q :=
  (VW_b 3 (F := fun n => if vkd w x0 = 13 then vrun n d 177 44 [(2, x0), (0, x1)] [] (vsv w x0 5 0) else none) (fun _ => rfl)).trans (EX_if.trans (and_congr Iff.rfl (Iff.rfl)))
set_option maxRecDepth 100000 in
theorem b177_44 {d : Nat} {w : vW} {x0 x1 : Int} {Q : Int → vW → Prop} : VW d 177 44 [(2, x0), (0, x1)] [] w Q ↔ (vkd w x0 = 13) ∧ VW d 177 49 [(2, x0), (0, x1)] [] (vsv w x0 6 (-1)) Q :=
  (VW_b 3 (F := fun n => if vkd w x0 = 13 then vrun n d 177 49 [(2, x0), (0, x1)] [] (vsv w x0 6 (-1)) else none) (fun _ => rfl)).trans (EX_if.trans (and_congr Iff.rfl (Iff.rfl)))
set_option maxRecDepth 100000 in
theorem b177_49 {d : Nat} {w : vW} {x0 x1 : Int} {Q : Int → vW → Prop} : VW d 177 49 [(2, x0), (0, x1)] [] w Q ↔ (vkd w x0 = 13) ∧ VW d 177 54 [(2, x0), (0, x1)] [] (vsv w x0 7 (-1)) Q :=
  (VW_b 3 (F := fun n => if vkd w x0 = 13 then vrun n d 177 54 [(2, x0), (0, x1)] [] (vsv w x0 7 (-1)) else none) (fun _ => rfl)).trans (EX_if.trans (and_congr Iff.rfl (Iff.rfl)))
set_option maxRecDepth 100000 in
theorem b177_54 {d : Nat} {w : vW} {x0 x1 : Int} {Q : Int → vW → Prop} : VW d 177 54 [(2, x0), (0, x1)] [] w Q ↔ (vkd w x0 = 13) ∧ VW d 177 59 [(2, x0), (0, x1)] [] (vsv w x0 8 0) Q :=
  (VW_b 3 (F := fun n => if vkd w x0 = 13 then vrun n d 177 59 [(2, x0), (0, x1)] [] (vsv w x0 8 0) else none) (fun _ => rfl)).trans (EX_if.trans (and_congr Iff.rfl (Iff.rfl)))
set_option maxRecDepth 100000 in
theorem b177_59 {d : Nat} {w : vW} {x0 x1 : Int} {Q : Int → vW → Prop} : VW d 177 59 [(2, x0), (0, x1)] [] w Q ↔ (vkd w x0 = 13) ∧ VW d 177 64 [(2, x0), (0, x1)] [] (vsv w x0 9 0) Q :=
  (VW_b 3 (F := fun n => if vkd w x0 = 13 then vrun n d 177 64 [(2, x0), (0, x1)] [] (vsv w x0 9 0) else none) (fun _ => rfl)).trans (EX_if.trans (and_congr Iff.rfl (Iff.rfl)))
set_option maxRecDepth 100000 in
theorem b177_64 {d : Nat} {w : vW} {x0 x1 : Int} {Q : Int → vW → Prop} : VW d 177 64 [(2, x0), (0, x1)] [] w Q ↔ (vkd w x0 = 13) ∧ VW d 177 69 [(2, x0), (0, x1)] [] (vsv w x0 4 x1) Q :=
  (VW_b 3 (F := fun n => if vkd w x0 = 13 then vrun n d 177 69 [(2, x0), (0, x1)] [] (vsv w x0 4 x1) else none) (fun _ => rfl)).trans (EX_if.trans (and_congr Iff.rfl (Iff.rfl)))
set_option maxRecDepth 100000 in
theorem b177_69 {d : Nat} {w : vW} {x0 x1 : Int} {Q : Int → vW → Prop} : VW d 177 69 [(2, x0), (0, x1)] [] w Q ↔ Q 0 w :=
  (VW_b 1 (F := fun n => some (0, 0, w)) (fun _ => rfl)).trans (EX_ret0)
/-! 178: StrikeWhatCancels$Finals.many(II)I -/
set_option maxRecDepth 100000 in
theorem b178_0 {d : Nat} {w : vW} {x0 x1 : Int} {Q : Int → vW → Prop} : VW d 178 0 [(0, x0), (0, x1), (9, 0), (9, 0)] [] w Q ↔ VW d 178 4 [(0, x0), (0, x1), (0, 1), (0, 0)] [] w Q :=
  (VW_b 4 (F := fun n => vrun n d 178 4 [(0, x0), (0, x1), (0, 1), (0, 0)] [] w) (fun _ => rfl)).trans (Iff.rfl)
set_option maxRecDepth 100000 in
theorem b178_4 {d : Nat} {w : vW} {x0 x1 x2 x3 : Int} {Q : Int → vW → Prop} : VW d 178 4 [(0, x0), (0, x1), (0, x2), (0, x3)] [] w Q ↔ ((x3 < x1 → VW d 178 9 [(0, x0), (0, x1), (0, x2), (0, x3)] [] w Q) ∧ (¬ (x3 < x1) → VW d 178 26 [(0, x0), (0, x1), (0, x2), (0, x3)] [] w Q)) :=
  (VW_b 3 (F := fun n => (if x3 < x1 then vrun n d 178 9 [(0, x0), (0, x1), (0, x2), (0, x3)] [] w else vrun n d 178 26 [(0, x0), (0, x1), (0, x2), (0, x3)] [] w)) (fun _ => rfl)).trans (EX_br.trans (and_congr (imp_congr Iff.rfl Iff.rfl) (imp_congr Iff.rfl Iff.rfl)))
set_option maxRecDepth 100000 in
theorem b178_9 {d : Nat} {w : vW} {x0 x1 x2 x3 : Int} {Q : Int → vW → Prop} : VW d 178 9 [(0, x0), (0, x1), (0, x2), (0, x3)] [] w Q ↔ ((4096 < x2 → VW d 178 26 [(0, x0), (0, x1), (0, x2), (0, x3)] [] w Q) ∧ (¬ (4096 < x2) → VW d 178 16 [(0, x0), (0, x1), (0, x2), (0, x3)] [] w Q)) :=
  (VW_b 3 (F := fun n => (if 4096 < x2 then vrun n d 178 26 [(0, x0), (0, x1), (0, x2), (0, x3)] [] w else vrun n d 178 16 [(0, x0), (0, x1), (0, x2), (0, x3)] [] w)) (fun _ => rfl)).trans (EX_br.trans (and_congr (imp_congr Iff.rfl Iff.rfl) (imp_congr Iff.rfl Iff.rfl)))
set_option maxRecDepth 100000 in
theorem b178_16 {d : Nat} {w : vW} {x0 x1 x2 x3 : Int} {Q : Int → vW → Prop} : VW d 178 16 [(0, x0), (0, x1), (0, x2), (0, x3)] [] w Q ↔ VW d 178 4 [(0, x0), (0, x1), (0, w32 (x2 * x0)), (0, w32 (x3 + 1))] [] w Q :=
  (VW_b 6 (F := fun n => vrun n d 178 4 [(0, x0), (0, x1), (0, w32 (x2 * x0)), (0, w32 (x3 + 1))] [] w) (fun _ => rfl)).trans (Iff.rfl)
set_option maxRecDepth 100000 in
theorem b178_26 {d : Nat} {w : vW} {x0 x1 x2 x3 : Int} {Q : Int → vW → Prop} : VW d 178 26 [(0, x0), (0, x1), (0, x2), (0, x3)] [] w Q ↔ Q (min x2 4097) w :=
  (VW_b 4 (F := fun n => some (0, min x2 4097, w)) (fun _ => rfl)).trans (EX_ret0)
/-! 179: StrikeWhatCancels$Finals.upTo(LStrikeWhatCancels$Rules;II)V -/
set_option maxRecDepth 100000 in
theorem b179_0 {d : Nat} {w : vW} {x0 x1 x2 x3 : Int} {Q : Int → vW → Prop} : VW d 179 0 [(2, x0), (2, x1), (0, x2), (0, x3), (9, 0), (9, 0), (9, 0)] [] w Q ↔ (vkd w x0 = 13) ∧ (vkd w x1 = 18) ∧ (((vct w x0 6) = (vct w x1 4) → VW d 179 11 [(2, x0), (2, x1), (0, x2), (0, x3), (9, 0), (9, 0), (9, 0)] [] w Q) ∧ (¬ ((vct w x0 6) = (vct w x1 4)) → VW d 179 19 [(2, x0), (2, x1), (0, x2), (0, x3), (9, 0), (9, 0), (9, 0)] [] w Q)) :=
  (VW_b 5 (F := fun n => if vkd w x0 = 13 then if vkd w x1 = 18 then (if (vct w x0 6) = (vct w x1 4) then vrun n d 179 11 [(2, x0), (2, x1), (0, x2), (0, x3), (9, 0), (9, 0), (9, 0)] [] w else vrun n d 179 19 [(2, x0), (2, x1), (0, x2), (0, x3), (9, 0), (9, 0), (9, 0)] [] w) else none else none) (fun _ => rfl)).trans (EX_if.trans (and_congr Iff.rfl (EX_if.trans (and_congr Iff.rfl (EX_br.trans (and_congr (imp_congr Iff.rfl Iff.rfl) (imp_congr Iff.rfl Iff.rfl)))))))
set_option maxRecDepth 100000 in
theorem b179_11 {d : Nat} {w : vW} {x0 x1 x2 x3 : Int} {Q : Int → vW → Prop} : VW d 179 11 [(2, x0), (2, x1), (0, x2), (0, x3), (9, 0), (9, 0), (9, 0)] [] w Q ↔ (vkd w x0 = 13) ∧ (((vct w x0 5) = x2 → VW d 179 37 [(2, x0), (2, x1), (0, x2), (0, x3), (9, 0), (9, 0), (9, 0)] [] w Q) ∧ (¬ ((vct w x0 5) = x2) → VW d 179 19 [(2, x0), (2, x1), (0, x2), (0, x3), (9, 0), (9, 0), (9, 0)] [] w Q)) :=
  (VW_b 4 (F := fun n => if vkd w x0 = 13 then (if (vct w x0 5) = x2 then vrun n d 179 37 [(2, x0), (2, x1), (0, x2), (0, x3), (9, 0), (9, 0), (9, 0)] [] w else vrun n d 179 19 [(2, x0), (2, x1), (0, x2), (0, x3), (9, 0), (9, 0), (9, 0)] [] w) else none) (fun _ => rfl)).trans (EX_if.trans (and_congr Iff.rfl (EX_br.trans (and_congr (imp_congr Iff.rfl Iff.rfl) (imp_congr Iff.rfl Iff.rfl)))))
set_option maxRecDepth 100000 in
theorem b179_19 {d : Nat} {w : vW} {x0 x1 x2 x3 : Int} {Q : Int → vW → Prop} : VW d 179 19 [(2, x0), (2, x1), (0, x2), (0, x3), (9, 0), (9, 0), (9, 0)] [] w Q ↔ (vkd w x1 = 18) ∧ (vkd w x0 = 13) ∧ VW d 179 27 [(2, x0), (2, x1), (0, x2), (0, x3), (9, 0), (9, 0), (9, 0)] [] (vsv w x0 6 (vct w x1 4)) Q :=
  (VW_b 4 (F := fun n => if vkd w x1 = 18 then if vkd w x0 = 13 then vrun n d 179 27 [(2, x0), (2, x1), (0, x2), (0, x3), (9, 0), (9, 0), (9, 0)] [] (vsv w x0 6 (vct w x1 4)) else none else none) (fun _ => rfl)).trans (EX_if.trans (and_congr Iff.rfl (EX_if.trans (and_congr Iff.rfl (Iff.rfl)))))
set_option maxRecDepth 100000 in
theorem b179_27 {d : Nat} {w : vW} {x0 x1 x2 x3 : Int} {Q : Int → vW → Prop} : VW d 179 27 [(2, x0), (2, x1), (0, x2), (0, x3), (9, 0), (9, 0), (9, 0)] [] w Q ↔ (vkd w x0 = 13) ∧ VW d 179 32 [(2, x0), (2, x1), (0, x2), (0, x3), (9, 0), (9, 0), (9, 0)] [] (vsv w x0 5 x2) Q :=
  (VW_b 3 (F := fun n => if vkd w x0 = 13 then vrun n d 179 32 [(2, x0), (2, x1), (0, x2), (0, x3), (9, 0), (9, 0), (9, 0)] [] (vsv w x0 5 x2) else none) (fun _ => rfl)).trans (EX_if.trans (and_congr Iff.rfl (Iff.rfl)))
set_option maxRecDepth 100000 in
theorem b179_32 {d : Nat} {w : vW} {x0 x1 x2 x3 : Int} {Q : Int → vW → Prop} : VW d 179 32 [(2, x0), (2, x1), (0, x2), (0, x3), (9, 0), (9, 0), (9, 0)] [] w Q ↔ (vkd w x0 = 13) ∧ VW d 179 37 [(2, x0), (2, x1), (0, x2), (0, x3), (9, 0), (9, 0), (9, 0)] [] (vsv w x0 7 (-1)) Q :=
  (VW_b 3 (F := fun n => if vkd w x0 = 13 then vrun n d 179 37 [(2, x0), (2, x1), (0, x2), (0, x3), (9, 0), (9, 0), (9, 0)] [] (vsv w x0 7 (-1)) else none) (fun _ => rfl)).trans (EX_if.trans (and_congr Iff.rfl (Iff.rfl)))
set_option maxRecDepth 100000 in
theorem b179_37 {d : Nat} {w : vW} {x0 x1 x2 x3 : Int} {Q : Int → vW → Prop} : VW d 179 37 [(2, x0), (2, x1), (0, x2), (0, x3), (9, 0), (9, 0), (9, 0)] [] w Q ↔ (vkd w x0 = 13) ∧ VW d 179 45 [(2, x0), (2, x1), (0, x2), (0, x3), (0, w32 ((vct w x0 7) + 1)), (9, 0), (9, 0)] [] w Q :=
  (VW_b 5 (F := fun n => if vkd w x0 = 13 then vrun n d 179 45 [(2, x0), (2, x1), (0, x2), (0, x3), (0, w32 ((vct w x0 7) + 1)), (9, 0), (9, 0)] [] w else none) (fun _ => rfl)).trans (EX_if.trans (and_congr Iff.rfl (Iff.rfl)))
set_option maxRecDepth 100000 in
theorem b179_45 {d : Nat} {w : vW} {x0 x1 x2 x3 x4 : Int} {v5 v6 : vV} {Q : Int → vW → Prop} : VW d 179 45 [(2, x0), (2, x1), (0, x2), (0, x3), (0, x4), v5, v6] [] w Q ↔ ((x3 < x4 → VW d 179 164 [(2, x0), (2, x1), (0, x2), (0, x3), (0, x4), v5, v6] [] w Q) ∧ (¬ (x3 < x4) → VW d 179 51 [(2, x0), (2, x1), (0, x2), (0, x3), (0, x4), v5, v6] [] w Q)) :=
  (VW_b 3 (F := fun n => (if x3 < x4 then vrun n d 179 164 [(2, x0), (2, x1), (0, x2), (0, x3), (0, x4), v5, v6] [] w else vrun n d 179 51 [(2, x0), (2, x1), (0, x2), (0, x3), (0, x4), v5, v6] [] w)) (fun _ => rfl)).trans (EX_br.trans (and_congr (imp_congr Iff.rfl Iff.rfl) (imp_congr Iff.rfl Iff.rfl)))
set_option maxRecDepth 100000 in
theorem b179_51 {d : Nat} {w : vW} {x0 x1 x2 x3 x4 : Int} {v5 v6 : vV} {Q : Int → vW → Prop} : VW d 179 51 [(2, x0), (2, x1), (0, x2), (0, x3), (0, x4), v5, v6] [] w Q ↔ ((x4 < 0 → VW d 179 164 [(2, x0), (2, x1), (0, x2), (0, x3), (0, x4), v5, v6] [] w Q) ∧ (¬ (x4 < 0) → VW d 179 56 [(2, x0), (2, x1), (0, x2), (0, x3), (0, x4), v5, v6] [] w Q)) :=
  (VW_b 2 (F := fun n => (if x4 < 0 then vrun n d 179 164 [(2, x0), (2, x1), (0, x2), (0, x3), (0, x4), v5, v6] [] w else vrun n d 179 56 [(2, x0), (2, x1), (0, x2), (0, x3), (0, x4), v5, v6] [] w)) (fun _ => rfl)).trans (EX_br.trans (and_congr (imp_congr Iff.rfl Iff.rfl) (imp_congr Iff.rfl Iff.rfl)))
set_option maxRecDepth 100000 in
theorem b179_56 {d : Nat} {w : vW} {x0 x1 x2 x3 x4 : Int} {v5 v6 : vV} {Q : Int → vW → Prop} : VW d 179 56 [(2, x0), (2, x1), (0, x2), (0, x3), (0, x4), v5, v6] [] w Q ↔ (vkd w x0 = 13) ∧ (vkd w (vct w x0 2) = 1) ∧ ((x4 < (vln w (vct w x0 2)) → VW d 179 66 [(2, x0), (2, x1), (0, x2), (0, x3), (0, x4), v5, v6] [] w Q) ∧ (¬ (x4 < (vln w (vct w x0 2))) → VW d 179 164 [(2, x0), (2, x1), (0, x2), (0, x3), (0, x4), v5, v6] [] w Q)) :=
  (VW_b 5 (F := fun n => if vkd w x0 = 13 then if vkd w (vct w x0 2) = 1 then (if x4 < (vln w (vct w x0 2)) then vrun n d 179 66 [(2, x0), (2, x1), (0, x2), (0, x3), (0, x4), v5, v6] [] w else vrun n d 179 164 [(2, x0), (2, x1), (0, x2), (0, x3), (0, x4), v5, v6] [] w) else none else none) (fun _ => rfl)).trans (EX_if.trans (and_congr Iff.rfl (EX_if.trans (and_congr Iff.rfl (EX_br.trans (and_congr (imp_congr Iff.rfl Iff.rfl) (imp_congr Iff.rfl Iff.rfl)))))))
set_option maxRecDepth 100000 in
theorem b179_66 {d : Nat} {w : vW} {x0 x1 x2 x3 x4 : Int} {v5 v6 : vV} {Q : Int → vW → Prop} : VW d 179 66 [(2, x0), (2, x1), (0, x2), (0, x3), (0, x4), v5, v6] [] w Q ↔ (vkd w x0 = 13) ∧ ((x4 = 0 → VW d 179 77 [(2, x0), (2, x1), (0, x2), (0, x3), (0, x4), v5, v6] [(0, x4), (2, vct w x0 2)] w Q) ∧ (¬ (x4 = 0) → VW d 179 81 [(2, x0), (2, x1), (0, x2), (0, x3), (0, x4), v5, v6] [(0, x4), (2, vct w x0 2)] w Q)) :=
  (VW_b 5 (F := fun n => if vkd w x0 = 13 then (if x4 = 0 then vrun n d 179 77 [(2, x0), (2, x1), (0, x2), (0, x3), (0, x4), v5, v6] [(0, x4), (2, vct w x0 2)] w else vrun n d 179 81 [(2, x0), (2, x1), (0, x2), (0, x3), (0, x4), v5, v6] [(0, x4), (2, vct w x0 2)] w) else none) (fun _ => rfl)).trans (EX_if.trans (and_congr Iff.rfl (EX_br.trans (and_congr (imp_congr Iff.rfl Iff.rfl) (imp_congr Iff.rfl Iff.rfl)))))
set_option maxRecDepth 100000 in
theorem b179_77 {d : Nat} {w : vW} {x0 x1 x2 x3 x4 y0 y1 : Int} {v5 v6 : vV} {Q : Int → vW → Prop} : VW d 179 77 [(2, x0), (2, x1), (0, x2), (0, x3), (0, x4), v5, v6] [(0, y1), (2, y0)] w Q ↔ VW d 179 101 [(2, x0), (2, x1), (0, x2), (0, x3), (0, x4), v5, v6] [(0, 0), (0, y1), (2, y0)] w Q :=
  (VW_b 2 (F := fun n => vrun n d 179 101 [(2, x0), (2, x1), (0, x2), (0, x3), (0, x4), v5, v6] [(0, 0), (0, y1), (2, y0)] w) (fun _ => rfl)).trans (Iff.rfl)
set_option maxRecDepth 100000 in
theorem b179_81 {d : Nat} {w : vW} {x0 x1 x2 x3 x4 y0 y1 : Int} {v5 v6 : vV} {Q : Int → vW → Prop} : VW d 179 81 [(2, x0), (2, x1), (0, x2), (0, x3), (0, x4), v5, v6] [(0, y1), (2, y0)] w Q ↔ (vkd w x0 = 13) ∧ VC d 180 [(2, x0), (0, w32 (x4 - 1))] w (fun r w1 => VW d 179 89 [(2, x0), (2, x1), (0, x2), (0, x3), (0, x4), v5, v6] [(0, r), (0, y1), (2, y0)] w1 Q) :=
  (VW_b 5 (F := fun n => if vkd w x0 = 13 then vclr (vrun n) d 179 89 180 2 0 [(2, x0), (2, x1), (0, x2), (0, x3), (0, x4), v5, v6] [(0, w32 (x4 - 1)), (2, x0), (0, y1), (2, y0)] w else none) (fun _ => rfl)).trans (EX_if.trans (and_congr Iff.rfl (EX_call rfl)))
set_option maxRecDepth 100000 in
theorem b179_89 {d : Nat} {w : vW} {x0 x1 x2 x3 x4 y0 y1 y2 : Int} {v5 v6 : vV} {Q : Int → vW → Prop} : VW d 179 89 [(2, x0), (2, x1), (0, x2), (0, x3), (0, x4), v5, v6] [(0, y2), (0, y1), (2, y0)] w Q ↔ (vkd w x0 = 13) ∧ VC d 178 [(0, vct w x0 5), (0, w32 (x4 - 1))] w (fun r w1 => VW d 179 100 [(2, x0), (2, x1), (0, x2), (0, x3), (0, x4), v5, v6] [(0, r), (0, y2), (0, y1), (2, y0)] w1 Q) :=
  (VW_b 6 (F := fun n => if vkd w x0 = 13 then vclr (vrun n) d 179 100 178 2 0 [(2, x0), (2, x1), (0, x2), (0, x3), (0, x4), v5, v6] [(0, w32 (x4 - 1)), (0, vct w x0 5), (0, y2), (0, y1), (2, y0)] w else none) (fun _ => rfl)).trans (EX_if.trans (and_congr Iff.rfl (EX_call rfl)))
set_option maxRecDepth 100000 in
theorem b179_100 {d : Nat} {w : vW} {x0 x1 x2 x3 x4 y0 y1 y2 y3 : Int} {v5 v6 : vV} {Q : Int → vW → Prop} : VW d 179 100 [(2, x0), (2, x1), (0, x2), (0, x3), (0, x4), v5, v6] [(0, y3), (0, y2), (0, y1), (2, y0)] w Q ↔ VW d 179 101 [(2, x0), (2, x1), (0, x2), (0, x3), (0, x4), v5, v6] [(0, w32 (y2 + y3)), (0, y1), (2, y0)] w Q :=
  (VW_b 1 (F := fun n => vrun n d 179 101 [(2, x0), (2, x1), (0, x2), (0, x3), (0, x4), v5, v6] [(0, w32 (y2 + y3)), (0, y1), (2, y0)] w) (fun _ => rfl)).trans (Iff.rfl)
set_option maxRecDepth 100000 in
theorem b179_101 {d : Nat} {w : vW} {x0 x1 x2 x3 x4 y0 y1 y2 : Int} {v5 v6 : vV} {Q : Int → vW → Prop} : VW d 179 101 [(2, x0), (2, x1), (0, x2), (0, x3), (0, x4), v5, v6] [(0, y2), (0, y1), (2, y0)] w Q ↔ (vkd w y0 = 1 ∧ (0 : Int) ≤ y1 ∧ y1 < vln w y0) ∧ VW d 179 102 [(2, x0), (2, x1), (0, x2), (0, x3), (0, x4), v5, v6] [] (vsv w y0 y1 y2) Q :=
  (VW_b 1 (F := fun n => if vkd w y0 = 1 ∧ (0 : Int) ≤ y1 ∧ y1 < vln w y0 then vrun n d 179 102 [(2, x0), (2, x1), (0, x2), (0, x3), (0, x4), v5, v6] [] (vsv w y0 y1 y2) else none) (fun _ => rfl)).trans (EX_if.trans (and_congr Iff.rfl (Iff.rfl)))
set_option maxRecDepth 100000 in
theorem b179_102 {d : Nat} {w : vW} {x0 x1 x2 x3 x4 : Int} {v5 v6 : vV} {Q : Int → vW → Prop} : VW d 179 102 [(2, x0), (2, x1), (0, x2), (0, x3), (0, x4), v5, v6] [] w Q ↔ (vkd w x0 = 13) ∧ VC d 178 [(0, vct w x0 5), (0, x4)] w (fun r w1 => VW d 179 111 [(2, x0), (2, x1), (0, x2), (0, x3), (0, x4), v5, v6] [(0, r)] w1 Q) :=
  (VW_b 4 (F := fun n => if vkd w x0 = 13 then vclr (vrun n) d 179 111 178 2 0 [(2, x0), (2, x1), (0, x2), (0, x3), (0, x4), v5, v6] [(0, x4), (0, vct w x0 5)] w else none) (fun _ => rfl)).trans (EX_if.trans (and_congr Iff.rfl (EX_call rfl)))
set_option maxRecDepth 100000 in
theorem b179_111 {d : Nat} {w : vW} {x0 x1 x2 x3 x4 y0 : Int} {v5 v6 : vV} {Q : Int → vW → Prop} : VW d 179 111 [(2, x0), (2, x1), (0, x2), (0, x3), (0, x4), v5, v6] [(0, y0)] w Q ↔ VW d 179 116 [(2, x0), (2, x1), (0, x2), (0, x3), (0, x4), (0, y0), (0, 0)] [] w Q :=
  (VW_b 3 (F := fun n => vrun n d 179 116 [(2, x0), (2, x1), (0, x2), (0, x3), (0, x4), (0, y0), (0, 0)] [] w) (fun _ => rfl)).trans (Iff.rfl)
set_option maxRecDepth 100000 in
theorem b179_116 {d : Nat} {w : vW} {x0 x1 x2 x3 x4 x5 x6 : Int} {Q : Int → vW → Prop} : VW d 179 116 [(2, x0), (2, x1), (0, x2), (0, x3), (0, x4), (0, x5), (0, x6)] [] w Q ↔ ((x6 < x5 → VW d 179 123 [(2, x0), (2, x1), (0, x2), (0, x3), (0, x4), (0, x5), (0, x6)] [] w Q) ∧ (¬ (x6 < x5) → VW d 179 152 [(2, x0), (2, x1), (0, x2), (0, x3), (0, x4), (0, x5), (0, x6)] [] w Q)) :=
  (VW_b 3 (F := fun n => (if x6 < x5 then vrun n d 179 123 [(2, x0), (2, x1), (0, x2), (0, x3), (0, x4), (0, x5), (0, x6)] [] w else vrun n d 179 152 [(2, x0), (2, x1), (0, x2), (0, x3), (0, x4), (0, x5), (0, x6)] [] w)) (fun _ => rfl)).trans (EX_br.trans (and_congr (imp_congr Iff.rfl Iff.rfl) (imp_congr Iff.rfl Iff.rfl)))
set_option maxRecDepth 100000 in
theorem b179_123 {d : Nat} {w : vW} {x0 x1 x2 x3 x4 x5 x6 : Int} {Q : Int → vW → Prop} : VW d 179 123 [(2, x0), (2, x1), (0, x2), (0, x3), (0, x4), (0, x5), (0, x6)] [] w Q ↔ (vkd w x0 = 13) ∧ VC d 181 [(2, x0), (0, x6), (0, x4)] w (fun r w1 => VW d 179 133 [(2, x0), (2, x1), (0, x2), (0, x3), (0, x4), (0, x5), (0, x6)] [(1, r), (2, x1), (2, x0)] w1 Q) :=
  (VW_b 6 (F := fun n => if vkd w x0 = 13 then vclr (vrun n) d 179 133 181 3 1 [(2, x0), (2, x1), (0, x2), (0, x3), (0, x4), (0, x5), (0, x6)] [(0, x4), (0, x6), (2, x0), (2, x1), (2, x0)] w else none) (fun _ => rfl)).trans (EX_if.trans (and_congr Iff.rfl (EX_call rfl)))
set_option maxRecDepth 100000 in
theorem b179_133 {d : Nat} {w : vW} {x0 x1 x2 x3 x4 x5 x6 y0 y1 y2 : Int} {Q : Int → vW → Prop} : VW d 179 133 [(2, x0), (2, x1), (0, x2), (0, x3), (0, x4), (0, x5), (0, x6)] [(1, y2), (2, y1), (2, y0)] w Q ↔ (vkd w x0 = 13) ∧ (vkd w (vct w x0 2) = 1 ∧ (0 : Int) ≤ x4 ∧ x4 < vln w (vct w x0 2)) ∧ (vkd w y0 = 13) ∧ VC d 183 [(2, y0), (2, y1), (1, y2), (0, w32 ((vct w (vct w x0 2) x4) + x6))] w (fun _ w1 => VW d 179 146 [(2, x0), (2, x1), (0, x2), (0, x3), (0, x4), (0, x5), (0, x6)] [] w1 Q) :=
  (VW_b 7 (F := fun n => if vkd w x0 = 13 then if vkd w (vct w x0 2) = 1 ∧ (0 : Int) ≤ x4 ∧ x4 < vln w (vct w x0 2) then if vkd w y0 = 13 then vclr (vrun n) d 179 146 183 4 9 [(2, x0), (2, x1), (0, x2), (0, x3), (0, x4), (0, x5), (0, x6)] [(0, w32 ((vct w (vct w x0 2) x4) + x6)), (1, y2), (2, y1), (2, y0)] w else none else none else none) (fun _ => rfl)).trans (EX_if.trans (and_congr Iff.rfl (EX_if.trans (and_congr Iff.rfl (EX_if.trans (and_congr Iff.rfl (EX_call rfl)))))))
set_option maxRecDepth 100000 in
theorem b179_146 {d : Nat} {w : vW} {x0 x1 x2 x3 x4 x5 x6 : Int} {Q : Int → vW → Prop} : VW d 179 146 [(2, x0), (2, x1), (0, x2), (0, x3), (0, x4), (0, x5), (0, x6)] [] w Q ↔ VW d 179 116 [(2, x0), (2, x1), (0, x2), (0, x3), (0, x4), (0, x5), (0, w32 (x6 + 1))] [] w Q :=
  (VW_b 2 (F := fun n => vrun n d 179 116 [(2, x0), (2, x1), (0, x2), (0, x3), (0, x4), (0, x5), (0, w32 (x6 + 1))] [] w) (fun _ => rfl)).trans (Iff.rfl)
set_option maxRecDepth 100000 in
theorem b179_152 {d : Nat} {w : vW} {x0 x1 x2 x3 x4 x5 x6 : Int} {Q : Int → vW → Prop} : VW d 179 152 [(2, x0), (2, x1), (0, x2), (0, x3), (0, x4), (0, x5), (0, x6)] [] w Q ↔ (vkd w x0 = 13) ∧ VW d 179 158 [(2, x0), (2, x1), (0, x2), (0, x3), (0, x4), (0, x5), (0, x6)] [] (vsv w x0 7 x4) Q :=
  (VW_b 3 (F := fun n => if vkd w x0 = 13 then vrun n d 179 158 [(2, x0), (2, x1), (0, x2), (0, x3), (0, x4), (0, x5), (0, x6)] [] (vsv w x0 7 x4) else none) (fun _ => rfl)).trans (EX_if.trans (and_congr Iff.rfl (Iff.rfl)))
set_option maxRecDepth 100000 in
theorem b179_158 {d : Nat} {w : vW} {x0 x1 x2 x3 x4 x5 x6 : Int} {Q : Int → vW → Prop} : VW d 179 158 [(2, x0), (2, x1), (0, x2), (0, x3), (0, x4), (0, x5), (0, x6)] [] w Q ↔ VW d 179 45 [(2, x0), (2, x1), (0, x2), (0, x3), (0, w32 (x4 + 1)), (0, x5), (0, x6)] [] w Q :=
  (VW_b 2 (F := fun n => vrun n d 179 45 [(2, x0), (2, x1), (0, x2), (0, x3), (0, w32 (x4 + 1)), (0, x5), (0, x6)] [] w) (fun _ => rfl)).trans (Iff.rfl)
set_option maxRecDepth 100000 in
theorem b179_164 {d : Nat} {w : vW} {x0 x1 x2 x3 x4 : Int} {v5 v6 : vV} {Q : Int → vW → Prop} : VW d 179 164 [(2, x0), (2, x1), (0, x2), (0, x3), (0, x4), v5, v6] [] w Q ↔ Q 0 w :=
  (VW_b 1 (F := fun n => some (0, 0, w)) (fun _ => rfl)).trans (EX_ret0)
/-! 180: StrikeWhatCancels$Finals.beginOf(I)I -/
set_option maxRecDepth 100000 in
theorem b180_0 {d : Nat} {w : vW} {x0 x1 : Int} {Q : Int → vW → Prop} : VW d 180 0 [(2, x0), (0, x1)] [] w Q ↔ ((x1 < 0 → VW d 180 22 [(2, x0), (0, x1)] [] w Q) ∧ (¬ (x1 < 0) → VW d 180 4 [(2, x0), (0, x1)] [] w Q)) :=
  (VW_b 2 (F := fun n => (if x1 < 0 then vrun n d 180 22 [(2, x0), (0, x1)] [] w else vrun n d 180 4 [(2, x0), (0, x1)] [] w)) (fun _ => rfl)).trans (EX_br.trans (and_congr (imp_congr Iff.rfl Iff.rfl) (imp_congr Iff.rfl Iff.rfl)))
set_option maxRecDepth 100000 in
theorem b180_4 {d : Nat} {w : vW} {x0 x1 : Int} {Q : Int → vW → Prop} : VW d 180 4 [(2, x0), (0, x1)] [] w Q ↔ (vkd w x0 = 13) ∧ (vkd w (vct w x0 2) = 1) ∧ ((x1 < (vln w (vct w x0 2)) → VW d 180 13 [(2, x0), (0, x1)] [] w Q) ∧ (¬ (x1 < (vln w (vct w x0 2))) → VW d 180 22 [(2, x0), (0, x1)] [] w Q)) :=
  (VW_b 5 (F := fun n => if vkd w x0 = 13 then if vkd w (vct w x0 2) = 1 then (if x1 < (vln w (vct w x0 2)) then vrun n d 180 13 [(2, x0), (0, x1)] [] w else vrun n d 180 22 [(2, x0), (0, x1)] [] w) else none else none) (fun _ => rfl)).trans (EX_if.trans (and_congr Iff.rfl (EX_if.trans (and_congr Iff.rfl (EX_br.trans (and_congr (imp_congr Iff.rfl Iff.rfl) (imp_congr Iff.rfl Iff.rfl)))))))
set_option maxRecDepth 100000 in
theorem b180_13 {d : Nat} {w : vW} {x0 x1 : Int} {Q : Int → vW → Prop} : VW d 180 13 [(2, x0), (0, x1)] [] w Q ↔ (vkd w x0 = 13) ∧ (vkd w (vct w x0 2) = 1 ∧ (0 : Int) ≤ x1 ∧ x1 < vln w (vct w x0 2)) ∧ VW d 180 23 [(2, x0), (0, x1)] [(0, vct w (vct w x0 2) x1)] w Q :=
  (VW_b 5 (F := fun n => if vkd w x0 = 13 then if vkd w (vct w x0 2) = 1 ∧ (0 : Int) ≤ x1 ∧ x1 < vln w (vct w x0 2) then vrun n d 180 23 [(2, x0), (0, x1)] [(0, vct w (vct w x0 2) x1)] w else none else none) (fun _ => rfl)).trans (EX_if.trans (and_congr Iff.rfl (EX_if.trans (and_congr Iff.rfl (Iff.rfl)))))
set_option maxRecDepth 100000 in
theorem b180_22 {d : Nat} {w : vW} {x0 x1 : Int} {Q : Int → vW → Prop} : VW d 180 22 [(2, x0), (0, x1)] [] w Q ↔ VW d 180 23 [(2, x0), (0, x1)] [(0, 0)] w Q :=
  (VW_b 1 (F := fun n => vrun n d 180 23 [(2, x0), (0, x1)] [(0, 0)] w) (fun _ => rfl)).trans (Iff.rfl)
set_option maxRecDepth 100000 in
theorem b180_23 {d : Nat} {w : vW} {x0 x1 y0 : Int} {Q : Int → vW → Prop} : VW d 180 23 [(2, x0), (0, x1)] [(0, y0)] w Q ↔ Q y0 w :=
  (VW_b 1 (F := fun n => some (0, y0, w)) (fun _ => rfl)).trans (EX_ret0)
/-! 181: StrikeWhatCancels$Finals.spelt(II)J -/
set_option maxRecDepth 100000 in
theorem b181_0 {d : Nat} {w : vW} {x0 x1 x2 : Int} {Q : Int → vW → Prop} : VW d 181 0 [(2, x0), (0, x1), (0, x2), (9, 0), (9, 0), (9, 0), (9, 0)] [] w Q ↔ VW d 181 8 [(2, x0), (0, x1), (0, x2), (1, 0), (9, 0), (0, x1), (0, 0)] [] w Q :=
  (VW_b 6 (F := fun n => vrun n d 181 8 [(2, x0), (0, x1), (0, x2), (1, 0), (9, 0), (0, x1), (0, 0)] [] w) (fun _ => rfl)).trans (Iff.rfl)
set_option maxRecDepth 100000 in
theorem b181_8 {d : Nat} {w : vW} {x0 x1 x2 x3 x5 x6 : Int} {Q : Int → vW → Prop} : VW d 181 8 [(2, x0), (0, x1), (0, x2), (1, x3), (9, 0), (0, x5), (0, x6)] [] w Q ↔ ((x6 < x2 → VW d 181 14 [(2, x0), (0, x1), (0, x2), (1, x3), (9, 0), (0, x5), (0, x6)] [] w Q) ∧ (¬ (x6 < x2) → VW d 181 54 [(2, x0), (0, x1), (0, x2), (1, x3), (9, 0), (0, x5), (0, x6)] [] w Q)) :=
  (VW_b 3 (F := fun n => (if x6 < x2 then vrun n d 181 14 [(2, x0), (0, x1), (0, x2), (1, x3), (9, 0), (0, x5), (0, x6)] [] w else vrun n d 181 54 [(2, x0), (0, x1), (0, x2), (1, x3), (9, 0), (0, x5), (0, x6)] [] w)) (fun _ => rfl)).trans (EX_br.trans (and_congr (imp_congr Iff.rfl Iff.rfl) (imp_congr Iff.rfl Iff.rfl)))
set_option maxRecDepth 100000 in
theorem b181_14 {d : Nat} {w : vW} {x0 x1 x2 x3 x5 x6 : Int} {Q : Int → vW → Prop} : VW d 181 14 [(2, x0), (0, x1), (0, x2), (1, x3), (9, 0), (0, x5), (0, x6)] [] w Q ↔ (vkd w x0 = 13) ∧ ((0 < (vct w x0 5) → VW d 181 21 [(2, x0), (0, x1), (0, x2), (1, x3), (9, 0), (0, x5), (0, x6)] [] w Q) ∧ (¬ (0 < (vct w x0 5)) → VW d 181 54 [(2, x0), (0, x1), (0, x2), (1, x3), (9, 0), (0, x5), (0, x6)] [] w Q)) :=
  (VW_b 3 (F := fun n => if vkd w x0 = 13 then (if 0 < (vct w x0 5) then vrun n d 181 21 [(2, x0), (0, x1), (0, x2), (1, x3), (9, 0), (0, x5), (0, x6)] [] w else vrun n d 181 54 [(2, x0), (0, x1), (0, x2), (1, x3), (9, 0), (0, x5), (0, x6)] [] w) else none) (fun _ => rfl)).trans (EX_if.trans (and_congr Iff.rfl (EX_br.trans (and_congr (imp_congr Iff.rfl Iff.rfl) (imp_congr Iff.rfl Iff.rfl)))))
set_option maxRecDepth 100000 in
theorem b181_21 {d : Nat} {w : vW} {x0 x1 x2 x3 x5 x6 : Int} {Q : Int → vW → Prop} : VW d 181 21 [(2, x0), (0, x1), (0, x2), (1, x3), (9, 0), (0, x5), (0, x6)] [] w Q ↔ (vkd w x0 = 13) ∧ ¬ ((vct w x0 5) = 0) ∧ VW d 181 39 [(2, x0), (0, x1), (0, x2), (1, l_or x3 (l_shl (w32 ((Int.tmod x5 (vct w x0 5)) + 1)) (w32 (4 * x6)))), (9, 0), (0, x5), (0, x6)] [] w Q :=
  (VW_b 14 (F := fun n => if vkd w x0 = 13 then if (vct w x0 5) = 0 then none else vrun n d 181 39 [(2, x0), (0, x1), (0, x2), (1, l_or x3 (l_shl (w32 ((Int.tmod x5 (vct w x0 5)) + 1)) (w32 (4 * x6)))), (9, 0), (0, x5), (0, x6)] [] w else none) (fun _ => rfl)).trans (EX_if.trans (and_congr Iff.rfl (EX_ifn.trans (and_congr Iff.rfl (Iff.rfl)))))
set_option maxRecDepth 100000 in
theorem b181_39 {d : Nat} {w : vW} {x0 x1 x2 x3 x5 x6 : Int} {Q : Int → vW → Prop} : VW d 181 39 [(2, x0), (0, x1), (0, x2), (1, x3), (9, 0), (0, x5), (0, x6)] [] w Q ↔ (vkd w x0 = 13) ∧ ¬ ((vct w x0 5) = 0) ∧ VW d 181 8 [(2, x0), (0, x1), (0, x2), (1, x3), (9, 0), (0, w32 (Int.tdiv x5 (vct w x0 5))), (0, w32 (x6 + 1))] [] w Q :=
  (VW_b 7 (F := fun n => if vkd w x0 = 13 then if (vct w x0 5) = 0 then none else vrun n d 181 8 [(2, x0), (0, x1), (0, x2), (1, x3), (9, 0), (0, w32 (Int.tdiv x5 (vct w x0 5))), (0, w32 (x6 + 1))] [] w else none) (fun _ => rfl)).trans (EX_if.trans (and_congr Iff.rfl (EX_ifn.trans (and_congr Iff.rfl (Iff.rfl)))))
set_option maxRecDepth 100000 in
theorem b181_54 {d : Nat} {w : vW} {x0 x1 x2 x3 x5 x6 : Int} {Q : Int → vW → Prop} : VW d 181 54 [(2, x0), (0, x1), (0, x2), (1, x3), (9, 0), (0, x5), (0, x6)] [] w Q ↔ VC d 274 [(0, x2), (1, x3)] w (fun r w1 => VW d 181 59 [(2, x0), (0, x1), (0, x2), (1, x3), (9, 0), (0, x5), (0, x6)] [(1, r)] w1 Q) :=
  (VW_b 3 (F := fun n => vclr (vrun n) d 181 59 274 2 1 [(2, x0), (0, x1), (0, x2), (1, x3), (9, 0), (0, x5), (0, x6)] [(1, x3), (0, x2)] w) (fun _ => rfl)).trans (EX_call rfl)
set_option maxRecDepth 100000 in
theorem b181_59 {d : Nat} {w : vW} {x0 x1 x2 x3 x5 x6 y0 : Int} {Q : Int → vW → Prop} : VW d 181 59 [(2, x0), (0, x1), (0, x2), (1, x3), (9, 0), (0, x5), (0, x6)] [(1, y0)] w Q ↔ Q y0 w :=
  (VW_b 1 (F := fun n => some (0, y0, w)) (fun _ => rfl)).trans (EX_ret0)
/-! 182: StrikeWhatCancels$Finals.indexOf(J)I -/
set_option maxRecDepth 100000 in
theorem b182_0 {d : Nat} {w : vW} {x0 x1 : Int} {Q : Int → vW → Prop} : VW d 182 0 [(2, x0), (1, x1), (9, 0), (9, 0), (9, 0), (9, 0), (9, 0)] [] w Q ↔ VC d 273 [(1, x1)] w (fun r w1 => VW d 182 6 [(2, x0), (1, x1), (9, 0), (0, 0), (9, 0), (9, 0), (9, 0)] [(0, r)] w1 Q) :=
  (VW_b 4 (F := fun n => vclr (vrun n) d 182 6 273 1 0 [(2, x0), (1, x1), (9, 0), (0, 0), (9, 0), (9, 0), (9, 0)] [(1, x1)] w) (fun _ => rfl)).trans (EX_call rfl)
set_option maxRecDepth 100000 in
theorem b182_6 {d : Nat} {w : vW} {x0 x1 x3 y0 : Int} {Q : Int → vW → Prop} : VW d 182 6 [(2, x0), (1, x1), (9, 0), (0, x3), (9, 0), (9, 0), (9, 0)] [(0, y0)] w Q ↔ VW d 182 11 [(2, x0), (1, x1), (9, 0), (0, x3), (0, y0), (0, 0), (9, 0)] [] w Q :=
  (VW_b 3 (F := fun n => vrun n d 182 11 [(2, x0), (1, x1), (9, 0), (0, x3), (0, y0), (0, 0), (9, 0)] [] w) (fun _ => rfl)).trans (Iff.rfl)
set_option maxRecDepth 100000 in
theorem b182_11 {d : Nat} {w : vW} {x0 x1 x3 x4 x5 : Int} {v6 : vV} {Q : Int → vW → Prop} : VW d 182 11 [(2, x0), (1, x1), (9, 0), (0, x3), (0, x4), (0, x5), v6] [] w Q ↔ ((x5 < x4 → VW d 182 18 [(2, x0), (1, x1), (9, 0), (0, x3), (0, x4), (0, x5), v6] [] w Q) ∧ (¬ (x5 < x4) → VW d 182 55 [(2, x0), (1, x1), (9, 0), (0, x3), (0, x4), (0, x5), v6] [] w Q)) :=
  (VW_b 3 (F := fun n => (if x5 < x4 then vrun n d 182 18 [(2, x0), (1, x1), (9, 0), (0, x3), (0, x4), (0, x5), v6] [] w else vrun n d 182 55 [(2, x0), (1, x1), (9, 0), (0, x3), (0, x4), (0, x5), v6] [] w)) (fun _ => rfl)).trans (EX_br.trans (and_congr (imp_congr Iff.rfl Iff.rfl) (imp_congr Iff.rfl Iff.rfl)))
set_option maxRecDepth 100000 in
theorem b182_18 {d : Nat} {w : vW} {x0 x1 x3 x4 x5 : Int} {v6 : vV} {Q : Int → vW → Prop} : VW d 182 18 [(2, x0), (1, x1), (9, 0), (0, x3), (0, x4), (0, x5), v6] [] w Q ↔ VC d 276 [(1, x1), (0, x5)] w (fun r w1 => VW d 182 24 [(2, x0), (1, x1), (9, 0), (0, x3), (0, x4), (0, x5), v6] [(0, r)] w1 Q) :=
  (VW_b 3 (F := fun n => vclr (vrun n) d 182 24 276 2 0 [(2, x0), (1, x1), (9, 0), (0, x3), (0, x4), (0, x5), v6] [(0, x5), (1, x1)] w) (fun _ => rfl)).trans (EX_call rfl)
set_option maxRecDepth 100000 in
theorem b182_24 {d : Nat} {w : vW} {x0 x1 x3 x4 x5 y0 : Int} {v6 : vV} {Q : Int → vW → Prop} : VW d 182 24 [(2, x0), (1, x1), (9, 0), (0, x3), (0, x4), (0, x5), v6] [(0, y0)] w Q ↔ (vkd w x0 = 13) ∧ (((vct w x0 5) < y0 → VW d 182 35 [(2, x0), (1, x1), (9, 0), (0, x3), (0, x4), (0, x5), (0, y0)] [] w Q) ∧ (¬ ((vct w x0 5) < y0) → VW d 182 37 [(2, x0), (1, x1), (9, 0), (0, x3), (0, x4), (0, x5), (0, y0)] [] w Q)) :=
  (VW_b 5 (F := fun n => if vkd w x0 = 13 then (if (vct w x0 5) < y0 then vrun n d 182 35 [(2, x0), (1, x1), (9, 0), (0, x3), (0, x4), (0, x5), (0, y0)] [] w else vrun n d 182 37 [(2, x0), (1, x1), (9, 0), (0, x3), (0, x4), (0, x5), (0, y0)] [] w) else none) (fun _ => rfl)).trans (EX_if.trans (and_congr Iff.rfl (EX_br.trans (and_congr (imp_congr Iff.rfl Iff.rfl) (imp_congr Iff.rfl Iff.rfl)))))
set_option maxRecDepth 100000 in
theorem b182_35 {d : Nat} {w : vW} {x0 x1 x3 x4 x5 x6 : Int} {Q : Int → vW → Prop} : VW d 182 35 [(2, x0), (1, x1), (9, 0), (0, x3), (0, x4), (0, x5), (0, x6)] [] w Q ↔ Q (-1) w :=
  (VW_b 2 (F := fun n => some (0, (-1), w)) (fun _ => rfl)).trans (EX_ret0)
set_option maxRecDepth 100000 in
theorem b182_37 {d : Nat} {w : vW} {x0 x1 x3 x4 x5 x6 : Int} {Q : Int → vW → Prop} : VW d 182 37 [(2, x0), (1, x1), (9, 0), (0, x3), (0, x4), (0, x5), (0, x6)] [] w Q ↔ (vkd w x0 = 13) ∧ VW d 182 11 [(2, x0), (1, x1), (9, 0), (0, w32 ((w32 ((w32 (x3 * (vct w x0 5))) + x6)) - 1)), (0, x4), (0, w32 (x5 + 1)), (0, x6)] [] w Q :=
  (VW_b 11 (F := fun n => if vkd w x0 = 13 then vrun n d 182 11 [(2, x0), (1, x1), (9, 0), (0, w32 ((w32 ((w32 (x3 * (vct w x0 5))) + x6)) - 1)), (0, x4), (0, w32 (x5 + 1)), (0, x6)] [] w else none) (fun _ => rfl)).trans (EX_if.trans (and_congr Iff.rfl (Iff.rfl)))
set_option maxRecDepth 100000 in
theorem b182_55 {d : Nat} {w : vW} {x0 x1 x3 x4 x5 : Int} {v6 : vV} {Q : Int → vW → Prop} : VW d 182 55 [(2, x0), (1, x1), (9, 0), (0, x3), (0, x4), (0, x5), v6] [] w Q ↔ (vkd w x0 = 13) ∧ VC d 180 [(2, x0), (0, x4)] w (fun r w1 => VW d 182 61 [(2, x0), (1, x1), (9, 0), (0, x3), (0, x4), (0, x5), v6] [(0, r)] w1 Q) :=
  (VW_b 3 (F := fun n => if vkd w x0 = 13 then vclr (vrun n) d 182 61 180 2 0 [(2, x0), (1, x1), (9, 0), (0, x3), (0, x4), (0, x5), v6] [(0, x4), (2, x0)] w else none) (fun _ => rfl)).trans (EX_if.trans (and_congr Iff.rfl (EX_call rfl)))
set_option maxRecDepth 100000 in
theorem b182_61 {d : Nat} {w : vW} {x0 x1 x3 x4 x5 y0 : Int} {v6 : vV} {Q : Int → vW → Prop} : VW d 182 61 [(2, x0), (1, x1), (9, 0), (0, x3), (0, x4), (0, x5), v6] [(0, y0)] w Q ↔ Q (w32 (y0 + x3)) w :=
  (VW_b 3 (F := fun n => some (0, w32 (y0 + x3), w)) (fun _ => rfl)).trans (EX_ret0)
/-! 183: StrikeWhatCancels$Finals.settle(LStrikeWhatCancels$Rules;JI)V -/
set_option maxRecDepth 100000 in
theorem b183_0 {d : Nat} {w : vW} {x0 x1 x2 x4 : Int} {Q : Int → vW → Prop} : VW d 183 0 [(2, x0), (2, x1), (1, x2), (9, 0), (0, x4), (9, 0), (9, 0), (9, 0), (9, 0), (9, 0), (9, 0)] [] w Q ↔ (vkd w x0 = 13) ∧ (vkd w x1 = 18) ∧ VC d 263 [(2, x1), (0, vct w x0 4), (1, x2)] w (fun r w1 => VW d 183 16 [(2, x0), (2, x1), (1, x2), (9, 0), (0, x4), (1, x2), (9, 0), (1, 0), (9, 0), (9, 0), (9, 0)] [(0, r)] w1 Q) :=
  (VW_b 9 (F := fun n => if vkd w x0 = 13 then if vkd w x1 = 18 then vclr (vrun n) d 183 16 263 3 0 [(2, x0), (2, x1), (1, x2), (9, 0), (0, x4), (1, x2), (9, 0), (1, 0), (9, 0), (9, 0), (9, 0)] [(1, x2), (0, vct w x0 4), (2, x1)] w else none else none) (fun _ => rfl)).trans (EX_if.trans (and_congr Iff.rfl (EX_if.trans (and_congr Iff.rfl (EX_call rfl)))))
set_option maxRecDepth 100000 in
theorem b183_16 {d : Nat} {w : vW} {x0 x1 x2 x4 x5 x7 y0 : Int} {Q : Int → vW → Prop} : VW d 183 16 [(2, x0), (2, x1), (1, x2), (9, 0), (0, x4), (1, x5), (9, 0), (1, x7), (9, 0), (9, 0), (9, 0)] [(0, y0)] w Q ↔ VW d 183 18 [(2, x0), (2, x1), (1, x2), (9, 0), (0, x4), (1, x5), (9, 0), (1, x7), (9, 0), (0, y0), (9, 0)] [] w Q :=
  (VW_b 1 (F := fun n => vrun n d 183 18 [(2, x0), (2, x1), (1, x2), (9, 0), (0, x4), (1, x5), (9, 0), (1, x7), (9, 0), (0, y0), (9, 0)] [] w) (fun _ => rfl)).trans (Iff.rfl)
set_option maxRecDepth 100000 in
theorem b183_18 {d : Nat} {w : vW} {x0 x1 x2 x4 x5 x7 x9 : Int} {v10 : vV} {Q : Int → vW → Prop} : VW d 183 18 [(2, x0), (2, x1), (1, x2), (9, 0), (0, x4), (1, x5), (9, 0), (1, x7), (9, 0), (0, x9), v10] [] w Q ↔ ((x9 < 0 → VW d 183 118 [(2, x0), (2, x1), (1, x2), (9, 0), (0, x4), (1, x5), (9, 0), (1, x7), (9, 0), (0, x9), v10] [] w Q) ∧ (¬ (x9 < 0) → VW d 183 23 [(2, x0), (2, x1), (1, x2), (9, 0), (0, x4), (1, x5), (9, 0), (1, x7), (9, 0), (0, x9), v10] [] w Q)) :=
  (VW_b 2 (F := fun n => (if x9 < 0 then vrun n d 183 118 [(2, x0), (2, x1), (1, x2), (9, 0), (0, x4), (1, x5), (9, 0), (1, x7), (9, 0), (0, x9), v10] [] w else vrun n d 183 23 [(2, x0), (2, x1), (1, x2), (9, 0), (0, x4), (1, x5), (9, 0), (1, x7), (9, 0), (0, x9), v10] [] w)) (fun _ => rfl)).trans (EX_br.trans (and_congr (imp_congr Iff.rfl Iff.rfl) (imp_congr Iff.rfl Iff.rfl)))
set_option maxRecDepth 100000 in
theorem b183_23 {d : Nat} {w : vW} {x0 x1 x2 x4 x5 x7 x9 : Int} {v10 : vV} {Q : Int → vW → Prop} : VW d 183 23 [(2, x0), (2, x1), (1, x2), (9, 0), (0, x4), (1, x5), (9, 0), (1, x7), (9, 0), (0, x9), v10] [] w Q ↔ (((vlc x7 64) < 0 → VW d 183 32 [(2, x0), (2, x1), (1, x2), (9, 0), (0, x4), (1, x5), (9, 0), (1, x7), (9, 0), (0, x9), v10] [] w Q) ∧ (¬ ((vlc x7 64) < 0) → VW d 183 118 [(2, x0), (2, x1), (1, x2), (9, 0), (0, x4), (1, x5), (9, 0), (1, x7), (9, 0), (0, x9), v10] [] w Q)) :=
  (VW_b 4 (F := fun n => (if (vlc x7 64) < 0 then vrun n d 183 32 [(2, x0), (2, x1), (1, x2), (9, 0), (0, x4), (1, x5), (9, 0), (1, x7), (9, 0), (0, x9), v10] [] w else vrun n d 183 118 [(2, x0), (2, x1), (1, x2), (9, 0), (0, x4), (1, x5), (9, 0), (1, x7), (9, 0), (0, x9), v10] [] w)) (fun _ => rfl)).trans (EX_br.trans (and_congr (imp_congr Iff.rfl Iff.rfl) (imp_congr Iff.rfl Iff.rfl)))
set_option maxRecDepth 100000 in
theorem b183_32 {d : Nat} {w : vW} {x0 x1 x2 x4 x5 x7 x9 : Int} {v10 : vV} {Q : Int → vW → Prop} : VW d 183 32 [(2, x0), (2, x1), (1, x2), (9, 0), (0, x4), (1, x5), (9, 0), (1, x7), (9, 0), (0, x9), v10] [] w Q ↔ (vkd w x1 = 18) ∧ VC d 261 [(2, x1), (1, x5), (0, x9)] w (fun r w1 => VW d 183 40 [(2, x0), (2, x1), (1, x2), (9, 0), (0, x4), (1, x5), (9, 0), (1, x7), (9, 0), (0, x9), v10] [(1, r)] w1 Q) :=
  (VW_b 4 (F := fun n => if vkd w x1 = 18 then vclr (vrun n) d 183 40 261 3 1 [(2, x0), (2, x1), (1, x2), (9, 0), (0, x4), (1, x5), (9, 0), (1, x7), (9, 0), (0, x9), v10] [(0, x9), (1, x5), (2, x1)] w else none) (fun _ => rfl)).trans (EX_if.trans (and_congr Iff.rfl (EX_call rfl)))
set_option maxRecDepth 100000 in
theorem b183_40 {d : Nat} {w : vW} {x0 x1 x2 x4 x5 x7 x9 y0 : Int} {v10 : vV} {Q : Int → vW → Prop} : VW d 183 40 [(2, x0), (2, x1), (1, x2), (9, 0), (0, x4), (1, x5), (9, 0), (1, x7), (9, 0), (0, x9), v10] [(1, y0)] w Q ↔ VW d 183 48 [(2, x0), (2, x1), (1, x2), (9, 0), (0, x4), (1, y0), (9, 0), (1, w64 (x7 + 1)), (9, 0), (0, x9), v10] [] w Q :=
  (VW_b 5 (F := fun n => vrun n d 183 48 [(2, x0), (2, x1), (1, x2), (9, 0), (0, x4), (1, y0), (9, 0), (1, w64 (x7 + 1)), (9, 0), (0, x9), v10] [] w) (fun _ => rfl)).trans (Iff.rfl)
set_option maxRecDepth 100000 in
theorem b183_48 {d : Nat} {w : vW} {x0 x1 x2 x4 x5 x7 x9 : Int} {v10 : vV} {Q : Int → vW → Prop} : VW d 183 48 [(2, x0), (2, x1), (1, x2), (9, 0), (0, x4), (1, x5), (9, 0), (1, x7), (9, 0), (0, x9), v10] [] w Q ↔ (vkd w x0 = 13) ∧ VC d 182 [(2, x0), (1, x5)] w (fun r w1 => VW d 183 54 [(2, x0), (2, x1), (1, x2), (9, 0), (0, x4), (1, x5), (9, 0), (1, x7), (9, 0), (0, x9), v10] [(0, r)] w1 Q) :=
  (VW_b 3 (F := fun n => if vkd w x0 = 13 then vclr (vrun n) d 183 54 182 2 0 [(2, x0), (2, x1), (1, x2), (9, 0), (0, x4), (1, x5), (9, 0), (1, x7), (9, 0), (0, x9), v10] [(1, x5), (2, x0)] w else none) (fun _ => rfl)).trans (EX_if.trans (and_congr Iff.rfl (EX_call rfl)))
set_option maxRecDepth 100000 in
theorem b183_54 {d : Nat} {w : vW} {x0 x1 x2 x4 x5 x7 x9 y0 : Int} {v10 : vV} {Q : Int → vW → Prop} : VW d 183 54 [(2, x0), (2, x1), (1, x2), (9, 0), (0, x4), (1, x5), (9, 0), (1, x7), (9, 0), (0, x9), v10] [(0, y0)] w Q ↔ ((y0 < 0 → VW d 183 103 [(2, x0), (2, x1), (1, x2), (9, 0), (0, x4), (1, x5), (9, 0), (1, x7), (9, 0), (0, x9), (0, y0)] [] w Q) ∧ (¬ (y0 < 0) → VW d 183 61 [(2, x0), (2, x1), (1, x2), (9, 0), (0, x4), (1, x5), (9, 0), (1, x7), (9, 0), (0, x9), (0, y0)] [] w Q)) :=
  (VW_b 3 (F := fun n => (if y0 < 0 then vrun n d 183 103 [(2, x0), (2, x1), (1, x2), (9, 0), (0, x4), (1, x5), (9, 0), (1, x7), (9, 0), (0, x9), (0, y0)] [] w else vrun n d 183 61 [(2, x0), (2, x1), (1, x2), (9, 0), (0, x4), (1, x5), (9, 0), (1, x7), (9, 0), (0, x9), (0, y0)] [] w)) (fun _ => rfl)).trans (EX_br.trans (and_congr (imp_congr Iff.rfl Iff.rfl) (imp_congr Iff.rfl Iff.rfl)))
set_option maxRecDepth 100000 in
theorem b183_61 {d : Nat} {w : vW} {x0 x1 x2 x4 x5 x7 x9 x10 : Int} {Q : Int → vW → Prop} : VW d 183 61 [(2, x0), (2, x1), (1, x2), (9, 0), (0, x4), (1, x5), (9, 0), (1, x7), (9, 0), (0, x9), (0, x10)] [] w Q ↔ ((x10 < x4 → VW d 183 68 [(2, x0), (2, x1), (1, x2), (9, 0), (0, x4), (1, x5), (9, 0), (1, x7), (9, 0), (0, x9), (0, x10)] [] w Q) ∧ (¬ (x10 < x4) → VW d 183 103 [(2, x0), (2, x1), (1, x2), (9, 0), (0, x4), (1, x5), (9, 0), (1, x7), (9, 0), (0, x9), (0, x10)] [] w Q)) :=
  (VW_b 3 (F := fun n => (if x10 < x4 then vrun n d 183 68 [(2, x0), (2, x1), (1, x2), (9, 0), (0, x4), (1, x5), (9, 0), (1, x7), (9, 0), (0, x9), (0, x10)] [] w else vrun n d 183 103 [(2, x0), (2, x1), (1, x2), (9, 0), (0, x4), (1, x5), (9, 0), (1, x7), (9, 0), (0, x9), (0, x10)] [] w)) (fun _ => rfl)).trans (EX_br.trans (and_congr (imp_congr Iff.rfl Iff.rfl) (imp_congr Iff.rfl Iff.rfl)))
set_option maxRecDepth 100000 in
theorem b183_68 {d : Nat} {w : vW} {x0 x1 x2 x4 x5 x7 x9 x10 : Int} {Q : Int → vW → Prop} : VW d 183 68 [(2, x0), (2, x1), (1, x2), (9, 0), (0, x4), (1, x5), (9, 0), (1, x7), (9, 0), (0, x9), (0, x10)] [] w Q ↔ ((x10 < 8192 → VW d 183 76 [(2, x0), (2, x1), (1, x2), (9, 0), (0, x4), (1, x5), (9, 0), (1, x7), (9, 0), (0, x9), (0, x10)] [] w Q) ∧ (¬ (x10 < 8192) → VW d 183 103 [(2, x0), (2, x1), (1, x2), (9, 0), (0, x4), (1, x5), (9, 0), (1, x7), (9, 0), (0, x9), (0, x10)] [] w Q)) :=
  (VW_b 3 (F := fun n => (if x10 < 8192 then vrun n d 183 76 [(2, x0), (2, x1), (1, x2), (9, 0), (0, x4), (1, x5), (9, 0), (1, x7), (9, 0), (0, x9), (0, x10)] [] w else vrun n d 183 103 [(2, x0), (2, x1), (1, x2), (9, 0), (0, x4), (1, x5), (9, 0), (1, x7), (9, 0), (0, x9), (0, x10)] [] w)) (fun _ => rfl)).trans (EX_br.trans (and_congr (imp_congr Iff.rfl Iff.rfl) (imp_congr Iff.rfl Iff.rfl)))
set_option maxRecDepth 100000 in
theorem b183_76 {d : Nat} {w : vW} {x0 x1 x2 x4 x5 x7 x9 x10 : Int} {Q : Int → vW → Prop} : VW d 183 76 [(2, x0), (2, x1), (1, x2), (9, 0), (0, x4), (1, x5), (9, 0), (1, x7), (9, 0), (0, x9), (0, x10)] [] w Q ↔ (vkd w x0 = 13) ∧ (vkd w (vct w x0 1) = 2 ∧ (0 : Int) ≤ x10 ∧ x10 < vln w (vct w x0 1)) ∧ VW d 183 88 [(2, x0), (2, x1), (1, x2), (9, 0), (0, x4), (1, x5), (9, 0), (1, w64 (x7 + (vct w (vct w x0 1) x10))), (9, 0), (0, x9), (0, x10)] [] w Q :=
  (VW_b 7 (F := fun n => if vkd w x0 = 13 then if vkd w (vct w x0 1) = 2 ∧ (0 : Int) ≤ x10 ∧ x10 < vln w (vct w x0 1) then vrun n d 183 88 [(2, x0), (2, x1), (1, x2), (9, 0), (0, x4), (1, x5), (9, 0), (1, w64 (x7 + (vct w (vct w x0 1) x10))), (9, 0), (0, x9), (0, x10)] [] w else none else none) (fun _ => rfl)).trans (EX_if.trans (and_congr Iff.rfl (EX_if.trans (and_congr Iff.rfl (Iff.rfl)))))
set_option maxRecDepth 100000 in
theorem b183_88 {d : Nat} {w : vW} {x0 x1 x2 x4 x5 x7 x9 x10 : Int} {Q : Int → vW → Prop} : VW d 183 88 [(2, x0), (2, x1), (1, x2), (9, 0), (0, x4), (1, x5), (9, 0), (1, x7), (9, 0), (0, x9), (0, x10)] [] w Q ↔ (vkd w x0 = 13) ∧ (vkd w (vct w x0 0) = 2 ∧ (0 : Int) ≤ x10 ∧ x10 < vln w (vct w x0 0)) ∧ VW d 183 115 [(2, x0), (2, x1), (1, x2), (9, 0), (0, x4), (1, vct w (vct w x0 0) x10), (9, 0), (1, x7), (9, 0), (0, (-1)), (0, x10)] [] w Q :=
  (VW_b 8 (F := fun n => if vkd w x0 = 13 then if vkd w (vct w x0 0) = 2 ∧ (0 : Int) ≤ x10 ∧ x10 < vln w (vct w x0 0) then vrun n d 183 115 [(2, x0), (2, x1), (1, x2), (9, 0), (0, x4), (1, vct w (vct w x0 0) x10), (9, 0), (1, x7), (9, 0), (0, (-1)), (0, x10)] [] w else none else none) (fun _ => rfl)).trans (EX_if.trans (and_congr Iff.rfl (EX_if.trans (and_congr Iff.rfl (Iff.rfl)))))
set_option maxRecDepth 100000 in
theorem b183_103 {d : Nat} {w : vW} {x0 x1 x2 x4 x5 x7 x9 x10 : Int} {Q : Int → vW → Prop} : VW d 183 103 [(2, x0), (2, x1), (1, x2), (9, 0), (0, x4), (1, x5), (9, 0), (1, x7), (9, 0), (0, x9), (0, x10)] [] w Q ↔ (vkd w x0 = 13) ∧ (vkd w x1 = 18) ∧ VC d 263 [(2, x1), (0, vct w x0 4), (1, x5)] w (fun r w1 => VW d 183 113 [(2, x0), (2, x1), (1, x2), (9, 0), (0, x4), (1, x5), (9, 0), (1, x7), (9, 0), (0, x9), (0, x10)] [(0, r)] w1 Q) :=
  (VW_b 5 (F := fun n => if vkd w x0 = 13 then if vkd w x1 = 18 then vclr (vrun n) d 183 113 263 3 0 [(2, x0), (2, x1), (1, x2), (9, 0), (0, x4), (1, x5), (9, 0), (1, x7), (9, 0), (0, x9), (0, x10)] [(1, x5), (0, vct w x0 4), (2, x1)] w else none else none) (fun _ => rfl)).trans (EX_if.trans (and_congr Iff.rfl (EX_if.trans (and_congr Iff.rfl (EX_call rfl)))))
set_option maxRecDepth 100000 in
theorem b183_113 {d : Nat} {w : vW} {x0 x1 x2 x4 x5 x7 x9 x10 y0 : Int} {Q : Int → vW → Prop} : VW d 183 113 [(2, x0), (2, x1), (1, x2), (9, 0), (0, x4), (1, x5), (9, 0), (1, x7), (9, 0), (0, x9), (0, x10)] [(0, y0)] w Q ↔ VW d 183 115 [(2, x0), (2, x1), (1, x2), (9, 0), (0, x4), (1, x5), (9, 0), (1, x7), (9, 0), (0, y0), (0, x10)] [] w Q :=
  (VW_b 1 (F := fun n => vrun n d 183 115 [(2, x0), (2, x1), (1, x2), (9, 0), (0, x4), (1, x5), (9, 0), (1, x7), (9, 0), (0, y0), (0, x10)] [] w) (fun _ => rfl)).trans (Iff.rfl)
set_option maxRecDepth 100000 in
theorem b183_115 {d : Nat} {w : vW} {x0 x1 x2 x4 x5 x7 x9 x10 : Int} {Q : Int → vW → Prop} : VW d 183 115 [(2, x0), (2, x1), (1, x2), (9, 0), (0, x4), (1, x5), (9, 0), (1, x7), (9, 0), (0, x9), (0, x10)] [] w Q ↔ VW d 183 18 [(2, x0), (2, x1), (1, x2), (9, 0), (0, x4), (1, x5), (9, 0), (1, x7), (9, 0), (0, x9), (0, x10)] [] w Q :=
  (VW_b 1 (F := fun n => vrun n d 183 18 [(2, x0), (2, x1), (1, x2), (9, 0), (0, x4), (1, x5), (9, 0), (1, x7), (9, 0), (0, x9), (0, x10)] [] w) (fun _ => rfl)).trans (Iff.rfl)
set_option maxRecDepth 100000 in
theorem b183_118 {d : Nat} {w : vW} {x0 x1 x2 x4 x5 x7 x9 : Int} {v10 : vV} {Q : Int → vW → Prop} : VW d 183 118 [(2, x0), (2, x1), (1, x2), (9, 0), (0, x4), (1, x5), (9, 0), (1, x7), (9, 0), (0, x9), v10] [] w Q ↔ ((x9 < 0 → VW d 183 151 [(2, x0), (2, x1), (1, x2), (9, 0), (0, x4), (1, x5), (9, 0), (1, x7), (9, 0), (0, x9), v10] [] w Q) ∧ (¬ (x9 < 0) → VW d 183 123 [(2, x0), (2, x1), (1, x2), (9, 0), (0, x4), (1, x5), (9, 0), (1, x7), (9, 0), (0, x9), v10] [] w Q)) :=
  (VW_b 2 (F := fun n => (if x9 < 0 then vrun n d 183 151 [(2, x0), (2, x1), (1, x2), (9, 0), (0, x4), (1, x5), (9, 0), (1, x7), (9, 0), (0, x9), v10] [] w else vrun n d 183 123 [(2, x0), (2, x1), (1, x2), (9, 0), (0, x4), (1, x5), (9, 0), (1, x7), (9, 0), (0, x9), v10] [] w)) (fun _ => rfl)).trans (EX_br.trans (and_congr (imp_congr Iff.rfl Iff.rfl) (imp_congr Iff.rfl Iff.rfl)))
set_option maxRecDepth 100000 in
theorem b183_123 {d : Nat} {w : vW} {x0 x1 x2 x4 x5 x7 x9 : Int} {v10 : vV} {Q : Int → vW → Prop} : VW d 183 123 [(2, x0), (2, x1), (1, x2), (9, 0), (0, x4), (1, x5), (9, 0), (1, x7), (9, 0), (0, x9), v10] [] w Q ↔ (vkd w x1 = 18) ∧ VC d 266 [(2, x1)] w (fun r w1 => VW d 183 127 [(2, x0), (2, x1), (1, x2), (9, 0), (0, x4), (1, x5), (9, 0), (1, x7), (9, 0), (0, x9), v10] [(2, r)] w1 Q) :=
  (VW_b 2 (F := fun n => if vkd w x1 = 18 then vclr (vrun n) d 183 127 266 1 2 [(2, x0), (2, x1), (1, x2), (9, 0), (0, x4), (1, x5), (9, 0), (1, x7), (9, 0), (0, x9), v10] [(2, x1)] w else none) (fun _ => rfl)).trans (EX_if.trans (and_congr Iff.rfl (EX_call rfl)))
set_option maxRecDepth 100000 in
theorem b183_127 {d : Nat} {w : vW} {x0 x1 x2 x4 x5 x7 x9 y0 : Int} {v10 : vV} {Q : Int → vW → Prop} : VW d 183 127 [(2, x0), (2, x1), (1, x2), (9, 0), (0, x4), (1, x5), (9, 0), (1, x7), (9, 0), (0, x9), v10] [(2, y0)] w Q ↔ (vkd w x0 = 13) ∧ (vkd w y0 = 14) ∧ VC d 191 [(2, y0), (2, x1), (0, vct w x0 4), (1, x5)] w (fun r w1 => VW d 183 137 [(2, x0), (2, x1), (1, x2), (9, 0), (0, x4), (1, x5), (9, 0), (1, x7), (9, 0), (0, x9), v10] [(1, r)] w1 Q) :=
  (VW_b 5 (F := fun n => if vkd w x0 = 13 then if vkd w y0 = 14 then vclr (vrun n) d 183 137 191 4 1 [(2, x0), (2, x1), (1, x2), (9, 0), (0, x4), (1, x5), (9, 0), (1, x7), (9, 0), (0, x9), v10] [(1, x5), (0, vct w x0 4), (2, x1), (2, y0)] w else none else none) (fun _ => rfl)).trans (EX_if.trans (and_congr Iff.rfl (EX_if.trans (and_congr Iff.rfl (EX_call rfl)))))
set_option maxRecDepth 100000 in
theorem b183_137 {d : Nat} {w : vW} {x0 x1 x2 x4 x5 x7 x9 y0 : Int} {v10 : vV} {Q : Int → vW → Prop} : VW d 183 137 [(2, x0), (2, x1), (1, x2), (9, 0), (0, x4), (1, x5), (9, 0), (1, x7), (9, 0), (0, x9), v10] [(1, y0)] w Q ↔ (vkd w x1 = 18) ∧ VC d 266 [(2, x1)] w (fun r w1 => VW d 183 145 [(2, x0), (2, x1), (1, x2), (9, 0), (0, x4), (1, y0), (9, 0), (1, x7), (9, 0), (0, x9), v10] [(2, r), (1, x7)] w1 Q) :=
  (VW_b 4 (F := fun n => if vkd w x1 = 18 then vclr (vrun n) d 183 145 266 1 2 [(2, x0), (2, x1), (1, x2), (9, 0), (0, x4), (1, y0), (9, 0), (1, x7), (9, 0), (0, x9), v10] [(2, x1), (1, x7)] w else none) (fun _ => rfl)).trans (EX_if.trans (and_congr Iff.rfl (EX_call rfl)))
set_option maxRecDepth 100000 in
theorem b183_145 {d : Nat} {w : vW} {x0 x1 x2 x4 x5 x7 x9 y0 y1 : Int} {v10 : vV} {Q : Int → vW → Prop} : VW d 183 145 [(2, x0), (2, x1), (1, x2), (9, 0), (0, x4), (1, x5), (9, 0), (1, x7), (9, 0), (0, x9), v10] [(2, y1), (1, y0)] w Q ↔ (vkd w y1 = 14) ∧ VW d 183 151 [(2, x0), (2, x1), (1, x2), (9, 0), (0, x4), (1, x5), (9, 0), (1, w64 (y0 + (vct w y1 8))), (9, 0), (0, x9), v10] [] w Q :=
  (VW_b 3 (F := fun n => if vkd w y1 = 14 then vrun n d 183 151 [(2, x0), (2, x1), (1, x2), (9, 0), (0, x4), (1, x5), (9, 0), (1, w64 (y0 + (vct w y1 8))), (9, 0), (0, x9), v10] [] w else none) (fun _ => rfl)).trans (EX_if.trans (and_congr Iff.rfl (Iff.rfl)))
set_option maxRecDepth 100000 in
theorem b183_151 {d : Nat} {w : vW} {x0 x1 x2 x4 x5 x7 x9 : Int} {v10 : vV} {Q : Int → vW → Prop} : VW d 183 151 [(2, x0), (2, x1), (1, x2), (9, 0), (0, x4), (1, x5), (9, 0), (1, x7), (9, 0), (0, x9), v10] [] w Q ↔ ((x4 < 0 → VW d 183 182 [(2, x0), (2, x1), (1, x2), (9, 0), (0, x4), (1, x5), (9, 0), (1, x7), (9, 0), (0, x9), v10] [] w Q) ∧ (¬ (x4 < 0) → VW d 183 156 [(2, x0), (2, x1), (1, x2), (9, 0), (0, x4), (1, x5), (9, 0), (1, x7), (9, 0), (0, x9), v10] [] w Q)) :=
  (VW_b 2 (F := fun n => (if x4 < 0 then vrun n d 183 182 [(2, x0), (2, x1), (1, x2), (9, 0), (0, x4), (1, x5), (9, 0), (1, x7), (9, 0), (0, x9), v10] [] w else vrun n d 183 156 [(2, x0), (2, x1), (1, x2), (9, 0), (0, x4), (1, x5), (9, 0), (1, x7), (9, 0), (0, x9), v10] [] w)) (fun _ => rfl)).trans (EX_br.trans (and_congr (imp_congr Iff.rfl Iff.rfl) (imp_congr Iff.rfl Iff.rfl)))
set_option maxRecDepth 100000 in
theorem b183_156 {d : Nat} {w : vW} {x0 x1 x2 x4 x5 x7 x9 : Int} {v10 : vV} {Q : Int → vW → Prop} : VW d 183 156 [(2, x0), (2, x1), (1, x2), (9, 0), (0, x4), (1, x5), (9, 0), (1, x7), (9, 0), (0, x9), v10] [] w Q ↔ ((x4 < 8192 → VW d 183 164 [(2, x0), (2, x1), (1, x2), (9, 0), (0, x4), (1, x5), (9, 0), (1, x7), (9, 0), (0, x9), v10] [] w Q) ∧ (¬ (x4 < 8192) → VW d 183 182 [(2, x0), (2, x1), (1, x2), (9, 0), (0, x4), (1, x5), (9, 0), (1, x7), (9, 0), (0, x9), v10] [] w Q)) :=
  (VW_b 3 (F := fun n => (if x4 < 8192 then vrun n d 183 164 [(2, x0), (2, x1), (1, x2), (9, 0), (0, x4), (1, x5), (9, 0), (1, x7), (9, 0), (0, x9), v10] [] w else vrun n d 183 182 [(2, x0), (2, x1), (1, x2), (9, 0), (0, x4), (1, x5), (9, 0), (1, x7), (9, 0), (0, x9), v10] [] w)) (fun _ => rfl)).trans (EX_br.trans (and_congr (imp_congr Iff.rfl Iff.rfl) (imp_congr Iff.rfl Iff.rfl)))
set_option maxRecDepth 100000 in
theorem b183_164 {d : Nat} {w : vW} {x0 x1 x2 x4 x5 x7 x9 : Int} {v10 : vV} {Q : Int → vW → Prop} : VW d 183 164 [(2, x0), (2, x1), (1, x2), (9, 0), (0, x4), (1, x5), (9, 0), (1, x7), (9, 0), (0, x9), v10] [] w Q ↔ (vkd w x0 = 13) ∧ (vkd w (vct w x0 0) = 2 ∧ (0 : Int) ≤ x4 ∧ x4 < vln w (vct w x0 0)) ∧ VW d 183 173 [(2, x0), (2, x1), (1, x2), (9, 0), (0, x4), (1, x5), (9, 0), (1, x7), (9, 0), (0, x9), v10] [] (vsv w (vct w x0 0) x4 x5) Q :=
  (VW_b 5 (F := fun n => if vkd w x0 = 13 then if vkd w (vct w x0 0) = 2 ∧ (0 : Int) ≤ x4 ∧ x4 < vln w (vct w x0 0) then vrun n d 183 173 [(2, x0), (2, x1), (1, x2), (9, 0), (0, x4), (1, x5), (9, 0), (1, x7), (9, 0), (0, x9), v10] [] (vsv w (vct w x0 0) x4 x5) else none else none) (fun _ => rfl)).trans (EX_if.trans (and_congr Iff.rfl (EX_if.trans (and_congr Iff.rfl (Iff.rfl)))))
set_option maxRecDepth 100000 in
theorem b183_173 {d : Nat} {w : vW} {x0 x1 x2 x4 x5 x7 x9 : Int} {v10 : vV} {Q : Int → vW → Prop} : VW d 183 173 [(2, x0), (2, x1), (1, x2), (9, 0), (0, x4), (1, x5), (9, 0), (1, x7), (9, 0), (0, x9), v10] [] w Q ↔ (vkd w x0 = 13) ∧ (vkd w (vct w x0 1) = 2 ∧ (0 : Int) ≤ x4 ∧ x4 < vln w (vct w x0 1)) ∧ VW d 183 182 [(2, x0), (2, x1), (1, x2), (9, 0), (0, x4), (1, x5), (9, 0), (1, x7), (9, 0), (0, x9), v10] [] (vsv w (vct w x0 1) x4 x7) Q :=
  (VW_b 5 (F := fun n => if vkd w x0 = 13 then if vkd w (vct w x0 1) = 2 ∧ (0 : Int) ≤ x4 ∧ x4 < vln w (vct w x0 1) then vrun n d 183 182 [(2, x0), (2, x1), (1, x2), (9, 0), (0, x4), (1, x5), (9, 0), (1, x7), (9, 0), (0, x9), v10] [] (vsv w (vct w x0 1) x4 x7) else none else none) (fun _ => rfl)).trans (EX_if.trans (and_congr Iff.rfl (EX_if.trans (and_congr Iff.rfl (Iff.rfl)))))
set_option maxRecDepth 100000 in
theorem b183_182 {d : Nat} {w : vW} {x0 x1 x2 x4 x5 x7 x9 : Int} {v10 : vV} {Q : Int → vW → Prop} : VW d 183 182 [(2, x0), (2, x1), (1, x2), (9, 0), (0, x4), (1, x5), (9, 0), (1, x7), (9, 0), (0, x9), v10] [] w Q ↔ Q 0 w :=
  (VW_b 1 (F := fun n => some (0, 0, w)) (fun _ => rfl)).trans (EX_ret0)
/-! 184: StrikeWhatCancels$Finals.leftOf(II)J -/
set_option maxRecDepth 100000 in
theorem b184_0 {d : Nat} {w : vW} {x0 x1 x2 : Int} {Q : Int → vW → Prop} : VW d 184 0 [(2, x0), (0, x1), (0, x2), (9, 0)] [] w Q ↔ (vkd w x0 = 13) ∧ VC d 180 [(2, x0), (0, x1)] w (fun r w1 => VW d 184 5 [(2, x0), (0, x1), (0, x2), (9, 0)] [(0, r)] w1 Q) :=
  (VW_b 3 (F := fun n => if vkd w x0 = 13 then vclr (vrun n) d 184 5 180 2 0 [(2, x0), (0, x1), (0, x2), (9, 0)] [(0, x1), (2, x0)] w else none) (fun _ => rfl)).trans (EX_if.trans (and_congr Iff.rfl (EX_call rfl)))
set_option maxRecDepth 100000 in
theorem b184_5 {d : Nat} {w : vW} {x0 x1 x2 y0 : Int} {Q : Int → vW → Prop} : VW d 184 5 [(2, x0), (0, x1), (0, x2), (9, 0)] [(0, y0)] w Q ↔ (((w32 (y0 + x2)) < 0 → VW d 184 30 [(2, x0), (0, x1), (0, x2), (0, w32 (y0 + x2))] [] w Q) ∧ (¬ ((w32 (y0 + x2)) < 0) → VW d 184 12 [(2, x0), (0, x1), (0, x2), (0, w32 (y0 + x2))] [] w Q)) :=
  (VW_b 5 (F := fun n => (if (w32 (y0 + x2)) < 0 then vrun n d 184 30 [(2, x0), (0, x1), (0, x2), (0, w32 (y0 + x2))] [] w else vrun n d 184 12 [(2, x0), (0, x1), (0, x2), (0, w32 (y0 + x2))] [] w)) (fun _ => rfl)).trans (EX_br.trans (and_congr (imp_congr Iff.rfl Iff.rfl) (imp_congr Iff.rfl Iff.rfl)))
set_option maxRecDepth 100000 in
theorem b184_12 {d : Nat} {w : vW} {x0 x1 x2 x3 : Int} {Q : Int → vW → Prop} : VW d 184 12 [(2, x0), (0, x1), (0, x2), (0, x3)] [] w Q ↔ (vkd w x0 = 13) ∧ (vkd w (vct w x0 0) = 2) ∧ ((x3 < (vln w (vct w x0 0)) → VW d 184 21 [(2, x0), (0, x1), (0, x2), (0, x3)] [] w Q) ∧ (¬ (x3 < (vln w (vct w x0 0))) → VW d 184 30 [(2, x0), (0, x1), (0, x2), (0, x3)] [] w Q)) :=
  (VW_b 5 (F := fun n => if vkd w x0 = 13 then if vkd w (vct w x0 0) = 2 then (if x3 < (vln w (vct w x0 0)) then vrun n d 184 21 [(2, x0), (0, x1), (0, x2), (0, x3)] [] w else vrun n d 184 30 [(2, x0), (0, x1), (0, x2), (0, x3)] [] w) else none else none) (fun _ => rfl)).trans (EX_if.trans (and_congr Iff.rfl (EX_if.trans (and_congr Iff.rfl (EX_br.trans (and_congr (imp_congr Iff.rfl Iff.rfl) (imp_congr Iff.rfl Iff.rfl)))))))
set_option maxRecDepth 100000 in
theorem b184_21 {d : Nat} {w : vW} {x0 x1 x2 x3 : Int} {Q : Int → vW → Prop} : VW d 184 21 [(2, x0), (0, x1), (0, x2), (0, x3)] [] w Q ↔ (vkd w x0 = 13) ∧ (vkd w (vct w x0 0) = 2 ∧ (0 : Int) ≤ x3 ∧ x3 < vln w (vct w x0 0)) ∧ VW d 184 31 [(2, x0), (0, x1), (0, x2), (0, x3)] [(1, vct w (vct w x0 0) x3)] w Q :=
  (VW_b 5 (F := fun n => if vkd w x0 = 13 then if vkd w (vct w x0 0) = 2 ∧ (0 : Int) ≤ x3 ∧ x3 < vln w (vct w x0 0) then vrun n d 184 31 [(2, x0), (0, x1), (0, x2), (0, x3)] [(1, vct w (vct w x0 0) x3)] w else none else none) (fun _ => rfl)).trans (EX_if.trans (and_congr Iff.rfl (EX_if.trans (and_congr Iff.rfl (Iff.rfl)))))
set_option maxRecDepth 100000 in
theorem b184_30 {d : Nat} {w : vW} {x0 x1 x2 x3 : Int} {Q : Int → vW → Prop} : VW d 184 30 [(2, x0), (0, x1), (0, x2), (0, x3)] [] w Q ↔ VW d 184 31 [(2, x0), (0, x1), (0, x2), (0, x3)] [(1, 0)] w Q :=
  (VW_b 1 (F := fun n => vrun n d 184 31 [(2, x0), (0, x1), (0, x2), (0, x3)] [(1, 0)] w) (fun _ => rfl)).trans (Iff.rfl)
set_option maxRecDepth 100000 in
theorem b184_31 {d : Nat} {w : vW} {x0 x1 x2 x3 y0 : Int} {Q : Int → vW → Prop} : VW d 184 31 [(2, x0), (0, x1), (0, x2), (0, x3)] [(1, y0)] w Q ↔ Q y0 w :=
  (VW_b 1 (F := fun n => some (0, y0, w)) (fun _ => rfl)).trans (EX_ret0)
/-! 185: StrikeWhatCancels$Finals.strikesOf(II)J -/
set_option maxRecDepth 100000 in
theorem b185_0 {d : Nat} {w : vW} {x0 x1 x2 : Int} {Q : Int → vW → Prop} : VW d 185 0 [(2, x0), (0, x1), (0, x2), (9, 0)] [] w Q ↔ (vkd w x0 = 13) ∧ VC d 180 [(2, x0), (0, x1)] w (fun r w1 => VW d 185 5 [(2, x0), (0, x1), (0, x2), (9, 0)] [(0, r)] w1 Q) :=
  (VW_b 3 (F := fun n => if vkd w x0 = 13 then vclr (vrun n) d 185 5 180 2 0 [(2, x0), (0, x1), (0, x2), (9, 0)] [(0, x1), (2, x0)] w else none) (fun _ => rfl)).trans (EX_if.trans (and_congr Iff.rfl (EX_call rfl)))
set_option maxRecDepth 100000 in
theorem b185_5 {d : Nat} {w : vW} {x0 x1 x2 y0 : Int} {Q : Int → vW → Prop} : VW d 185 5 [(2, x0), (0, x1), (0, x2), (9, 0)] [(0, y0)] w Q ↔ (((w32 (y0 + x2)) < 0 → VW d 185 30 [(2, x0), (0, x1), (0, x2), (0, w32 (y0 + x2))] [] w Q) ∧ (¬ ((w32 (y0 + x2)) < 0) → VW d 185 12 [(2, x0), (0, x1), (0, x2), (0, w32 (y0 + x2))] [] w Q)) :=
  (VW_b 5 (F := fun n => (if (w32 (y0 + x2)) < 0 then vrun n d 185 30 [(2, x0), (0, x1), (0, x2), (0, w32 (y0 + x2))] [] w else vrun n d 185 12 [(2, x0), (0, x1), (0, x2), (0, w32 (y0 + x2))] [] w)) (fun _ => rfl)).trans (EX_br.trans (and_congr (imp_congr Iff.rfl Iff.rfl) (imp_congr Iff.rfl Iff.rfl)))
set_option maxRecDepth 100000 in
theorem b185_12 {d : Nat} {w : vW} {x0 x1 x2 x3 : Int} {Q : Int → vW → Prop} : VW d 185 12 [(2, x0), (0, x1), (0, x2), (0, x3)] [] w Q ↔ (vkd w x0 = 13) ∧ (vkd w (vct w x0 1) = 2) ∧ ((x3 < (vln w (vct w x0 1)) → VW d 185 21 [(2, x0), (0, x1), (0, x2), (0, x3)] [] w Q) ∧ (¬ (x3 < (vln w (vct w x0 1))) → VW d 185 30 [(2, x0), (0, x1), (0, x2), (0, x3)] [] w Q)) :=
  (VW_b 5 (F := fun n => if vkd w x0 = 13 then if vkd w (vct w x0 1) = 2 then (if x3 < (vln w (vct w x0 1)) then vrun n d 185 21 [(2, x0), (0, x1), (0, x2), (0, x3)] [] w else vrun n d 185 30 [(2, x0), (0, x1), (0, x2), (0, x3)] [] w) else none else none) (fun _ => rfl)).trans (EX_if.trans (and_congr Iff.rfl (EX_if.trans (and_congr Iff.rfl (EX_br.trans (and_congr (imp_congr Iff.rfl Iff.rfl) (imp_congr Iff.rfl Iff.rfl)))))))
set_option maxRecDepth 100000 in
theorem b185_21 {d : Nat} {w : vW} {x0 x1 x2 x3 : Int} {Q : Int → vW → Prop} : VW d 185 21 [(2, x0), (0, x1), (0, x2), (0, x3)] [] w Q ↔ (vkd w x0 = 13) ∧ (vkd w (vct w x0 1) = 2 ∧ (0 : Int) ≤ x3 ∧ x3 < vln w (vct w x0 1)) ∧ VW d 185 31 [(2, x0), (0, x1), (0, x2), (0, x3)] [(1, vct w (vct w x0 1) x3)] w Q :=
  (VW_b 5 (F := fun n => if vkd w x0 = 13 then if vkd w (vct w x0 1) = 2 ∧ (0 : Int) ≤ x3 ∧ x3 < vln w (vct w x0 1) then vrun n d 185 31 [(2, x0), (0, x1), (0, x2), (0, x3)] [(1, vct w (vct w x0 1) x3)] w else none else none) (fun _ => rfl)).trans (EX_if.trans (and_congr Iff.rfl (EX_if.trans (and_congr Iff.rfl (Iff.rfl)))))
set_option maxRecDepth 100000 in
theorem b185_30 {d : Nat} {w : vW} {x0 x1 x2 x3 : Int} {Q : Int → vW → Prop} : VW d 185 30 [(2, x0), (0, x1), (0, x2), (0, x3)] [] w Q ↔ VW d 185 31 [(2, x0), (0, x1), (0, x2), (0, x3)] [(1, 0)] w Q :=
  (VW_b 1 (F := fun n => vrun n d 185 31 [(2, x0), (0, x1), (0, x2), (0, x3)] [(1, 0)] w) (fun _ => rfl)).trans (Iff.rfl)
set_option maxRecDepth 100000 in
theorem b185_31 {d : Nat} {w : vW} {x0 x1 x2 x3 y0 : Int} {Q : Int → vW → Prop} : VW d 185 31 [(2, x0), (0, x1), (0, x2), (0, x3)] [(1, y0)] w Q ↔ Q y0 w :=
  (VW_b 1 (F := fun n => some (0, y0, w)) (fun _ => rfl)).trans (EX_ret0)
/-! 186: StrikeWhatCancels$Finals.broughtTo(IJ)I -/
set_option maxRecDepth 100000 in
theorem b186_0 {d : Nat} {w : vW} {x0 x1 x2 : Int} {Q : Int → vW → Prop} : VW d 186 0 [(2, x0), (0, x1), (1, x2), (9, 0), (9, 0), (9, 0)] [] w Q ↔ (vkd w x0 = 13) ∧ VC d 178 [(0, vct w x0 5), (0, x1)] w (fun r w1 => VW d 186 11 [(2, x0), (0, x1), (1, x2), (9, 0), (0, 0), (9, 0)] [(0, r)] w1 Q) :=
  (VW_b 6 (F := fun n => if vkd w x0 = 13 then vclr (vrun n) d 186 11 178 2 0 [(2, x0), (0, x1), (1, x2), (9, 0), (0, 0), (9, 0)] [(0, x1), (0, vct w x0 5)] w else none) (fun _ => rfl)).trans (EX_if.trans (and_congr Iff.rfl (EX_call rfl)))
set_option maxRecDepth 100000 in
theorem b186_11 {d : Nat} {w : vW} {x0 x1 x2 x4 y0 : Int} {Q : Int → vW → Prop} : VW d 186 11 [(2, x0), (0, x1), (1, x2), (9, 0), (0, x4), (9, 0)] [(0, y0)] w Q ↔ VW d 186 15 [(2, x0), (0, x1), (1, x2), (9, 0), (0, x4), (0, w32 (y0 - 1))] [] w Q :=
  (VW_b 3 (F := fun n => vrun n d 186 15 [(2, x0), (0, x1), (1, x2), (9, 0), (0, x4), (0, w32 (y0 - 1))] [] w) (fun _ => rfl)).trans (Iff.rfl)
set_option maxRecDepth 100000 in
theorem b186_15 {d : Nat} {w : vW} {x0 x1 x2 x4 x5 : Int} {Q : Int → vW → Prop} : VW d 186 15 [(2, x0), (0, x1), (1, x2), (9, 0), (0, x4), (0, x5)] [] w Q ↔ ((x5 < 0 → VW d 186 52 [(2, x0), (0, x1), (1, x2), (9, 0), (0, x4), (0, x5)] [] w Q) ∧ (¬ (x5 < 0) → VW d 186 20 [(2, x0), (0, x1), (1, x2), (9, 0), (0, x4), (0, x5)] [] w Q)) :=
  (VW_b 2 (F := fun n => (if x5 < 0 then vrun n d 186 52 [(2, x0), (0, x1), (1, x2), (9, 0), (0, x4), (0, x5)] [] w else vrun n d 186 20 [(2, x0), (0, x1), (1, x2), (9, 0), (0, x4), (0, x5)] [] w)) (fun _ => rfl)).trans (EX_br.trans (and_congr (imp_congr Iff.rfl Iff.rfl) (imp_congr Iff.rfl Iff.rfl)))
set_option maxRecDepth 100000 in
theorem b186_20 {d : Nat} {w : vW} {x0 x1 x2 x4 x5 : Int} {Q : Int → vW → Prop} : VW d 186 20 [(2, x0), (0, x1), (1, x2), (9, 0), (0, x4), (0, x5)] [] w Q ↔ (vkd w x0 = 13) ∧ VC d 184 [(2, x0), (0, x1), (0, x5)] w (fun r w1 => VW d 186 27 [(2, x0), (0, x1), (1, x2), (9, 0), (0, x4), (0, x5)] [(1, r)] w1 Q) :=
  (VW_b 4 (F := fun n => if vkd w x0 = 13 then vclr (vrun n) d 186 27 184 3 1 [(2, x0), (0, x1), (1, x2), (9, 0), (0, x4), (0, x5)] [(0, x5), (0, x1), (2, x0)] w else none) (fun _ => rfl)).trans (EX_if.trans (and_congr Iff.rfl (EX_call rfl)))
set_option maxRecDepth 100000 in
theorem b186_27 {d : Nat} {w : vW} {x0 x1 x2 x4 x5 y0 : Int} {Q : Int → vW → Prop} : VW d 186 27 [(2, x0), (0, x1), (1, x2), (9, 0), (0, x4), (0, x5)] [(1, y0)] w Q ↔ (((vlc y0 x2) = 0 → VW d 186 32 [(2, x0), (0, x1), (1, x2), (9, 0), (0, x4), (0, x5)] [] w Q) ∧ (¬ ((vlc y0 x2) = 0) → VW d 186 46 [(2, x0), (0, x1), (1, x2), (9, 0), (0, x4), (0, x5)] [] w Q)) :=
  (VW_b 3 (F := fun n => (if (vlc y0 x2) = 0 then vrun n d 186 32 [(2, x0), (0, x1), (1, x2), (9, 0), (0, x4), (0, x5)] [] w else vrun n d 186 46 [(2, x0), (0, x1), (1, x2), (9, 0), (0, x4), (0, x5)] [] w)) (fun _ => rfl)).trans (EX_br.trans (and_congr (imp_congr Iff.rfl Iff.rfl) (imp_congr Iff.rfl Iff.rfl)))
set_option maxRecDepth 100000 in
theorem b186_32 {d : Nat} {w : vW} {x0 x1 x2 x4 x5 : Int} {Q : Int → vW → Prop} : VW d 186 32 [(2, x0), (0, x1), (1, x2), (9, 0), (0, x4), (0, x5)] [] w Q ↔ (vkd w x0 = 13) ∧ VC d 181 [(2, x0), (0, x5), (0, x1)] w (fun r w1 => VW d 186 40 [(2, x0), (0, x1), (1, x2), (9, 0), (0, x4), (0, x5)] [(1, r), (2, x0)] w1 Q) :=
  (VW_b 5 (F := fun n => if vkd w x0 = 13 then vclr (vrun n) d 186 40 181 3 1 [(2, x0), (0, x1), (1, x2), (9, 0), (0, x4), (0, x5)] [(0, x1), (0, x5), (2, x0), (2, x0)] w else none) (fun _ => rfl)).trans (EX_if.trans (and_congr Iff.rfl (EX_call rfl)))
set_option maxRecDepth 100000 in
theorem b186_40 {d : Nat} {w : vW} {x0 x1 x2 x4 x5 y0 y1 : Int} {Q : Int → vW → Prop} : VW d 186 40 [(2, x0), (0, x1), (1, x2), (9, 0), (0, x4), (0, x5)] [(1, y1), (2, y0)] w Q ↔ (vkd w y0 = 13) ∧ VW d 186 43 [(2, x0), (0, x1), (1, x2), (9, 0), (0, x4), (0, x5)] [] (vsv w y0 8 y1) Q :=
  (VW_b 1 (F := fun n => if vkd w y0 = 13 then vrun n d 186 43 [(2, x0), (0, x1), (1, x2), (9, 0), (0, x4), (0, x5)] [] (vsv w y0 8 y1) else none) (fun _ => rfl)).trans (EX_if.trans (and_congr Iff.rfl (Iff.rfl)))
set_option maxRecDepth 100000 in
theorem b186_43 {d : Nat} {w : vW} {x0 x1 x2 x4 x5 : Int} {Q : Int → vW → Prop} : VW d 186 43 [(2, x0), (0, x1), (1, x2), (9, 0), (0, x4), (0, x5)] [] w Q ↔ VW d 186 46 [(2, x0), (0, x1), (1, x2), (9, 0), (0, w32 (x4 + 1)), (0, x5)] [] w Q :=
  (VW_b 1 (F := fun n => vrun n d 186 46 [(2, x0), (0, x1), (1, x2), (9, 0), (0, w32 (x4 + 1)), (0, x5)] [] w) (fun _ => rfl)).trans (Iff.rfl)
set_option maxRecDepth 100000 in
theorem b186_46 {d : Nat} {w : vW} {x0 x1 x2 x4 x5 : Int} {Q : Int → vW → Prop} : VW d 186 46 [(2, x0), (0, x1), (1, x2), (9, 0), (0, x4), (0, x5)] [] w Q ↔ VW d 186 15 [(2, x0), (0, x1), (1, x2), (9, 0), (0, x4), (0, w32 (x5 + (-1)))] [] w Q :=
  (VW_b 2 (F := fun n => vrun n d 186 15 [(2, x0), (0, x1), (1, x2), (9, 0), (0, x4), (0, w32 (x5 + (-1)))] [] w) (fun _ => rfl)).trans (Iff.rfl)
set_option maxRecDepth 100000 in
theorem b186_52 {d : Nat} {w : vW} {x0 x1 x2 x4 x5 : Int} {Q : Int → vW → Prop} : VW d 186 52 [(2, x0), (0, x1), (1, x2), (9, 0), (0, x4), (0, x5)] [] w Q ↔ Q x4 w :=
  (VW_b 2 (F := fun n => some (0, x4, w)) (fun _ => rfl)).trans (EX_ret0)
/-! 187: StrikeWhatCancels$Finals.mostStrikes(I)J -/
set_option maxRecDepth 100000 in
theorem b187_0 {d : Nat} {w : vW} {x0 x1 : Int} {Q : Int → vW → Prop} : VW d 187 0 [(2, x0), (0, x1), (9, 0), (9, 0), (9, 0), (9, 0), (9, 0)] [] w Q ↔ (vkd w x0 = 13) ∧ VW d 187 9 [(2, x0), (0, x1), (1, (-1)), (9, 0), (9, 0), (9, 0), (9, 0)] [] (vsv w x0 9 0) Q :=
  (VW_b 5 (F := fun n => if vkd w x0 = 13 then vrun n d 187 9 [(2, x0), (0, x1), (1, (-1)), (9, 0), (9, 0), (9, 0), (9, 0)] [] (vsv w x0 9 0) else none) (fun _ => rfl)).trans (EX_if.trans (and_congr Iff.rfl (Iff.rfl)))
set_option maxRecDepth 100000 in
theorem b187_9 {d : Nat} {w : vW} {x0 x1 x2 : Int} {Q : Int → vW → Prop} : VW d 187 9 [(2, x0), (0, x1), (1, x2), (9, 0), (9, 0), (9, 0), (9, 0)] [] w Q ↔ VW d 187 12 [(2, x0), (0, x1), (1, x2), (9, 0), (0, 0), (9, 0), (9, 0)] [] w Q :=
  (VW_b 2 (F := fun n => vrun n d 187 12 [(2, x0), (0, x1), (1, x2), (9, 0), (0, 0), (9, 0), (9, 0)] [] w) (fun _ => rfl)).trans (Iff.rfl)
set_option maxRecDepth 100000 in
theorem b187_12 {d : Nat} {w : vW} {x0 x1 x2 x4 : Int} {v5 v6 : vV} {Q : Int → vW → Prop} : VW d 187 12 [(2, x0), (0, x1), (1, x2), (9, 0), (0, x4), v5, v6] [] w Q ↔ (vkd w x0 = 13) ∧ VC d 178 [(0, vct w x0 5), (0, x1)] w (fun r w1 => VW d 187 22 [(2, x0), (0, x1), (1, x2), (9, 0), (0, x4), v5, v6] [(0, r), (0, x4)] w1 Q) :=
  (VW_b 5 (F := fun n => if vkd w x0 = 13 then vclr (vrun n) d 187 22 178 2 0 [(2, x0), (0, x1), (1, x2), (9, 0), (0, x4), v5, v6] [(0, x1), (0, vct w x0 5), (0, x4)] w else none) (fun _ => rfl)).trans (EX_if.trans (and_congr Iff.rfl (EX_call rfl)))
set_option maxRecDepth 100000 in
theorem b187_22 {d : Nat} {w : vW} {x0 x1 x2 x4 y0 y1 : Int} {v5 v6 : vV} {Q : Int → vW → Prop} : VW d 187 22 [(2, x0), (0, x1), (1, x2), (9, 0), (0, x4), v5, v6] [(0, y1), (0, y0)] w Q ↔ ((y0 < y1 → VW d 187 25 [(2, x0), (0, x1), (1, x2), (9, 0), (0, x4), v5, v6] [] w Q) ∧ (¬ (y0 < y1) → VW d 187 82 [(2, x0), (0, x1), (1, x2), (9, 0), (0, x4), v5, v6] [] w Q)) :=
  (VW_b 1 (F := fun n => (if y0 < y1 then vrun n d 187 25 [(2, x0), (0, x1), (1, x2), (9, 0), (0, x4), v5, v6] [] w else vrun n d 187 82 [(2, x0), (0, x1), (1, x2), (9, 0), (0, x4), v5, v6] [] w)) (fun _ => rfl)).trans (EX_br.trans (and_congr (imp_congr Iff.rfl Iff.rfl) (imp_congr Iff.rfl Iff.rfl)))
set_option maxRecDepth 100000 in
theorem b187_25 {d : Nat} {w : vW} {x0 x1 x2 x4 : Int} {v5 v6 : vV} {Q : Int → vW → Prop} : VW d 187 25 [(2, x0), (0, x1), (1, x2), (9, 0), (0, x4), v5, v6] [] w Q ↔ (vkd w x0 = 13) ∧ VC d 185 [(2, x0), (0, x1), (0, x4)] w (fun r w1 => VW d 187 32 [(2, x0), (0, x1), (1, x2), (9, 0), (0, x4), v5, v6] [(1, r)] w1 Q) :=
  (VW_b 4 (F := fun n => if vkd w x0 = 13 then vclr (vrun n) d 187 32 185 3 1 [(2, x0), (0, x1), (1, x2), (9, 0), (0, x4), v5, v6] [(0, x4), (0, x1), (2, x0)] w else none) (fun _ => rfl)).trans (EX_if.trans (and_congr Iff.rfl (EX_call rfl)))
set_option maxRecDepth 100000 in
theorem b187_32 {d : Nat} {w : vW} {x0 x1 x2 x4 y0 : Int} {v5 v6 : vV} {Q : Int → vW → Prop} : VW d 187 32 [(2, x0), (0, x1), (1, x2), (9, 0), (0, x4), v5, v6] [(1, y0)] w Q ↔ (vkd w x0 = 13) ∧ (((vlc y0 0) = 0 → VW d 187 46 [(2, x0), (0, x1), (1, x2), (9, 0), (0, x4), (1, y0), (9, 0)] [(0, vct w x0 9), (2, x0)] w Q) ∧ (¬ ((vlc y0 0) = 0) → VW d 187 50 [(2, x0), (0, x1), (1, x2), (9, 0), (0, x4), (1, y0), (9, 0)] [(0, vct w x0 9), (2, x0)] w Q)) :=
  (VW_b 8 (F := fun n => if vkd w x0 = 13 then (if (vlc y0 0) = 0 then vrun n d 187 46 [(2, x0), (0, x1), (1, x2), (9, 0), (0, x4), (1, y0), (9, 0)] [(0, vct w x0 9), (2, x0)] w else vrun n d 187 50 [(2, x0), (0, x1), (1, x2), (9, 0), (0, x4), (1, y0), (9, 0)] [(0, vct w x0 9), (2, x0)] w) else none) (fun _ => rfl)).trans (EX_if.trans (and_congr Iff.rfl (EX_br.trans (and_congr (imp_congr Iff.rfl Iff.rfl) (imp_congr Iff.rfl Iff.rfl)))))
set_option maxRecDepth 100000 in
theorem b187_46 {d : Nat} {w : vW} {x0 x1 x2 x4 x5 y0 y1 : Int} {Q : Int → vW → Prop} : VW d 187 46 [(2, x0), (0, x1), (1, x2), (9, 0), (0, x4), (1, x5), (9, 0)] [(0, y1), (2, y0)] w Q ↔ VW d 187 51 [(2, x0), (0, x1), (1, x2), (9, 0), (0, x4), (1, x5), (9, 0)] [(0, 1), (0, y1), (2, y0)] w Q :=
  (VW_b 2 (F := fun n => vrun n d 187 51 [(2, x0), (0, x1), (1, x2), (9, 0), (0, x4), (1, x5), (9, 0)] [(0, 1), (0, y1), (2, y0)] w) (fun _ => rfl)).trans (Iff.rfl)
set_option maxRecDepth 100000 in
theorem b187_50 {d : Nat} {w : vW} {x0 x1 x2 x4 x5 y0 y1 : Int} {Q : Int → vW → Prop} : VW d 187 50 [(2, x0), (0, x1), (1, x2), (9, 0), (0, x4), (1, x5), (9, 0)] [(0, y1), (2, y0)] w Q ↔ VW d 187 51 [(2, x0), (0, x1), (1, x2), (9, 0), (0, x4), (1, x5), (9, 0)] [(0, 0), (0, y1), (2, y0)] w Q :=
  (VW_b 1 (F := fun n => vrun n d 187 51 [(2, x0), (0, x1), (1, x2), (9, 0), (0, x4), (1, x5), (9, 0)] [(0, 0), (0, y1), (2, y0)] w) (fun _ => rfl)).trans (Iff.rfl)
set_option maxRecDepth 100000 in
theorem b187_51 {d : Nat} {w : vW} {x0 x1 x2 x4 x5 y0 y1 y2 : Int} {Q : Int → vW → Prop} : VW d 187 51 [(2, x0), (0, x1), (1, x2), (9, 0), (0, x4), (1, x5), (9, 0)] [(0, y2), (0, y1), (2, y0)] w Q ↔ (vkd w y0 = 13) ∧ VW d 187 55 [(2, x0), (0, x1), (1, x2), (9, 0), (0, x4), (1, x5), (9, 0)] [] (vsv w y0 9 (w32 (y1 + y2))) Q :=
  (VW_b 2 (F := fun n => if vkd w y0 = 13 then vrun n d 187 55 [(2, x0), (0, x1), (1, x2), (9, 0), (0, x4), (1, x5), (9, 0)] [] (vsv w y0 9 (w32 (y1 + y2))) else none) (fun _ => rfl)).trans (EX_if.trans (and_congr Iff.rfl (Iff.rfl)))
set_option maxRecDepth 100000 in
theorem b187_55 {d : Nat} {w : vW} {x0 x1 x2 x4 x5 : Int} {Q : Int → vW → Prop} : VW d 187 55 [(2, x0), (0, x1), (1, x2), (9, 0), (0, x4), (1, x5), (9, 0)] [] w Q ↔ ((0 < (vlc x5 x2) → VW d 187 62 [(2, x0), (0, x1), (1, x2), (9, 0), (0, x4), (1, x5), (9, 0)] [] w Q) ∧ (¬ (0 < (vlc x5 x2)) → VW d 187 76 [(2, x0), (0, x1), (1, x2), (9, 0), (0, x4), (1, x5), (9, 0)] [] w Q)) :=
  (VW_b 4 (F := fun n => (if 0 < (vlc x5 x2) then vrun n d 187 62 [(2, x0), (0, x1), (1, x2), (9, 0), (0, x4), (1, x5), (9, 0)] [] w else vrun n d 187 76 [(2, x0), (0, x1), (1, x2), (9, 0), (0, x4), (1, x5), (9, 0)] [] w)) (fun _ => rfl)).trans (EX_br.trans (and_congr (imp_congr Iff.rfl Iff.rfl) (imp_congr Iff.rfl Iff.rfl)))
set_option maxRecDepth 100000 in
theorem b187_62 {d : Nat} {w : vW} {x0 x1 x2 x4 x5 : Int} {Q : Int → vW → Prop} : VW d 187 62 [(2, x0), (0, x1), (1, x2), (9, 0), (0, x4), (1, x5), (9, 0)] [] w Q ↔ (vkd w x0 = 13) ∧ VC d 181 [(2, x0), (0, x4), (0, x1)] w (fun r w1 => VW d 187 73 [(2, x0), (0, x1), (1, x5), (9, 0), (0, x4), (1, x5), (9, 0)] [(1, r), (2, x0)] w1 Q) :=
  (VW_b 7 (F := fun n => if vkd w x0 = 13 then vclr (vrun n) d 187 73 181 3 1 [(2, x0), (0, x1), (1, x5), (9, 0), (0, x4), (1, x5), (9, 0)] [(0, x1), (0, x4), (2, x0), (2, x0)] w else none) (fun _ => rfl)).trans (EX_if.trans (and_congr Iff.rfl (EX_call rfl)))
set_option maxRecDepth 100000 in
theorem b187_73 {d : Nat} {w : vW} {x0 x1 x2 x4 x5 y0 y1 : Int} {Q : Int → vW → Prop} : VW d 187 73 [(2, x0), (0, x1), (1, x2), (9, 0), (0, x4), (1, x5), (9, 0)] [(1, y1), (2, y0)] w Q ↔ (vkd w y0 = 13) ∧ VW d 187 76 [(2, x0), (0, x1), (1, x2), (9, 0), (0, x4), (1, x5), (9, 0)] [] (vsv w y0 8 y1) Q :=
  (VW_b 1 (F := fun n => if vkd w y0 = 13 then vrun n d 187 76 [(2, x0), (0, x1), (1, x2), (9, 0), (0, x4), (1, x5), (9, 0)] [] (vsv w y0 8 y1) else none) (fun _ => rfl)).trans (EX_if.trans (and_congr Iff.rfl (Iff.rfl)))
set_option maxRecDepth 100000 in
theorem b187_76 {d : Nat} {w : vW} {x0 x1 x2 x4 x5 : Int} {Q : Int → vW → Prop} : VW d 187 76 [(2, x0), (0, x1), (1, x2), (9, 0), (0, x4), (1, x5), (9, 0)] [] w Q ↔ VW d 187 12 [(2, x0), (0, x1), (1, x2), (9, 0), (0, w32 (x4 + 1)), (1, x5), (9, 0)] [] w Q :=
  (VW_b 2 (F := fun n => vrun n d 187 12 [(2, x0), (0, x1), (1, x2), (9, 0), (0, w32 (x4 + 1)), (1, x5), (9, 0)] [] w) (fun _ => rfl)).trans (Iff.rfl)
set_option maxRecDepth 100000 in
theorem b187_82 {d : Nat} {w : vW} {x0 x1 x2 x4 : Int} {v5 v6 : vV} {Q : Int → vW → Prop} : VW d 187 82 [(2, x0), (0, x1), (1, x2), (9, 0), (0, x4), v5, v6] [] w Q ↔ Q x2 w :=
  (VW_b 2 (F := fun n => some (0, x2, w)) (fun _ => rfl)).trans (EX_ret0)
/-! 188: StrikeWhatCancels$Finals.unlike(I)I -/
set_option maxRecDepth 100000 in
theorem b188_0 {d : Nat} {w : vW} {x0 x1 : Int} {Q : Int → vW → Prop} : VW d 188 0 [(2, x0), (0, x1), (9, 0), (9, 0), (9, 0), (9, 0), (9, 0)] [] w Q ↔ (vkd w x0 = 13) ∧ VC d 178 [(0, vct w x0 5), (0, x1)] w (fun r w1 => VW d 188 8 [(2, x0), (0, x1), (9, 0), (9, 0), (9, 0), (9, 0), (9, 0)] [(0, r)] w1 Q) :=
  (VW_b 4 (F := fun n => if vkd w x0 = 13 then vclr (vrun n) d 188 8 178 2 0 [(2, x0), (0, x1), (9, 0), (9, 0), (9, 0), (9, 0), (9, 0)] [(0, x1), (0, vct w x0 5)] w else none) (fun _ => rfl)).trans (EX_if.trans (and_congr Iff.rfl (EX_call rfl)))
set_option maxRecDepth 100000 in
theorem b188_8 {d : Nat} {w : vW} {x0 x1 y0 : Int} {Q : Int → vW → Prop} : VW d 188 8 [(2, x0), (0, x1), (9, 0), (9, 0), (9, 0), (9, 0), (9, 0)] [(0, y0)] w Q ↔ (vkd w x0 = 13) ∧ (vkd w (vct w x0 3) = 2) ∧ VW d 188 19 [(2, x0), (0, x1), (0, min y0 (vln w (vct w x0 3))), (0, 0), (9, 0), (9, 0), (9, 0)] [] w Q :=
  (VW_b 7 (F := fun n => if vkd w x0 = 13 then if vkd w (vct w x0 3) = 2 then vrun n d 188 19 [(2, x0), (0, x1), (0, min y0 (vln w (vct w x0 3))), (0, 0), (9, 0), (9, 0), (9, 0)] [] w else none else none) (fun _ => rfl)).trans (EX_if.trans (and_congr Iff.rfl (EX_if.trans (and_congr Iff.rfl (Iff.rfl)))))
set_option maxRecDepth 100000 in
theorem b188_19 {d : Nat} {w : vW} {x0 x1 x2 x3 : Int} {Q : Int → vW → Prop} : VW d 188 19 [(2, x0), (0, x1), (0, x2), (0, x3), (9, 0), (9, 0), (9, 0)] [] w Q ↔ ((x3 < x2 → VW d 188 24 [(2, x0), (0, x1), (0, x2), (0, x3), (9, 0), (9, 0), (9, 0)] [] w Q) ∧ (¬ (x3 < x2) → VW d 188 42 [(2, x0), (0, x1), (0, x2), (0, x3), (9, 0), (9, 0), (9, 0)] [] w Q)) :=
  (VW_b 3 (F := fun n => (if x3 < x2 then vrun n d 188 24 [(2, x0), (0, x1), (0, x2), (0, x3), (9, 0), (9, 0), (9, 0)] [] w else vrun n d 188 42 [(2, x0), (0, x1), (0, x2), (0, x3), (9, 0), (9, 0), (9, 0)] [] w)) (fun _ => rfl)).trans (EX_br.trans (and_congr (imp_congr Iff.rfl Iff.rfl) (imp_congr Iff.rfl Iff.rfl)))
set_option maxRecDepth 100000 in
theorem b188_24 {d : Nat} {w : vW} {x0 x1 x2 x3 : Int} {Q : Int → vW → Prop} : VW d 188 24 [(2, x0), (0, x1), (0, x2), (0, x3), (9, 0), (9, 0), (9, 0)] [] w Q ↔ (vkd w x0 = 13) ∧ (vkd w x0 = 13) ∧ VC d 184 [(2, x0), (0, x1), (0, x3)] w (fun r w1 => VW d 188 35 [(2, x0), (0, x1), (0, x2), (0, x3), (9, 0), (9, 0), (9, 0)] [(1, r), (0, x3), (2, vct w x0 3)] w1 Q) :=
  (VW_b 7 (F := fun n => if vkd w x0 = 13 then if vkd w x0 = 13 then vclr (vrun n) d 188 35 184 3 1 [(2, x0), (0, x1), (0, x2), (0, x3), (9, 0), (9, 0), (9, 0)] [(0, x3), (0, x1), (2, x0), (0, x3), (2, vct w x0 3)] w else none else none) (fun _ => rfl)).trans (EX_if.trans (and_congr Iff.rfl (EX_if.trans (and_congr Iff.rfl (EX_call rfl)))))
set_option maxRecDepth 100000 in
theorem b188_35 {d : Nat} {w : vW} {x0 x1 x2 x3 y0 y1 y2 : Int} {Q : Int → vW → Prop} : VW d 188 35 [(2, x0), (0, x1), (0, x2), (0, x3), (9, 0), (9, 0), (9, 0)] [(1, y2), (0, y1), (2, y0)] w Q ↔ (vkd w y0 = 2 ∧ (0 : Int) ≤ y1 ∧ y1 < vln w y0) ∧ VW d 188 36 [(2, x0), (0, x1), (0, x2), (0, x3), (9, 0), (9, 0), (9, 0)] [] (vsv w y0 y1 y2) Q :=
  (VW_b 1 (F := fun n => if vkd w y0 = 2 ∧ (0 : Int) ≤ y1 ∧ y1 < vln w y0 then vrun n d 188 36 [(2, x0), (0, x1), (0, x2), (0, x3), (9, 0), (9, 0), (9, 0)] [] (vsv w y0 y1 y2) else none) (fun _ => rfl)).trans (EX_if.trans (and_congr Iff.rfl (Iff.rfl)))
set_option maxRecDepth 100000 in
theorem b188_36 {d : Nat} {w : vW} {x0 x1 x2 x3 : Int} {Q : Int → vW → Prop} : VW d 188 36 [(2, x0), (0, x1), (0, x2), (0, x3), (9, 0), (9, 0), (9, 0)] [] w Q ↔ VW d 188 19 [(2, x0), (0, x1), (0, x2), (0, w32 (x3 + 1)), (9, 0), (9, 0), (9, 0)] [] w Q :=
  (VW_b 2 (F := fun n => vrun n d 188 19 [(2, x0), (0, x1), (0, x2), (0, w32 (x3 + 1)), (9, 0), (9, 0), (9, 0)] [] w) (fun _ => rfl)).trans (Iff.rfl)
set_option maxRecDepth 100000 in
theorem b188_42 {d : Nat} {w : vW} {x0 x1 x2 x3 : Int} {Q : Int → vW → Prop} : VW d 188 42 [(2, x0), (0, x1), (0, x2), (0, x3), (9, 0), (9, 0), (9, 0)] [] w Q ↔ (vkd w x0 = 13) ∧ VC d 282 [(2, vct w x0 3), (0, x2)] w (fun _ w1 => VW d 188 50 [(2, x0), (0, x1), (0, x2), (0, x3), (9, 0), (9, 0), (9, 0)] [] w1 Q) :=
  (VW_b 4 (F := fun n => if vkd w x0 = 13 then vclr (vrun n) d 188 50 282 2 9 [(2, x0), (0, x1), (0, x2), (0, x3), (9, 0), (9, 0), (9, 0)] [(0, x2), (2, vct w x0 3)] w else none) (fun _ => rfl)).trans (EX_if.trans (and_congr Iff.rfl (EX_call rfl)))
set_option maxRecDepth 100000 in
theorem b188_50 {d : Nat} {w : vW} {x0 x1 x2 x3 : Int} {Q : Int → vW → Prop} : VW d 188 50 [(2, x0), (0, x1), (0, x2), (0, x3), (9, 0), (9, 0), (9, 0)] [] w Q ↔ (vkd w x0 = 13) ∧ VW d 188 60 [(2, x0), (0, x1), (0, x2), (0, 0), (0, 0), (9, 0), (9, 0)] [] (vsv w x0 9 0) Q :=
  (VW_b 7 (F := fun n => if vkd w x0 = 13 then vrun n d 188 60 [(2, x0), (0, x1), (0, x2), (0, 0), (0, 0), (9, 0), (9, 0)] [] (vsv w x0 9 0) else none) (fun _ => rfl)).trans (EX_if.trans (and_congr Iff.rfl (Iff.rfl)))
set_option maxRecDepth 100000 in
theorem b188_60 {d : Nat} {w : vW} {x0 x1 x2 x3 x4 : Int} {Q : Int → vW → Prop} : VW d 188 60 [(2, x0), (0, x1), (0, x2), (0, x3), (0, x4), (9, 0), (9, 0)] [] w Q ↔ VW d 188 63 [(2, x0), (0, x1), (0, x2), (0, x3), (0, x4), (0, 0), (9, 0)] [] w Q :=
  (VW_b 2 (F := fun n => vrun n d 188 63 [(2, x0), (0, x1), (0, x2), (0, x3), (0, x4), (0, 0), (9, 0)] [] w) (fun _ => rfl)).trans (Iff.rfl)
set_option maxRecDepth 100000 in
theorem b188_63 {d : Nat} {w : vW} {x0 x1 x2 x3 x4 x5 : Int} {v6 : vV} {Q : Int → vW → Prop} : VW d 188 63 [(2, x0), (0, x1), (0, x2), (0, x3), (0, x4), (0, x5), v6] [] w Q ↔ ((x5 < x2 → VW d 188 69 [(2, x0), (0, x1), (0, x2), (0, x3), (0, x4), (0, x5), v6] [] w Q) ∧ (¬ (x5 < x2) → VW d 188 161 [(2, x0), (0, x1), (0, x2), (0, x3), (0, x4), (0, x5), v6] [] w Q)) :=
  (VW_b 3 (F := fun n => (if x5 < x2 then vrun n d 188 69 [(2, x0), (0, x1), (0, x2), (0, x3), (0, x4), (0, x5), v6] [] w else vrun n d 188 161 [(2, x0), (0, x1), (0, x2), (0, x3), (0, x4), (0, x5), v6] [] w)) (fun _ => rfl)).trans (EX_br.trans (and_congr (imp_congr Iff.rfl Iff.rfl) (imp_congr Iff.rfl Iff.rfl)))
set_option maxRecDepth 100000 in
theorem b188_69 {d : Nat} {w : vW} {x0 x1 x2 x3 x4 x5 : Int} {v6 : vV} {Q : Int → vW → Prop} : VW d 188 69 [(2, x0), (0, x1), (0, x2), (0, x3), (0, x4), (0, x5), v6] [] w Q ↔ ((x5 = 0 → VW d 188 94 [(2, x0), (0, x1), (0, x2), (0, x3), (0, x4), (0, x5), v6] [] w Q) ∧ (¬ (x5 = 0) → VW d 188 74 [(2, x0), (0, x1), (0, x2), (0, x3), (0, x4), (0, x5), v6] [] w Q)) :=
  (VW_b 2 (F := fun n => (if x5 = 0 then vrun n d 188 94 [(2, x0), (0, x1), (0, x2), (0, x3), (0, x4), (0, x5), v6] [] w else vrun n d 188 74 [(2, x0), (0, x1), (0, x2), (0, x3), (0, x4), (0, x5), v6] [] w)) (fun _ => rfl)).trans (EX_br.trans (and_congr (imp_congr Iff.rfl Iff.rfl) (imp_congr Iff.rfl Iff.rfl)))
set_option maxRecDepth 100000 in
theorem b188_74 {d : Nat} {w : vW} {x0 x1 x2 x3 x4 x5 : Int} {v6 : vV} {Q : Int → vW → Prop} : VW d 188 74 [(2, x0), (0, x1), (0, x2), (0, x3), (0, x4), (0, x5), v6] [] w Q ↔ (vkd w x0 = 13) ∧ (vkd w (vct w x0 3) = 2 ∧ (0 : Int) ≤ x5 ∧ x5 < vln w (vct w x0 3)) ∧ (vkd w x0 = 13) ∧ (vkd w (vct w x0 3) = 2 ∧ (0 : Int) ≤ (w32 (x5 - 1)) ∧ (w32 (x5 - 1)) < vln w (vct w x0 3)) ∧ (((vlc (vct w (vct w x0 3) x5) (vct w (vct w x0 3) (w32 (x5 - 1)))) = 0 → VW d 188 98 [(2, x0), (0, x1), (0, x2), (0, x3), (0, x4), (0, x5), v6] [] w Q) ∧ (¬ ((vlc (vct w (vct w x0 3) x5) (vct w (vct w x0 3) (w32 (x5 - 1)))) = 0) → VW d 188 94 [(2, x0), (0, x1), (0, x2), (0, x3), (0, x4), (0, x5), v6] [] w Q)) :=
  (VW_b 12 (F := fun n => if vkd w x0 = 13 then if vkd w (vct w x0 3) = 2 ∧ (0 : Int) ≤ x5 ∧ x5 < vln w (vct w x0 3) then if vkd w x0 = 13 then if vkd w (vct w x0 3) = 2 ∧ (0 : Int) ≤ (w32 (x5 - 1)) ∧ (w32 (x5 - 1)) < vln w (vct w x0 3) then (if (vlc (vct w (vct w x0 3) x5) (vct w (vct w x0 3) (w32 (x5 - 1)))) = 0 then vrun n d 188 98 [(2, x0), (0, x1), (0, x2), (0, x3), (0, x4), (0, x5), v6] [] w else vrun n d 188 94 [(2, x0), (0, x1), (0, x2), (0, x3), (0, x4), (0, x5), v6] [] w) else none else none else none else none) (fun _ => rfl)).trans (EX_if.trans (and_congr Iff.rfl (EX_if.trans (and_congr Iff.rfl (EX_if.trans (and_congr Iff.rfl (EX_if.trans (and_congr Iff.rfl (EX_br.trans (and_congr (imp_congr Iff.rfl Iff.rfl) (imp_congr Iff.rfl Iff.rfl)))))))))))
set_option maxRecDepth 100000 in
theorem b188_94 {d : Nat} {w : vW} {x0 x1 x2 x3 x4 x5 : Int} {v6 : vV} {Q : Int → vW → Prop} : VW d 188 94 [(2, x0), (0, x1), (0, x2), (0, x3), (0, x4), (0, x5), v6] [] w Q ↔ VW d 188 99 [(2, x0), (0, x1), (0, x2), (0, x3), (0, x4), (0, x5), v6] [(0, 1)] w Q :=
  (VW_b 2 (F := fun n => vrun n d 188 99 [(2, x0), (0, x1), (0, x2), (0, x3), (0, x4), (0, x5), v6] [(0, 1)] w) (fun _ => rfl)).trans (Iff.rfl)
set_option maxRecDepth 100000 in
theorem b188_98 {d : Nat} {w : vW} {x0 x1 x2 x3 x4 x5 : Int} {v6 : vV} {Q : Int → vW → Prop} : VW d 188 98 [(2, x0), (0, x1), (0, x2), (0, x3), (0, x4), (0, x5), v6] [] w Q ↔ VW d 188 99 [(2, x0), (0, x1), (0, x2), (0, x3), (0, x4), (0, x5), v6] [(0, 0)] w Q :=
  (VW_b 1 (F := fun n => vrun n d 188 99 [(2, x0), (0, x1), (0, x2), (0, x3), (0, x4), (0, x5), v6] [(0, 0)] w) (fun _ => rfl)).trans (Iff.rfl)
set_option maxRecDepth 100000 in
theorem b188_99 {d : Nat} {w : vW} {x0 x1 x2 x3 x4 x5 y0 : Int} {v6 : vV} {Q : Int → vW → Prop} : VW d 188 99 [(2, x0), (0, x1), (0, x2), (0, x3), (0, x4), (0, x5), v6] [(0, y0)] w Q ↔ ((y0 = 0 → VW d 188 111 [(2, x0), (0, x1), (0, x2), (0, x3), (0, x4), (0, x5), (0, y0)] [(0, x3)] w Q) ∧ (¬ (y0 = 0) → VW d 188 107 [(2, x0), (0, x1), (0, x2), (0, x3), (0, x4), (0, x5), (0, y0)] [(0, x3)] w Q)) :=
  (VW_b 4 (F := fun n => (if y0 = 0 then vrun n d 188 111 [(2, x0), (0, x1), (0, x2), (0, x3), (0, x4), (0, x5), (0, y0)] [(0, x3)] w else vrun n d 188 107 [(2, x0), (0, x1), (0, x2), (0, x3), (0, x4), (0, x5), (0, y0)] [(0, x3)] w)) (fun _ => rfl)).trans (EX_br.trans (and_congr (imp_congr Iff.rfl Iff.rfl) (imp_congr Iff.rfl Iff.rfl)))
set_option maxRecDepth 100000 in
theorem b188_107 {d : Nat} {w : vW} {x0 x1 x2 x3 x4 x5 x6 y0 : Int} {Q : Int → vW → Prop} : VW d 188 107 [(2, x0), (0, x1), (0, x2), (0, x3), (0, x4), (0, x5), (0, x6)] [(0, y0)] w Q ↔ VW d 188 112 [(2, x0), (0, x1), (0, x2), (0, x3), (0, x4), (0, x5), (0, x6)] [(0, 1), (0, y0)] w Q :=
  (VW_b 2 (F := fun n => vrun n d 188 112 [(2, x0), (0, x1), (0, x2), (0, x3), (0, x4), (0, x5), (0, x6)] [(0, 1), (0, y0)] w) (fun _ => rfl)).trans (Iff.rfl)
set_option maxRecDepth 100000 in
theorem b188_111 {d : Nat} {w : vW} {x0 x1 x2 x3 x4 x5 x6 y0 : Int} {Q : Int → vW → Prop} : VW d 188 111 [(2, x0), (0, x1), (0, x2), (0, x3), (0, x4), (0, x5), (0, x6)] [(0, y0)] w Q ↔ VW d 188 112 [(2, x0), (0, x1), (0, x2), (0, x3), (0, x4), (0, x5), (0, x6)] [(0, 0), (0, y0)] w Q :=
  (VW_b 1 (F := fun n => vrun n d 188 112 [(2, x0), (0, x1), (0, x2), (0, x3), (0, x4), (0, x5), (0, x6)] [(0, 0), (0, y0)] w) (fun _ => rfl)).trans (Iff.rfl)
set_option maxRecDepth 100000 in
theorem b188_112 {d : Nat} {w : vW} {x0 x1 x2 x3 x4 x5 x6 y0 y1 : Int} {Q : Int → vW → Prop} : VW d 188 112 [(2, x0), (0, x1), (0, x2), (0, x3), (0, x4), (0, x5), (0, x6)] [(0, y1), (0, y0)] w Q ↔ ((x6 = 0 → VW d 188 123 [(2, x0), (0, x1), (0, x2), (0, w32 (y0 + y1)), (0, x4), (0, x5), (0, x6)] [] w Q) ∧ (¬ (x6 = 0) → VW d 188 119 [(2, x0), (0, x1), (0, x2), (0, w32 (y0 + y1)), (0, x4), (0, x5), (0, x6)] [] w Q)) :=
  (VW_b 4 (F := fun n => (if x6 = 0 then vrun n d 188 123 [(2, x0), (0, x1), (0, x2), (0, w32 (y0 + y1)), (0, x4), (0, x5), (0, x6)] [] w else vrun n d 188 119 [(2, x0), (0, x1), (0, x2), (0, w32 (y0 + y1)), (0, x4), (0, x5), (0, x6)] [] w)) (fun _ => rfl)).trans (EX_br.trans (and_congr (imp_congr Iff.rfl Iff.rfl) (imp_congr Iff.rfl Iff.rfl)))
set_option maxRecDepth 100000 in
theorem b188_119 {d : Nat} {w : vW} {x0 x1 x2 x3 x4 x5 x6 : Int} {Q : Int → vW → Prop} : VW d 188 119 [(2, x0), (0, x1), (0, x2), (0, x3), (0, x4), (0, x5), (0, x6)] [] w Q ↔ VW d 188 127 [(2, x0), (0, x1), (0, x2), (0, x3), (0, x4), (0, x5), (0, x6)] [(0, 1)] w Q :=
  (VW_b 2 (F := fun n => vrun n d 188 127 [(2, x0), (0, x1), (0, x2), (0, x3), (0, x4), (0, x5), (0, x6)] [(0, 1)] w) (fun _ => rfl)).trans (Iff.rfl)
set_option maxRecDepth 100000 in
theorem b188_123 {d : Nat} {w : vW} {x0 x1 x2 x3 x4 x5 x6 : Int} {Q : Int → vW → Prop} : VW d 188 123 [(2, x0), (0, x1), (0, x2), (0, x3), (0, x4), (0, x5), (0, x6)] [] w Q ↔ VW d 188 127 [(2, x0), (0, x1), (0, x2), (0, x3), (0, x4), (0, x5), (0, x6)] [(0, w32 (x4 + 1))] w Q :=
  (VW_b 3 (F := fun n => vrun n d 188 127 [(2, x0), (0, x1), (0, x2), (0, x3), (0, x4), (0, x5), (0, x6)] [(0, w32 (x4 + 1))] w) (fun _ => rfl)).trans (Iff.rfl)
set_option maxRecDepth 100000 in
theorem b188_127 {d : Nat} {w : vW} {x0 x1 x2 x3 x4 x5 x6 y0 : Int} {Q : Int → vW → Prop} : VW d 188 127 [(2, x0), (0, x1), (0, x2), (0, x3), (0, x4), (0, x5), (0, x6)] [(0, y0)] w Q ↔ (vkd w x0 = 13) ∧ (((vct w x0 9) < y0 → VW d 188 138 [(2, x0), (0, x1), (0, x2), (0, x3), (0, y0), (0, x5), (0, x6)] [] w Q) ∧ (¬ ((vct w x0 9) < y0) → VW d 188 155 [(2, x0), (0, x1), (0, x2), (0, x3), (0, y0), (0, x5), (0, x6)] [] w Q)) :=
  (VW_b 5 (F := fun n => if vkd w x0 = 13 then (if (vct w x0 9) < y0 then vrun n d 188 138 [(2, x0), (0, x1), (0, x2), (0, x3), (0, y0), (0, x5), (0, x6)] [] w else vrun n d 188 155 [(2, x0), (0, x1), (0, x2), (0, x3), (0, y0), (0, x5), (0, x6)] [] w) else none) (fun _ => rfl)).trans (EX_if.trans (and_congr Iff.rfl (EX_br.trans (and_congr (imp_congr Iff.rfl Iff.rfl) (imp_congr Iff.rfl Iff.rfl)))))
set_option maxRecDepth 100000 in
theorem b188_138 {d : Nat} {w : vW} {x0 x1 x2 x3 x4 x5 x6 : Int} {Q : Int → vW → Prop} : VW d 188 138 [(2, x0), (0, x1), (0, x2), (0, x3), (0, x4), (0, x5), (0, x6)] [] w Q ↔ (vkd w x0 = 13) ∧ VW d 188 144 [(2, x0), (0, x1), (0, x2), (0, x3), (0, x4), (0, x5), (0, x6)] [] (vsv w x0 9 x4) Q :=
  (VW_b 3 (F := fun n => if vkd w x0 = 13 then vrun n d 188 144 [(2, x0), (0, x1), (0, x2), (0, x3), (0, x4), (0, x5), (0, x6)] [] (vsv w x0 9 x4) else none) (fun _ => rfl)).trans (EX_if.trans (and_congr Iff.rfl (Iff.rfl)))
set_option maxRecDepth 100000 in
theorem b188_144 {d : Nat} {w : vW} {x0 x1 x2 x3 x4 x5 x6 : Int} {Q : Int → vW → Prop} : VW d 188 144 [(2, x0), (0, x1), (0, x2), (0, x3), (0, x4), (0, x5), (0, x6)] [] w Q ↔ (vkd w x0 = 13) ∧ (vkd w (vct w x0 3) = 2 ∧ (0 : Int) ≤ x5 ∧ x5 < vln w (vct w x0 3)) ∧ (vkd w x0 = 13) ∧ VW d 188 155 [(2, x0), (0, x1), (0, x2), (0, x3), (0, x4), (0, x5), (0, x6)] [] (vsv w x0 8 (vct w (vct w x0 3) x5)) Q :=
  (VW_b 6 (F := fun n => if vkd w x0 = 13 then if vkd w (vct w x0 3) = 2 ∧ (0 : Int) ≤ x5 ∧ x5 < vln w (vct w x0 3) then if vkd w x0 = 13 then vrun n d 188 155 [(2, x0), (0, x1), (0, x2), (0, x3), (0, x4), (0, x5), (0, x6)] [] (vsv w x0 8 (vct w (vct w x0 3) x5)) else none else none else none) (fun _ => rfl)).trans (EX_if.trans (and_congr Iff.rfl (EX_if.trans (and_congr Iff.rfl (EX_if.trans (and_congr Iff.rfl (Iff.rfl)))))))
set_option maxRecDepth 100000 in
theorem b188_155 {d : Nat} {w : vW} {x0 x1 x2 x3 x4 x5 x6 : Int} {Q : Int → vW → Prop} : VW d 188 155 [(2, x0), (0, x1), (0, x2), (0, x3), (0, x4), (0, x5), (0, x6)] [] w Q ↔ VW d 188 63 [(2, x0), (0, x1), (0, x2), (0, x3), (0, x4), (0, w32 (x5 + 1)), (0, x6)] [] w Q :=
  (VW_b 2 (F := fun n => vrun n d 188 63 [(2, x0), (0, x1), (0, x2), (0, x3), (0, x4), (0, w32 (x5 + 1)), (0, x6)] [] w) (fun _ => rfl)).trans (Iff.rfl)
set_option maxRecDepth 100000 in
theorem b188_161 {d : Nat} {w : vW} {x0 x1 x2 x3 x4 x5 : Int} {v6 : vV} {Q : Int → vW → Prop} : VW d 188 161 [(2, x0), (0, x1), (0, x2), (0, x3), (0, x4), (0, x5), v6] [] w Q ↔ Q x3 w :=
  (VW_b 2 (F := fun n => some (0, x3, w)) (fun _ => rfl)).trans (EX_ret0)
/-! 189: StrikeWhatCancels$Finals.unlikeThose(LStrikeWhatCancels$Finals;I)I -/
set_option maxRecDepth 100000 in
theorem b189_0 {d : Nat} {w : vW} {x0 x1 x2 : Int} {Q : Int → vW → Prop} : VW d 189 0 [(2, x0), (2, x1), (0, x2), (9, 0), (9, 0)] [] w Q ↔ (vkd w x0 = 13) ∧ VC d 178 [(0, vct w x0 5), (0, x2)] w (fun r w1 => VW d 189 10 [(2, x0), (2, x1), (0, x2), (0, 0), (9, 0)] [(0, r)] w1 Q) :=
  (VW_b 6 (F := fun n => if vkd w x0 = 13 then vclr (vrun n) d 189 10 178 2 0 [(2, x0), (2, x1), (0, x2), (0, 0), (9, 0)] [(0, x2), (0, vct w x0 5)] w else none) (fun _ => rfl)).trans (EX_if.trans (and_congr Iff.rfl (EX_call rfl)))
set_option maxRecDepth 100000 in
theorem b189_10 {d : Nat} {w : vW} {x0 x1 x2 x3 y0 : Int} {Q : Int → vW → Prop} : VW d 189 10 [(2, x0), (2, x1), (0, x2), (0, x3), (9, 0)] [(0, y0)] w Q ↔ VW d 189 14 [(2, x0), (2, x1), (0, x2), (0, x3), (0, w32 (y0 - 1))] [] w Q :=
  (VW_b 3 (F := fun n => vrun n d 189 14 [(2, x0), (2, x1), (0, x2), (0, x3), (0, w32 (y0 - 1))] [] w) (fun _ => rfl)).trans (Iff.rfl)
set_option maxRecDepth 100000 in
theorem b189_14 {d : Nat} {w : vW} {x0 x1 x2 x3 x4 : Int} {Q : Int → vW → Prop} : VW d 189 14 [(2, x0), (2, x1), (0, x2), (0, x3), (0, x4)] [] w Q ↔ ((x4 < 0 → VW d 189 57 [(2, x0), (2, x1), (0, x2), (0, x3), (0, x4)] [] w Q) ∧ (¬ (x4 < 0) → VW d 189 19 [(2, x0), (2, x1), (0, x2), (0, x3), (0, x4)] [] w Q)) :=
  (VW_b 2 (F := fun n => (if x4 < 0 then vrun n d 189 57 [(2, x0), (2, x1), (0, x2), (0, x3), (0, x4)] [] w else vrun n d 189 19 [(2, x0), (2, x1), (0, x2), (0, x3), (0, x4)] [] w)) (fun _ => rfl)).trans (EX_br.trans (and_congr (imp_congr Iff.rfl Iff.rfl) (imp_congr Iff.rfl Iff.rfl)))
set_option maxRecDepth 100000 in
theorem b189_19 {d : Nat} {w : vW} {x0 x1 x2 x3 x4 : Int} {Q : Int → vW → Prop} : VW d 189 19 [(2, x0), (2, x1), (0, x2), (0, x3), (0, x4)] [] w Q ↔ (vkd w x0 = 13) ∧ VC d 184 [(2, x0), (0, x2), (0, x4)] w (fun r w1 => VW d 189 26 [(2, x0), (2, x1), (0, x2), (0, x3), (0, x4)] [(1, r)] w1 Q) :=
  (VW_b 4 (F := fun n => if vkd w x0 = 13 then vclr (vrun n) d 189 26 184 3 1 [(2, x0), (2, x1), (0, x2), (0, x3), (0, x4)] [(0, x4), (0, x2), (2, x0)] w else none) (fun _ => rfl)).trans (EX_if.trans (and_congr Iff.rfl (EX_call rfl)))
set_option maxRecDepth 100000 in
theorem b189_26 {d : Nat} {w : vW} {x0 x1 x2 x3 x4 y0 : Int} {Q : Int → vW → Prop} : VW d 189 26 [(2, x0), (2, x1), (0, x2), (0, x3), (0, x4)] [(1, y0)] w Q ↔ (vkd w x1 = 13) ∧ VC d 184 [(2, x1), (0, x2), (0, x4)] w (fun r w1 => VW d 189 33 [(2, x0), (2, x1), (0, x2), (0, x3), (0, x4)] [(1, r), (1, y0)] w1 Q) :=
  (VW_b 4 (F := fun n => if vkd w x1 = 13 then vclr (vrun n) d 189 33 184 3 1 [(2, x0), (2, x1), (0, x2), (0, x3), (0, x4)] [(0, x4), (0, x2), (2, x1), (1, y0)] w else none) (fun _ => rfl)).trans (EX_if.trans (and_congr Iff.rfl (EX_call rfl)))
set_option maxRecDepth 100000 in
theorem b189_33 {d : Nat} {w : vW} {x0 x1 x2 x3 x4 y0 y1 : Int} {Q : Int → vW → Prop} : VW d 189 33 [(2, x0), (2, x1), (0, x2), (0, x3), (0, x4)] [(1, y1), (1, y0)] w Q ↔ (((vlc y0 y1) = 0 → VW d 189 51 [(2, x0), (2, x1), (0, x2), (0, x3), (0, x4)] [] w Q) ∧ (¬ ((vlc y0 y1) = 0) → VW d 189 37 [(2, x0), (2, x1), (0, x2), (0, x3), (0, x4)] [] w Q)) :=
  (VW_b 2 (F := fun n => (if (vlc y0 y1) = 0 then vrun n d 189 51 [(2, x0), (2, x1), (0, x2), (0, x3), (0, x4)] [] w else vrun n d 189 37 [(2, x0), (2, x1), (0, x2), (0, x3), (0, x4)] [] w)) (fun _ => rfl)).trans (EX_br.trans (and_congr (imp_congr Iff.rfl Iff.rfl) (imp_congr Iff.rfl Iff.rfl)))
set_option maxRecDepth 100000 in
theorem b189_37 {d : Nat} {w : vW} {x0 x1 x2 x3 x4 : Int} {Q : Int → vW → Prop} : VW d 189 37 [(2, x0), (2, x1), (0, x2), (0, x3), (0, x4)] [] w Q ↔ (vkd w x0 = 13) ∧ VC d 181 [(2, x0), (0, x4), (0, x2)] w (fun r w1 => VW d 189 45 [(2, x0), (2, x1), (0, x2), (0, x3), (0, x4)] [(1, r), (2, x0)] w1 Q) :=
  (VW_b 5 (F := fun n => if vkd w x0 = 13 then vclr (vrun n) d 189 45 181 3 1 [(2, x0), (2, x1), (0, x2), (0, x3), (0, x4)] [(0, x2), (0, x4), (2, x0), (2, x0)] w else none) (fun _ => rfl)).trans (EX_if.trans (and_congr Iff.rfl (EX_call rfl)))
set_option maxRecDepth 100000 in
theorem b189_45 {d : Nat} {w : vW} {x0 x1 x2 x3 x4 y0 y1 : Int} {Q : Int → vW → Prop} : VW d 189 45 [(2, x0), (2, x1), (0, x2), (0, x3), (0, x4)] [(1, y1), (2, y0)] w Q ↔ (vkd w y0 = 13) ∧ VW d 189 48 [(2, x0), (2, x1), (0, x2), (0, x3), (0, x4)] [] (vsv w y0 8 y1) Q :=
  (VW_b 1 (F := fun n => if vkd w y0 = 13 then vrun n d 189 48 [(2, x0), (2, x1), (0, x2), (0, x3), (0, x4)] [] (vsv w y0 8 y1) else none) (fun _ => rfl)).trans (EX_if.trans (and_congr Iff.rfl (Iff.rfl)))
set_option maxRecDepth 100000 in
theorem b189_48 {d : Nat} {w : vW} {x0 x1 x2 x3 x4 : Int} {Q : Int → vW → Prop} : VW d 189 48 [(2, x0), (2, x1), (0, x2), (0, x3), (0, x4)] [] w Q ↔ VW d 189 51 [(2, x0), (2, x1), (0, x2), (0, w32 (x3 + 1)), (0, x4)] [] w Q :=
  (VW_b 1 (F := fun n => vrun n d 189 51 [(2, x0), (2, x1), (0, x2), (0, w32 (x3 + 1)), (0, x4)] [] w) (fun _ => rfl)).trans (Iff.rfl)
set_option maxRecDepth 100000 in
theorem b189_51 {d : Nat} {w : vW} {x0 x1 x2 x3 x4 : Int} {Q : Int → vW → Prop} : VW d 189 51 [(2, x0), (2, x1), (0, x2), (0, x3), (0, x4)] [] w Q ↔ VW d 189 14 [(2, x0), (2, x1), (0, x2), (0, x3), (0, w32 (x4 + (-1)))] [] w Q :=
  (VW_b 2 (F := fun n => vrun n d 189 14 [(2, x0), (2, x1), (0, x2), (0, x3), (0, w32 (x4 + (-1)))] [] w) (fun _ => rfl)).trans (Iff.rfl)
set_option maxRecDepth 100000 in
theorem b189_57 {d : Nat} {w : vW} {x0 x1 x2 x3 x4 : Int} {Q : Int → vW → Prop} : VW d 189 57 [(2, x0), (2, x1), (0, x2), (0, x3), (0, x4)] [] w Q ↔ Q x3 w :=
  (VW_b 2 (F := fun n => some (0, x3, w)) (fun _ => rfl)).trans (EX_ret0)
/-! 190: StrikeWhatCancels$Leaps.<init>()V -/
set_option maxRecDepth 100000 in
theorem b190_0 {d : Nat} {w : vW} {x0 : Int} {Q : Int → vW → Prop} : VW d 190 0 [(2, x0)] [] w Q ↔ (vkd w x0 ≠ 0) ∧ VW d 190 10 [(2, x0)] [(2, vnt w), (2, x0)] (vnw w 2 16384 (fun _ => 0) (16384 : Int).toNat) Q :=
  (VW_b 5 (F := fun n => if vkd w x0 ≠ 0 then vrun n d 190 10 [(2, x0)] [(2, vnt w), (2, x0)] (vnw w 2 16384 (fun _ => 0) (16384 : Int).toNat) else none) (fun _ => rfl)).trans (EX_if.trans (and_congr Iff.rfl (Iff.rfl)))
set_option maxRecDepth 100000 in
theorem b190_10 {d : Nat} {w : vW} {x0 y0 y1 : Int} {Q : Int → vW → Prop} : VW d 190 10 [(2, x0)] [(2, y1), (2, y0)] w Q ↔ (vkd w y0 = 14) ∧ VW d 190 13 [(2, x0)] [] (vsv w y0 0 y1) Q :=
  (VW_b 1 (F := fun n => if vkd w y0 = 14 then vrun n d 190 13 [(2, x0)] [] (vsv w y0 0 y1) else none) (fun _ => rfl)).trans (EX_if.trans (and_congr Iff.rfl (Iff.rfl)))
set_option maxRecDepth 100000 in
theorem b190_13 {d : Nat} {w : vW} {x0 : Int} {Q : Int → vW → Prop} : VW d 190 13 [(2, x0)] [] w Q ↔ VW d 190 19 [(2, x0)] [(2, vnt w), (2, x0)] (vnw w 2 16384 (fun _ => 0) (16384 : Int).toNat) Q :=
  (VW_b 3 (F := fun n => vrun n d 190 19 [(2, x0)] [(2, vnt w), (2, x0)] (vnw w 2 16384 (fun _ => 0) (16384 : Int).toNat)) (fun _ => rfl)).trans (Iff.rfl)
set_option maxRecDepth 100000 in
theorem b190_19 {d : Nat} {w : vW} {x0 y0 y1 : Int} {Q : Int → vW → Prop} : VW d 190 19 [(2, x0)] [(2, y1), (2, y0)] w Q ↔ (vkd w y0 = 14) ∧ VW d 190 22 [(2, x0)] [] (vsv w y0 1 y1) Q :=
  (VW_b 1 (F := fun n => if vkd w y0 = 14 then vrun n d 190 22 [(2, x0)] [] (vsv w y0 1 y1) else none) (fun _ => rfl)).trans (EX_if.trans (and_congr Iff.rfl (Iff.rfl)))
set_option maxRecDepth 100000 in
theorem b190_22 {d : Nat} {w : vW} {x0 : Int} {Q : Int → vW → Prop} : VW d 190 22 [(2, x0)] [] w Q ↔ VW d 190 28 [(2, x0)] [(2, vnt w), (2, x0)] (vnw w 2 16384 (fun _ => 0) (16384 : Int).toNat) Q :=
  (VW_b 3 (F := fun n => vrun n d 190 28 [(2, x0)] [(2, vnt w), (2, x0)] (vnw w 2 16384 (fun _ => 0) (16384 : Int).toNat)) (fun _ => rfl)).trans (Iff.rfl)
set_option maxRecDepth 100000 in
theorem b190_28 {d : Nat} {w : vW} {x0 y0 y1 : Int} {Q : Int → vW → Prop} : VW d 190 28 [(2, x0)] [(2, y1), (2, y0)] w Q ↔ (vkd w y0 = 14) ∧ VW d 190 31 [(2, x0)] [] (vsv w y0 2 y1) Q :=
  (VW_b 1 (F := fun n => if vkd w y0 = 14 then vrun n d 190 31 [(2, x0)] [] (vsv w y0 2 y1) else none) (fun _ => rfl)).trans (EX_if.trans (and_congr Iff.rfl (Iff.rfl)))
set_option maxRecDepth 100000 in
theorem b190_31 {d : Nat} {w : vW} {x0 : Int} {Q : Int → vW → Prop} : VW d 190 31 [(2, x0)] [] w Q ↔ VW d 190 36 [(2, x0)] [(2, vnt w), (2, x0)] (vnw w 2 14 (fun _ => 0) (14 : Int).toNat) Q :=
  (VW_b 3 (F := fun n => vrun n d 190 36 [(2, x0)] [(2, vnt w), (2, x0)] (vnw w 2 14 (fun _ => 0) (14 : Int).toNat)) (fun _ => rfl)).trans (Iff.rfl)
set_option maxRecDepth 100000 in
theorem b190_36 {d : Nat} {w : vW} {x0 y0 y1 : Int} {Q : Int → vW → Prop} : VW d 190 36 [(2, x0)] [(2, y1), (2, y0)] w Q ↔ (vkd w y0 = 14) ∧ VW d 190 39 [(2, x0)] [] (vsv w y0 3 y1) Q :=
  (VW_b 1 (F := fun n => if vkd w y0 = 14 then vrun n d 190 39 [(2, x0)] [] (vsv w y0 3 y1) else none) (fun _ => rfl)).trans (EX_if.trans (and_congr Iff.rfl (Iff.rfl)))
set_option maxRecDepth 100000 in
theorem b190_39 {d : Nat} {w : vW} {x0 : Int} {Q : Int → vW → Prop} : VW d 190 39 [(2, x0)] [] w Q ↔ VW d 190 44 [(2, x0)] [(2, vnt w), (2, x0)] (vnw w 2 14 (fun _ => 0) (14 : Int).toNat) Q :=
  (VW_b 3 (F := fun n => vrun n d 190 44 [(2, x0)] [(2, vnt w), (2, x0)] (vnw w 2 14 (fun _ => 0) (14 : Int).toNat)) (fun _ => rfl)).trans (Iff.rfl)
set_option maxRecDepth 100000 in
theorem b190_44 {d : Nat} {w : vW} {x0 y0 y1 : Int} {Q : Int → vW → Prop} : VW d 190 44 [(2, x0)] [(2, y1), (2, y0)] w Q ↔ (vkd w y0 = 14) ∧ VW d 190 47 [(2, x0)] [] (vsv w y0 4 y1) Q :=
  (VW_b 1 (F := fun n => if vkd w y0 = 14 then vrun n d 190 47 [(2, x0)] [] (vsv w y0 4 y1) else none) (fun _ => rfl)).trans (EX_if.trans (and_congr Iff.rfl (Iff.rfl)))
set_option maxRecDepth 100000 in
theorem b190_47 {d : Nat} {w : vW} {x0 : Int} {Q : Int → vW → Prop} : VW d 190 47 [(2, x0)] [] w Q ↔ (vkd w x0 = 14) ∧ VW d 190 52 [(2, x0)] [] (vsv w x0 5 (-1)) Q :=
  (VW_b 3 (F := fun n => if vkd w x0 = 14 then vrun n d 190 52 [(2, x0)] [] (vsv w x0 5 (-1)) else none) (fun _ => rfl)).trans (EX_if.trans (and_congr Iff.rfl (Iff.rfl)))
set_option maxRecDepth 100000 in
theorem b190_52 {d : Nat} {w : vW} {x0 : Int} {Q : Int → vW → Prop} : VW d 190 52 [(2, x0)] [] w Q ↔ (vkd w x0 = 14) ∧ VW d 190 57 [(2, x0)] [] (vsv w x0 6 (-1)) Q :=
  (VW_b 3 (F := fun n => if vkd w x0 = 14 then vrun n d 190 57 [(2, x0)] [] (vsv w x0 6 (-1)) else none) (fun _ => rfl)).trans (EX_if.trans (and_congr Iff.rfl (Iff.rfl)))
set_option maxRecDepth 100000 in
theorem b190_57 {d : Nat} {w : vW} {x0 : Int} {Q : Int → vW → Prop} : VW d 190 57 [(2, x0)] [] w Q ↔ (vkd w x0 = 14) ∧ VW d 190 62 [(2, x0)] [] (vsv w x0 7 0) Q :=
  (VW_b 3 (F := fun n => if vkd w x0 = 14 then vrun n d 190 62 [(2, x0)] [] (vsv w x0 7 0) else none) (fun _ => rfl)).trans (EX_if.trans (and_congr Iff.rfl (Iff.rfl)))
set_option maxRecDepth 100000 in
theorem b190_62 {d : Nat} {w : vW} {x0 : Int} {Q : Int → vW → Prop} : VW d 190 62 [(2, x0)] [] w Q ↔ (vkd w x0 = 14) ∧ VW d 190 67 [(2, x0)] [] (vsv w x0 8 0) Q :=
  (VW_b 3 (F := fun n => if vkd w x0 = 14 then vrun n d 190 67 [(2, x0)] [] (vsv w x0 8 0) else none) (fun _ => rfl)).trans (EX_if.trans (and_congr Iff.rfl (Iff.rfl)))
set_option maxRecDepth 100000 in
theorem b190_67 {d : Nat} {w : vW} {x0 : Int} {Q : Int → vW → Prop} : VW d 190 67 [(2, x0)] [] w Q ↔ Q 0 w :=
  (VW_b 1 (F := fun n => some (0, 0, w)) (fun _ => rfl)).trans (EX_ret0)
/-! 191: StrikeWhatCancels$Leaps.leave(LStrikeWhatCancels$Rules;IJ)J -/
set_option maxRecDepth 100000 in
theorem b191_0 {d : Nat} {w : vW} {x0 x1 x2 x3 : Int} {Q : Int → vW → Prop} : VW d 191 0 [(2, x0), (2, x1), (0, x2), (1, x3), (9, 0), (9, 0), (9, 0), (9, 0), (9, 0)] [] w Q ↔ (vkd w x0 = 14) ∧ (vkd w x1 = 18) ∧ (((vct w x0 6) = (vct w x1 4) → VW d 191 16 [(2, x0), (2, x1), (0, x2), (1, x3), (9, 0), (9, 0), (9, 0), (9, 0), (9, 0)] [] w Q) ∧ (¬ ((vct w x0 6) = (vct w x1 4)) → VW d 191 11 [(2, x0), (2, x1), (0, x2), (1, x3), (9, 0), (9, 0), (9, 0), (9, 0), (9, 0)] [] w Q)) :=
  (VW_b 5 (F := fun n => if vkd w x0 = 14 then if vkd w x1 = 18 then (if (vct w x0 6) = (vct w x1 4) then vrun n d 191 16 [(2, x0), (2, x1), (0, x2), (1, x3), (9, 0), (9, 0), (9, 0), (9, 0), (9, 0)] [] w else vrun n d 191 11 [(2, x0), (2, x1), (0, x2), (1, x3), (9, 0), (9, 0), (9, 0), (9, 0), (9, 0)] [] w) else none else none) (fun _ => rfl)).trans (EX_if.trans (and_congr Iff.rfl (EX_if.trans (and_congr Iff.rfl (EX_br.trans (and_congr (imp_congr Iff.rfl Iff.rfl) (imp_congr Iff.rfl Iff.rfl)))))))
set_option maxRecDepth 100000 in
theorem b191_11 {d : Nat} {w : vW} {x0 x1 x2 x3 : Int} {Q : Int → vW → Prop} : VW d 191 11 [(2, x0), (2, x1), (0, x2), (1, x3), (9, 0), (9, 0), (9, 0), (9, 0), (9, 0)] [] w Q ↔ (vkd w x0 = 14) ∧ VC d 192 [(2, x0), (2, x1)] w (fun _ w1 => VW d 191 16 [(2, x0), (2, x1), (0, x2), (1, x3), (9, 0), (9, 0), (9, 0), (9, 0), (9, 0)] [] w1 Q) :=
  (VW_b 3 (F := fun n => if vkd w x0 = 14 then vclr (vrun n) d 191 16 192 2 9 [(2, x0), (2, x1), (0, x2), (1, x3), (9, 0), (9, 0), (9, 0), (9, 0), (9, 0)] [(2, x1), (2, x0)] w else none) (fun _ => rfl)).trans (EX_if.trans (and_congr Iff.rfl (EX_call rfl)))
set_option maxRecDepth 100000 in
theorem b191_16 {d : Nat} {w : vW} {x0 x1 x2 x3 : Int} {Q : Int → vW → Prop} : VW d 191 16 [(2, x0), (2, x1), (0, x2), (1, x3), (9, 0), (9, 0), (9, 0), (9, 0), (9, 0)] [] w Q ↔ (vkd w x0 = 14) ∧ VW d 191 21 [(2, x0), (2, x1), (0, x2), (1, x3), (9, 0), (9, 0), (9, 0), (9, 0), (9, 0)] [] (vsv w x0 7 x3) Q :=
  (VW_b 3 (F := fun n => if vkd w x0 = 14 then vrun n d 191 21 [(2, x0), (2, x1), (0, x2), (1, x3), (9, 0), (9, 0), (9, 0), (9, 0), (9, 0)] [] (vsv w x0 7 x3) else none) (fun _ => rfl)).trans (EX_if.trans (and_congr Iff.rfl (Iff.rfl)))
set_option maxRecDepth 100000 in
theorem b191_21 {d : Nat} {w : vW} {x0 x1 x2 x3 : Int} {Q : Int → vW → Prop} : VW d 191 21 [(2, x0), (2, x1), (0, x2), (1, x3), (9, 0), (9, 0), (9, 0), (9, 0), (9, 0)] [] w Q ↔ (vkd w x0 = 14) ∧ VW d 191 26 [(2, x0), (2, x1), (0, x2), (1, x3), (9, 0), (9, 0), (9, 0), (9, 0), (9, 0)] [] (vsv w x0 8 0) Q :=
  (VW_b 3 (F := fun n => if vkd w x0 = 14 then vrun n d 191 26 [(2, x0), (2, x1), (0, x2), (1, x3), (9, 0), (9, 0), (9, 0), (9, 0), (9, 0)] [] (vsv w x0 8 0) else none) (fun _ => rfl)).trans (EX_if.trans (and_congr Iff.rfl (Iff.rfl)))
set_option maxRecDepth 100000 in
theorem b191_26 {d : Nat} {w : vW} {x0 x1 x2 x3 : Int} {Q : Int → vW → Prop} : VW d 191 26 [(2, x0), (2, x1), (0, x2), (1, x3), (9, 0), (9, 0), (9, 0), (9, 0), (9, 0)] [] w Q ↔ (vkd w x0 = 14) ∧ VW d 191 31 [(2, x0), (2, x1), (0, x2), (1, x3), (9, 0), (9, 0), (9, 0), (9, 0), (9, 0)] [] (vsv w x0 5 (-1)) Q :=
  (VW_b 3 (F := fun n => if vkd w x0 = 14 then vrun n d 191 31 [(2, x0), (2, x1), (0, x2), (1, x3), (9, 0), (9, 0), (9, 0), (9, 0), (9, 0)] [] (vsv w x0 5 (-1)) else none) (fun _ => rfl)).trans (EX_if.trans (and_congr Iff.rfl (Iff.rfl)))
set_option maxRecDepth 100000 in
theorem b191_31 {d : Nat} {w : vW} {x0 x1 x2 x3 : Int} {Q : Int → vW → Prop} : VW d 191 31 [(2, x0), (2, x1), (0, x2), (1, x3), (9, 0), (9, 0), (9, 0), (9, 0), (9, 0)] [] w Q ↔ VW d 191 34 [(2, x0), (2, x1), (0, x2), (1, x3), (9, 0), (1, 0), (9, 0), (9, 0), (9, 0)] [] w Q :=
  (VW_b 2 (F := fun n => vrun n d 191 34 [(2, x0), (2, x1), (0, x2), (1, x3), (9, 0), (1, 0), (9, 0), (9, 0), (9, 0)] [] w) (fun _ => rfl)).trans (Iff.rfl)
set_option maxRecDepth 100000 in
theorem b191_34 {d : Nat} {w : vW} {x0 x1 x2 x3 x5 : Int} {v7 v8 : vV} {Q : Int → vW → Prop} : VW d 191 34 [(2, x0), (2, x1), (0, x2), (1, x3), (9, 0), (1, x5), (9, 0), v7, v8] [] w Q ↔ (((vlc x5 17592186044416) < 0 → VW d 191 43 [(2, x0), (2, x1), (0, x2), (1, x3), (9, 0), (1, x5), (9, 0), v7, v8] [] w Q) ∧ (¬ ((vlc x5 17592186044416) < 0) → VW d 191 138 [(2, x0), (2, x1), (0, x2), (1, x3), (9, 0), (1, x5), (9, 0), v7, v8] [] w Q)) :=
  (VW_b 4 (F := fun n => (if (vlc x5 17592186044416) < 0 then vrun n d 191 43 [(2, x0), (2, x1), (0, x2), (1, x3), (9, 0), (1, x5), (9, 0), v7, v8] [] w else vrun n d 191 138 [(2, x0), (2, x1), (0, x2), (1, x3), (9, 0), (1, x5), (9, 0), v7, v8] [] w)) (fun _ => rfl)).trans (EX_br.trans (and_congr (imp_congr Iff.rfl Iff.rfl) (imp_congr Iff.rfl Iff.rfl)))
set_option maxRecDepth 100000 in
theorem b191_43 {d : Nat} {w : vW} {x0 x1 x2 x3 x5 : Int} {v7 v8 : vV} {Q : Int → vW → Prop} : VW d 191 43 [(2, x0), (2, x1), (0, x2), (1, x3), (9, 0), (1, x5), (9, 0), v7, v8] [] w Q ↔ (vkd w x0 = 14) ∧ (vkd w x1 = 18) ∧ VC d 263 [(2, x1), (0, x2), (1, vct w x0 7)] w (fun r w1 => VW d 191 52 [(2, x0), (2, x1), (0, x2), (1, x3), (9, 0), (1, x5), (9, 0), v7, v8] [(0, r)] w1 Q) :=
  (VW_b 5 (F := fun n => if vkd w x0 = 14 then if vkd w x1 = 18 then vclr (vrun n) d 191 52 263 3 0 [(2, x0), (2, x1), (0, x2), (1, x3), (9, 0), (1, x5), (9, 0), v7, v8] [(1, vct w x0 7), (0, x2), (2, x1)] w else none else none) (fun _ => rfl)).trans (EX_if.trans (and_congr Iff.rfl (EX_if.trans (and_congr Iff.rfl (EX_call rfl)))))
set_option maxRecDepth 100000 in
theorem b191_52 {d : Nat} {w : vW} {x0 x1 x2 x3 x5 y0 : Int} {v7 v8 : vV} {Q : Int → vW → Prop} : VW d 191 52 [(2, x0), (2, x1), (0, x2), (1, x3), (9, 0), (1, x5), (9, 0), v7, v8] [(0, y0)] w Q ↔ ((y0 < 0 → VW d 191 59 [(2, x0), (2, x1), (0, x2), (1, x3), (9, 0), (1, x5), (9, 0), (0, y0), v8] [] w Q) ∧ (¬ (y0 < 0) → VW d 191 63 [(2, x0), (2, x1), (0, x2), (1, x3), (9, 0), (1, x5), (9, 0), (0, y0), v8] [] w Q)) :=
  (VW_b 3 (F := fun n => (if y0 < 0 then vrun n d 191 59 [(2, x0), (2, x1), (0, x2), (1, x3), (9, 0), (1, x5), (9, 0), (0, y0), v8] [] w else vrun n d 191 63 [(2, x0), (2, x1), (0, x2), (1, x3), (9, 0), (1, x5), (9, 0), (0, y0), v8] [] w)) (fun _ => rfl)).trans (EX_br.trans (and_congr (imp_congr Iff.rfl Iff.rfl) (imp_congr Iff.rfl Iff.rfl)))
set_option maxRecDepth 100000 in
theorem b191_59 {d : Nat} {w : vW} {x0 x1 x2 x3 x5 x7 : Int} {v8 : vV} {Q : Int → vW → Prop} : VW d 191 59 [(2, x0), (2, x1), (0, x2), (1, x3), (9, 0), (1, x5), (9, 0), (0, x7), v8] [] w Q ↔ VW d 191 78 [(2, x0), (2, x1), (0, x2), (1, x3), (9, 0), (1, x5), (9, 0), (0, x7), v8] [(0, (-1))] w Q :=
  (VW_b 2 (F := fun n => vrun n d 191 78 [(2, x0), (2, x1), (0, x2), (1, x3), (9, 0), (1, x5), (9, 0), (0, x7), v8] [(0, (-1))] w) (fun _ => rfl)).trans (Iff.rfl)
set_option maxRecDepth 100000 in
theorem b191_63 {d : Nat} {w : vW} {x0 x1 x2 x3 x5 x7 : Int} {v8 : vV} {Q : Int → vW → Prop} : VW d 191 63 [(2, x0), (2, x1), (0, x2), (1, x3), (9, 0), (1, x5), (9, 0), (0, x7), v8] [] w Q ↔ VC d 251 [(0, x7)] w (fun r w1 => VW d 191 68 [(2, x0), (2, x1), (0, x2), (1, x3), (9, 0), (1, x5), (9, 0), (0, x7), v8] [(0, r)] w1 Q) :=
  (VW_b 2 (F := fun n => vclr (vrun n) d 191 68 251 1 0 [(2, x0), (2, x1), (0, x2), (1, x3), (9, 0), (1, x5), (9, 0), (0, x7), v8] [(0, x7)] w) (fun _ => rfl)).trans (EX_call rfl)
set_option maxRecDepth 100000 in
theorem b191_68 {d : Nat} {w : vW} {x0 x1 x2 x3 x5 x7 y0 : Int} {v8 : vV} {Q : Int → vW → Prop} : VW d 191 68 [(2, x0), (2, x1), (0, x2), (1, x3), (9, 0), (1, x5), (9, 0), (0, x7), v8] [(0, y0)] w Q ↔ VC d 250 [(0, x7)] w (fun r w1 => VW d 191 74 [(2, x0), (2, x1), (0, x2), (1, x3), (9, 0), (1, x5), (9, 0), (0, x7), v8] [(0, r), (2, x1), (0, y0)] w1 Q) :=
  (VW_b 3 (F := fun n => vclr (vrun n) d 191 74 250 1 0 [(2, x0), (2, x1), (0, x2), (1, x3), (9, 0), (1, x5), (9, 0), (0, x7), v8] [(0, x7), (2, x1), (0, y0)] w) (fun _ => rfl)).trans (EX_call rfl)
set_option maxRecDepth 100000 in
theorem b191_74 {d : Nat} {w : vW} {x0 x1 x2 x3 x5 x7 y0 y1 y2 : Int} {v8 : vV} {Q : Int → vW → Prop} : VW d 191 74 [(2, x0), (2, x1), (0, x2), (1, x3), (9, 0), (1, x5), (9, 0), (0, x7), v8] [(0, y2), (2, y1), (0, y0)] w Q ↔ (vkd w y1 = 18) ∧ VC d 267 [(2, y1), (0, y2)] w (fun r w1 => VW d 191 77 [(2, x0), (2, x1), (0, x2), (1, x3), (9, 0), (1, x5), (9, 0), (0, x7), v8] [(0, r), (0, y0)] w1 Q) :=
  (VW_b 1 (F := fun n => if vkd w y1 = 18 then vclr (vrun n) d 191 77 267 2 0 [(2, x0), (2, x1), (0, x2), (1, x3), (9, 0), (1, x5), (9, 0), (0, x7), v8] [(0, y2), (2, y1), (0, y0)] w else none) (fun _ => rfl)).trans (EX_if.trans (and_congr Iff.rfl (EX_call rfl)))
set_option maxRecDepth 100000 in
theorem b191_77 {d : Nat} {w : vW} {x0 x1 x2 x3 x5 x7 y0 y1 : Int} {v8 : vV} {Q : Int → vW → Prop} : VW d 191 77 [(2, x0), (2, x1), (0, x2), (1, x3), (9, 0), (1, x5), (9, 0), (0, x7), v8] [(0, y1), (0, y0)] w Q ↔ VW d 191 78 [(2, x0), (2, x1), (0, x2), (1, x3), (9, 0), (1, x5), (9, 0), (0, x7), v8] [(0, w32 (y0 + y1))] w Q :=
  (VW_b 1 (F := fun n => vrun n d 191 78 [(2, x0), (2, x1), (0, x2), (1, x3), (9, 0), (1, x5), (9, 0), (0, x7), v8] [(0, w32 (y0 + y1))] w) (fun _ => rfl)).trans (Iff.rfl)
set_option maxRecDepth 100000 in
theorem b191_78 {d : Nat} {w : vW} {x0 x1 x2 x3 x5 x7 y0 : Int} {v8 : vV} {Q : Int → vW → Prop} : VW d 191 78 [(2, x0), (2, x1), (0, x2), (1, x3), (9, 0), (1, x5), (9, 0), (0, x7), v8] [(0, y0)] w Q ↔ (vkd w x0 = 14) ∧ VC d 193 [(2, x0), (0, y0)] w (fun _ w1 => VW d 191 86 [(2, x0), (2, x1), (0, x2), (1, x3), (9, 0), (1, x5), (9, 0), (0, x7), (0, y0)] [] w1 Q) :=
  (VW_b 4 (F := fun n => if vkd w x0 = 14 then vclr (vrun n) d 191 86 193 2 9 [(2, x0), (2, x1), (0, x2), (1, x3), (9, 0), (1, x5), (9, 0), (0, x7), (0, y0)] [(0, y0), (2, x0)] w else none) (fun _ => rfl)).trans (EX_if.trans (and_congr Iff.rfl (EX_call rfl)))
set_option maxRecDepth 100000 in
theorem b191_86 {d : Nat} {w : vW} {x0 x1 x2 x3 x5 x7 x8 : Int} {Q : Int → vW → Prop} : VW d 191 86 [(2, x0), (2, x1), (0, x2), (1, x3), (9, 0), (1, x5), (9, 0), (0, x7), (0, x8)] [] w Q ↔ ((x7 < 0 → VW d 191 91 [(2, x0), (2, x1), (0, x2), (1, x3), (9, 0), (1, x5), (9, 0), (0, x7), (0, x8)] [] w Q) ∧ (¬ (x7 < 0) → VW d 191 94 [(2, x0), (2, x1), (0, x2), (1, x3), (9, 0), (1, x5), (9, 0), (0, x7), (0, x8)] [] w Q)) :=
  (VW_b 2 (F := fun n => (if x7 < 0 then vrun n d 191 91 [(2, x0), (2, x1), (0, x2), (1, x3), (9, 0), (1, x5), (9, 0), (0, x7), (0, x8)] [] w else vrun n d 191 94 [(2, x0), (2, x1), (0, x2), (1, x3), (9, 0), (1, x5), (9, 0), (0, x7), (0, x8)] [] w)) (fun _ => rfl)).trans (EX_br.trans (and_congr (imp_congr Iff.rfl Iff.rfl) (imp_congr Iff.rfl Iff.rfl)))
set_option maxRecDepth 100000 in
theorem b191_91 {d : Nat} {w : vW} {x0 x1 x2 x3 x5 x7 x8 : Int} {Q : Int → vW → Prop} : VW d 191 91 [(2, x0), (2, x1), (0, x2), (1, x3), (9, 0), (1, x5), (9, 0), (0, x7), (0, x8)] [] w Q ↔ VW d 191 138 [(2, x0), (2, x1), (0, x2), (1, x3), (9, 0), (1, x5), (9, 0), (0, x7), (0, x8)] [] w Q :=
  (VW_b 1 (F := fun n => vrun n d 191 138 [(2, x0), (2, x1), (0, x2), (1, x3), (9, 0), (1, x5), (9, 0), (0, x7), (0, x8)] [] w) (fun _ => rfl)).trans (Iff.rfl)
set_option maxRecDepth 100000 in
theorem b191_94 {d : Nat} {w : vW} {x0 x1 x2 x3 x5 x7 x8 : Int} {Q : Int → vW → Prop} : VW d 191 94 [(2, x0), (2, x1), (0, x2), (1, x3), (9, 0), (1, x5), (9, 0), (0, x7), (0, x8)] [] w Q ↔ (vkd w x0 = 14) ∧ VC d 194 [(2, x0), (2, x1), (0, x2), (0, x8)] w (fun r w1 => VW d 191 102 [(2, x0), (2, x1), (0, x2), (1, x3), (9, 0), (1, x5), (9, 0), (0, x7), (0, x8)] [(0, r)] w1 Q) :=
  (VW_b 5 (F := fun n => if vkd w x0 = 14 then vclr (vrun n) d 191 102 194 4 0 [(2, x0), (2, x1), (0, x2), (1, x3), (9, 0), (1, x5), (9, 0), (0, x7), (0, x8)] [(0, x8), (0, x2), (2, x1), (2, x0)] w else none) (fun _ => rfl)).trans (EX_if.trans (and_congr Iff.rfl (EX_call rfl)))
set_option maxRecDepth 100000 in
theorem b191_102 {d : Nat} {w : vW} {x0 x1 x2 x3 x5 x7 x8 y0 : Int} {Q : Int → vW → Prop} : VW d 191 102 [(2, x0), (2, x1), (0, x2), (1, x3), (9, 0), (1, x5), (9, 0), (0, x7), (0, x8)] [(0, y0)] w Q ↔ ((y0 = 0 → VW d 191 105 [(2, x0), (2, x1), (0, x2), (1, x3), (9, 0), (1, x5), (9, 0), (0, x7), (0, x8)] [] w Q) ∧ (¬ (y0 = 0) → VW d 191 129 [(2, x0), (2, x1), (0, x2), (1, x3), (9, 0), (1, x5), (9, 0), (0, x7), (0, x8)] [] w Q)) :=
  (VW_b 1 (F := fun n => (if y0 = 0 then vrun n d 191 105 [(2, x0), (2, x1), (0, x2), (1, x3), (9, 0), (1, x5), (9, 0), (0, x7), (0, x8)] [] w else vrun n d 191 129 [(2, x0), (2, x1), (0, x2), (1, x3), (9, 0), (1, x5), (9, 0), (0, x7), (0, x8)] [] w)) (fun _ => rfl)).trans (EX_br.trans (and_congr (imp_congr Iff.rfl Iff.rfl) (imp_congr Iff.rfl Iff.rfl)))
set_option maxRecDepth 100000 in
theorem b191_105 {d : Nat} {w : vW} {x0 x1 x2 x3 x5 x7 x8 : Int} {Q : Int → vW → Prop} : VW d 191 105 [(2, x0), (2, x1), (0, x2), (1, x3), (9, 0), (1, x5), (9, 0), (0, x7), (0, x8)] [] w Q ↔ (vkd w x0 = 14) ∧ (vkd w x1 = 18) ∧ VC d 261 [(2, x1), (1, vct w x0 7), (0, x7)] w (fun r w1 => VW d 191 116 [(2, x0), (2, x1), (0, x2), (1, x3), (9, 0), (1, x5), (9, 0), (0, x7), (0, x8)] [(1, r), (2, x0)] w1 Q) :=
  (VW_b 6 (F := fun n => if vkd w x0 = 14 then if vkd w x1 = 18 then vclr (vrun n) d 191 116 261 3 1 [(2, x0), (2, x1), (0, x2), (1, x3), (9, 0), (1, x5), (9, 0), (0, x7), (0, x8)] [(0, x7), (1, vct w x0 7), (2, x1), (2, x0)] w else none else none) (fun _ => rfl)).trans (EX_if.trans (and_congr Iff.rfl (EX_if.trans (and_congr Iff.rfl (EX_call rfl)))))
set_option maxRecDepth 100000 in
theorem b191_116 {d : Nat} {w : vW} {x0 x1 x2 x3 x5 x7 x8 y0 y1 : Int} {Q : Int → vW → Prop} : VW d 191 116 [(2, x0), (2, x1), (0, x2), (1, x3), (9, 0), (1, x5), (9, 0), (0, x7), (0, x8)] [(1, y1), (2, y0)] w Q ↔ (vkd w y0 = 14) ∧ VW d 191 119 [(2, x0), (2, x1), (0, x2), (1, x3), (9, 0), (1, x5), (9, 0), (0, x7), (0, x8)] [] (vsv w y0 7 y1) Q :=
  (VW_b 1 (F := fun n => if vkd w y0 = 14 then vrun n d 191 119 [(2, x0), (2, x1), (0, x2), (1, x3), (9, 0), (1, x5), (9, 0), (0, x7), (0, x8)] [] (vsv w y0 7 y1) else none) (fun _ => rfl)).trans (EX_if.trans (and_congr Iff.rfl (Iff.rfl)))
set_option maxRecDepth 100000 in
theorem b191_119 {d : Nat} {w : vW} {x0 x1 x2 x3 x5 x7 x8 : Int} {Q : Int → vW → Prop} : VW d 191 119 [(2, x0), (2, x1), (0, x2), (1, x3), (9, 0), (1, x5), (9, 0), (0, x7), (0, x8)] [] w Q ↔ (vkd w x0 = 14) ∧ (vkd w x0 = 14) ∧ VW d 191 129 [(2, x0), (2, x1), (0, x2), (1, x3), (9, 0), (1, x5), (9, 0), (0, x7), (0, x8)] [] (vsv w x0 8 (w64 ((vct w x0 8) + 1))) Q :=
  (VW_b 6 (F := fun n => if vkd w x0 = 14 then if vkd w x0 = 14 then vrun n d 191 129 [(2, x0), (2, x1), (0, x2), (1, x3), (9, 0), (1, x5), (9, 0), (0, x7), (0, x8)] [] (vsv w x0 8 (w64 ((vct w x0 8) + 1))) else none else none) (fun _ => rfl)).trans (EX_if.trans (and_congr Iff.rfl (EX_if.trans (and_congr Iff.rfl (Iff.rfl)))))
set_option maxRecDepth 100000 in
theorem b191_129 {d : Nat} {w : vW} {x0 x1 x2 x3 x5 x7 x8 : Int} {Q : Int → vW → Prop} : VW d 191 129 [(2, x0), (2, x1), (0, x2), (1, x3), (9, 0), (1, x5), (9, 0), (0, x7), (0, x8)] [] w Q ↔ VW d 191 135 [(2, x0), (2, x1), (0, x2), (1, x3), (9, 0), (1, w64 (x5 + 1)), (9, 0), (0, x7), (0, x8)] [] w Q :=
  (VW_b 4 (F := fun n => vrun n d 191 135 [(2, x0), (2, x1), (0, x2), (1, x3), (9, 0), (1, w64 (x5 + 1)), (9, 0), (0, x7), (0, x8)] [] w) (fun _ => rfl)).trans (Iff.rfl)
set_option maxRecDepth 100000 in
theorem b191_135 {d : Nat} {w : vW} {x0 x1 x2 x3 x5 x7 x8 : Int} {Q : Int → vW → Prop} : VW d 191 135 [(2, x0), (2, x1), (0, x2), (1, x3), (9, 0), (1, x5), (9, 0), (0, x7), (0, x8)] [] w Q ↔ VW d 191 34 [(2, x0), (2, x1), (0, x2), (1, x3), (9, 0), (1, x5), (9, 0), (0, x7), (0, x8)] [] w Q :=
  (VW_b 1 (F := fun n => vrun n d 191 34 [(2, x0), (2, x1), (0, x2), (1, x3), (9, 0), (1, x5), (9, 0), (0, x7), (0, x8)] [] w) (fun _ => rfl)).trans (Iff.rfl)
set_option maxRecDepth 100000 in
theorem b191_138 {d : Nat} {w : vW} {x0 x1 x2 x3 x5 : Int} {v7 v8 : vV} {Q : Int → vW → Prop} : VW d 191 138 [(2, x0), (2, x1), (0, x2), (1, x3), (9, 0), (1, x5), (9, 0), v7, v8] [] w Q ↔ (vkd w x0 = 14) ∧ Q (vct w x0 7) w :=
  (VW_b 3 (F := fun n => if vkd w x0 = 14 then some (0, vct w x0 7, w) else none) (fun _ => rfl)).trans (EX_if.trans (and_congr Iff.rfl (EX_ret0)))
/-! 192: StrikeWhatCancels$Leaps.begin(LStrikeWhatCancels$Rules;)V -/
set_option maxRecDepth 100000 in
theorem b192_0 {d : Nat} {w : vW} {x0 x1 : Int} {Q : Int → vW → Prop} : VW d 192 0 [(2, x0), (2, x1), (9, 0)] [] w Q ↔ (vkd w x1 = 18) ∧ (vkd w x0 = 14) ∧ VW d 192 8 [(2, x0), (2, x1), (9, 0)] [] (vsv w x0 6 (vct w x1 4)) Q :=
  (VW_b 4 (F := fun n => if vkd w x1 = 18 then if vkd w x0 = 14 then vrun n d 192 8 [(2, x0), (2, x1), (9, 0)] [] (vsv w x0 6 (vct w x1 4)) else none else none) (fun _ => rfl)).trans (EX_if.trans (and_congr Iff.rfl (EX_if.trans (and_congr Iff.rfl (Iff.rfl)))))
set_option maxRecDepth 100000 in
theorem b192_8 {d : Nat} {w : vW} {x0 x1 : Int} {Q : Int → vW → Prop} : VW d 192 8 [(2, x0), (2, x1), (9, 0)] [] w Q ↔ VW d 192 10 [(2, x0), (2, x1), (0, 0)] [] w Q :=
  (VW_b 2 (F := fun n => vrun n d 192 10 [(2, x0), (2, x1), (0, 0)] [] w) (fun _ => rfl)).trans (Iff.rfl)
set_option maxRecDepth 100000 in
theorem b192_10 {d : Nat} {w : vW} {x0 x1 x2 : Int} {Q : Int → vW → Prop} : VW d 192 10 [(2, x0), (2, x1), (0, x2)] [] w Q ↔ ((x2 < 16384 → VW d 192 17 [(2, x0), (2, x1), (0, x2)] [] w Q) ∧ (¬ (x2 < 16384) → VW d 192 39 [(2, x0), (2, x1), (0, x2)] [] w Q)) :=
  (VW_b 3 (F := fun n => (if x2 < 16384 then vrun n d 192 17 [(2, x0), (2, x1), (0, x2)] [] w else vrun n d 192 39 [(2, x0), (2, x1), (0, x2)] [] w)) (fun _ => rfl)).trans (EX_br.trans (and_congr (imp_congr Iff.rfl Iff.rfl) (imp_congr Iff.rfl Iff.rfl)))
set_option maxRecDepth 100000 in
theorem b192_17 {d : Nat} {w : vW} {x0 x1 x2 : Int} {Q : Int → vW → Prop} : VW d 192 17 [(2, x0), (2, x1), (0, x2)] [] w Q ↔ (vkd w x0 = 14) ∧ (vkd w (vct w x0 0) = 2) ∧ ((x2 < (vln w (vct w x0 0)) → VW d 192 26 [(2, x0), (2, x1), (0, x2)] [] w Q) ∧ (¬ (x2 < (vln w (vct w x0 0))) → VW d 192 39 [(2, x0), (2, x1), (0, x2)] [] w Q)) :=
  (VW_b 5 (F := fun n => if vkd w x0 = 14 then if vkd w (vct w x0 0) = 2 then (if x2 < (vln w (vct w x0 0)) then vrun n d 192 26 [(2, x0), (2, x1), (0, x2)] [] w else vrun n d 192 39 [(2, x0), (2, x1), (0, x2)] [] w) else none else none) (fun _ => rfl)).trans (EX_if.trans (and_congr Iff.rfl (EX_if.trans (and_congr Iff.rfl (EX_br.trans (and_congr (imp_congr Iff.rfl Iff.rfl) (imp_congr Iff.rfl Iff.rfl)))))))
set_option maxRecDepth 100000 in
theorem b192_26 {d : Nat} {w : vW} {x0 x1 x2 : Int} {Q : Int → vW → Prop} : VW d 192 26 [(2, x0), (2, x1), (0, x2)] [] w Q ↔ (vkd w x0 = 14) ∧ (vkd w (vct w x0 0) = 2 ∧ (0 : Int) ≤ x2 ∧ x2 < vln w (vct w x0 0)) ∧ VW d 192 33 [(2, x0), (2, x1), (0, x2)] [] (vsv w (vct w x0 0) x2 0) Q :=
  (VW_b 5 (F := fun n => if vkd w x0 = 14 then if vkd w (vct w x0 0) = 2 ∧ (0 : Int) ≤ x2 ∧ x2 < vln w (vct w x0 0) then vrun n d 192 33 [(2, x0), (2, x1), (0, x2)] [] (vsv w (vct w x0 0) x2 0) else none else none) (fun _ => rfl)).trans (EX_if.trans (and_congr Iff.rfl (EX_if.trans (and_congr Iff.rfl (Iff.rfl)))))
set_option maxRecDepth 100000 in
theorem b192_33 {d : Nat} {w : vW} {x0 x1 x2 : Int} {Q : Int → vW → Prop} : VW d 192 33 [(2, x0), (2, x1), (0, x2)] [] w Q ↔ VW d 192 10 [(2, x0), (2, x1), (0, w32 (x2 + 1))] [] w Q :=
  (VW_b 2 (F := fun n => vrun n d 192 10 [(2, x0), (2, x1), (0, w32 (x2 + 1))] [] w) (fun _ => rfl)).trans (Iff.rfl)
set_option maxRecDepth 100000 in
theorem b192_39 {d : Nat} {w : vW} {x0 x1 x2 : Int} {Q : Int → vW → Prop} : VW d 192 39 [(2, x0), (2, x1), (0, x2)] [] w Q ↔ Q 0 w :=
  (VW_b 1 (F := fun n => some (0, 0, w)) (fun _ => rfl)).trans (EX_ret0)
/-! 193: StrikeWhatCancels$Leaps.remember(I)V -/
set_option maxRecDepth 100000 in
theorem b193_0 {d : Nat} {w : vW} {x0 x1 : Int} {Q : Int → vW → Prop} : VW d 193 0 [(2, x0), (0, x1), (9, 0), (9, 0)] [] w Q ↔ (vkd w x0 = 14) ∧ VW d 193 5 [(2, x0), (0, x1), (0, vct w x0 5), (9, 0)] [] w Q :=
  (VW_b 3 (F := fun n => if vkd w x0 = 14 then vrun n d 193 5 [(2, x0), (0, x1), (0, vct w x0 5), (9, 0)] [] w else none) (fun _ => rfl)).trans (EX_if.trans (and_congr Iff.rfl (Iff.rfl)))
set_option maxRecDepth 100000 in
theorem b193_5 {d : Nat} {w : vW} {x0 x1 x2 : Int} {v3 : vV} {Q : Int → vW → Prop} : VW d 193 5 [(2, x0), (0, x1), (0, x2), v3] [] w Q ↔ ((x1 < x2 → VW d 193 10 [(2, x0), (0, x1), (0, x2), v3] [] w Q) ∧ (¬ (x1 < x2) → VW d 193 121 [(2, x0), (0, x1), (0, x2), v3] [] w Q)) :=
  (VW_b 3 (F := fun n => (if x1 < x2 then vrun n d 193 10 [(2, x0), (0, x1), (0, x2), v3] [] w else vrun n d 193 121 [(2, x0), (0, x1), (0, x2), v3] [] w)) (fun _ => rfl)).trans (EX_br.trans (and_congr (imp_congr Iff.rfl Iff.rfl) (imp_congr Iff.rfl Iff.rfl)))
set_option maxRecDepth 100000 in
theorem b193_10 {d : Nat} {w : vW} {x0 x1 x2 : Int} {v3 : vV} {Q : Int → vW → Prop} : VW d 193 10 [(2, x0), (0, x1), (0, x2), v3] [] w Q ↔ ((x2 < 0 → VW d 193 121 [(2, x0), (0, x1), (0, x2), v3] [] w Q) ∧ (¬ (x2 < 0) → VW d 193 14 [(2, x0), (0, x1), (0, x2), v3] [] w Q)) :=
  (VW_b 2 (F := fun n => (if x2 < 0 then vrun n d 193 121 [(2, x0), (0, x1), (0, x2), v3] [] w else vrun n d 193 14 [(2, x0), (0, x1), (0, x2), v3] [] w)) (fun _ => rfl)).trans (EX_br.trans (and_congr (imp_congr Iff.rfl Iff.rfl) (imp_congr Iff.rfl Iff.rfl)))
set_option maxRecDepth 100000 in
theorem b193_14 {d : Nat} {w : vW} {x0 x1 x2 : Int} {v3 : vV} {Q : Int → vW → Prop} : VW d 193 14 [(2, x0), (0, x1), (0, x2), v3] [] w Q ↔ (vkd w x0 = 14) ∧ (vkd w (vct w x0 3) = 2) ∧ ((x2 < (vln w (vct w x0 3)) → VW d 193 23 [(2, x0), (0, x1), (0, x2), v3] [] w Q) ∧ (¬ (x2 < (vln w (vct w x0 3))) → VW d 193 121 [(2, x0), (0, x1), (0, x2), v3] [] w Q)) :=
  (VW_b 5 (F := fun n => if vkd w x0 = 14 then if vkd w (vct w x0 3) = 2 then (if x2 < (vln w (vct w x0 3)) then vrun n d 193 23 [(2, x0), (0, x1), (0, x2), v3] [] w else vrun n d 193 121 [(2, x0), (0, x1), (0, x2), v3] [] w) else none else none) (fun _ => rfl)).trans (EX_if.trans (and_congr Iff.rfl (EX_if.trans (and_congr Iff.rfl (EX_br.trans (and_congr (imp_congr Iff.rfl Iff.rfl) (imp_congr Iff.rfl Iff.rfl)))))))
set_option maxRecDepth 100000 in
theorem b193_23 {d : Nat} {w : vW} {x0 x1 x2 : Int} {v3 : vV} {Q : Int → vW → Prop} : VW d 193 23 [(2, x0), (0, x1), (0, x2), v3] [] w Q ↔ (vkd w x0 = 14) ∧ (vkd w (vct w x0 3) = 2 ∧ (0 : Int) ≤ x2 ∧ x2 < vln w (vct w x0 3)) ∧ (vkd w x0 = 14) ∧ VC d 195 [(2, x0), (1, vct w (vct w x0 3) x2)] w (fun r w1 => VW d 193 33 [(2, x0), (0, x1), (0, x2), v3] [(0, r)] w1 Q) :=
  (VW_b 6 (F := fun n => if vkd w x0 = 14 then if vkd w (vct w x0 3) = 2 ∧ (0 : Int) ≤ x2 ∧ x2 < vln w (vct w x0 3) then if vkd w x0 = 14 then vclr (vrun n) d 193 33 195 2 0 [(2, x0), (0, x1), (0, x2), v3] [(1, vct w (vct w x0 3) x2), (2, x0)] w else none else none else none) (fun _ => rfl)).trans (EX_if.trans (and_congr Iff.rfl (EX_if.trans (and_congr Iff.rfl (EX_if.trans (and_congr Iff.rfl (EX_call rfl)))))))
set_option maxRecDepth 100000 in
theorem b193_33 {d : Nat} {w : vW} {x0 x1 x2 y0 : Int} {v3 : vV} {Q : Int → vW → Prop} : VW d 193 33 [(2, x0), (0, x1), (0, x2), v3] [(0, y0)] w Q ↔ (vkd w x0 = 14) ∧ (vkd w x0 = 14) ∧ (vkd w (vct w x0 4) = 2 ∧ (0 : Int) ≤ x2 ∧ x2 < vln w (vct w x0 4)) ∧ (((vlc (w64 ((vct w x0 8) - (vct w (vct w x0 4) x2))) 4) < 0 → VW d 193 115 [(2, x0), (0, x1), (0, x2), (0, y0)] [] w Q) ∧ (¬ ((vlc (w64 ((vct w x0 8) - (vct w (vct w x0 4) x2))) 4) < 0) → VW d 193 52 [(2, x0), (0, x1), (0, x2), (0, y0)] [] w Q)) :=
  (VW_b 11 (F := fun n => if vkd w x0 = 14 then if vkd w x0 = 14 then if vkd w (vct w x0 4) = 2 ∧ (0 : Int) ≤ x2 ∧ x2 < vln w (vct w x0 4) then (if (vlc (w64 ((vct w x0 8) - (vct w (vct w x0 4) x2))) 4) < 0 then vrun n d 193 115 [(2, x0), (0, x1), (0, x2), (0, y0)] [] w else vrun n d 193 52 [(2, x0), (0, x1), (0, x2), (0, y0)] [] w) else none else none else none) (fun _ => rfl)).trans (EX_if.trans (and_congr Iff.rfl (EX_if.trans (and_congr Iff.rfl (EX_if.trans (and_congr Iff.rfl (EX_br.trans (and_congr (imp_congr Iff.rfl Iff.rfl) (imp_congr Iff.rfl Iff.rfl)))))))))
set_option maxRecDepth 100000 in
theorem b193_52 {d : Nat} {w : vW} {x0 x1 x2 x3 : Int} {Q : Int → vW → Prop} : VW d 193 52 [(2, x0), (0, x1), (0, x2), (0, x3)] [] w Q ↔ ((x3 < 0 → VW d 193 115 [(2, x0), (0, x1), (0, x2), (0, x3)] [] w Q) ∧ (¬ (x3 < 0) → VW d 193 56 [(2, x0), (0, x1), (0, x2), (0, x3)] [] w Q)) :=
  (VW_b 2 (F := fun n => (if x3 < 0 then vrun n d 193 115 [(2, x0), (0, x1), (0, x2), (0, x3)] [] w else vrun n d 193 56 [(2, x0), (0, x1), (0, x2), (0, x3)] [] w)) (fun _ => rfl)).trans (EX_br.trans (and_congr (imp_congr Iff.rfl Iff.rfl) (imp_congr Iff.rfl Iff.rfl)))
set_option maxRecDepth 100000 in
theorem b193_56 {d : Nat} {w : vW} {x0 x1 x2 x3 : Int} {Q : Int → vW → Prop} : VW d 193 56 [(2, x0), (0, x1), (0, x2), (0, x3)] [] w Q ↔ ((x3 < 16384 → VW d 193 63 [(2, x0), (0, x1), (0, x2), (0, x3)] [] w Q) ∧ (¬ (x3 < 16384) → VW d 193 115 [(2, x0), (0, x1), (0, x2), (0, x3)] [] w Q)) :=
  (VW_b 3 (F := fun n => (if x3 < 16384 then vrun n d 193 63 [(2, x0), (0, x1), (0, x2), (0, x3)] [] w else vrun n d 193 115 [(2, x0), (0, x1), (0, x2), (0, x3)] [] w)) (fun _ => rfl)).trans (EX_br.trans (and_congr (imp_congr Iff.rfl Iff.rfl) (imp_congr Iff.rfl Iff.rfl)))
set_option maxRecDepth 100000 in
theorem b193_63 {d : Nat} {w : vW} {x0 x1 x2 x3 : Int} {Q : Int → vW → Prop} : VW d 193 63 [(2, x0), (0, x1), (0, x2), (0, x3)] [] w Q ↔ (vkd w x0 = 14) ∧ (vkd w x0 = 14) ∧ (vkd w (vct w x0 3) = 2 ∧ (0 : Int) ≤ x2 ∧ x2 < vln w (vct w x0 3)) ∧ (vkd w (vct w x0 0) = 2 ∧ (0 : Int) ≤ x3 ∧ x3 < vln w (vct w x0 0)) ∧ VW d 193 75 [(2, x0), (0, x1), (0, x2), (0, x3)] [] (vsv w (vct w x0 0) x3 (vct w (vct w x0 3) x2)) Q :=
  (VW_b 8 (F := fun n => if vkd w x0 = 14 then if vkd w x0 = 14 then if vkd w (vct w x0 3) = 2 ∧ (0 : Int) ≤ x2 ∧ x2 < vln w (vct w x0 3) then if vkd w (vct w x0 0) = 2 ∧ (0 : Int) ≤ x3 ∧ x3 < vln w (vct w x0 0) then vrun n d 193 75 [(2, x0), (0, x1), (0, x2), (0, x3)] [] (vsv w (vct w x0 0) x3 (vct w (vct w x0 3) x2)) else none else none else none else none) (fun _ => rfl)).trans (EX_if.trans (and_congr Iff.rfl (EX_if.trans (and_congr Iff.rfl (EX_if.trans (and_congr Iff.rfl (EX_if.trans (and_congr Iff.rfl (Iff.rfl)))))))))
set_option maxRecDepth 100000 in
theorem b193_75 {d : Nat} {w : vW} {x0 x1 x2 x3 : Int} {Q : Int → vW → Prop} : VW d 193 75 [(2, x0), (0, x1), (0, x2), (0, x3)] [] w Q ↔ (vkd w x0 = 14) ∧ (vkd w x0 = 14) ∧ (vkd w x0 = 14) ∧ VC d 273 [(1, vct w x0 7)] w (fun r w1 => VW d 193 92 [(2, x0), (0, x1), (0, x2), (0, x3)] [(0, r), (0, x2), (1, vct w x0 7), (0, x3), (2, vct w x0 1)] w1 Q) :=
  (VW_b 9 (F := fun n => if vkd w x0 = 14 then if vkd w x0 = 14 then if vkd w x0 = 14 then vclr (vrun n) d 193 92 273 1 0 [(2, x0), (0, x1), (0, x2), (0, x3)] [(1, vct w x0 7), (0, x2), (1, vct w x0 7), (0, x3), (2, vct w x0 1)] w else none else none else none) (fun _ => rfl)).trans (EX_if.trans (and_congr Iff.rfl (EX_if.trans (and_congr Iff.rfl (EX_if.trans (and_congr Iff.rfl (EX_call rfl)))))))
set_option maxRecDepth 100000 in
theorem b193_92 {d : Nat} {w : vW} {x0 x1 x2 x3 y0 y1 y2 y3 y4 : Int} {Q : Int → vW → Prop} : VW d 193 92 [(2, x0), (0, x1), (0, x2), (0, x3)] [(0, y4), (0, y3), (1, y2), (0, y1), (2, y0)] w Q ↔ VC d 277 [(1, y2), (0, y3), (0, w32 (y4 - x2))] w (fun r w1 => VW d 193 97 [(2, x0), (0, x1), (0, x2), (0, x3)] [(1, r), (0, y1), (2, y0)] w1 Q) :=
  (VW_b 3 (F := fun n => vclr (vrun n) d 193 97 277 3 1 [(2, x0), (0, x1), (0, x2), (0, x3)] [(0, w32 (y4 - x2)), (0, y3), (1, y2), (0, y1), (2, y0)] w) (fun _ => rfl)).trans (EX_call rfl)
set_option maxRecDepth 100000 in
theorem b193_97 {d : Nat} {w : vW} {x0 x1 x2 x3 y0 y1 y2 : Int} {Q : Int → vW → Prop} : VW d 193 97 [(2, x0), (0, x1), (0, x2), (0, x3)] [(1, y2), (0, y1), (2, y0)] w Q ↔ (vkd w y0 = 2 ∧ (0 : Int) ≤ y1 ∧ y1 < vln w y0) ∧ VW d 193 98 [(2, x0), (0, x1), (0, x2), (0, x3)] [] (vsv w y0 y1 y2) Q :=
  (VW_b 1 (F := fun n => if vkd w y0 = 2 ∧ (0 : Int) ≤ y1 ∧ y1 < vln w y0 then vrun n d 193 98 [(2, x0), (0, x1), (0, x2), (0, x3)] [] (vsv w y0 y1 y2) else none) (fun _ => rfl)).trans (EX_if.trans (and_congr Iff.rfl (Iff.rfl)))
set_option maxRecDepth 100000 in
theorem b193_98 {d : Nat} {w : vW} {x0 x1 x2 x3 : Int} {Q : Int → vW → Prop} : VW d 193 98 [(2, x0), (0, x1), (0, x2), (0, x3)] [] w Q ↔ (vkd w x0 = 14) ∧ (vkd w x0 = 14) ∧ (vkd w x0 = 14) ∧ (vkd w (vct w x0 4) = 2 ∧ (0 : Int) ≤ x2 ∧ x2 < vln w (vct w x0 4)) ∧ (vkd w (vct w x0 2) = 2 ∧ (0 : Int) ≤ x3 ∧ x3 < vln w (vct w x0 2)) ∧ VW d 193 115 [(2, x0), (0, x1), (0, x2), (0, x3)] [] (vsv w (vct w x0 2) x3 (w64 ((vct w x0 8) - (vct w (vct w x0 4) x2)))) Q :=
  (VW_b 11 (F := fun n => if vkd w x0 = 14 then if vkd w x0 = 14 then if vkd w x0 = 14 then if vkd w (vct w x0 4) = 2 ∧ (0 : Int) ≤ x2 ∧ x2 < vln w (vct w x0 4) then if vkd w (vct w x0 2) = 2 ∧ (0 : Int) ≤ x3 ∧ x3 < vln w (vct w x0 2) then vrun n d 193 115 [(2, x0), (0, x1), (0, x2), (0, x3)] [] (vsv w (vct w x0 2) x3 (w64 ((vct w x0 8) - (vct w (vct w x0 4) x2)))) else none else none else none else none else none) (fun _ => rfl)).trans (EX_if.trans (and_congr Iff.rfl (EX_if.trans (and_congr Iff.rfl (EX_if.trans (and_congr Iff.rfl (EX_if.trans (and_congr Iff.rfl (EX_if.trans (and_congr Iff.rfl (Iff.rfl)))))))))))
set_option maxRecDepth 100000 in
theorem b193_115 {d : Nat} {w : vW} {x0 x1 x2 x3 : Int} {Q : Int → vW → Prop} : VW d 193 115 [(2, x0), (0, x1), (0, x2), (0, x3)] [] w Q ↔ VW d 193 5 [(2, x0), (0, x1), (0, w32 (x2 + (-1))), (0, x3)] [] w Q :=
  (VW_b 2 (F := fun n => vrun n d 193 5 [(2, x0), (0, x1), (0, w32 (x2 + (-1))), (0, x3)] [] w) (fun _ => rfl)).trans (Iff.rfl)
set_option maxRecDepth 100000 in
theorem b193_121 {d : Nat} {w : vW} {x0 x1 x2 : Int} {v3 : vV} {Q : Int → vW → Prop} : VW d 193 121 [(2, x0), (0, x1), (0, x2), v3] [] w Q ↔ (vkd w x0 = 14) ∧ (vkd w x0 = 14) ∧ VW d 193 133 [(2, x0), (0, x1), (0, x2), v3] [] (vsv w x0 5 (min (vct w x0 5) x1)) Q :=
  (VW_b 6 (F := fun n => if vkd w x0 = 14 then if vkd w x0 = 14 then vrun n d 193 133 [(2, x0), (0, x1), (0, x2), v3] [] (vsv w x0 5 (min (vct w x0 5) x1)) else none else none) (fun _ => rfl)).trans (EX_if.trans (and_congr Iff.rfl (EX_if.trans (and_congr Iff.rfl (Iff.rfl)))))
set_option maxRecDepth 100000 in
theorem b193_133 {d : Nat} {w : vW} {x0 x1 x2 : Int} {v3 : vV} {Q : Int → vW → Prop} : VW d 193 133 [(2, x0), (0, x1), (0, x2), v3] [] w Q ↔ Q 0 w :=
  (VW_b 1 (F := fun n => some (0, 0, w)) (fun _ => rfl)).trans (EX_ret0)
/-! 194: StrikeWhatCancels$Leaps.leapt(LStrikeWhatCancels$Rules;II)Z -/
set_option maxRecDepth 100000 in
theorem b194_0 {d : Nat} {w : vW} {x0 x1 x2 x3 : Int} {Q : Int → vW → Prop} : VW d 194 0 [(2, x0), (2, x1), (0, x2), (0, x3), (9, 0), (9, 0), (9, 0), (9, 0), (9, 0), (9, 0), (9, 0), (9, 0), (9, 0), (9, 0)] [] w Q ↔ (vkd w x0 = 14) ∧ VC d 273 [(1, vct w x0 7)] w (fun r w1 => VW d 194 7 [(2, x0), (2, x1), (0, x2), (0, x3), (9, 0), (9, 0), (9, 0), (9, 0), (9, 0), (9, 0), (9, 0), (9, 0), (9, 0), (9, 0)] [(0, r)] w1 Q) :=
  (VW_b 3 (F := fun n => if vkd w x0 = 14 then vclr (vrun n) d 194 7 273 1 0 [(2, x0), (2, x1), (0, x2), (0, x3), (9, 0), (9, 0), (9, 0), (9, 0), (9, 0), (9, 0), (9, 0), (9, 0), (9, 0), (9, 0)] [(1, vct w x0 7)] w else none) (fun _ => rfl)).trans (EX_if.trans (and_congr Iff.rfl (EX_call rfl)))
set_option maxRecDepth 100000 in
theorem b194_7 {d : Nat} {w : vW} {x0 x1 x2 x3 y0 : Int} {Q : Int → vW → Prop} : VW d 194 7 [(2, x0), (2, x1), (0, x2), (0, x3), (9, 0), (9, 0), (9, 0), (9, 0), (9, 0), (9, 0), (9, 0), (9, 0), (9, 0), (9, 0)] [(0, y0)] w Q ↔ (vkd w x0 = 14) ∧ VW d 194 17 [(2, x0), (2, x1), (0, x2), (0, x3), (0, y0), (0, w32 ((vct w x0 5) + 1)), (9, 0), (9, 0), (9, 0), (9, 0), (9, 0), (9, 0), (9, 0), (9, 0)] [] w Q :=
  (VW_b 6 (F := fun n => if vkd w x0 = 14 then vrun n d 194 17 [(2, x0), (2, x1), (0, x2), (0, x3), (0, y0), (0, w32 ((vct w x0 5) + 1)), (9, 0), (9, 0), (9, 0), (9, 0), (9, 0), (9, 0), (9, 0), (9, 0)] [] w else none) (fun _ => rfl)).trans (EX_if.trans (and_congr Iff.rfl (Iff.rfl)))
set_option maxRecDepth 100000 in
theorem b194_17 {d : Nat} {w : vW} {x0 x1 x2 x3 x4 x5 : Int} {v6 v7 v8 v9 v10 v11 v12 v13 : vV} {Q : Int → vW → Prop} : VW d 194 17 [(2, x0), (2, x1), (0, x2), (0, x3), (0, x4), (0, x5), v6, v7, v8, v9, v10, v11, v12, v13] [] w Q ↔ ((x3 < x5 → VW d 194 231 [(2, x0), (2, x1), (0, x2), (0, x3), (0, x4), (0, x5), v6, v7, v8, v9, v10, v11, v12, v13] [] w Q) ∧ (¬ (x3 < x5) → VW d 194 23 [(2, x0), (2, x1), (0, x2), (0, x3), (0, x4), (0, x5), v6, v7, v8, v9, v10, v11, v12, v13] [] w Q)) :=
  (VW_b 3 (F := fun n => (if x3 < x5 then vrun n d 194 231 [(2, x0), (2, x1), (0, x2), (0, x3), (0, x4), (0, x5), v6, v7, v8, v9, v10, v11, v12, v13] [] w else vrun n d 194 23 [(2, x0), (2, x1), (0, x2), (0, x3), (0, x4), (0, x5), v6, v7, v8, v9, v10, v11, v12, v13] [] w)) (fun _ => rfl)).trans (EX_br.trans (and_congr (imp_congr Iff.rfl Iff.rfl) (imp_congr Iff.rfl Iff.rfl)))
set_option maxRecDepth 100000 in
theorem b194_23 {d : Nat} {w : vW} {x0 x1 x2 x3 x4 x5 : Int} {v6 v7 v8 v9 v10 v11 v12 v13 : vV} {Q : Int → vW → Prop} : VW d 194 23 [(2, x0), (2, x1), (0, x2), (0, x3), (0, x4), (0, x5), v6, v7, v8, v9, v10, v11, v12, v13] [] w Q ↔ ((x5 < x4 → VW d 194 30 [(2, x0), (2, x1), (0, x2), (0, x3), (0, x4), (0, x5), v6, v7, v8, v9, v10, v11, v12, v13] [] w Q) ∧ (¬ (x5 < x4) → VW d 194 231 [(2, x0), (2, x1), (0, x2), (0, x3), (0, x4), (0, x5), v6, v7, v8, v9, v10, v11, v12, v13] [] w Q)) :=
  (VW_b 3 (F := fun n => (if x5 < x4 then vrun n d 194 30 [(2, x0), (2, x1), (0, x2), (0, x3), (0, x4), (0, x5), v6, v7, v8, v9, v10, v11, v12, v13] [] w else vrun n d 194 231 [(2, x0), (2, x1), (0, x2), (0, x3), (0, x4), (0, x5), v6, v7, v8, v9, v10, v11, v12, v13] [] w)) (fun _ => rfl)).trans (EX_br.trans (and_congr (imp_congr Iff.rfl Iff.rfl) (imp_congr Iff.rfl Iff.rfl)))
set_option maxRecDepth 100000 in
theorem b194_30 {d : Nat} {w : vW} {x0 x1 x2 x3 x4 x5 : Int} {v6 v7 v8 v9 v10 v11 v12 v13 : vV} {Q : Int → vW → Prop} : VW d 194 30 [(2, x0), (2, x1), (0, x2), (0, x3), (0, x4), (0, x5), v6, v7, v8, v9, v10, v11, v12, v13] [] w Q ↔ ((x5 < 0 → VW d 194 231 [(2, x0), (2, x1), (0, x2), (0, x3), (0, x4), (0, x5), v6, v7, v8, v9, v10, v11, v12, v13] [] w Q) ∧ (¬ (x5 < 0) → VW d 194 35 [(2, x0), (2, x1), (0, x2), (0, x3), (0, x4), (0, x5), v6, v7, v8, v9, v10, v11, v12, v13] [] w Q)) :=
  (VW_b 2 (F := fun n => (if x5 < 0 then vrun n d 194 231 [(2, x0), (2, x1), (0, x2), (0, x3), (0, x4), (0, x5), v6, v7, v8, v9, v10, v11, v12, v13] [] w else vrun n d 194 35 [(2, x0), (2, x1), (0, x2), (0, x3), (0, x4), (0, x5), v6, v7, v8, v9, v10, v11, v12, v13] [] w)) (fun _ => rfl)).trans (EX_br.trans (and_congr (imp_congr Iff.rfl Iff.rfl) (imp_congr Iff.rfl Iff.rfl)))
set_option maxRecDepth 100000 in
theorem b194_35 {d : Nat} {w : vW} {x0 x1 x2 x3 x4 x5 : Int} {v6 v7 v8 v9 v10 v11 v12 v13 : vV} {Q : Int → vW → Prop} : VW d 194 35 [(2, x0), (2, x1), (0, x2), (0, x3), (0, x4), (0, x5), v6, v7, v8, v9, v10, v11, v12, v13] [] w Q ↔ (vkd w x0 = 14) ∧ (vkd w (vct w x0 3) = 2) ∧ ((x5 < (vln w (vct w x0 3)) → VW d 194 45 [(2, x0), (2, x1), (0, x2), (0, x3), (0, x4), (0, x5), v6, v7, v8, v9, v10, v11, v12, v13] [] w Q) ∧ (¬ (x5 < (vln w (vct w x0 3))) → VW d 194 231 [(2, x0), (2, x1), (0, x2), (0, x3), (0, x4), (0, x5), v6, v7, v8, v9, v10, v11, v12, v13] [] w Q)) :=
  (VW_b 5 (F := fun n => if vkd w x0 = 14 then if vkd w (vct w x0 3) = 2 then (if x5 < (vln w (vct w x0 3)) then vrun n d 194 45 [(2, x0), (2, x1), (0, x2), (0, x3), (0, x4), (0, x5), v6, v7, v8, v9, v10, v11, v12, v13] [] w else vrun n d 194 231 [(2, x0), (2, x1), (0, x2), (0, x3), (0, x4), (0, x5), v6, v7, v8, v9, v10, v11, v12, v13] [] w) else none else none) (fun _ => rfl)).trans (EX_if.trans (and_congr Iff.rfl (EX_if.trans (and_congr Iff.rfl (EX_br.trans (and_congr (imp_congr Iff.rfl Iff.rfl) (imp_congr Iff.rfl Iff.rfl)))))))
set_option maxRecDepth 100000 in
theorem b194_45 {d : Nat} {w : vW} {x0 x1 x2 x3 x4 x5 : Int} {v6 v7 v8 v9 v10 v11 v12 v13 : vV} {Q : Int → vW → Prop} : VW d 194 45 [(2, x0), (2, x1), (0, x2), (0, x3), (0, x4), (0, x5), v6, v7, v8, v9, v10, v11, v12, v13] [] w Q ↔ (vkd w x0 = 14) ∧ (vkd w x1 = 18) ∧ VC d 268 [(2, x1), (0, x2), (1, vct w x0 7), (0, x5)] w (fun r w1 => VW d 194 56 [(2, x0), (2, x1), (0, x2), (0, x3), (0, x4), (0, x5), v6, v7, v8, v9, v10, v11, v12, v13] [(0, r)] w1 Q) :=
  (VW_b 6 (F := fun n => if vkd w x0 = 14 then if vkd w x1 = 18 then vclr (vrun n) d 194 56 268 4 0 [(2, x0), (2, x1), (0, x2), (0, x3), (0, x4), (0, x5), v6, v7, v8, v9, v10, v11, v12, v13] [(0, x5), (1, vct w x0 7), (0, x2), (2, x1)] w else none else none) (fun _ => rfl)).trans (EX_if.trans (and_congr Iff.rfl (EX_if.trans (and_congr Iff.rfl (EX_call rfl)))))
set_option maxRecDepth 100000 in
theorem b194_56 {d : Nat} {w : vW} {x0 x1 x2 x3 x4 x5 y0 : Int} {v6 v7 v8 v9 v10 v11 v12 v13 : vV} {Q : Int → vW → Prop} : VW d 194 56 [(2, x0), (2, x1), (0, x2), (0, x3), (0, x4), (0, x5), v6, v7, v8, v9, v10, v11, v12, v13] [(0, y0)] w Q ↔ ((x2 = 2 → VW d 194 63 [(2, x0), (2, x1), (0, x2), (0, x3), (0, x4), (0, x5), (0, y0), v7, v8, v9, v10, v11, v12, v13] [] w Q) ∧ (¬ (x2 = 2) → VW d 194 79 [(2, x0), (2, x1), (0, x2), (0, x3), (0, x4), (0, x5), (0, y0), v7, v8, v9, v10, v11, v12, v13] [] w Q)) :=
  (VW_b 4 (F := fun n => (if x2 = 2 then vrun n d 194 63 [(2, x0), (2, x1), (0, x2), (0, x3), (0, x4), (0, x5), (0, y0), v7, v8, v9, v10, v11, v12, v13] [] w else vrun n d 194 79 [(2, x0), (2, x1), (0, x2), (0, x3), (0, x4), (0, x5), (0, y0), v7, v8, v9, v10, v11, v12, v13] [] w)) (fun _ => rfl)).trans (EX_br.trans (and_congr (imp_congr Iff.rfl Iff.rfl) (imp_congr Iff.rfl Iff.rfl)))
set_option maxRecDepth 100000 in
theorem b194_63 {d : Nat} {w : vW} {x0 x1 x2 x3 x4 x5 x6 : Int} {v7 v8 v9 v10 v11 v12 v13 : vV} {Q : Int → vW → Prop} : VW d 194 63 [(2, x0), (2, x1), (0, x2), (0, x3), (0, x4), (0, x5), (0, x6), v7, v8, v9, v10, v11, v12, v13] [] w Q ↔ (vkd w x0 = 14) ∧ (vkd w x1 = 18) ∧ VC d 269 [(2, x1), (1, vct w x0 7), (0, x6)] w (fun r w1 => VW d 194 74 [(2, x0), (2, x1), (0, x2), (0, x3), (0, x4), (0, x5), (0, x6), v7, v8, v9, v10, v11, v12, v13] [(0, r), (0, 2)] w1 Q) :=
  (VW_b 6 (F := fun n => if vkd w x0 = 14 then if vkd w x1 = 18 then vclr (vrun n) d 194 74 269 3 0 [(2, x0), (2, x1), (0, x2), (0, x3), (0, x4), (0, x5), (0, x6), v7, v8, v9, v10, v11, v12, v13] [(0, x6), (1, vct w x0 7), (2, x1), (0, 2)] w else none else none) (fun _ => rfl)).trans (EX_if.trans (and_congr Iff.rfl (EX_if.trans (and_congr Iff.rfl (EX_call rfl)))))
set_option maxRecDepth 100000 in
theorem b194_74 {d : Nat} {w : vW} {x0 x1 x2 x3 x4 x5 x6 y0 y1 : Int} {v7 v8 v9 v10 v11 v12 v13 : vV} {Q : Int → vW → Prop} : VW d 194 74 [(2, x0), (2, x1), (0, x2), (0, x3), (0, x4), (0, x5), (0, x6), v7, v8, v9, v10, v11, v12, v13] [(0, y1), (0, y0)] w Q ↔ VW d 194 81 [(2, x0), (2, x1), (0, x2), (0, x3), (0, x4), (0, x5), (0, x6), v7, v8, v9, v10, v11, v12, v13] [(1, (w32 (y0 + y1)))] w Q :=
  (VW_b 3 (F := fun n => vrun n d 194 81 [(2, x0), (2, x1), (0, x2), (0, x3), (0, x4), (0, x5), (0, x6), v7, v8, v9, v10, v11, v12, v13] [(1, (w32 (y0 + y1)))] w) (fun _ => rfl)).trans (Iff.rfl)
set_option maxRecDepth 100000 in
theorem b194_79 {d : Nat} {w : vW} {x0 x1 x2 x3 x4 x5 x6 : Int} {v7 v8 v9 v10 v11 v12 v13 : vV} {Q : Int → vW → Prop} : VW d 194 79 [(2, x0), (2, x1), (0, x2), (0, x3), (0, x4), (0, x5), (0, x6), v7, v8, v9, v10, v11, v12, v13] [] w Q ↔ VW d 194 81 [(2, x0), (2, x1), (0, x2), (0, x3), (0, x4), (0, x5), (0, x6), v7, v8, v9, v10, v11, v12, v13] [(1, x2)] w Q :=
  (VW_b 2 (F := fun n => vrun n d 194 81 [(2, x0), (2, x1), (0, x2), (0, x3), (0, x4), (0, x5), (0, x6), v7, v8, v9, v10, v11, v12, v13] [(1, x2)] w) (fun _ => rfl)).trans (Iff.rfl)
set_option maxRecDepth 100000 in
theorem b194_81 {d : Nat} {w : vW} {x0 x1 x2 x3 x4 x5 x6 y0 : Int} {v7 v8 v9 v10 v11 v12 v13 : vV} {Q : Int → vW → Prop} : VW d 194 81 [(2, x0), (2, x1), (0, x2), (0, x3), (0, x4), (0, x5), (0, x6), v7, v8, v9, v10, v11, v12, v13] [(1, y0)] w Q ↔ (vkd w x0 = 14) ∧ VC d 277 [(1, vct w x0 7), (0, x6), (0, w32 (x4 - x6))] w (fun r w1 => VW d 194 97 [(2, x0), (2, x1), (0, x2), (0, x3), (0, x4), (0, x5), (0, x6), (1, y0), (9, 0), v9, v10, v11, v12, v13] [(1, r)] w1 Q) :=
  (VW_b 8 (F := fun n => if vkd w x0 = 14 then vclr (vrun n) d 194 97 277 3 1 [(2, x0), (2, x1), (0, x2), (0, x3), (0, x4), (0, x5), (0, x6), (1, y0), (9, 0), v9, v10, v11, v12, v13] [(0, w32 (x4 - x6)), (0, x6), (1, vct w x0 7)] w else none) (fun _ => rfl)).trans (EX_if.trans (and_congr Iff.rfl (EX_call rfl)))
set_option maxRecDepth 100000 in
theorem b194_97 {d : Nat} {w : vW} {x0 x1 x2 x3 x4 x5 x6 x7 y0 : Int} {v9 v10 v11 v12 v13 : vV} {Q : Int → vW → Prop} : VW d 194 97 [(2, x0), (2, x1), (0, x2), (0, x3), (0, x4), (0, x5), (0, x6), (1, x7), (9, 0), v9, v10, v11, v12, v13] [(1, y0)] w Q ↔ VC d 275 [(1, y0)] w (fun r w1 => VW d 194 100 [(2, x0), (2, x1), (0, x2), (0, x3), (0, x4), (0, x5), (0, x6), (1, x7), (9, 0), v9, v10, v11, v12, v13] [(1, r)] w1 Q) :=
  (VW_b 1 (F := fun n => vclr (vrun n) d 194 100 275 1 1 [(2, x0), (2, x1), (0, x2), (0, x3), (0, x4), (0, x5), (0, x6), (1, x7), (9, 0), v9, v10, v11, v12, v13] [(1, y0)] w) (fun _ => rfl)).trans (EX_call rfl)
set_option maxRecDepth 100000 in
theorem b194_100 {d : Nat} {w : vW} {x0 x1 x2 x3 x4 x5 x6 x7 y0 : Int} {v9 v10 v11 v12 v13 : vV} {Q : Int → vW → Prop} : VW d 194 100 [(2, x0), (2, x1), (0, x2), (0, x3), (0, x4), (0, x5), (0, x6), (1, x7), (9, 0), v9, v10, v11, v12, v13] [(1, y0)] w Q ↔ VW d 194 122 [(2, x0), (2, x1), (0, x2), (0, x3), (0, x4), (0, x5), (0, x6), (1, x7), (9, 0), (1, y0), (9, 0), (1, l_or (l_or y0 (l_shl (w32 (x5 - x6)) 56)) (l_shl x7 59)), (9, 0), v13] [] w Q :=
  (VW_b 14 (F := fun n => vrun n d 194 122 [(2, x0), (2, x1), (0, x2), (0, x3), (0, x4), (0, x5), (0, x6), (1, x7), (9, 0), (1, y0), (9, 0), (1, l_or (l_or y0 (l_shl (w32 (x5 - x6)) 56)) (l_shl x7 59)), (9, 0), v13] [] w) (fun _ => rfl)).trans (Iff.rfl)
set_option maxRecDepth 100000 in
theorem b194_122 {d : Nat} {w : vW} {x0 x1 x2 x3 x4 x5 x6 x7 x9 x11 : Int} {v13 : vV} {Q : Int → vW → Prop} : VW d 194 122 [(2, x0), (2, x1), (0, x2), (0, x3), (0, x4), (0, x5), (0, x6), (1, x7), (9, 0), (1, x9), (9, 0), (1, x11), (9, 0), v13] [] w Q ↔ (vkd w x0 = 14) ∧ VC d 195 [(2, x0), (1, x11)] w (fun r w1 => VW d 194 128 [(2, x0), (2, x1), (0, x2), (0, x3), (0, x4), (0, x5), (0, x6), (1, x7), (9, 0), (1, x9), (9, 0), (1, x11), (9, 0), v13] [(0, r)] w1 Q) :=
  (VW_b 3 (F := fun n => if vkd w x0 = 14 then vclr (vrun n) d 194 128 195 2 0 [(2, x0), (2, x1), (0, x2), (0, x3), (0, x4), (0, x5), (0, x6), (1, x7), (9, 0), (1, x9), (9, 0), (1, x11), (9, 0), v13] [(1, x11), (2, x0)] w else none) (fun _ => rfl)).trans (EX_if.trans (and_congr Iff.rfl (EX_call rfl)))
set_option maxRecDepth 100000 in
theorem b194_128 {d : Nat} {w : vW} {x0 x1 x2 x3 x4 x5 x6 x7 x9 x11 y0 : Int} {v13 : vV} {Q : Int → vW → Prop} : VW d 194 128 [(2, x0), (2, x1), (0, x2), (0, x3), (0, x4), (0, x5), (0, x6), (1, x7), (9, 0), (1, x9), (9, 0), (1, x11), (9, 0), v13] [(0, y0)] w Q ↔ ((y0 < 0 → VW d 194 199 [(2, x0), (2, x1), (0, x2), (0, x3), (0, x4), (0, x5), (0, x6), (1, x7), (9, 0), (1, x9), (9, 0), (1, x11), (9, 0), (0, y0)] [] w Q) ∧ (¬ (y0 < 0) → VW d 194 135 [(2, x0), (2, x1), (0, x2), (0, x3), (0, x4), (0, x5), (0, x6), (1, x7), (9, 0), (1, x9), (9, 0), (1, x11), (9, 0), (0, y0)] [] w Q)) :=
  (VW_b 3 (F := fun n => (if y0 < 0 then vrun n d 194 199 [(2, x0), (2, x1), (0, x2), (0, x3), (0, x4), (0, x5), (0, x6), (1, x7), (9, 0), (1, x9), (9, 0), (1, x11), (9, 0), (0, y0)] [] w else vrun n d 194 135 [(2, x0), (2, x1), (0, x2), (0, x3), (0, x4), (0, x5), (0, x6), (1, x7), (9, 0), (1, x9), (9, 0), (1, x11), (9, 0), (0, y0)] [] w)) (fun _ => rfl)).trans (EX_br.trans (and_congr (imp_congr Iff.rfl Iff.rfl) (imp_congr Iff.rfl Iff.rfl)))
set_option maxRecDepth 100000 in
theorem b194_135 {d : Nat} {w : vW} {x0 x1 x2 x3 x4 x5 x6 x7 x9 x11 x13 : Int} {Q : Int → vW → Prop} : VW d 194 135 [(2, x0), (2, x1), (0, x2), (0, x3), (0, x4), (0, x5), (0, x6), (1, x7), (9, 0), (1, x9), (9, 0), (1, x11), (9, 0), (0, x13)] [] w Q ↔ ((x13 < 16384 → VW d 194 143 [(2, x0), (2, x1), (0, x2), (0, x3), (0, x4), (0, x5), (0, x6), (1, x7), (9, 0), (1, x9), (9, 0), (1, x11), (9, 0), (0, x13)] [] w Q) ∧ (¬ (x13 < 16384) → VW d 194 199 [(2, x0), (2, x1), (0, x2), (0, x3), (0, x4), (0, x5), (0, x6), (1, x7), (9, 0), (1, x9), (9, 0), (1, x11), (9, 0), (0, x13)] [] w Q)) :=
  (VW_b 3 (F := fun n => (if x13 < 16384 then vrun n d 194 143 [(2, x0), (2, x1), (0, x2), (0, x3), (0, x4), (0, x5), (0, x6), (1, x7), (9, 0), (1, x9), (9, 0), (1, x11), (9, 0), (0, x13)] [] w else vrun n d 194 199 [(2, x0), (2, x1), (0, x2), (0, x3), (0, x4), (0, x5), (0, x6), (1, x7), (9, 0), (1, x9), (9, 0), (1, x11), (9, 0), (0, x13)] [] w)) (fun _ => rfl)).trans (EX_br.trans (and_congr (imp_congr Iff.rfl Iff.rfl) (imp_congr Iff.rfl Iff.rfl)))
set_option maxRecDepth 100000 in
theorem b194_143 {d : Nat} {w : vW} {x0 x1 x2 x3 x4 x5 x6 x7 x9 x11 x13 : Int} {Q : Int → vW → Prop} : VW d 194 143 [(2, x0), (2, x1), (0, x2), (0, x3), (0, x4), (0, x5), (0, x6), (1, x7), (9, 0), (1, x9), (9, 0), (1, x11), (9, 0), (0, x13)] [] w Q ↔ (vkd w x0 = 14) ∧ (vkd w (vct w x0 0) = 2 ∧ (0 : Int) ≤ x13 ∧ x13 < vln w (vct w x0 0)) ∧ (((vlc (vct w (vct w x0 0) x13) x11) = 0 → VW d 194 156 [(2, x0), (2, x1), (0, x2), (0, x3), (0, x4), (0, x5), (0, x6), (1, x7), (9, 0), (1, x9), (9, 0), (1, x11), (9, 0), (0, x13)] [] w Q) ∧ (¬ ((vlc (vct w (vct w x0 0) x13) x11) = 0) → VW d 194 199 [(2, x0), (2, x1), (0, x2), (0, x3), (0, x4), (0, x5), (0, x6), (1, x7), (9, 0), (1, x9), (9, 0), (1, x11), (9, 0), (0, x13)] [] w Q)) :=
  (VW_b 7 (F := fun n => if vkd w x0 = 14 then if vkd w (vct w x0 0) = 2 ∧ (0 : Int) ≤ x13 ∧ x13 < vln w (vct w x0 0) then (if (vlc (vct w (vct w x0 0) x13) x11) = 0 then vrun n d 194 156 [(2, x0), (2, x1), (0, x2), (0, x3), (0, x4), (0, x5), (0, x6), (1, x7), (9, 0), (1, x9), (9, 0), (1, x11), (9, 0), (0, x13)] [] w else vrun n d 194 199 [(2, x0), (2, x1), (0, x2), (0, x3), (0, x4), (0, x5), (0, x6), (1, x7), (9, 0), (1, x9), (9, 0), (1, x11), (9, 0), (0, x13)] [] w) else none else none) (fun _ => rfl)).trans (EX_if.trans (and_congr Iff.rfl (EX_if.trans (and_congr Iff.rfl (EX_br.trans (and_congr (imp_congr Iff.rfl Iff.rfl) (imp_congr Iff.rfl Iff.rfl)))))))
set_option maxRecDepth 100000 in
theorem b194_156 {d : Nat} {w : vW} {x0 x1 x2 x3 x4 x5 x6 x7 x9 x11 x13 : Int} {Q : Int → vW → Prop} : VW d 194 156 [(2, x0), (2, x1), (0, x2), (0, x3), (0, x4), (0, x5), (0, x6), (1, x7), (9, 0), (1, x9), (9, 0), (1, x11), (9, 0), (0, x13)] [] w Q ↔ (vkd w x0 = 14) ∧ (vkd w x0 = 14) ∧ (vkd w (vct w x0 1) = 2 ∧ (0 : Int) ≤ x13 ∧ x13 < vln w (vct w x0 1)) ∧ VC d 278 [(1, vct w x0 7), (0, x5), (0, w32 (x4 - x5)), (1, vct w (vct w x0 1) x13)] w (fun r w1 => VW d 194 178 [(2, x0), (2, x1), (0, x2), (0, x3), (0, x4), (0, x5), (0, x6), (1, x7), (9, 0), (1, x9), (9, 0), (1, x11), (9, 0), (0, x13)] [(1, r), (2, x0)] w1 Q) :=
  (VW_b 12 (F := fun n => if vkd w x0 = 14 then if vkd w x0 = 14 then if vkd w (vct w x0 1) = 2 ∧ (0 : Int) ≤ x13 ∧ x13 < vln w (vct w x0 1) then vclr (vrun n) d 194 178 278 4 1 [(2, x0), (2, x1), (0, x2), (0, x3), (0, x4), (0, x5), (0, x6), (1, x7), (9, 0), (1, x9), (9, 0), (1, x11), (9, 0), (0, x13)] [(1, vct w (vct w x0 1) x13), (0, w32 (x4 - x5)), (0, x5), (1, vct w x0 7), (2, x0)] w else none else none else none) (fun _ => rfl)).trans (EX_if.trans (and_congr Iff.rfl (EX_if.trans (and_congr Iff.rfl (EX_if.trans (and_congr Iff.rfl (EX_call rfl)))))))
set_option maxRecDepth 100000 in
theorem b194_178 {d : Nat} {w : vW} {x0 x1 x2 x3 x4 x5 x6 x7 x9 x11 x13 y0 y1 : Int} {Q : Int → vW → Prop} : VW d 194 178 [(2, x0), (2, x1), (0, x2), (0, x3), (0, x4), (0, x5), (0, x6), (1, x7), (9, 0), (1, x9), (9, 0), (1, x11), (9, 0), (0, x13)] [(1, y1), (2, y0)] w Q ↔ (vkd w y0 = 14) ∧ VW d 194 181 [(2, x0), (2, x1), (0, x2), (0, x3), (0, x4), (0, x5), (0, x6), (1, x7), (9, 0), (1, x9), (9, 0), (1, x11), (9, 0), (0, x13)] [] (vsv w y0 7 y1) Q :=
  (VW_b 1 (F := fun n => if vkd w y0 = 14 then vrun n d 194 181 [(2, x0), (2, x1), (0, x2), (0, x3), (0, x4), (0, x5), (0, x6), (1, x7), (9, 0), (1, x9), (9, 0), (1, x11), (9, 0), (0, x13)] [] (vsv w y0 7 y1) else none) (fun _ => rfl)).trans (EX_if.trans (and_congr Iff.rfl (Iff.rfl)))
set_option maxRecDepth 100000 in
theorem b194_181 {d : Nat} {w : vW} {x0 x1 x2 x3 x4 x5 x6 x7 x9 x11 x13 : Int} {Q : Int → vW → Prop} : VW d 194 181 [(2, x0), (2, x1), (0, x2), (0, x3), (0, x4), (0, x5), (0, x6), (1, x7), (9, 0), (1, x9), (9, 0), (1, x11), (9, 0), (0, x13)] [] w Q ↔ (vkd w x0 = 14) ∧ (vkd w x0 = 14) ∧ (vkd w (vct w x0 2) = 2 ∧ (0 : Int) ≤ x13 ∧ x13 < vln w (vct w x0 2)) ∧ (vkd w x0 = 14) ∧ VW d 194 197 [(2, x0), (2, x1), (0, x2), (0, x3), (0, x4), (0, x5), (0, x6), (1, x7), (9, 0), (1, x9), (9, 0), (1, x11), (9, 0), (0, x13)] [] (vsv w x0 8 (w64 ((vct w x0 8) + (vct w (vct w x0 2) x13)))) Q :=
  (VW_b 9 (F := fun n => if vkd w x0 = 14 then if vkd w x0 = 14 then if vkd w (vct w x0 2) = 2 ∧ (0 : Int) ≤ x13 ∧ x13 < vln w (vct w x0 2) then if vkd w x0 = 14 then vrun n d 194 197 [(2, x0), (2, x1), (0, x2), (0, x3), (0, x4), (0, x5), (0, x6), (1, x7), (9, 0), (1, x9), (9, 0), (1, x11), (9, 0), (0, x13)] [] (vsv w x0 8 (w64 ((vct w x0 8) + (vct w (vct w x0 2) x13)))) else none else none else none else none) (fun _ => rfl)).trans (EX_if.trans (and_congr Iff.rfl (EX_if.trans (and_congr Iff.rfl (EX_if.trans (and_congr Iff.rfl (EX_if.trans (and_congr Iff.rfl (Iff.rfl)))))))))
set_option maxRecDepth 100000 in
theorem b194_197 {d : Nat} {w : vW} {x0 x1 x2 x3 x4 x5 x6 x7 x9 x11 x13 : Int} {Q : Int → vW → Prop} : VW d 194 197 [(2, x0), (2, x1), (0, x2), (0, x3), (0, x4), (0, x5), (0, x6), (1, x7), (9, 0), (1, x9), (9, 0), (1, x11), (9, 0), (0, x13)] [] w Q ↔ Q 1 w :=
  (VW_b 2 (F := fun n => some (0, 1, w)) (fun _ => rfl)).trans (EX_ret0)
set_option maxRecDepth 100000 in
theorem b194_199 {d : Nat} {w : vW} {x0 x1 x2 x3 x4 x5 x6 x7 x9 x11 x13 : Int} {Q : Int → vW → Prop} : VW d 194 199 [(2, x0), (2, x1), (0, x2), (0, x3), (0, x4), (0, x5), (0, x6), (1, x7), (9, 0), (1, x9), (9, 0), (1, x11), (9, 0), (0, x13)] [] w Q ↔ (vkd w x0 = 14) ∧ (vkd w (vct w x0 3) = 2 ∧ (0 : Int) ≤ x5 ∧ x5 < vln w (vct w x0 3)) ∧ VW d 194 208 [(2, x0), (2, x1), (0, x2), (0, x3), (0, x4), (0, x5), (0, x6), (1, x7), (9, 0), (1, x9), (9, 0), (1, x11), (9, 0), (0, x13)] [] (vsv w (vct w x0 3) x5 x11) Q :=
  (VW_b 5 (F := fun n => if vkd w x0 = 14 then if vkd w (vct w x0 3) = 2 ∧ (0 : Int) ≤ x5 ∧ x5 < vln w (vct w x0 3) then vrun n d 194 208 [(2, x0), (2, x1), (0, x2), (0, x3), (0, x4), (0, x5), (0, x6), (1, x7), (9, 0), (1, x9), (9, 0), (1, x11), (9, 0), (0, x13)] [] (vsv w (vct w x0 3) x5 x11) else none else none) (fun _ => rfl)).trans (EX_if.trans (and_congr Iff.rfl (EX_if.trans (and_congr Iff.rfl (Iff.rfl)))))
set_option maxRecDepth 100000 in
theorem b194_208 {d : Nat} {w : vW} {x0 x1 x2 x3 x4 x5 x6 x7 x9 x11 x13 : Int} {Q : Int → vW → Prop} : VW d 194 208 [(2, x0), (2, x1), (0, x2), (0, x3), (0, x4), (0, x5), (0, x6), (1, x7), (9, 0), (1, x9), (9, 0), (1, x11), (9, 0), (0, x13)] [] w Q ↔ (vkd w x0 = 14) ∧ (vkd w x0 = 14) ∧ (vkd w (vct w x0 4) = 2 ∧ (0 : Int) ≤ x5 ∧ x5 < vln w (vct w x0 4)) ∧ VW d 194 219 [(2, x0), (2, x1), (0, x2), (0, x3), (0, x4), (0, x5), (0, x6), (1, x7), (9, 0), (1, x9), (9, 0), (1, x11), (9, 0), (0, x13)] [] (vsv w (vct w x0 4) x5 (vct w x0 8)) Q :=
  (VW_b 6 (F := fun n => if vkd w x0 = 14 then if vkd w x0 = 14 then if vkd w (vct w x0 4) = 2 ∧ (0 : Int) ≤ x5 ∧ x5 < vln w (vct w x0 4) then vrun n d 194 219 [(2, x0), (2, x1), (0, x2), (0, x3), (0, x4), (0, x5), (0, x6), (1, x7), (9, 0), (1, x9), (9, 0), (1, x11), (9, 0), (0, x13)] [] (vsv w (vct w x0 4) x5 (vct w x0 8)) else none else none else none) (fun _ => rfl)).trans (EX_if.trans (and_congr Iff.rfl (EX_if.trans (and_congr Iff.rfl (EX_if.trans (and_congr Iff.rfl (Iff.rfl)))))))
set_option maxRecDepth 100000 in
theorem b194_219 {d : Nat} {w : vW} {x0 x1 x2 x3 x4 x5 x6 x7 x9 x11 x13 : Int} {Q : Int → vW → Prop} : VW d 194 219 [(2, x0), (2, x1), (0, x2), (0, x3), (0, x4), (0, x5), (0, x6), (1, x7), (9, 0), (1, x9), (9, 0), (1, x11), (9, 0), (0, x13)] [] w Q ↔ (vkd w x0 = 14) ∧ VW d 194 225 [(2, x0), (2, x1), (0, x2), (0, x3), (0, x4), (0, x5), (0, x6), (1, x7), (9, 0), (1, x9), (9, 0), (1, x11), (9, 0), (0, x13)] [] (vsv w x0 5 x5) Q :=
  (VW_b 3 (F := fun n => if vkd w x0 = 14 then vrun n d 194 225 [(2, x0), (2, x1), (0, x2), (0, x3), (0, x4), (0, x5), (0, x6), (1, x7), (9, 0), (1, x9), (9, 0), (1, x11), (9, 0), (0, x13)] [] (vsv w x0 5 x5) else none) (fun _ => rfl)).trans (EX_if.trans (and_congr Iff.rfl (Iff.rfl)))
set_option maxRecDepth 100000 in
theorem b194_225 {d : Nat} {w : vW} {x0 x1 x2 x3 x4 x5 x6 x7 x9 x11 x13 : Int} {Q : Int → vW → Prop} : VW d 194 225 [(2, x0), (2, x1), (0, x2), (0, x3), (0, x4), (0, x5), (0, x6), (1, x7), (9, 0), (1, x9), (9, 0), (1, x11), (9, 0), (0, x13)] [] w Q ↔ VW d 194 17 [(2, x0), (2, x1), (0, x2), (0, x3), (0, x4), (0, w32 (x5 + 1)), (0, x6), (1, x7), (9, 0), (1, x9), (9, 0), (1, x11), (9, 0), (0, x13)] [] w Q :=
  (VW_b 2 (F := fun n => vrun n d 194 17 [(2, x0), (2, x1), (0, x2), (0, x3), (0, x4), (0, w32 (x5 + 1)), (0, x6), (1, x7), (9, 0), (1, x9), (9, 0), (1, x11), (9, 0), (0, x13)] [] w) (fun _ => rfl)).trans (Iff.rfl)
set_option maxRecDepth 100000 in
theorem b194_231 {d : Nat} {w : vW} {x0 x1 x2 x3 x4 x5 : Int} {v6 v7 v8 v9 v10 v11 v12 v13 : vV} {Q : Int → vW → Prop} : VW d 194 231 [(2, x0), (2, x1), (0, x2), (0, x3), (0, x4), (0, x5), v6, v7, v8, v9, v10, v11, v12, v13] [] w Q ↔ Q 0 w :=
  (VW_b 2 (F := fun n => some (0, 0, w)) (fun _ => rfl)).trans (EX_ret0)
/-! 195: StrikeWhatCancels$Leaps.slotOf(J)I -/
set_option maxRecDepth 100000 in
theorem b195_0 {d : Nat} {w : vW} {x0 x1 : Int} {Q : Int → vW → Prop} : VW d 195 0 [(2, x0), (1, x1), (9, 0), (9, 0), (9, 0), (9, 0), (9, 0), (9, 0), (9, 0), (9, 0), (9, 0)] [] w Q ↔ VW d 195 24 [(2, x0), (1, x1), (9, 0), (0, w32 (l_ushr (w64 ((l_xor x1 (l_ushr x1 31)) * (-7046029254386353131))) 50)), (0, (-1)), (1, 0), (9, 0), (0, 0), (9, 0), (9, 0), (9, 0)] [] w Q :=
  (VW_b 17 (F := fun n => vrun n d 195 24 [(2, x0), (1, x1), (9, 0), (0, w32 (l_ushr (w64 ((l_xor x1 (l_ushr x1 31)) * (-7046029254386353131))) 50)), (0, (-1)), (1, 0), (9, 0), (0, 0), (9, 0), (9, 0), (9, 0)] [] w) (fun _ => rfl)).trans (Iff.rfl)
set_option maxRecDepth 100000 in
theorem b195_24 {d : Nat} {w : vW} {x0 x1 x3 x4 x5 x7 : Int} {v8 v9 v10 : vV} {Q : Int → vW → Prop} : VW d 195 24 [(2, x0), (1, x1), (9, 0), (0, x3), (0, x4), (1, x5), (9, 0), (0, x7), v8, v9, v10] [] w Q ↔ ((x7 < 4 → VW d 195 30 [(2, x0), (1, x1), (9, 0), (0, x3), (0, x4), (1, x5), (9, 0), (0, x7), v8, v9, v10] [] w Q) ∧ (¬ (x7 < 4) → VW d 195 132 [(2, x0), (1, x1), (9, 0), (0, x3), (0, x4), (1, x5), (9, 0), (0, x7), v8, v9, v10] [] w Q)) :=
  (VW_b 3 (F := fun n => (if x7 < 4 then vrun n d 195 30 [(2, x0), (1, x1), (9, 0), (0, x3), (0, x4), (1, x5), (9, 0), (0, x7), v8, v9, v10] [] w else vrun n d 195 132 [(2, x0), (1, x1), (9, 0), (0, x3), (0, x4), (1, x5), (9, 0), (0, x7), v8, v9, v10] [] w)) (fun _ => rfl)).trans (EX_br.trans (and_congr (imp_congr Iff.rfl Iff.rfl) (imp_congr Iff.rfl Iff.rfl)))
set_option maxRecDepth 100000 in
theorem b195_30 {d : Nat} {w : vW} {x0 x1 x3 x4 x5 x7 : Int} {v8 v9 v10 : vV} {Q : Int → vW → Prop} : VW d 195 30 [(2, x0), (1, x1), (9, 0), (0, x3), (0, x4), (1, x5), (9, 0), (0, x7), v8, v9, v10] [] w Q ↔ VW d 195 40 [(2, x0), (1, x1), (9, 0), (0, x3), (0, x4), (1, x5), (9, 0), (0, x7), (0, i_and (w32 (x3 + x7)) 16383), v9, v10] [] w Q :=
  (VW_b 6 (F := fun n => vrun n d 195 40 [(2, x0), (1, x1), (9, 0), (0, x3), (0, x4), (1, x5), (9, 0), (0, x7), (0, i_and (w32 (x3 + x7)) 16383), v9, v10] [] w) (fun _ => rfl)).trans (Iff.rfl)
set_option maxRecDepth 100000 in
theorem b195_40 {d : Nat} {w : vW} {x0 x1 x3 x4 x5 x7 x8 : Int} {v9 v10 : vV} {Q : Int → vW → Prop} : VW d 195 40 [(2, x0), (1, x1), (9, 0), (0, x3), (0, x4), (1, x5), (9, 0), (0, x7), (0, x8), v9, v10] [] w Q ↔ ((x8 < 0 → VW d 195 77 [(2, x0), (1, x1), (9, 0), (0, x3), (0, x4), (1, x5), (9, 0), (0, x7), (0, x8), v9, v10] [] w Q) ∧ (¬ (x8 < 0) → VW d 195 45 [(2, x0), (1, x1), (9, 0), (0, x3), (0, x4), (1, x5), (9, 0), (0, x7), (0, x8), v9, v10] [] w Q)) :=
  (VW_b 2 (F := fun n => (if x8 < 0 then vrun n d 195 77 [(2, x0), (1, x1), (9, 0), (0, x3), (0, x4), (1, x5), (9, 0), (0, x7), (0, x8), v9, v10] [] w else vrun n d 195 45 [(2, x0), (1, x1), (9, 0), (0, x3), (0, x4), (1, x5), (9, 0), (0, x7), (0, x8), v9, v10] [] w)) (fun _ => rfl)).trans (EX_br.trans (and_congr (imp_congr Iff.rfl Iff.rfl) (imp_congr Iff.rfl Iff.rfl)))
set_option maxRecDepth 100000 in
theorem b195_45 {d : Nat} {w : vW} {x0 x1 x3 x4 x5 x7 x8 : Int} {v9 v10 : vV} {Q : Int → vW → Prop} : VW d 195 45 [(2, x0), (1, x1), (9, 0), (0, x3), (0, x4), (1, x5), (9, 0), (0, x7), (0, x8), v9, v10] [] w Q ↔ (vkd w x0 = 14) ∧ (vkd w (vct w x0 0) = 2) ∧ ((x8 < (vln w (vct w x0 0)) → VW d 195 55 [(2, x0), (1, x1), (9, 0), (0, x3), (0, x4), (1, x5), (9, 0), (0, x7), (0, x8), v9, v10] [] w Q) ∧ (¬ (x8 < (vln w (vct w x0 0))) → VW d 195 77 [(2, x0), (1, x1), (9, 0), (0, x3), (0, x4), (1, x5), (9, 0), (0, x7), (0, x8), v9, v10] [] w Q)) :=
  (VW_b 5 (F := fun n => if vkd w x0 = 14 then if vkd w (vct w x0 0) = 2 then (if x8 < (vln w (vct w x0 0)) then vrun n d 195 55 [(2, x0), (1, x1), (9, 0), (0, x3), (0, x4), (1, x5), (9, 0), (0, x7), (0, x8), v9, v10] [] w else vrun n d 195 77 [(2, x0), (1, x1), (9, 0), (0, x3), (0, x4), (1, x5), (9, 0), (0, x7), (0, x8), v9, v10] [] w) else none else none) (fun _ => rfl)).trans (EX_if.trans (and_congr Iff.rfl (EX_if.trans (and_congr Iff.rfl (EX_br.trans (and_congr (imp_congr Iff.rfl Iff.rfl) (imp_congr Iff.rfl Iff.rfl)))))))
set_option maxRecDepth 100000 in
theorem b195_55 {d : Nat} {w : vW} {x0 x1 x3 x4 x5 x7 x8 : Int} {v9 v10 : vV} {Q : Int → vW → Prop} : VW d 195 55 [(2, x0), (1, x1), (9, 0), (0, x3), (0, x4), (1, x5), (9, 0), (0, x7), (0, x8), v9, v10] [] w Q ↔ (vkd w x0 = 14) ∧ (vkd w (vct w x0 2) = 2) ∧ ((x8 < (vln w (vct w x0 2)) → VW d 195 65 [(2, x0), (1, x1), (9, 0), (0, x3), (0, x4), (1, x5), (9, 0), (0, x7), (0, x8), v9, v10] [] w Q) ∧ (¬ (x8 < (vln w (vct w x0 2))) → VW d 195 77 [(2, x0), (1, x1), (9, 0), (0, x3), (0, x4), (1, x5), (9, 0), (0, x7), (0, x8), v9, v10] [] w Q)) :=
  (VW_b 5 (F := fun n => if vkd w x0 = 14 then if vkd w (vct w x0 2) = 2 then (if x8 < (vln w (vct w x0 2)) then vrun n d 195 65 [(2, x0), (1, x1), (9, 0), (0, x3), (0, x4), (1, x5), (9, 0), (0, x7), (0, x8), v9, v10] [] w else vrun n d 195 77 [(2, x0), (1, x1), (9, 0), (0, x3), (0, x4), (1, x5), (9, 0), (0, x7), (0, x8), v9, v10] [] w) else none else none) (fun _ => rfl)).trans (EX_if.trans (and_congr Iff.rfl (EX_if.trans (and_congr Iff.rfl (EX_br.trans (and_congr (imp_congr Iff.rfl Iff.rfl) (imp_congr Iff.rfl Iff.rfl)))))))
set_option maxRecDepth 100000 in
theorem b195_65 {d : Nat} {w : vW} {x0 x1 x3 x4 x5 x7 x8 : Int} {v9 v10 : vV} {Q : Int → vW → Prop} : VW d 195 65 [(2, x0), (1, x1), (9, 0), (0, x3), (0, x4), (1, x5), (9, 0), (0, x7), (0, x8), v9, v10] [] w Q ↔ (vkd w x0 = 14) ∧ (vkd w (vct w x0 0) = 2 ∧ (0 : Int) ≤ x8 ∧ x8 < vln w (vct w x0 0)) ∧ (((vlc (vct w (vct w x0 0) x8) x1) = 0 → VW d 195 77 [(2, x0), (1, x1), (9, 0), (0, x3), (0, x4), (1, x5), (9, 0), (0, x7), (0, x8), v9, v10] [] w Q) ∧ (¬ ((vlc (vct w (vct w x0 0) x8) x1) = 0) → VW d 195 80 [(2, x0), (1, x1), (9, 0), (0, x3), (0, x4), (1, x5), (9, 0), (0, x7), (0, x8), v9, v10] [] w Q)) :=
  (VW_b 7 (F := fun n => if vkd w x0 = 14 then if vkd w (vct w x0 0) = 2 ∧ (0 : Int) ≤ x8 ∧ x8 < vln w (vct w x0 0) then (if (vlc (vct w (vct w x0 0) x8) x1) = 0 then vrun n d 195 77 [(2, x0), (1, x1), (9, 0), (0, x3), (0, x4), (1, x5), (9, 0), (0, x7), (0, x8), v9, v10] [] w else vrun n d 195 80 [(2, x0), (1, x1), (9, 0), (0, x3), (0, x4), (1, x5), (9, 0), (0, x7), (0, x8), v9, v10] [] w) else none else none) (fun _ => rfl)).trans (EX_if.trans (and_congr Iff.rfl (EX_if.trans (and_congr Iff.rfl (EX_br.trans (and_congr (imp_congr Iff.rfl Iff.rfl) (imp_congr Iff.rfl Iff.rfl)))))))
set_option maxRecDepth 100000 in
theorem b195_77 {d : Nat} {w : vW} {x0 x1 x3 x4 x5 x7 x8 : Int} {v9 v10 : vV} {Q : Int → vW → Prop} : VW d 195 77 [(2, x0), (1, x1), (9, 0), (0, x3), (0, x4), (1, x5), (9, 0), (0, x7), (0, x8), v9, v10] [] w Q ↔ Q x8 w :=
  (VW_b 2 (F := fun n => some (0, x8, w)) (fun _ => rfl)).trans (EX_ret0)
set_option maxRecDepth 100000 in
theorem b195_80 {d : Nat} {w : vW} {x0 x1 x3 x4 x5 x7 x8 : Int} {v9 v10 : vV} {Q : Int → vW → Prop} : VW d 195 80 [(2, x0), (1, x1), (9, 0), (0, x3), (0, x4), (1, x5), (9, 0), (0, x7), (0, x8), v9, v10] [] w Q ↔ (vkd w x0 = 14) ∧ (vkd w (vct w x0 0) = 2 ∧ (0 : Int) ≤ x8 ∧ x8 < vln w (vct w x0 0)) ∧ (((vlc (vct w (vct w x0 0) x8) 0) = 0 → VW d 195 92 [(2, x0), (1, x1), (9, 0), (0, x3), (0, x4), (1, x5), (9, 0), (0, x7), (0, x8), v9, v10] [] w Q) ∧ (¬ ((vlc (vct w (vct w x0 0) x8) 0) = 0) → VW d 195 96 [(2, x0), (1, x1), (9, 0), (0, x3), (0, x4), (1, x5), (9, 0), (0, x7), (0, x8), v9, v10] [] w Q)) :=
  (VW_b 7 (F := fun n => if vkd w x0 = 14 then if vkd w (vct w x0 0) = 2 ∧ (0 : Int) ≤ x8 ∧ x8 < vln w (vct w x0 0) then (if (vlc (vct w (vct w x0 0) x8) 0) = 0 then vrun n d 195 92 [(2, x0), (1, x1), (9, 0), (0, x3), (0, x4), (1, x5), (9, 0), (0, x7), (0, x8), v9, v10] [] w else vrun n d 195 96 [(2, x0), (1, x1), (9, 0), (0, x3), (0, x4), (1, x5), (9, 0), (0, x7), (0, x8), v9, v10] [] w) else none else none) (fun _ => rfl)).trans (EX_if.trans (and_congr Iff.rfl (EX_if.trans (and_congr Iff.rfl (EX_br.trans (and_congr (imp_congr Iff.rfl Iff.rfl) (imp_congr Iff.rfl Iff.rfl)))))))
set_option maxRecDepth 100000 in
theorem b195_92 {d : Nat} {w : vW} {x0 x1 x3 x4 x5 x7 x8 : Int} {v9 v10 : vV} {Q : Int → vW → Prop} : VW d 195 92 [(2, x0), (1, x1), (9, 0), (0, x3), (0, x4), (1, x5), (9, 0), (0, x7), (0, x8), v9, v10] [] w Q ↔ VW d 195 103 [(2, x0), (1, x1), (9, 0), (0, x3), (0, x4), (1, x5), (9, 0), (0, x7), (0, x8), v9, v10] [(1, 0)] w Q :=
  (VW_b 2 (F := fun n => vrun n d 195 103 [(2, x0), (1, x1), (9, 0), (0, x3), (0, x4), (1, x5), (9, 0), (0, x7), (0, x8), v9, v10] [(1, 0)] w) (fun _ => rfl)).trans (Iff.rfl)
set_option maxRecDepth 100000 in
theorem b195_96 {d : Nat} {w : vW} {x0 x1 x3 x4 x5 x7 x8 : Int} {v9 v10 : vV} {Q : Int → vW → Prop} : VW d 195 96 [(2, x0), (1, x1), (9, 0), (0, x3), (0, x4), (1, x5), (9, 0), (0, x7), (0, x8), v9, v10] [] w Q ↔ (vkd w x0 = 14) ∧ (vkd w (vct w x0 2) = 2 ∧ (0 : Int) ≤ x8 ∧ x8 < vln w (vct w x0 2)) ∧ VW d 195 103 [(2, x0), (1, x1), (9, 0), (0, x3), (0, x4), (1, x5), (9, 0), (0, x7), (0, x8), v9, v10] [(1, vct w (vct w x0 2) x8)] w Q :=
  (VW_b 4 (F := fun n => if vkd w x0 = 14 then if vkd w (vct w x0 2) = 2 ∧ (0 : Int) ≤ x8 ∧ x8 < vln w (vct w x0 2) then vrun n d 195 103 [(2, x0), (1, x1), (9, 0), (0, x3), (0, x4), (1, x5), (9, 0), (0, x7), (0, x8), v9, v10] [(1, vct w (vct w x0 2) x8)] w else none else none) (fun _ => rfl)).trans (EX_if.trans (and_congr Iff.rfl (EX_if.trans (and_congr Iff.rfl (Iff.rfl)))))
set_option maxRecDepth 100000 in
theorem b195_103 {d : Nat} {w : vW} {x0 x1 x3 x4 x5 x7 x8 y0 : Int} {v9 v10 : vV} {Q : Int → vW → Prop} : VW d 195 103 [(2, x0), (1, x1), (9, 0), (0, x3), (0, x4), (1, x5), (9, 0), (0, x7), (0, x8), v9, v10] [(1, y0)] w Q ↔ ((x4 < 0 → VW d 195 118 [(2, x0), (1, x1), (9, 0), (0, x3), (0, x4), (1, x5), (9, 0), (0, x7), (0, x8), (1, y0), (9, 0)] [] w Q) ∧ (¬ (x4 < 0) → VW d 195 110 [(2, x0), (1, x1), (9, 0), (0, x3), (0, x4), (1, x5), (9, 0), (0, x7), (0, x8), (1, y0), (9, 0)] [] w Q)) :=
  (VW_b 3 (F := fun n => (if x4 < 0 then vrun n d 195 118 [(2, x0), (1, x1), (9, 0), (0, x3), (0, x4), (1, x5), (9, 0), (0, x7), (0, x8), (1, y0), (9, 0)] [] w else vrun n d 195 110 [(2, x0), (1, x1), (9, 0), (0, x3), (0, x4), (1, x5), (9, 0), (0, x7), (0, x8), (1, y0), (9, 0)] [] w)) (fun _ => rfl)).trans (EX_br.trans (and_congr (imp_congr Iff.rfl Iff.rfl) (imp_congr Iff.rfl Iff.rfl)))
set_option maxRecDepth 100000 in
theorem b195_110 {d : Nat} {w : vW} {x0 x1 x3 x4 x5 x7 x8 x9 : Int} {Q : Int → vW → Prop} : VW d 195 110 [(2, x0), (1, x1), (9, 0), (0, x3), (0, x4), (1, x5), (9, 0), (0, x7), (0, x8), (1, x9), (9, 0)] [] w Q ↔ (((vlc x9 x5) < 0 → VW d 195 118 [(2, x0), (1, x1), (9, 0), (0, x3), (0, x4), (1, x5), (9, 0), (0, x7), (0, x8), (1, x9), (9, 0)] [] w Q) ∧ (¬ ((vlc x9 x5) < 0) → VW d 195 126 [(2, x0), (1, x1), (9, 0), (0, x3), (0, x4), (1, x5), (9, 0), (0, x7), (0, x8), (1, x9), (9, 0)] [] w Q)) :=
  (VW_b 4 (F := fun n => (if (vlc x9 x5) < 0 then vrun n d 195 118 [(2, x0), (1, x1), (9, 0), (0, x3), (0, x4), (1, x5), (9, 0), (0, x7), (0, x8), (1, x9), (9, 0)] [] w else vrun n d 195 126 [(2, x0), (1, x1), (9, 0), (0, x3), (0, x4), (1, x5), (9, 0), (0, x7), (0, x8), (1, x9), (9, 0)] [] w)) (fun _ => rfl)).trans (EX_br.trans (and_congr (imp_congr Iff.rfl Iff.rfl) (imp_congr Iff.rfl Iff.rfl)))
set_option maxRecDepth 100000 in
theorem b195_118 {d : Nat} {w : vW} {x0 x1 x3 x4 x5 x7 x8 x9 : Int} {Q : Int → vW → Prop} : VW d 195 118 [(2, x0), (1, x1), (9, 0), (0, x3), (0, x4), (1, x5), (9, 0), (0, x7), (0, x8), (1, x9), (9, 0)] [] w Q ↔ VW d 195 126 [(2, x0), (1, x1), (9, 0), (0, x3), (0, x8), (1, x9), (9, 0), (0, x7), (0, x8), (1, x9), (9, 0)] [] w Q :=
  (VW_b 4 (F := fun n => vrun n d 195 126 [(2, x0), (1, x1), (9, 0), (0, x3), (0, x8), (1, x9), (9, 0), (0, x7), (0, x8), (1, x9), (9, 0)] [] w) (fun _ => rfl)).trans (Iff.rfl)
set_option maxRecDepth 100000 in
theorem b195_126 {d : Nat} {w : vW} {x0 x1 x3 x4 x5 x7 x8 x9 : Int} {Q : Int → vW → Prop} : VW d 195 126 [(2, x0), (1, x1), (9, 0), (0, x3), (0, x4), (1, x5), (9, 0), (0, x7), (0, x8), (1, x9), (9, 0)] [] w Q ↔ VW d 195 24 [(2, x0), (1, x1), (9, 0), (0, x3), (0, x4), (1, x5), (9, 0), (0, w32 (x7 + 1)), (0, x8), (1, x9), (9, 0)] [] w Q :=
  (VW_b 2 (F := fun n => vrun n d 195 24 [(2, x0), (1, x1), (9, 0), (0, x3), (0, x4), (1, x5), (9, 0), (0, w32 (x7 + 1)), (0, x8), (1, x9), (9, 0)] [] w) (fun _ => rfl)).trans (Iff.rfl)
set_option maxRecDepth 100000 in
theorem b195_132 {d : Nat} {w : vW} {x0 x1 x3 x4 x5 x7 : Int} {v8 v9 v10 : vV} {Q : Int → vW → Prop} : VW d 195 132 [(2, x0), (1, x1), (9, 0), (0, x3), (0, x4), (1, x5), (9, 0), (0, x7), v8, v9, v10] [] w Q ↔ Q x4 w :=
  (VW_b 2 (F := fun n => some (0, x4, w)) (fun _ => rfl)).trans (EX_ret0)
